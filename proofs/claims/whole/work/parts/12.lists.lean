section
variable {p : Program} {l : Launch} {e : Env} {s : State} {m : MethodId} {args : Array Value} {below : List Frame} {meth : Method} {c : Code} {A : Nat → Prop} {D : va_G} {cy : Nat → ClassId} {st : Nat → Nat} {sz : Nat} {sh : Sh}
theorem dJxa1e45_init_da8c8_0 : decode cJxa1e45_init_da8c8 0 = .ok (.aload_n 0, 1) := by decide +kernel
theorem dJxa1e45_init_da8c8_1 : decode cJxa1e45_init_da8c8 1 = .ok (.invokespecial 1, 3) := by decide +kernel
theorem dJxa1e45_init_da8c8_4 : decode cJxa1e45_init_da8c8 4 = .ok (.return_, 1) := by decide +kernel
theorem ckJxa1e45_init_da8c8 : CK yJxa1e45_init_da8c8 cJxa1e45_init_da8c8 1 0 := ⟨rfl, kw_39, kw_2, kw_40, by decide +kernel, by decide +kernel, by decide +kernel⟩
def fJxa1e45_init_da8c8_b0 (sh : Sh) (d : Dt) (x0 : Nat) : Option (Unit) := some ()

def fJxa1e45_init_da8c8 (sh : Sh) (d : Dt) (x0 : Nat) : Option (Unit) := fJxa1e45_init_da8c8_b0 sh d x0

set_option maxRecDepth 100000 in
set_option maxHeartbeats 4000000 in
theorem wJxa1e45_init_da8c8_b0 (C : mx p s m args meth c yJxa1e45_init_da8c8 cJxa1e45_init_da8c8 1 none A D cy st) {d : Dt} : ∀ (x0 : Nat), fJxa1e45_init_da8c8_b0 sh d x0 = some () → ∀ {H : Heap} {locs : List Loc} {ls : Array Slot}, HW A D cy sz sh d H → va_S A s.heap H locs → lv_has ls 1 [(0, .ref x0)] → GL p l e s m args below meth c 1 20 A D cy none sz sh d H locs 0 ls [] := by
  have hx := C.1
  have hb := C.2.1
  intro x0 hf H locs ls hw hS hl
  unfold fJxa1e45_init_da8c8_b0 at hf
  refine lv_aload_n hx hb dJxa1e45_init_da8c8_0 rfl (lv_at hl 0 rfl) ?_
  refine W.objInit hx hb C.2.2.2.2.2.1 (C.2.2.2.2.1 _ kw_41) (C.2.2.2.2.1 _ kw_24) (C.2.2.2.2.1 _ kw_25) rfl (hl.1.trans C.2.2.2.1.symm) rfl dJxa1e45_init_da8c8_1 (Nat.le_of_ble_eq_true rfl) (Nat.le_of_ble_eq_true rfl) ?_
  refine W.eq (g2 := F0 m 4 ls []) rfl ?_
  cases hf
  exact rt_v C hw hS dJxa1e45_init_da8c8_4

set_option maxRecDepth 100000 in
set_option maxHeartbeats 4000000 in
theorem tJxa1e45_init_da8c8 (l : Launch) (A : Nat → Prop) (D : va_G) (cy : Nat → ClassId) (st : Nat → Nat) (sz : Nat) (sh : Sh) (d : Dt) (x0 : Nat) (hf : fJxa1e45_init_da8c8 sh d x0 = some ()) : Ct l yJxa1e45_init_da8c8 cJxa1e45_init_da8c8 1 none 1 20 0 0 A D cy st [.ref x0] sz sh d none sz sh d := ct_of (by decide) (Nat.le_of_ble_eq_true rfl) (fun p e s m args below meth c C hw hS ls hl => wJxa1e45_init_da8c8_b0 C x0 hf hw hS hl)
theorem dJxc12de_init_da8c8_0 : decode cJxc12de_init_da8c8 0 = .ok (.aload_n 0, 1) := by decide +kernel
theorem dJxc12de_init_da8c8_1 : decode cJxc12de_init_da8c8 1 = .ok (.invokespecial 1, 3) := by decide +kernel
theorem dJxc12de_init_da8c8_4 : decode cJxc12de_init_da8c8 4 = .ok (.aload_n 0, 1) := by decide +kernel
theorem dJxc12de_init_da8c8_5 : decode cJxc12de_init_da8c8 5 = .ok (.iconst 0, 1) := by decide +kernel
theorem dJxc12de_init_da8c8_6 : decode cJxc12de_init_da8c8 6 = .ok (.putfield 7, 3) := by decide +kernel
theorem dJxc12de_init_da8c8_9 : decode cJxc12de_init_da8c8 9 = .ok (.return_, 1) := by decide +kernel
theorem ckJxc12de_init_da8c8 : CK yJxc12de_init_da8c8 cJxc12de_init_da8c8 1 0 := ⟨rfl, kw_36, kw_3, kw_37, by decide +kernel, by decide +kernel, by decide +kernel⟩
def fJxc12de_init_da8c8_b0 (sh : Sh) (x0 : Nat) (d : Dt) : Option (Dt) := bd (fJxa1e45_init_da8c8 sh d x0) fun _ => bd (pI sh d 1 32 x0 (0 : Int32)) fun d3 => some (d3)

def fJxc12de_init_da8c8 (sh : Sh) (d : Dt) (x0 : Nat) : Option (Dt) := fJxc12de_init_da8c8_b0 sh x0 d

set_option maxRecDepth 100000 in
set_option maxHeartbeats 4000000 in
theorem wJxc12de_init_da8c8_b0 (C : mx p s m args meth c yJxc12de_init_da8c8 cJxc12de_init_da8c8 1 none A D cy st) {d9 : Dt} : ∀ (x0 : Nat) (d : Dt), fJxc12de_init_da8c8_b0 sh x0 d = some d9 → ∀ {H : Heap} {locs : List Loc} {ls : Array Slot}, HW A D cy sz sh d H → va_S A s.heap H locs → lv_has ls 1 [(0, .ref x0)] → GL p l e s m args below meth c 2 40 A D cy none sz sh d9 H locs 0 ls [] := by
  have hx := C.1
  have hb := C.2.1
  intro x0 d hf H locs ls hw hS hl
  unfold fJxc12de_init_da8c8_b0 at hf
  refine lv_aload_n hx hb dJxc12de_init_da8c8_0 rfl (lv_at hl 0 rfl) ?_
  obtain ⟨_, h1, hf⟩ := bd_s hf
  refine cl_I0 C hw hS (tJxa1e45_init_da8c8 l A D cy st sz sh d x0 h1) ckJxa1e45_init_da8c8 kw_38 ⟨(Nat.le_of_ble_eq_true rfl), (Nat.le_of_ble_eq_true rfl)⟩ hl.1 rfl (Nat.le_of_ble_eq_true rfl) dJxc12de_init_da8c8_1 ⟨Nat.zero_le _, Nat.zero_le _⟩ (fun H locs hw hS => ?_)
  refine lv_aload_n hx hb dJxc12de_init_da8c8_4 rfl (lv_at hl 0 rfl) ?_
  refine lv_iconst (v := 0) hx hb dJxc12de_init_da8c8_5 (by decide) ?_
  obtain ⟨d3, hd3, hf⟩ := bd_s hf
  refine pt_32L C hw hS hd3 kw_46 dJxc12de_init_da8c8_6 (fun H locs hw hS => ?_)
  cases hf
  exact rt_v C hw hS dJxc12de_init_da8c8_9

set_option maxRecDepth 100000 in
set_option maxHeartbeats 4000000 in
theorem tJxc12de_init_da8c8 (l : Launch) (A : Nat → Prop) (D : va_G) (cy : Nat → ClassId) (st : Nat → Nat) (sz : Nat) (sh : Sh) (d : Dt) (x0 : Nat) {d9 : Dt} (hf : fJxc12de_init_da8c8 sh d x0 = some d9) : Ct l yJxc12de_init_da8c8 cJxc12de_init_da8c8 1 none 2 40 0 0 A D cy st [.ref x0] sz sh d none sz sh d9 := ct_of (by decide) (Nat.le_of_ble_eq_true rfl) (fun p e s m args below meth c C hw hS ls hl => wJxc12de_init_da8c8_b0 C x0 d hf hw hS hl)
theorem dJx4a65c_init_da8c8_0 : decode cJx4a65c_init_da8c8 0 = .ok (.aload_n 0, 1) := by decide +kernel
theorem dJx4a65c_init_da8c8_1 : decode cJx4a65c_init_da8c8 1 = .ok (.invokespecial 1, 3) := by decide +kernel
theorem dJx4a65c_init_da8c8_4 : decode cJx4a65c_init_da8c8 4 = .ok (.aload_n 0, 1) := by decide +kernel
theorem dJx4a65c_init_da8c8_5 : decode cJx4a65c_init_da8c8 5 = .ok (.getstatic 39, 3) := by decide +kernel
theorem dJx4a65c_init_da8c8_8 : decode cJx4a65c_init_da8c8 8 = .ok (.putfield 9, 3) := by decide +kernel
theorem dJx4a65c_init_da8c8_11 : decode cJx4a65c_init_da8c8 11 = .ok (.return_, 1) := by decide +kernel
theorem ckJx4a65c_init_da8c8 : CK yJx4a65c_init_da8c8 cJx4a65c_init_da8c8 1 0 := ⟨rfl, kw_33, kw_4, kw_34, by decide +kernel, by decide +kernel, by decide +kernel⟩
def fJx4a65c_init_da8c8_b0 (em mi : Nat) (x0 : Nat) (sz : Nat) (ns : Nat) (sh : Sh) (d : Dt) : Option (Wl) := bd (fJxc12de_init_da8c8 sh d x0) fun d3 => bd (pR sh d3 1 33 x0 (some em)) fun d4 => some (sz, ns, sh, d4)

def fJx4a65c_init_da8c8 (em mi : Nat) (x0 : Nat) (sz ns : Nat) (sh : Sh) (d : Dt) : Option (Wl) := fJx4a65c_init_da8c8_b0 em mi x0 sz ns sh d

set_option maxRecDepth 100000 in
set_option maxHeartbeats 4000000 in
theorem mJx4a65c_init_da8c8_b0 (em mi : Nat) {sz9 ns9 : Nat} {sh9 : Sh} {d9 : Dt} : ∀ (x0 : Nat) (sz : Nat) (ns : Nat) (sh : Sh) (d : Dt), fJx4a65c_init_da8c8_b0 em mi x0 sz ns sh d = some (sz9, ns9, sh9, d9) → sz ≤ sz9 ∧ ns ≤ ns9 := by
  intro x0 sz ns sh d hf
  unfold fJx4a65c_init_da8c8_b0 at hf
  obtain ⟨d3, h1, hf⟩ := bd_s hf
  obtain ⟨d4, hd4, hf⟩ := bd_s hf
  cases hf
  exact ⟨Nat.le_refl _, Nat.le_refl _⟩

theorem gJx4a65c_init_da8c8 (em mi : Nat) (x0 : Nat) (sz ns : Nat) (sh : Sh) (d : Dt) {sz9 ns9 : Nat} {sh9 : Sh} {d9 : Dt} (hf : fJx4a65c_init_da8c8 em mi x0 sz ns sh d = some (sz9, ns9, sh9, d9)) : sz ≤ sz9 ∧ ns ≤ ns9 := mJx4a65c_init_da8c8_b0 em mi x0 sz ns sh d hf

set_option maxRecDepth 100000 in
set_option maxHeartbeats 4000000 in
theorem wJx4a65c_init_da8c8_b0 (C : mx p s m args meth c yJx4a65c_init_da8c8 cJx4a65c_init_da8c8 1 none A D cy st) {sz9 ns9 : Nat} {sh9 : Sh} {d9 : Dt} {mc ms : Nat} : ∀ (x0 : Nat) (sz : Nat) (ns : Nat) (sh : Sh) (d : Dt), fJx4a65c_init_da8c8_b0 (st 1) (st 2) x0 sz ns sh d = some (sz9, ns9, sh9, d9) → ∀ {cu su : Nat}, sz9 + cu = sz + mc → ns9 + su = ns + ms → ∀ {H : Heap} {locs : List Loc} {ls : Array Slot}, HW A D cy sz sh d H → va_S A s.heap H locs → lv_has ls 1 [(0, .ref x0)] → GA p l e s m args below meth c 3 60 mc ms A D cy none sz9 sh9 d9 H locs cu su 0 ls [] := by
  have hx := C.1
  have hb := C.2.1
  intro x0 sz ns sh d hf cu su hcm hsm H locs ls hw hS hl
  have hm0 := mJx4a65c_init_da8c8_b0 (st 1) (st 2) x0 sz ns sh d hf
  unfold fJx4a65c_init_da8c8_b0 at hf
  refine lv_aload_n hx hb dJx4a65c_init_da8c8_0 rfl (lv_at hl 0 rfl) ?_
  obtain ⟨d3, h1, hf⟩ := bd_s hf
  refine cl_I0 C hw hS (tJxc12de_init_da8c8 l A D cy st sz sh d x0 h1) ckJxc12de_init_da8c8 kw_35 ⟨(Nat.le_of_ble_eq_true rfl), (Nat.le_of_ble_eq_true rfl)⟩ hl.1 rfl (Nat.le_of_ble_eq_true rfl) dJx4a65c_init_da8c8_1 ⟨by show _ ≤ mc; omega, by show _ ≤ ms; omega⟩ (fun H locs hw hS => ?_)
  refine lv_aload_n hx hb dJx4a65c_init_da8c8_4 rfl (lv_at hl 0 rfl) ?_
  refine va_gets hx hb C.2.2.2.2.2.2.2.1.2.2.2.2.2.2.2.1 hS C.2.2.2.2.2.1 (C.2.2.2.2.1 _ kw_42) (fun _ h => h) dJx4a65c_init_da8c8_5 ?_
  obtain ⟨d4, hd4, hf⟩ := bd_s hf
  refine pt_33 C hw hS hd4 kw_44 dJx4a65c_init_da8c8_8 (fun H locs hw hS => ?_)
  cases hf
  obtain rfl : mc = cu := by omega
  obtain rfl : ms = su := by omega
  exact rt_v C hw hS dJx4a65c_init_da8c8_11

set_option maxRecDepth 100000 in
set_option maxHeartbeats 4000000 in
theorem tJx4a65c_init_da8c8 (l : Launch) (A : Nat → Prop) (D : va_G) (cy : Nat → ClassId) (st : Nat → Nat) (x0 : Nat) (sz ns : Nat) (sh : Sh) (d : Dt) {sz9 ns9 : Nat} {sh9 : Sh} {d9 : Dt} (hf : fJx4a65c_init_da8c8 (st 1) (st 2) x0 sz ns sh d = some (sz9, ns9, sh9, d9)) : Ct l yJx4a65c_init_da8c8 cJx4a65c_init_da8c8 1 none 3 60 (sz9 - sz) (ns9 - ns) A D cy st [.ref x0] sz sh d none sz9 sh9 d9 := by
  have hm := gJx4a65c_init_da8c8 (st 1) (st 2) x0 sz ns sh d hf
  exact ct_of (by decide) (Nat.le_of_ble_eq_true rfl) (fun p e s m args below meth c C hw hS ls hl => wJx4a65c_init_da8c8_b0 C x0 sz ns sh d hf (by omega) (by omega) hw hS hl)
theorem dJx4a65c_isEmpty_aae02_0 : decode cJx4a65c_isEmpty_aae02 0 = .ok (.aload_n 0, 1) := by decide +kernel
theorem dJx4a65c_isEmpty_aae02_1 : decode cJx4a65c_isEmpty_aae02 1 = .ok (.getfield 48, 3) := by decide +kernel
theorem dJx4a65c_isEmpty_aae02_4 : decode cJx4a65c_isEmpty_aae02 4 = .ok (.ifCond .ne 7, 3) := by decide +kernel
theorem dJx4a65c_isEmpty_aae02_7 : decode cJx4a65c_isEmpty_aae02 7 = .ok (.iconst 1, 1) := by decide +kernel
theorem dJx4a65c_isEmpty_aae02_8 : decode cJx4a65c_isEmpty_aae02 8 = .ok (.goto 4, 3) := by decide +kernel
theorem dJx4a65c_isEmpty_aae02_11 : decode cJx4a65c_isEmpty_aae02 11 = .ok (.iconst 0, 1) := by decide +kernel
theorem dJx4a65c_isEmpty_aae02_12 : decode cJx4a65c_isEmpty_aae02 12 = .ok (.ireturn, 1) := by decide +kernel
theorem cvJx4a65c_isEmpty_aae02 : CV yJx4a65c_isEmpty_aae02 cJx4a65c_isEmpty_aae02 1 (some .boolean) 0 0 := ⟨kw_108, kw_109, kw_4, kw_110, ⟨_, _, rfl⟩, by decide, by decide +kernel, by decide +kernel, by decide +kernel⟩
def fJx4a65c_isEmpty_aae02_b0 (sh : Sh) (d : Dt) (x0 : Nat) : Option (Bool) := bd (gI sh d 1 34 x0) fun v1 => if v1 = 0 then (some true) else (some false)

def fJx4a65c_isEmpty_aae02 (sh : Sh) (d : Dt) (x0 : Nat) : Option (Bool) := fJx4a65c_isEmpty_aae02_b0 sh d x0

set_option maxRecDepth 100000 in
set_option maxHeartbeats 4000000 in
theorem wJx4a65c_isEmpty_aae02_b0 (C : mx p s m args meth c yJx4a65c_isEmpty_aae02 cJx4a65c_isEmpty_aae02 1 (some .boolean) A D cy st) {r : Bool} {d : Dt} : ∀ (x0 : Nat), fJx4a65c_isEmpty_aae02_b0 sh d x0 = some r → ∀ {H : Heap} {locs : List Loc} {ls : Array Slot}, HW A D cy sz sh d H → va_S A s.heap H locs → lv_has ls 1 [(0, .ref x0)] → GL p l e s m args below meth c 0 0 A D cy (some (.int (bI r))) sz sh d H locs 0 ls [] := by
  have hx := C.1
  have hb := C.2.1
  intro x0 hf H locs ls hw hS hl
  unfold fJx4a65c_isEmpty_aae02_b0 at hf
  refine lv_aload_n hx hb dJx4a65c_isEmpty_aae02_0 rfl (lv_at hl 0 rfl) ?_
  obtain ⟨v1, hv1, hf⟩ := bd_s hf
  refine gt_34 C hw hv1 kw_45 dJx4a65c_isEmpty_aae02_1 ?_
  refine lv_if_ne (tgt := 11) hx hb dJx4a65c_isEmpty_aae02_4 (by decide) (fun c_2 => ?_) (fun c_2 => ?_)
  · have hf := if_f c_2 hf
    refine lv_iconst (v := 0) hx hb dJx4a65c_isEmpty_aae02_11 (by decide) ?_
    cases hf
    exact rt_z C hw hS _ rfl dJx4a65c_isEmpty_aae02_12
  · have hf := if_t c_2 hf
    refine lv_iconst (v := 1) hx hb dJx4a65c_isEmpty_aae02_7 (by decide) ?_
    refine lv_goto (tgt := 12) hx hb dJx4a65c_isEmpty_aae02_8 (by decide) ?_
    cases hf
    exact rt_z C hw hS _ rfl dJx4a65c_isEmpty_aae02_12

set_option maxRecDepth 100000 in
set_option maxHeartbeats 4000000 in
theorem tJx4a65c_isEmpty_aae02 (l : Launch) (A : Nat → Prop) (D : va_G) (cy : Nat → ClassId) (st : Nat → Nat) (sz : Nat) (sh : Sh) (d : Dt) (x0 : Nat) {r : Bool} (hf : fJx4a65c_isEmpty_aae02 sh d x0 = some r) : Ct l yJx4a65c_isEmpty_aae02 cJx4a65c_isEmpty_aae02 1 (some .boolean) 0 0 0 0 A D cy st [.ref x0] sz sh d (some (.int (bI r))) sz sh d := ct_of (by decide) (Nat.le_of_ble_eq_true rfl) (fun p e s m args below meth c C hw hS ls hl => wJx4a65c_isEmpty_aae02_b0 C x0 hf hw hS hl)
theorem dJx4a65c_size_8abf5_0 : decode cJx4a65c_size_8abf5 0 = .ok (.aload_n 0, 1) := by decide +kernel
theorem dJx4a65c_size_8abf5_1 : decode cJx4a65c_size_8abf5 1 = .ok (.getfield 48, 3) := by decide +kernel
theorem dJx4a65c_size_8abf5_4 : decode cJx4a65c_size_8abf5 4 = .ok (.ireturn, 1) := by decide +kernel
theorem cvJx4a65c_size_8abf5 : CV yJx4a65c_size_8abf5 cJx4a65c_size_8abf5 1 (some .int) 0 0 := ⟨kw_246, kw_247, kw_4, kw_248, ⟨_, _, rfl⟩, by decide, by decide +kernel, by decide +kernel, by decide +kernel⟩
def fJx4a65c_size_8abf5_b0 (sh : Sh) (d : Dt) (x0 : Nat) : Option (Int32) := bd (gI sh d 1 34 x0) fun v1 => some v1

def fJx4a65c_size_8abf5 (sh : Sh) (d : Dt) (x0 : Nat) : Option (Int32) := fJx4a65c_size_8abf5_b0 sh d x0

set_option maxRecDepth 100000 in
set_option maxHeartbeats 4000000 in
theorem wJx4a65c_size_8abf5_b0 (C : mx p s m args meth c yJx4a65c_size_8abf5 cJx4a65c_size_8abf5 1 (some .int) A D cy st) {r : Int32} {d : Dt} : ∀ (x0 : Nat), fJx4a65c_size_8abf5_b0 sh d x0 = some r → ∀ {H : Heap} {locs : List Loc} {ls : Array Slot}, HW A D cy sz sh d H → va_S A s.heap H locs → lv_has ls 1 [(0, .ref x0)] → GL p l e s m args below meth c 0 0 A D cy (some (.int r)) sz sh d H locs 0 ls [] := by
  have hx := C.1
  have hb := C.2.1
  intro x0 hf H locs ls hw hS hl
  unfold fJx4a65c_size_8abf5_b0 at hf
  refine lv_aload_n hx hb dJx4a65c_size_8abf5_0 rfl (lv_at hl 0 rfl) ?_
  obtain ⟨v1, hv1, hf⟩ := bd_s hf
  refine gt_34 C hw hv1 kw_45 dJx4a65c_size_8abf5_1 ?_
  cases hf
  exact rt_i C hw hS dJx4a65c_size_8abf5_4

set_option maxRecDepth 100000 in
set_option maxHeartbeats 4000000 in
theorem tJx4a65c_size_8abf5 (l : Launch) (A : Nat → Prop) (D : va_G) (cy : Nat → ClassId) (st : Nat → Nat) (sz : Nat) (sh : Sh) (d : Dt) (x0 : Nat) {r : Int32} (hf : fJx4a65c_size_8abf5 sh d x0 = some r) : Ct l yJx4a65c_size_8abf5 cJx4a65c_size_8abf5 1 (some .int) 0 0 0 0 A D cy st [.ref x0] sz sh d (some (.int r)) sz sh d := ct_of (by decide) (Nat.le_of_ble_eq_true rfl) (fun p e s m args below meth c C hw hS ls hl => wJx4a65c_size_8abf5_b0 C x0 hf hw hS hl)
theorem dJ8_hugeLength_7cf53_0 : decode cJ8_hugeLength_7cf53 0 = .ok (.iload_n 0, 1) := by decide +kernel
theorem dJ8_hugeLength_7cf53_1 : decode cJ8_hugeLength_7cf53 1 = .ok (.iload_n 1, 1) := by decide +kernel
theorem dJ8_hugeLength_7cf53_2 : decode cJ8_hugeLength_7cf53 2 = .ok (.iadd, 1) := by decide +kernel
theorem dJ8_hugeLength_7cf53_3 : decode cJ8_hugeLength_7cf53 3 = .ok (.istore_n 2, 1) := by decide +kernel
theorem dJ8_hugeLength_7cf53_4 : decode cJ8_hugeLength_7cf53 4 = .ok (.iload_n 2, 1) := by decide +kernel
theorem dJ8_hugeLength_7cf53_5 : decode cJ8_hugeLength_7cf53 5 = .ok (.ifCond .ge 44, 3) := by decide +kernel
theorem dJ8_hugeLength_7cf53_8 : decode cJ8_hugeLength_7cf53 8 = .ok (.new 204, 3) := by decide +kernel
theorem dJ8_hugeLength_7cf53_11 : decode cJ8_hugeLength_7cf53 11 = .ok (.dup, 1) := by decide +kernel
theorem dJ8_hugeLength_7cf53_12 : decode cJ8_hugeLength_7cf53 12 = .ok (.new 89, 3) := by decide +kernel
theorem dJ8_hugeLength_7cf53_15 : decode cJ8_hugeLength_7cf53 15 = .ok (.dup, 1) := by decide +kernel
theorem dJ8_hugeLength_7cf53_16 : decode cJ8_hugeLength_7cf53 16 = .ok (.invokespecial 91, 3) := by decide +kernel
theorem dJ8_hugeLength_7cf53_19 : decode cJ8_hugeLength_7cf53 19 = .ok (.ldc 206, 2) := by decide +kernel
theorem dJ8_hugeLength_7cf53_21 : decode cJ8_hugeLength_7cf53 21 = .ok (.invokevirtual 94, 3) := by decide +kernel
theorem dJ8_hugeLength_7cf53_24 : decode cJ8_hugeLength_7cf53 24 = .ok (.iload_n 0, 1) := by decide +kernel
theorem dJ8_hugeLength_7cf53_25 : decode cJ8_hugeLength_7cf53 25 = .ok (.invokevirtual 98, 3) := by decide +kernel
theorem dJ8_hugeLength_7cf53_28 : decode cJ8_hugeLength_7cf53 28 = .ok (.ldc 208, 2) := by decide +kernel
theorem dJ8_hugeLength_7cf53_30 : decode cJ8_hugeLength_7cf53 30 = .ok (.invokevirtual 94, 3) := by decide +kernel
theorem dJ8_hugeLength_7cf53_33 : decode cJ8_hugeLength_7cf53 33 = .ok (.iload_n 1, 1) := by decide +kernel
theorem dJ8_hugeLength_7cf53_34 : decode cJ8_hugeLength_7cf53 34 = .ok (.invokevirtual 98, 3) := by decide +kernel
theorem dJ8_hugeLength_7cf53_37 : decode cJ8_hugeLength_7cf53 37 = .ok (.ldc 210, 2) := by decide +kernel
theorem dJ8_hugeLength_7cf53_39 : decode cJ8_hugeLength_7cf53 39 = .ok (.invokevirtual 94, 3) := by decide +kernel
theorem dJ8_hugeLength_7cf53_42 : decode cJ8_hugeLength_7cf53 42 = .ok (.invokevirtual 101, 3) := by decide +kernel
theorem dJ8_hugeLength_7cf53_45 : decode cJ8_hugeLength_7cf53 45 = .ok (.invokespecial 212, 3) := by decide +kernel
theorem dJ8_hugeLength_7cf53_48 : decode cJ8_hugeLength_7cf53 48 = .ok (.athrow, 1) := by decide +kernel
theorem dJ8_hugeLength_7cf53_49 : decode cJ8_hugeLength_7cf53 49 = .ok (.iload_n 2, 1) := by decide +kernel
theorem dJ8_hugeLength_7cf53_50 : decode cJ8_hugeLength_7cf53 50 = .ok (.ldc 200, 2) := by decide +kernel
theorem dJ8_hugeLength_7cf53_52 : decode cJ8_hugeLength_7cf53 52 = .ok (.if_icmp .gt 6, 3) := by decide +kernel
theorem dJ8_hugeLength_7cf53_55 : decode cJ8_hugeLength_7cf53 55 = .ok (.ldc 200, 2) := by decide +kernel
theorem dJ8_hugeLength_7cf53_57 : decode cJ8_hugeLength_7cf53 57 = .ok (.ireturn, 1) := by decide +kernel
theorem dJ8_hugeLength_7cf53_58 : decode cJ8_hugeLength_7cf53 58 = .ok (.iload_n 2, 1) := by decide +kernel
theorem dJ8_hugeLength_7cf53_59 : decode cJ8_hugeLength_7cf53 59 = .ok (.ireturn, 1) := by decide +kernel
theorem csJ8_hugeLength_7cf53 : CS yJ8_hugeLength_7cf53 cJ8_hugeLength_7cf53 3 (some .int) 2 := ⟨kw_357, kw_12, kw_358, by decide +kernel, by decide +kernel, by decide +kernel⟩
def fJ8_hugeLength_7cf53_b0 (sh : Sh) (d : Dt) (x0 : Int32) (x1 : Int32) : Option (Int32) := if 0 ≤ (x0 + x1) then (if (2147483639 : Int32) < (x0 + x1) then (some (x0 + x1)) else (some (2147483639 : Int32))) else (none)

def fJ8_hugeLength_7cf53 (sh : Sh) (d : Dt) (x0 : Int32) (x1 : Int32) : Option (Int32) := fJ8_hugeLength_7cf53_b0 sh d x0 x1

set_option maxRecDepth 100000 in
set_option maxHeartbeats 4000000 in
theorem wJ8_hugeLength_7cf53_b0 (C : mx p s m args meth c yJ8_hugeLength_7cf53 cJ8_hugeLength_7cf53 3 (some .int) A D cy st) {r : Int32} {d : Dt} : ∀ (x0 : Int32) (x1 : Int32), fJ8_hugeLength_7cf53_b0 sh d x0 x1 = some r → ∀ {H : Heap} {locs : List Loc} {ls : Array Slot}, HW A D cy sz sh d H → va_S A s.heap H locs → lv_has ls 3 [(0, .int x0), (1, .int x1)] → GL p l e s m args below meth c 0 0 A D cy (some (.int r)) sz sh d H locs 0 ls [] := by
  have hx := C.1
  have hb := C.2.1
  intro x0 x1 hf H locs ls hw hS hl
  unfold fJ8_hugeLength_7cf53_b0 at hf
  refine lv_iload_n hx hb dJ8_hugeLength_7cf53_0 rfl (lv_at hl 0 rfl) ?_
  refine lv_iload_n hx hb dJ8_hugeLength_7cf53_1 rfl (lv_at hl 1 rfl) ?_
  refine lv_iadd hx hb dJ8_hugeLength_7cf53_2 ?_
  refine lv_istore_n (lv' := [(2, .int (x0 + x1)), (0, .int x0), (1, .int x1)]) hx hb dJ8_hugeLength_7cf53_3 rfl hl (by decide) rfl (fun ls hl => ?_)
  refine lv_iload_n hx hb dJ8_hugeLength_7cf53_4 rfl (lv_at hl 0 rfl) ?_
  refine lv_if_ge (tgt := 49) hx hb dJ8_hugeLength_7cf53_5 (by decide) (fun c_1 => ?_) (fun c_1 => ?_)
  · have hf := if_t c_1 hf
    refine lv_iload_n hx hb dJ8_hugeLength_7cf53_49 rfl (lv_at hl 0 rfl) ?_
    refine lv_ldc (v := 2147483639) hx hb C.2.2.2.2.2.1 (C.2.2.2.2.1 _ kw_355) dJ8_hugeLength_7cf53_50 ?_
    refine lv_icmp_gt (tgt := 58) hx hb dJ8_hugeLength_7cf53_52 (by decide) (fun c_2 => ?_) (fun c_2 => ?_)
    · have hf := if_t c_2 hf
      refine lv_iload_n hx hb dJ8_hugeLength_7cf53_58 rfl (lv_at hl 0 rfl) ?_
      cases hf
      exact rt_i C hw hS dJ8_hugeLength_7cf53_59
    · have hf := if_f c_2 hf
      refine lv_ldc (v := 2147483639) hx hb C.2.2.2.2.2.1 (C.2.2.2.2.1 _ kw_355) dJ8_hugeLength_7cf53_55 ?_
      cases hf
      exact rt_i C hw hS dJ8_hugeLength_7cf53_57
  · have hf := if_f c_1 hf
    cases hf

set_option maxRecDepth 100000 in
set_option maxHeartbeats 4000000 in
theorem tJ8_hugeLength_7cf53 (l : Launch) (A : Nat → Prop) (D : va_G) (cy : Nat → ClassId) (st : Nat → Nat) (sz : Nat) (sh : Sh) (d : Dt) (x0 : Int32) (x1 : Int32) {r : Int32} (hf : fJ8_hugeLength_7cf53 sh d x0 x1 = some r) : Ct l yJ8_hugeLength_7cf53 cJ8_hugeLength_7cf53 3 (some .int) 0 0 0 0 A D cy st [.int x0, .int x1] sz sh d (some (.int r)) sz sh d := ct_of (by decide) (Nat.le_of_ble_eq_true rfl) (fun p e s m args below meth c C hw hS ls hl => wJ8_hugeLength_7cf53_b0 C x0 x1 hf hw hS hl)
theorem dJ8_newLength_cabcc_0 : decode cJ8_newLength_cabcc 0 = .ok (.iload_n 0, 1) := by decide +kernel
theorem dJ8_newLength_cabcc_1 : decode cJ8_newLength_cabcc 1 = .ok (.iload_n 1, 1) := by decide +kernel
theorem dJ8_newLength_cabcc_2 : decode cJ8_newLength_cabcc 2 = .ok (.iload_n 2, 1) := by decide +kernel
theorem dJ8_newLength_cabcc_3 : decode cJ8_newLength_cabcc 3 = .ok (.invokestatic 194, 3) := by decide +kernel
theorem dJ8_newLength_cabcc_6 : decode cJ8_newLength_cabcc 6 = .ok (.iadd, 1) := by decide +kernel
theorem dJ8_newLength_cabcc_7 : decode cJ8_newLength_cabcc 7 = .ok (.istore_n 3, 1) := by decide +kernel
theorem dJ8_newLength_cabcc_8 : decode cJ8_newLength_cabcc 8 = .ok (.iconst 0, 1) := by decide +kernel
theorem dJ8_newLength_cabcc_9 : decode cJ8_newLength_cabcc 9 = .ok (.iload_n 3, 1) := by decide +kernel
theorem dJ8_newLength_cabcc_10 : decode cJ8_newLength_cabcc 10 = .ok (.if_icmp .ge 11, 3) := by decide +kernel
theorem dJ8_newLength_cabcc_13 : decode cJ8_newLength_cabcc 13 = .ok (.iload_n 3, 1) := by decide +kernel
theorem dJ8_newLength_cabcc_14 : decode cJ8_newLength_cabcc 14 = .ok (.ldc 200, 2) := by decide +kernel
theorem dJ8_newLength_cabcc_16 : decode cJ8_newLength_cabcc 16 = .ok (.if_icmp .gt 5, 3) := by decide +kernel
theorem dJ8_newLength_cabcc_19 : decode cJ8_newLength_cabcc 19 = .ok (.iload_n 3, 1) := by decide +kernel
theorem dJ8_newLength_cabcc_20 : decode cJ8_newLength_cabcc 20 = .ok (.ireturn, 1) := by decide +kernel
theorem dJ8_newLength_cabcc_21 : decode cJ8_newLength_cabcc 21 = .ok (.iload_n 0, 1) := by decide +kernel
theorem dJ8_newLength_cabcc_22 : decode cJ8_newLength_cabcc 22 = .ok (.iload_n 1, 1) := by decide +kernel
theorem dJ8_newLength_cabcc_23 : decode cJ8_newLength_cabcc 23 = .ok (.invokestatic 201, 3) := by decide +kernel
theorem dJ8_newLength_cabcc_26 : decode cJ8_newLength_cabcc 26 = .ok (.ireturn, 1) := by decide +kernel
theorem csJ8_newLength_cabcc : CS yJ8_newLength_cabcc cJ8_newLength_cabcc 4 (some .int) 3 := ⟨kw_350, kw_12, kw_351, by decide +kernel, by decide +kernel, by decide +kernel⟩
def fJ8_newLength_cabcc_b21 (sh : Sh) (d : Dt) (x0 : Int32) (x1 : Int32) : Option (Int32) := bd (fJ8_hugeLength_7cf53 sh d x0 x1) fun r2 => some r2

def fJ8_newLength_cabcc_b0 (sh : Sh) (d : Dt) (x0 : Int32) (x1 : Int32) (x2 : Int32) : Option (Int32) := if (x0 + (if x1 < x2 then x2 else x1)) ≤ (0 : Int32) then (fJ8_newLength_cabcc_b21 sh d x0 x1) else (if (2147483639 : Int32) < (x0 + (if x1 < x2 then x2 else x1)) then (fJ8_newLength_cabcc_b21 sh d x0 x1) else (some (x0 + (if x1 < x2 then x2 else x1))))

def fJ8_newLength_cabcc (sh : Sh) (d : Dt) (x0 : Int32) (x1 : Int32) (x2 : Int32) : Option (Int32) := fJ8_newLength_cabcc_b0 sh d x0 x1 x2

set_option maxRecDepth 100000 in
set_option maxHeartbeats 4000000 in
theorem wJ8_newLength_cabcc_b21 (C : mx p s m args meth c yJ8_newLength_cabcc cJ8_newLength_cabcc 4 (some .int) A D cy st) {r : Int32} {d : Dt} : ∀ (x0 : Int32) (x1 : Int32), fJ8_newLength_cabcc_b21 sh d x0 x1 = some r → ∀ {H : Heap} {locs : List Loc} {ls : Array Slot}, HW A D cy sz sh d H → va_S A s.heap H locs → lv_has ls 4 [(0, .int x0), (1, .int x1)] → GL p l e s m args below meth c 1 22 A D cy (some (.int r)) sz sh d H locs 21 ls [] := by
  have hx := C.1
  have hb := C.2.1
  intro x0 x1 hf H locs ls hw hS hl
  unfold fJ8_newLength_cabcc_b21 at hf
  refine lv_iload_n hx hb dJ8_newLength_cabcc_21 rfl (lv_at hl 0 rfl) ?_
  refine lv_iload_n hx hb dJ8_newLength_cabcc_22 rfl (lv_at hl 1 rfl) ?_
  obtain ⟨r2, h1, hf⟩ := bd_s hf
  refine cl_S0 C hw hS (tJ8_hugeLength_7cf53 l A D cy st sz sh d x0 x1 h1) csJ8_hugeLength_7cf53 kw_356 ⟨(Nat.le_of_ble_eq_true rfl), (Nat.le_of_ble_eq_true rfl)⟩ hl.1 rfl (Nat.le_of_ble_eq_true rfl) dJ8_newLength_cabcc_23 ⟨Nat.zero_le _, Nat.zero_le _⟩ (fun H locs hw hS => ?_)
  cases hf
  exact rt_i C hw hS dJ8_newLength_cabcc_26

set_option maxRecDepth 100000 in
set_option maxHeartbeats 4000000 in
theorem wJ8_newLength_cabcc_b0 (C : mx p s m args meth c yJ8_newLength_cabcc cJ8_newLength_cabcc 4 (some .int) A D cy st) {r : Int32} {d : Dt} : ∀ (x0 : Int32) (x1 : Int32) (x2 : Int32), fJ8_newLength_cabcc_b0 sh d x0 x1 x2 = some r → ∀ {H : Heap} {locs : List Loc} {ls : Array Slot}, HW A D cy sz sh d H → va_S A s.heap H locs → lv_has ls 4 [(0, .int x0), (1, .int x1), (2, .int x2)] → GL p l e s m args below meth c 1 22 A D cy (some (.int r)) sz sh d H locs 0 ls [] := by
  have hx := C.1
  have hb := C.2.1
  intro x0 x1 x2 hf H locs ls hw hS hl
  unfold fJ8_newLength_cabcc_b0 at hf
  refine lv_iload_n hx hb dJ8_newLength_cabcc_0 rfl (lv_at hl 0 rfl) ?_
  refine lv_iload_n hx hb dJ8_newLength_cabcc_1 rfl (lv_at hl 1 rfl) ?_
  refine lv_iload_n hx hb dJ8_newLength_cabcc_2 rfl (lv_at hl 2 rfl) ?_
  refine va_mmax hx hb (C.2.2.2.1.trans hl.1.symm) C.2.2.2.2.2.1 (C.2.2.2.2.1 _ kw_352) (C.2.2.2.2.1 _ kw_353) (C.2.2.2.2.1 _ kw_13) (C.2.2.2.2.1 _ kw_354) (Nat.le_of_ble_eq_true rfl) (Nat.le_of_ble_eq_true rfl) (Nat.zero_le _) (Nat.zero_le _) dJ8_newLength_cabcc_3 ?_
  refine lv_iadd hx hb dJ8_newLength_cabcc_6 ?_
  refine lv_istore_n (lv' := [(3, .int (x0 + (if x1 < x2 then x2 else x1))), (0, .int x0), (1, .int x1), (2, .int x2)]) hx hb dJ8_newLength_cabcc_7 rfl hl (by decide) rfl (fun ls hl => ?_)
  refine lv_iconst (v := 0) hx hb dJ8_newLength_cabcc_8 (by decide) ?_
  refine lv_iload_n hx hb dJ8_newLength_cabcc_9 rfl (lv_at hl 0 rfl) ?_
  refine lv_icmp_ge (tgt := 21) hx hb dJ8_newLength_cabcc_10 (by decide) (fun c_1 => ?_) (fun c_1 => ?_)
  · have hf := if_t c_1 hf
    exact wJ8_newLength_cabcc_b21 C x0 x1 hf hw hS (lv_sub hl [1, 2] rfl)
  · have hf := if_f c_1 hf
    refine lv_iload_n hx hb dJ8_newLength_cabcc_13 rfl (lv_at hl 0 rfl) ?_
    refine lv_ldc (v := 2147483639) hx hb C.2.2.2.2.2.1 (C.2.2.2.2.1 _ kw_355) dJ8_newLength_cabcc_14 ?_
    refine lv_icmp_gt (tgt := 21) hx hb dJ8_newLength_cabcc_16 (by decide) (fun c_2 => ?_) (fun c_2 => ?_)
    · have hf := if_t c_2 hf
      exact wJ8_newLength_cabcc_b21 C x0 x1 hf hw hS (lv_sub hl [1, 2] rfl)
    · have hf := if_f c_2 hf
      refine lv_iload_n hx hb dJ8_newLength_cabcc_19 rfl (lv_at hl 0 rfl) ?_
      cases hf
      exact rt_i C hw hS dJ8_newLength_cabcc_20

set_option maxRecDepth 100000 in
set_option maxHeartbeats 4000000 in
theorem tJ8_newLength_cabcc (l : Launch) (A : Nat → Prop) (D : va_G) (cy : Nat → ClassId) (st : Nat → Nat) (sz : Nat) (sh : Sh) (d : Dt) (x0 : Int32) (x1 : Int32) (x2 : Int32) {r : Int32} (hf : fJ8_newLength_cabcc sh d x0 x1 x2 = some r) : Ct l yJ8_newLength_cabcc cJ8_newLength_cabcc 4 (some .int) 1 22 0 0 A D cy st [.int x0, .int x1, .int x2] sz sh d (some (.int r)) sz sh d := ct_of (by decide) (Nat.le_of_ble_eq_true rfl) (fun p e s m args below meth c C hw hS ls hl => wJ8_newLength_cabcc_b0 C x0 x1 x2 hf hw hS hl)
theorem dJ7_copyOf_6403c_0 : decode cJ7_copyOf_6403c 0 = .ok (.aload_n 2, 1) := by decide +kernel
theorem dJ7_copyOf_6403c_1 : decode cJ7_copyOf_6403c 1 = .ok (.ldc 110, 2) := by decide +kernel
theorem dJ7_copyOf_6403c_3 : decode cJ7_copyOf_6403c 3 = .ok (.if_acmp .ne 10, 3) := by decide +kernel
theorem dJ7_copyOf_6403c_6 : decode cJ7_copyOf_6403c 6 = .ok (.iload_n 1, 1) := by decide +kernel
theorem dJ7_copyOf_6403c_7 : decode cJ7_copyOf_6403c 7 = .ok (.anewarray 2, 3) := by decide +kernel
theorem dJ7_copyOf_6403c_10 : decode cJ7_copyOf_6403c 10 = .ok (.goto 14, 3) := by decide +kernel
theorem dJ7_copyOf_6403c_13 : decode cJ7_copyOf_6403c 13 = .ok (.aload_n 2, 1) := by decide +kernel
theorem dJ7_copyOf_6403c_14 : decode cJ7_copyOf_6403c 14 = .ok (.invokevirtual 90, 3) := by decide +kernel
theorem dJ7_copyOf_6403c_17 : decode cJ7_copyOf_6403c 17 = .ok (.iload_n 1, 1) := by decide +kernel
theorem dJ7_copyOf_6403c_18 : decode cJ7_copyOf_6403c 18 = .ok (.invokestatic 95, 3) := by decide +kernel
theorem dJ7_copyOf_6403c_21 : decode cJ7_copyOf_6403c 21 = .ok (.checkcast 110, 3) := by decide +kernel
theorem dJ7_copyOf_6403c_24 : decode cJ7_copyOf_6403c 24 = .ok (.astore_n 3, 1) := by decide +kernel
theorem dJ7_copyOf_6403c_25 : decode cJ7_copyOf_6403c 25 = .ok (.aload_n 0, 1) := by decide +kernel
theorem dJ7_copyOf_6403c_26 : decode cJ7_copyOf_6403c 26 = .ok (.iconst 0, 1) := by decide +kernel
theorem dJ7_copyOf_6403c_27 : decode cJ7_copyOf_6403c 27 = .ok (.aload_n 3, 1) := by decide +kernel
theorem dJ7_copyOf_6403c_28 : decode cJ7_copyOf_6403c 28 = .ok (.iconst 0, 1) := by decide +kernel
theorem dJ7_copyOf_6403c_29 : decode cJ7_copyOf_6403c 29 = .ok (.aload_n 0, 1) := by decide +kernel
theorem dJ7_copyOf_6403c_30 : decode cJ7_copyOf_6403c 30 = .ok (.arraylength, 1) := by decide +kernel
theorem dJ7_copyOf_6403c_31 : decode cJ7_copyOf_6403c 31 = .ok (.iload_n 1, 1) := by decide +kernel
theorem dJ7_copyOf_6403c_32 : decode cJ7_copyOf_6403c 32 = .ok (.invokestatic 304, 3) := by decide +kernel
theorem dJ7_copyOf_6403c_35 : decode cJ7_copyOf_6403c 35 = .ok (.invokestatic 150, 3) := by decide +kernel
theorem dJ7_copyOf_6403c_38 : decode cJ7_copyOf_6403c 38 = .ok (.aload_n 3, 1) := by decide +kernel
theorem dJ7_copyOf_6403c_39 : decode cJ7_copyOf_6403c 39 = .ok (.areturn, 1) := by decide +kernel
theorem csJ7_copyOf_6403c : CS yJ7_copyOf_6403c cJ7_copyOf_6403c 4 (some (.array (.object "java/lang/Object"))) 3 := ⟨kw_376, kw_14, kw_377, by decide +kernel, by decide +kernel, by decide +kernel⟩
def fJ7_copyOf_6403c_b10 (em mi : Nat) (x0 : Option Nat) (x1 : Int32) (t0 : Nat) (sz : Nat) (ns : Nat) (sh : Sh) (d : Dt) : Option (Option Nat × Wl) := bd x0 fun a1 => bd (lnE sh em a1) fun v2 => bd (cpR sh d a1 (0 : Int32) t0 (0 : Int32) (if x1 < v2 then x1 else v2)) fun d3 => some ((some t0), sz, ns, sh, d3)

def fJ7_copyOf_6403c_b0 (em mi : Nat) (x0 : Option Nat) (x1 : Int32) (x2 : Option Nat) (sz : Nat) (ns : Nat) (sh : Sh) (d : Dt) : Option (Option Nat × Wl) := if x2 = (some mi) then (bw (nwA sz ns sh d 26 x1) fun szq2 nsq2 shq2 dq2 => fJ7_copyOf_6403c_b10 em mi x0 x1 sz szq2 nsq2 shq2 dq2) else (none)

def fJ7_copyOf_6403c (em mi : Nat) (x0 : Option Nat) (x1 : Int32) (x2 : Option Nat) (sz ns : Nat) (sh : Sh) (d : Dt) : Option (Option Nat × Wl) := fJ7_copyOf_6403c_b0 em mi x0 x1 x2 sz ns sh d

set_option maxRecDepth 100000 in
set_option maxHeartbeats 4000000 in
theorem mJ7_copyOf_6403c_b10 (em mi : Nat) {r : Option Nat} {sz9 ns9 : Nat} {sh9 : Sh} {d9 : Dt} : ∀ (x0 : Option Nat) (x1 : Int32) (t0 : Nat) (sz : Nat) (ns : Nat) (sh : Sh) (d : Dt), fJ7_copyOf_6403c_b10 em mi x0 x1 t0 sz ns sh d = some (r, sz9, ns9, sh9, d9) → sz ≤ sz9 ∧ ns ≤ ns9 := by
  intro x0 x1 t0 sz ns sh d hf
  unfold fJ7_copyOf_6403c_b10 at hf
  obtain ⟨a1, ea1, hg⟩ := bd_s hf
  clear hf
  subst ea1
  have hf := hg
  clear hg
  obtain ⟨v2, hv2, hf⟩ := bd_s hf
  obtain ⟨d3, hd3, hf⟩ := bd_s hf
  cases hf
  exact ⟨Nat.le_refl _, Nat.le_refl _⟩

set_option maxRecDepth 100000 in
set_option maxHeartbeats 4000000 in
theorem mJ7_copyOf_6403c_b0 (em mi : Nat) {r : Option Nat} {sz9 ns9 : Nat} {sh9 : Sh} {d9 : Dt} : ∀ (x0 : Option Nat) (x1 : Int32) (x2 : Option Nat) (sz : Nat) (ns : Nat) (sh : Sh) (d : Dt), fJ7_copyOf_6403c_b0 em mi x0 x1 x2 sz ns sh d = some (r, sz9, ns9, sh9, d9) → sz ≤ sz9 ∧ ns ≤ ns9 := by
  intro x0 x1 x2 sz ns sh d hf
  unfold fJ7_copyOf_6403c_b0 at hf
  by_cases c_1 : x2 = (some mi)
  · have hf := if_t c_1 hf
    obtain ⟨szq2, nsq2, shq2, dq2, hq2, hf⟩ := bw_s hf
    have hq := nwA_s hq2
    have hm := mJ7_copyOf_6403c_b10 em mi x0 x1 sz szq2 nsq2 shq2 dq2 hf
    omega
  · have hf := if_f c_1 hf
    cases hf

theorem gJ7_copyOf_6403c (em mi : Nat) (x0 : Option Nat) (x1 : Int32) (x2 : Option Nat) (sz ns : Nat) (sh : Sh) (d : Dt) {r : Option Nat} {sz9 ns9 : Nat} {sh9 : Sh} {d9 : Dt} (hf : fJ7_copyOf_6403c em mi x0 x1 x2 sz ns sh d = some (r, sz9, ns9, sh9, d9)) : sz ≤ sz9 ∧ ns ≤ ns9 := mJ7_copyOf_6403c_b0 em mi x0 x1 x2 sz ns sh d hf

set_option maxRecDepth 100000 in
set_option maxHeartbeats 4000000 in
theorem wJ7_copyOf_6403c_b10 (C : mx p s m args meth c yJ7_copyOf_6403c cJ7_copyOf_6403c 4 (some (.array (.object "java/lang/Object"))) A D cy st) {r : Option Nat} {sz9 ns9 : Nat} {sh9 : Sh} {d9 : Dt} {mc ms : Nat} : ∀ (x0 : Option Nat) (x1 : Int32) (t0 : Nat) (sz : Nat) (ns : Nat) (sh : Sh) (d : Dt), fJ7_copyOf_6403c_b10 (st 1) (st 2) x0 x1 t0 sz ns sh d = some (r, sz9, ns9, sh9, d9) → ∀ {cu su : Nat}, sz9 + cu = sz + mc → ns9 + su = ns + ms → ∀ {H : Heap} {locs : List Loc} {ls : Array Slot}, HW A D cy sz sh d H → va_S A s.heap H locs → lv_has ls 4 [(0, va_rf x0), (1, .int x1)] → GA p l e s m args below meth c 1 30 mc ms A D cy (some (va_rf r)) sz9 sh9 d9 H locs cu su 10 ls [.ref t0] := by
  have hx := C.1
  have hb := C.2.1
  intro x0 x1 t0 sz ns sh d hf cu su hcm hsm H locs ls hw hS hl
  have hm0 := mJ7_copyOf_6403c_b10 (st 1) (st 2) x0 x1 t0 sz ns sh d hf
  unfold fJ7_copyOf_6403c_b10 at hf
  refine lv_goto (tgt := 24) hx hb dJ7_copyOf_6403c_10 (by decide) ?_
  refine lv_astore_n (lv' := [(3, .ref t0), (0, va_rf x0), (1, .int x1)]) hx hb dJ7_copyOf_6403c_24 rfl hl (by decide) rfl (fun ls hl => ?_)
  refine lq_aload_n hx hb dJ7_copyOf_6403c_25 rfl (lv_at hl 1 rfl) ?_
  refine lv_iconst (v := 0) hx hb dJ7_copyOf_6403c_26 (by decide) ?_
  refine lv_aload_n hx hb dJ7_copyOf_6403c_27 rfl (lv_at hl 0 rfl) ?_
  refine lv_iconst (v := 0) hx hb dJ7_copyOf_6403c_28 (by decide) ?_
  refine lq_aload_n hx hb dJ7_copyOf_6403c_29 rfl (lv_at hl 1 rfl) ?_
  obtain ⟨a1, ea1, hg⟩ := bd_s hf
  clear hf
  subst ea1
  have hf := hg
  clear hg
  obtain ⟨v2, hv2, hf⟩ := bd_s hf
  refine w_lnE C hw hS hv2 dJ7_copyOf_6403c_30 ?_
  refine lv_iload_n hx hb dJ7_copyOf_6403c_31 rfl (lv_at hl 2 rfl) ?_
  refine va_mmin hx hb (C.2.2.2.1.trans hl.1.symm) C.2.2.2.2.2.1 (C.2.2.2.2.1 _ kw_381) (C.2.2.2.2.1 _ kw_382) (C.2.2.2.2.1 _ kw_13) (C.2.2.2.2.1 _ kw_383) (Nat.le_of_ble_eq_true rfl) (by simp [va_rf_c, cat_i, cat_l, cat_r]) (by show _ ≤ mc; omega) (by show _ ≤ ms; omega) dJ7_copyOf_6403c_32 ?_
  obtain ⟨d3, hd3, hf⟩ := bd_s hf
  refine w_cpR C hw hS hd3 kw_384 kw_386 kw_385 kw_15 hl.1 (Nat.le_of_ble_eq_true rfl) (Nat.le_of_ble_eq_true rfl) dJ7_copyOf_6403c_35 (fun H locs hw hS => ?_)
  refine lv_aload_n hx hb dJ7_copyOf_6403c_38 rfl (lv_at hl 0 rfl) ?_
  cases hf
  obtain rfl : mc = cu := by omega
  obtain rfl : ms = su := by omega
  exact rt_aa C hw hS dJ7_copyOf_6403c_39

set_option maxRecDepth 100000 in
set_option maxHeartbeats 4000000 in
theorem wJ7_copyOf_6403c_b0 (C : mx p s m args meth c yJ7_copyOf_6403c cJ7_copyOf_6403c 4 (some (.array (.object "java/lang/Object"))) A D cy st) {r : Option Nat} {sz9 ns9 : Nat} {sh9 : Sh} {d9 : Dt} {mc ms : Nat} : ∀ (x0 : Option Nat) (x1 : Int32) (x2 : Option Nat) (sz : Nat) (ns : Nat) (sh : Sh) (d : Dt), fJ7_copyOf_6403c_b0 (st 1) (st 2) x0 x1 x2 sz ns sh d = some (r, sz9, ns9, sh9, d9) → ∀ {cu su : Nat}, sz9 + cu = sz + mc → ns9 + su = ns + ms → ∀ {H : Heap} {locs : List Loc} {ls : Array Slot}, HW A D cy sz sh d H → va_S A s.heap H locs → lv_has ls 4 [(0, va_rf x0), (1, .int x1), (2, va_rf x2)] → GA p l e s m args below meth c 1 30 mc ms A D cy (some (va_rf r)) sz9 sh9 d9 H locs cu su 0 ls [] := by
  have hx := C.1
  have hb := C.2.1
  intro x0 x1 x2 sz ns sh d hf cu su hcm hsm H locs ls hw hS hl
  have hm0 := mJ7_copyOf_6403c_b0 (st 1) (st 2) x0 x1 x2 sz ns sh d hf
  unfold fJ7_copyOf_6403c_b0 at hf
  refine lq_aload_n hx hb dJ7_copyOf_6403c_0 rfl (lv_at hl 2 rfl) ?_
  refine va_ldcM hx hb C.2.2.2.2.2.1 (C.2.2.2.2.1 _ kw_378) C.2.2.2.2.2.2.2.1.2.2.2.2.1 dJ7_copyOf_6403c_1 ?_
  refine lv_acmp_ne (rx := x2) (ry := (some (st 2))) (tgt := 13) hx hb dJ7_copyOf_6403c_3 (by decide) (fun c_1 => ?_) (fun c_1 => ?_)
  · have hf := if_f c_1 hf
    refine lq_aload_n hx hb dJ7_copyOf_6403c_13 rfl (lv_at hl 2 rfl) ?_
    cases hf
  · have hf := if_t c_1 hf
    refine lv_iload_n hx hb dJ7_copyOf_6403c_6 rfl (lv_at hl 1 rfl) ?_
    obtain ⟨szq2, nsq2, shq2, dq2, hq2, hf⟩ := bw_s hf
    have hm := mJ7_copyOf_6403c_b10 (st 1) (st 2) x0 x1 sz szq2 nsq2 shq2 dq2 hf
    have hq := nwA_s hq2
    refine w_newq C hw hS 6 rfl (by decide) kw_380 C.2.2.2.2.2.2.2.1.2.2.1.2.2.2 rfl hq2 (by show _ ≤ mc; omega) (by show _ ≤ ms; omega) dJ7_copyOf_6403c_7 (fun H hw hS => ?_)
    exact wJ7_copyOf_6403c_b10 C x0 x1 sz szq2 nsq2 shq2 dq2 hf (by omega) (by omega) hw hS (lv_sub hl [0, 1] rfl)

set_option maxRecDepth 100000 in
set_option maxHeartbeats 4000000 in
theorem tJ7_copyOf_6403c (l : Launch) (A : Nat → Prop) (D : va_G) (cy : Nat → ClassId) (st : Nat → Nat) (x0 : Option Nat) (x1 : Int32) (x2 : Option Nat) (sz ns : Nat) (sh : Sh) (d : Dt) {r : Option Nat} {sz9 ns9 : Nat} {sh9 : Sh} {d9 : Dt} (hf : fJ7_copyOf_6403c (st 1) (st 2) x0 x1 x2 sz ns sh d = some (r, sz9, ns9, sh9, d9)) : Ct l yJ7_copyOf_6403c cJ7_copyOf_6403c 4 (some (.array (.object "java/lang/Object"))) 1 30 (sz9 - sz) (ns9 - ns) A D cy st [va_rf x0, .int x1, va_rf x2] sz sh d (some (va_rf r)) sz9 sh9 d9 := by
  have hm := gJ7_copyOf_6403c (st 1) (st 2) x0 x1 x2 sz ns sh d hf
  exact ct_of (by decide) (by simp [lg_sl, va_rf_c, cat_i, cat_l, cat_r]) (fun p e s m args below meth c C hw hS ls hl => wJ7_copyOf_6403c_b0 C x0 x1 x2 sz ns sh d hf (by omega) (by omega) hw hS (by simpa [lv_args, va_rf_c, cat_i, cat_l, cat_r] using hl))
theorem dJ7_copyOf_1904c_0 : decode cJ7_copyOf_1904c 0 = .ok (.aload_n 0, 1) := by decide +kernel
theorem dJ7_copyOf_1904c_1 : decode cJ7_copyOf_1904c 1 = .ok (.iload_n 1, 1) := by decide +kernel
theorem dJ7_copyOf_1904c_2 : decode cJ7_copyOf_1904c 2 = .ok (.aload_n 0, 1) := by decide +kernel
theorem dJ7_copyOf_1904c_3 : decode cJ7_copyOf_1904c 3 = .ok (.invokevirtual 86, 3) := by decide +kernel
theorem dJ7_copyOf_1904c_6 : decode cJ7_copyOf_1904c 6 = .ok (.invokestatic 300, 3) := by decide +kernel
theorem dJ7_copyOf_1904c_9 : decode cJ7_copyOf_1904c 9 = .ok (.areturn, 1) := by decide +kernel
theorem csJ7_copyOf_1904c : CS yJ7_copyOf_1904c cJ7_copyOf_1904c 2 (some (.array (.object "java/lang/Object"))) 2 := ⟨kw_360, kw_14, kw_361, by decide +kernel, by decide +kernel, by decide +kernel⟩
def fJ7_copyOf_1904c_b9 (em mi : Nat) (t0 : Option Nat) (sz : Nat) (ns : Nat) (sh : Sh) (d : Dt) : Option (Option Nat × Wl) := some (t0, sz, ns, sh, d)

def fJ7_copyOf_1904c_b0 (em mi : Nat) (x0 : Option Nat) (x1 : Int32) (sz : Nat) (ns : Nat) (sh : Sh) (d : Dt) : Option (Option Nat × Wl) := bd x0 fun a1 => bd (kc sh 26 a1) fun _ => bw2 (fJ7_copyOf_6403c em mi (some a1) x1 (some mi) sz ns sh d) fun r4 szq5 nsq5 shq5 dq5 => fJ7_copyOf_1904c_b9 em mi r4 szq5 nsq5 shq5 dq5

def fJ7_copyOf_1904c (em mi : Nat) (x0 : Option Nat) (x1 : Int32) (sz ns : Nat) (sh : Sh) (d : Dt) : Option (Option Nat × Wl) := fJ7_copyOf_1904c_b0 em mi x0 x1 sz ns sh d

set_option maxRecDepth 100000 in
set_option maxHeartbeats 4000000 in
theorem mJ7_copyOf_1904c_b9 (em mi : Nat) {r : Option Nat} {sz9 ns9 : Nat} {sh9 : Sh} {d9 : Dt} : ∀ (t0 : Option Nat) (sz : Nat) (ns : Nat) (sh : Sh) (d : Dt), fJ7_copyOf_1904c_b9 em mi t0 sz ns sh d = some (r, sz9, ns9, sh9, d9) → sz ≤ sz9 ∧ ns ≤ ns9 := by
  intro t0 sz ns sh d hf
  unfold fJ7_copyOf_1904c_b9 at hf
  cases hf
  exact ⟨Nat.le_refl _, Nat.le_refl _⟩

set_option maxRecDepth 100000 in
set_option maxHeartbeats 4000000 in
theorem mJ7_copyOf_1904c_b0 (em mi : Nat) {r : Option Nat} {sz9 ns9 : Nat} {sh9 : Sh} {d9 : Dt} : ∀ (x0 : Option Nat) (x1 : Int32) (sz : Nat) (ns : Nat) (sh : Sh) (d : Dt), fJ7_copyOf_1904c_b0 em mi x0 x1 sz ns sh d = some (r, sz9, ns9, sh9, d9) → sz ≤ sz9 ∧ ns ≤ ns9 := by
  intro x0 x1 sz ns sh d hf
  unfold fJ7_copyOf_1904c_b0 at hf
  obtain ⟨a1, ea1, hg⟩ := bd_s hf
  clear hf
  subst ea1
  have hf := hg
  clear hg
  obtain ⟨_, h2, hf⟩ := bd_s hf
  obtain ⟨r4, szq5, nsq5, shq5, dq5, h3, hf⟩ := bw2_s hf
  have hq := gJ7_copyOf_6403c em mi (some a1) x1 (some mi) sz ns sh d h3
  have hm := mJ7_copyOf_1904c_b9 em mi r4 szq5 nsq5 shq5 dq5 hf
  omega

theorem gJ7_copyOf_1904c (em mi : Nat) (x0 : Option Nat) (x1 : Int32) (sz ns : Nat) (sh : Sh) (d : Dt) {r : Option Nat} {sz9 ns9 : Nat} {sh9 : Sh} {d9 : Dt} (hf : fJ7_copyOf_1904c em mi x0 x1 sz ns sh d = some (r, sz9, ns9, sh9, d9)) : sz ≤ sz9 ∧ ns ≤ ns9 := mJ7_copyOf_1904c_b0 em mi x0 x1 sz ns sh d hf

set_option maxRecDepth 100000 in
set_option maxHeartbeats 4000000 in
theorem wJ7_copyOf_1904c_b9 (C : mx p s m args meth c yJ7_copyOf_1904c cJ7_copyOf_1904c 2 (some (.array (.object "java/lang/Object"))) A D cy st) {r : Option Nat} {sz9 ns9 : Nat} {sh9 : Sh} {d9 : Dt} {mc ms : Nat} : ∀ (t0 : Option Nat) (sz : Nat) (ns : Nat) (sh : Sh) (d : Dt), fJ7_copyOf_1904c_b9 (st 1) (st 2) t0 sz ns sh d = some (r, sz9, ns9, sh9, d9) → ∀ {cu su : Nat}, sz9 + cu = sz + mc → ns9 + su = ns + ms → ∀ {H : Heap} {locs : List Loc} {ls : Array Slot}, HW A D cy sz sh d H → va_S A s.heap H locs → lv_has ls 2 [] → GA p l e s m args below meth c 2 53 mc ms A D cy (some (va_rf r)) sz9 sh9 d9 H locs cu su 9 ls [va_rf t0] := by
  have hx := C.1
  have hb := C.2.1
  intro t0 sz ns sh d hf cu su hcm hsm H locs ls hw hS hl
  have hm0 := mJ7_copyOf_1904c_b9 (st 1) (st 2) t0 sz ns sh d hf
  unfold fJ7_copyOf_1904c_b9 at hf
  cases hf
  obtain rfl : mc = cu := by omega
  obtain rfl : ms = su := by omega
  exact rt_aa C hw hS dJ7_copyOf_1904c_9

set_option maxRecDepth 100000 in
set_option maxHeartbeats 4000000 in
theorem wJ7_copyOf_1904c_b0 (C : mx p s m args meth c yJ7_copyOf_1904c cJ7_copyOf_1904c 2 (some (.array (.object "java/lang/Object"))) A D cy st) {r : Option Nat} {sz9 ns9 : Nat} {sh9 : Sh} {d9 : Dt} {mc ms : Nat} : ∀ (x0 : Option Nat) (x1 : Int32) (sz : Nat) (ns : Nat) (sh : Sh) (d : Dt), fJ7_copyOf_1904c_b0 (st 1) (st 2) x0 x1 sz ns sh d = some (r, sz9, ns9, sh9, d9) → ∀ {cu su : Nat}, sz9 + cu = sz + mc → ns9 + su = ns + ms → ∀ {H : Heap} {locs : List Loc} {ls : Array Slot}, HW A D cy sz sh d H → va_S A s.heap H locs → lv_has ls 2 [(0, va_rf x0), (1, .int x1)] → GA p l e s m args below meth c 2 53 mc ms A D cy (some (va_rf r)) sz9 sh9 d9 H locs cu su 0 ls [] := by
  have hx := C.1
  have hb := C.2.1
  intro x0 x1 sz ns sh d hf cu su hcm hsm H locs ls hw hS hl
  have hm0 := mJ7_copyOf_1904c_b0 (st 1) (st 2) x0 x1 sz ns sh d hf
  unfold fJ7_copyOf_1904c_b0 at hf
  refine lq_aload_n hx hb dJ7_copyOf_1904c_0 rfl (lv_at hl 0 rfl) ?_
  refine lv_iload_n hx hb dJ7_copyOf_1904c_1 rfl (lv_at hl 1 rfl) ?_
  refine lq_aload_n hx hb dJ7_copyOf_1904c_2 rfl (lv_at hl 0 rfl) ?_
  obtain ⟨a1, ea1, hg⟩ := bd_s hf
  clear hf
  subst ea1
  have hf := hg
  clear hg
  obtain ⟨_, h2, hf⟩ := bd_s hf
  refine va_getC (C := "[Ljava/lang/Object;") hx hb (C.2.2.2.1.trans hl.1.symm) C.2.2.2.2.2.1 (C.2.2.2.2.1 _ kw_362) (va_Dc.use C.2.2.2.2.2.2.2.1.2.2.2.1) (C.2.2.2.2.1 _ kw_1180) (C.2.2.2.2.1 _ kw_363) (C.2.2.2.2.1 _ kw_374) C.2.2.2.2.2.2.2.1.2.2.2.2.1 (w_cls C hw (kc_k h2)) (Nat.le_of_ble_eq_true rfl) (by simp [va_rf_c, cat_i, cat_l, cat_r]) dJ7_copyOf_1904c_3 ?_
  obtain ⟨r4, szq5, nsq5, shq5, dq5, h3, hf⟩ := bw2_s hf
  have hm := mJ7_copyOf_1904c_b9 (st 1) (st 2) r4 szq5 nsq5 shq5 dq5 hf
  have hq := gJ7_copyOf_6403c (st 1) (st 2) (some a1) x1 (some (st 2)) sz ns sh d h3
  refine cl_S C hw hS (tJ7_copyOf_6403c l A D cy st (some a1) x1 (some (st 2)) sz ns sh d h3) csJ7_copyOf_6403c kw_375 ⟨(Nat.le_of_ble_eq_true rfl), (Nat.le_of_ble_eq_true rfl)⟩ hl.1 rfl (Nat.le_of_ble_eq_true rfl) dJ7_copyOf_1904c_6 ⟨by show _ ≤ mc; omega, by show _ ≤ ms; omega⟩ (fun H locs hw hS => ?_)
  exact wJ7_copyOf_1904c_b9 C r4 szq5 nsq5 shq5 dq5 hf (by omega) (by omega) hw hS (lv_sub hl [] rfl)

set_option maxRecDepth 100000 in
set_option maxHeartbeats 4000000 in
theorem tJ7_copyOf_1904c (l : Launch) (A : Nat → Prop) (D : va_G) (cy : Nat → ClassId) (st : Nat → Nat) (x0 : Option Nat) (x1 : Int32) (sz ns : Nat) (sh : Sh) (d : Dt) {r : Option Nat} {sz9 ns9 : Nat} {sh9 : Sh} {d9 : Dt} (hf : fJ7_copyOf_1904c (st 1) (st 2) x0 x1 sz ns sh d = some (r, sz9, ns9, sh9, d9)) : Ct l yJ7_copyOf_1904c cJ7_copyOf_1904c 2 (some (.array (.object "java/lang/Object"))) 2 53 (sz9 - sz) (ns9 - ns) A D cy st [va_rf x0, .int x1] sz sh d (some (va_rf r)) sz9 sh9 d9 := by
  have hm := gJ7_copyOf_1904c (st 1) (st 2) x0 x1 sz ns sh d hf
  exact ct_of (by decide) (by simp [lg_sl, va_rf_c, cat_i, cat_l, cat_r]) (fun p e s m args below meth c C hw hS ls hl => wJ7_copyOf_1904c_b0 C x0 x1 sz ns sh d hf (by omega) (by omega) hw hS (by simpa [lv_args, va_rf_c, cat_i, cat_l, cat_r] using hl))
theorem dJx4a65c_grow_92f84_0 : decode cJx4a65c_grow_92f84 0 = .ok (.aload_n 0, 1) := by decide +kernel
theorem dJx4a65c_grow_92f84_1 : decode cJx4a65c_grow_92f84 1 = .ok (.getfield 9, 3) := by decide +kernel
theorem dJx4a65c_grow_92f84_4 : decode cJx4a65c_grow_92f84 4 = .ok (.arraylength, 1) := by decide +kernel
theorem dJx4a65c_grow_92f84_5 : decode cJx4a65c_grow_92f84 5 = .ok (.istore_n 2, 1) := by decide +kernel
theorem dJx4a65c_grow_92f84_6 : decode cJx4a65c_grow_92f84 6 = .ok (.iload_n 2, 1) := by decide +kernel
theorem dJx4a65c_grow_92f84_7 : decode cJx4a65c_grow_92f84 7 = .ok (.ifCond .gt 13, 3) := by decide +kernel
theorem dJx4a65c_grow_92f84_10 : decode cJx4a65c_grow_92f84 10 = .ok (.aload_n 0, 1) := by decide +kernel
theorem dJx4a65c_grow_92f84_11 : decode cJx4a65c_grow_92f84 11 = .ok (.getfield 9, 3) := by decide +kernel
theorem dJx4a65c_grow_92f84_14 : decode cJx4a65c_grow_92f84 14 = .ok (.getstatic 39, 3) := by decide +kernel
theorem dJx4a65c_grow_92f84_17 : decode cJx4a65c_grow_92f84 17 = .ok (.if_acmp .eq 28, 3) := by decide +kernel
theorem dJx4a65c_grow_92f84_20 : decode cJx4a65c_grow_92f84 20 = .ok (.iload_n 2, 1) := by decide +kernel
theorem dJx4a65c_grow_92f84_21 : decode cJx4a65c_grow_92f84 21 = .ok (.iload_n 1, 1) := by decide +kernel
theorem dJx4a65c_grow_92f84_22 : decode cJx4a65c_grow_92f84 22 = .ok (.iload_n 2, 1) := by decide +kernel
theorem dJx4a65c_grow_92f84_23 : decode cJx4a65c_grow_92f84 23 = .ok (.isub, 1) := by decide +kernel
theorem dJx4a65c_grow_92f84_24 : decode cJx4a65c_grow_92f84 24 = .ok (.iload_n 2, 1) := by decide +kernel
theorem dJx4a65c_grow_92f84_25 : decode cJx4a65c_grow_92f84 25 = .ok (.iconst 1, 1) := by decide +kernel
theorem dJx4a65c_grow_92f84_26 : decode cJx4a65c_grow_92f84 26 = .ok (.ishr, 1) := by decide +kernel
theorem dJx4a65c_grow_92f84_27 : decode cJx4a65c_grow_92f84 27 = .ok (.invokestatic 73, 3) := by decide +kernel
theorem dJx4a65c_grow_92f84_30 : decode cJx4a65c_grow_92f84 30 = .ok (.istore_n 3, 1) := by decide +kernel
theorem dJx4a65c_grow_92f84_31 : decode cJx4a65c_grow_92f84 31 = .ok (.aload_n 0, 1) := by decide +kernel
theorem dJx4a65c_grow_92f84_32 : decode cJx4a65c_grow_92f84 32 = .ok (.aload_n 0, 1) := by decide +kernel
theorem dJx4a65c_grow_92f84_33 : decode cJx4a65c_grow_92f84 33 = .ok (.getfield 9, 3) := by decide +kernel
theorem dJx4a65c_grow_92f84_36 : decode cJx4a65c_grow_92f84 36 = .ok (.iload_n 3, 1) := by decide +kernel
theorem dJx4a65c_grow_92f84_37 : decode cJx4a65c_grow_92f84 37 = .ok (.invokestatic 66, 3) := by decide +kernel
theorem dJx4a65c_grow_92f84_40 : decode cJx4a65c_grow_92f84 40 = .ok (.dup_x1, 1) := by decide +kernel
theorem dJx4a65c_grow_92f84_41 : decode cJx4a65c_grow_92f84 41 = .ok (.putfield 9, 3) := by decide +kernel
theorem dJx4a65c_grow_92f84_44 : decode cJx4a65c_grow_92f84 44 = .ok (.areturn, 1) := by decide +kernel
theorem dJx4a65c_grow_92f84_45 : decode cJx4a65c_grow_92f84 45 = .ok (.aload_n 0, 1) := by decide +kernel
theorem dJx4a65c_grow_92f84_46 : decode cJx4a65c_grow_92f84 46 = .ok (.bipush 10, 2) := by decide +kernel
theorem dJx4a65c_grow_92f84_48 : decode cJx4a65c_grow_92f84 48 = .ok (.iload_n 1, 1) := by decide +kernel
theorem dJx4a65c_grow_92f84_49 : decode cJx4a65c_grow_92f84 49 = .ok (.invokestatic 79, 3) := by decide +kernel
theorem dJx4a65c_grow_92f84_52 : decode cJx4a65c_grow_92f84 52 = .ok (.anewarray 7, 3) := by decide +kernel
theorem dJx4a65c_grow_92f84_55 : decode cJx4a65c_grow_92f84 55 = .ok (.dup_x1, 1) := by decide +kernel
theorem dJx4a65c_grow_92f84_56 : decode cJx4a65c_grow_92f84 56 = .ok (.putfield 9, 3) := by decide +kernel
theorem dJx4a65c_grow_92f84_59 : decode cJx4a65c_grow_92f84 59 = .ok (.areturn, 1) := by decide +kernel
theorem cvJx4a65c_grow_92f84 : CV yJx4a65c_grow_92f84 cJx4a65c_grow_92f84 4 (some (.array (.object "java/lang/Object"))) 0 1 := ⟨kw_347, ks_8, kw_4, kw_348, ⟨_, _, rfl⟩, by decide, by decide +kernel, by decide +kernel, by decide +kernel⟩
def fJx4a65c_grow_92f84_b40 (em mi : Nat) (t0 : Nat) (t1 : Option Nat) (sz : Nat) (ns : Nat) (sh : Sh) (d : Dt) : Option (Option Nat × Wl) := bd (pR sh d 1 33 t0 t1) fun d1 => some (t1, sz, ns, sh, d1)

def fJx4a65c_grow_92f84_b20 (em mi : Nat) (x0 : Nat) (x1 : Int32) (x2 : Int32) (sz : Nat) (ns : Nat) (sh : Sh) (d : Dt) : Option (Option Nat × Wl) := bd (fJ8_newLength_cabcc sh d x2 (x1 - x2) (x2 >>> ((1 : Int32) &&& 31))) fun r2 => bd (gR sh d 1 33 x0) fun v3 => bw2 (fJ7_copyOf_1904c em mi v3 r2 sz ns sh d) fun r5 szq6 nsq6 shq6 dq6 => fJx4a65c_grow_92f84_b40 em mi x0 r5 szq6 nsq6 shq6 dq6

def fJx4a65c_grow_92f84_b55 (em mi : Nat) (t0 : Nat) (t1 : Nat) (sz : Nat) (ns : Nat) (sh : Sh) (d : Dt) : Option (Option Nat × Wl) := bd (pR sh d 1 33 t0 (some t1)) fun d1 => some ((some t1), sz, ns, sh, d1)

def fJx4a65c_grow_92f84_b0 (em mi : Nat) (x0 : Nat) (x1 : Int32) (sz : Nat) (ns : Nat) (sh : Sh) (d : Dt) : Option (Option Nat × Wl) := bd (gR sh d 1 33 x0) fun v1 => bd v1 fun a2 => bd (lnE sh em a2) fun v3 => if 0 < v3 then (fJx4a65c_grow_92f84_b20 em mi x0 x1 v3 sz ns sh d) else (bd (gR sh d 1 33 x0) fun v5 => if v5 = (some em) then (bw (nwA sz ns sh d 26 (if (10 : Int32) < x1 then x1 else (10 : Int32))) fun szq7 nsq7 shq7 dq7 => fJx4a65c_grow_92f84_b55 em mi x0 sz szq7 nsq7 shq7 dq7) else (fJx4a65c_grow_92f84_b20 em mi x0 x1 v3 sz ns sh d))

def fJx4a65c_grow_92f84 (em mi : Nat) (x0 : Nat) (x1 : Int32) (sz ns : Nat) (sh : Sh) (d : Dt) : Option (Option Nat × Wl) := fJx4a65c_grow_92f84_b0 em mi x0 x1 sz ns sh d

set_option maxRecDepth 100000 in
set_option maxHeartbeats 4000000 in
theorem mJx4a65c_grow_92f84_b40 (em mi : Nat) {r : Option Nat} {sz9 ns9 : Nat} {sh9 : Sh} {d9 : Dt} : ∀ (t0 : Nat) (t1 : Option Nat) (sz : Nat) (ns : Nat) (sh : Sh) (d : Dt), fJx4a65c_grow_92f84_b40 em mi t0 t1 sz ns sh d = some (r, sz9, ns9, sh9, d9) → sz ≤ sz9 ∧ ns ≤ ns9 := by
  intro t0 t1 sz ns sh d hf
  unfold fJx4a65c_grow_92f84_b40 at hf
  obtain ⟨d1, hd1, hf⟩ := bd_s hf
  cases hf
  exact ⟨Nat.le_refl _, Nat.le_refl _⟩

set_option maxRecDepth 100000 in
set_option maxHeartbeats 4000000 in
theorem mJx4a65c_grow_92f84_b20 (em mi : Nat) {r : Option Nat} {sz9 ns9 : Nat} {sh9 : Sh} {d9 : Dt} : ∀ (x0 : Nat) (x1 : Int32) (x2 : Int32) (sz : Nat) (ns : Nat) (sh : Sh) (d : Dt), fJx4a65c_grow_92f84_b20 em mi x0 x1 x2 sz ns sh d = some (r, sz9, ns9, sh9, d9) → sz ≤ sz9 ∧ ns ≤ ns9 := by
  intro x0 x1 x2 sz ns sh d hf
  unfold fJx4a65c_grow_92f84_b20 at hf
  obtain ⟨r2, h1, hf⟩ := bd_s hf
  obtain ⟨v3, hv3, hf⟩ := bd_s hf
  obtain ⟨r5, szq6, nsq6, shq6, dq6, h4, hf⟩ := bw2_s hf
  have hq := gJ7_copyOf_1904c em mi v3 r2 sz ns sh d h4
  have hm := mJx4a65c_grow_92f84_b40 em mi x0 r5 szq6 nsq6 shq6 dq6 hf
  omega

set_option maxRecDepth 100000 in
set_option maxHeartbeats 4000000 in
theorem mJx4a65c_grow_92f84_b55 (em mi : Nat) {r : Option Nat} {sz9 ns9 : Nat} {sh9 : Sh} {d9 : Dt} : ∀ (t0 : Nat) (t1 : Nat) (sz : Nat) (ns : Nat) (sh : Sh) (d : Dt), fJx4a65c_grow_92f84_b55 em mi t0 t1 sz ns sh d = some (r, sz9, ns9, sh9, d9) → sz ≤ sz9 ∧ ns ≤ ns9 := by
  intro t0 t1 sz ns sh d hf
  unfold fJx4a65c_grow_92f84_b55 at hf
  obtain ⟨d1, hd1, hf⟩ := bd_s hf
  cases hf
  exact ⟨Nat.le_refl _, Nat.le_refl _⟩

set_option maxRecDepth 100000 in
set_option maxHeartbeats 4000000 in
theorem mJx4a65c_grow_92f84_b0 (em mi : Nat) {r : Option Nat} {sz9 ns9 : Nat} {sh9 : Sh} {d9 : Dt} : ∀ (x0 : Nat) (x1 : Int32) (sz : Nat) (ns : Nat) (sh : Sh) (d : Dt), fJx4a65c_grow_92f84_b0 em mi x0 x1 sz ns sh d = some (r, sz9, ns9, sh9, d9) → sz ≤ sz9 ∧ ns ≤ ns9 := by
  intro x0 x1 sz ns sh d hf
  unfold fJx4a65c_grow_92f84_b0 at hf
  obtain ⟨v1, hv1, hf⟩ := bd_s hf
  obtain ⟨a2, ea2, hg⟩ := bd_s hf
  clear hf
  subst ea2
  have hf := hg
  clear hg
  obtain ⟨v3, hv3, hf⟩ := bd_s hf
  by_cases c_4 : 0 < v3
  · have hf := if_t c_4 hf
    have hm := mJx4a65c_grow_92f84_b20 em mi x0 x1 v3 sz ns sh d hf
    omega
  · have hf := if_f c_4 hf
    obtain ⟨v5, hv5, hf⟩ := bd_s hf
    by_cases c_6 : v5 = (some em)
    · have hf := if_t c_6 hf
      obtain ⟨szq7, nsq7, shq7, dq7, hq7, hf⟩ := bw_s hf
      have hq := nwA_s hq7
      have hm := mJx4a65c_grow_92f84_b55 em mi x0 sz szq7 nsq7 shq7 dq7 hf
      omega
    · have hf := if_f c_6 hf
      have hm := mJx4a65c_grow_92f84_b20 em mi x0 x1 v3 sz ns sh d hf
      omega

theorem gJx4a65c_grow_92f84 (em mi : Nat) (x0 : Nat) (x1 : Int32) (sz ns : Nat) (sh : Sh) (d : Dt) {r : Option Nat} {sz9 ns9 : Nat} {sh9 : Sh} {d9 : Dt} (hf : fJx4a65c_grow_92f84 em mi x0 x1 sz ns sh d = some (r, sz9, ns9, sh9, d9)) : sz ≤ sz9 ∧ ns ≤ ns9 := mJx4a65c_grow_92f84_b0 em mi x0 x1 sz ns sh d hf

set_option maxRecDepth 100000 in
set_option maxHeartbeats 4000000 in
theorem wJx4a65c_grow_92f84_b40 (C : mx p s m args meth c yJx4a65c_grow_92f84 cJx4a65c_grow_92f84 4 (some (.array (.object "java/lang/Object"))) A D cy st) {r : Option Nat} {sz9 ns9 : Nat} {sh9 : Sh} {d9 : Dt} {mc ms : Nat} : ∀ (t0 : Nat) (t1 : Option Nat) (sz : Nat) (ns : Nat) (sh : Sh) (d : Dt), fJx4a65c_grow_92f84_b40 (st 1) (st 2) t0 t1 sz ns sh d = some (r, sz9, ns9, sh9, d9) → ∀ {cu su : Nat}, sz9 + cu = sz + mc → ns9 + su = ns + ms → ∀ {H : Heap} {locs : List Loc} {ls : Array Slot}, HW A D cy sz sh d H → va_S A s.heap H locs → lv_has ls 4 [] → GA p l e s m args below meth c 3 74 mc ms A D cy (some (va_rf r)) sz9 sh9 d9 H locs cu su 40 ls [va_rf t1, .ref t0] := by
  have hx := C.1
  have hb := C.2.1
  intro t0 t1 sz ns sh d hf cu su hcm hsm H locs ls hw hS hl
  have hm0 := mJx4a65c_grow_92f84_b40 (st 1) (st 2) t0 t1 sz ns sh d hf
  unfold fJx4a65c_grow_92f84_b40 at hf
  refine lv_dup_x1 hx hb dJx4a65c_grow_92f84_40 (va_rf_c _) rfl ?_
  obtain ⟨d1, hd1, hf⟩ := bd_s hf
  refine pt_33 C hw hS hd1 kw_44 dJx4a65c_grow_92f84_41 (fun H locs hw hS => ?_)
  cases hf
  obtain rfl : mc = cu := by omega
  obtain rfl : ms = su := by omega
  exact rt_aa C hw hS dJx4a65c_grow_92f84_44

set_option maxRecDepth 100000 in
set_option maxHeartbeats 4000000 in
theorem wJx4a65c_grow_92f84_b20 (C : mx p s m args meth c yJx4a65c_grow_92f84 cJx4a65c_grow_92f84 4 (some (.array (.object "java/lang/Object"))) A D cy st) {r : Option Nat} {sz9 ns9 : Nat} {sh9 : Sh} {d9 : Dt} {mc ms : Nat} : ∀ (x0 : Nat) (x1 : Int32) (x2 : Int32) (sz : Nat) (ns : Nat) (sh : Sh) (d : Dt), fJx4a65c_grow_92f84_b20 (st 1) (st 2) x0 x1 x2 sz ns sh d = some (r, sz9, ns9, sh9, d9) → ∀ {cu su : Nat}, sz9 + cu = sz + mc → ns9 + su = ns + ms → ∀ {H : Heap} {locs : List Loc} {ls : Array Slot}, HW A D cy sz sh d H → va_S A s.heap H locs → lv_has ls 4 [(0, .ref x0), (1, .int x1), (2, .int x2)] → GA p l e s m args below meth c 3 74 mc ms A D cy (some (va_rf r)) sz9 sh9 d9 H locs cu su 20 ls [] := by
  have hx := C.1
  have hb := C.2.1
  intro x0 x1 x2 sz ns sh d hf cu su hcm hsm H locs ls hw hS hl
  have hm0 := mJx4a65c_grow_92f84_b20 (st 1) (st 2) x0 x1 x2 sz ns sh d hf
  unfold fJx4a65c_grow_92f84_b20 at hf
  refine lv_iload_n hx hb dJx4a65c_grow_92f84_20 rfl (lv_at hl 2 rfl) ?_
  refine lv_iload_n hx hb dJx4a65c_grow_92f84_21 rfl (lv_at hl 1 rfl) ?_
  refine lv_iload_n hx hb dJx4a65c_grow_92f84_22 rfl (lv_at hl 2 rfl) ?_
  refine lv_isub hx hb dJx4a65c_grow_92f84_23 ?_
  refine lv_iload_n hx hb dJx4a65c_grow_92f84_24 rfl (lv_at hl 2 rfl) ?_
  refine lv_iconst (v := 1) hx hb dJx4a65c_grow_92f84_25 (by decide) ?_
  refine lv_ishr hx hb dJx4a65c_grow_92f84_26 ?_
  obtain ⟨r2, h1, hf⟩ := bd_s hf
  refine cl_S0 C hw hS (tJ8_newLength_cabcc l A D cy st sz sh d x2 (x1 - x2) (x2 >>> ((1 : Int32) &&& 31)) h1) csJ8_newLength_cabcc kw_349 ⟨(Nat.le_of_ble_eq_true rfl), (Nat.le_of_ble_eq_true rfl)⟩ hl.1 rfl (Nat.le_of_ble_eq_true rfl) dJx4a65c_grow_92f84_27 ⟨by show _ ≤ mc; omega, by show _ ≤ ms; omega⟩ (fun H locs hw hS => ?_)
  refine lv_istore_n (lv' := [(3, .int r2), (0, .ref x0), (1, .int x1), (2, .int x2)]) hx hb dJx4a65c_grow_92f84_30 rfl hl (by decide) rfl (fun ls hl => ?_)
  refine lv_aload_n hx hb dJx4a65c_grow_92f84_31 rfl (lv_at hl 1 rfl) ?_
  refine lv_aload_n hx hb dJx4a65c_grow_92f84_32 rfl (lv_at hl 1 rfl) ?_
  obtain ⟨v3, hv3, hf⟩ := bd_s hf
  refine gt_33 C hw hv3 kw_44 dJx4a65c_grow_92f84_33 ?_
  refine lv_iload_n hx hb dJx4a65c_grow_92f84_36 rfl (lv_at hl 0 rfl) ?_
  obtain ⟨r5, szq6, nsq6, shq6, dq6, h4, hf⟩ := bw2_s hf
  have hm := mJx4a65c_grow_92f84_b40 (st 1) (st 2) x0 r5 szq6 nsq6 shq6 dq6 hf
  have hq := gJ7_copyOf_1904c (st 1) (st 2) v3 r2 sz ns sh d h4
  refine cl_S C hw hS (tJ7_copyOf_1904c l A D cy st v3 r2 sz ns sh d h4) csJ7_copyOf_1904c kw_359 ⟨(Nat.le_of_ble_eq_true rfl), (Nat.le_of_ble_eq_true rfl)⟩ hl.1 rfl (Nat.le_of_ble_eq_true rfl) dJx4a65c_grow_92f84_37 ⟨by show _ ≤ mc; omega, by show _ ≤ ms; omega⟩ (fun H locs hw hS => ?_)
  exact wJx4a65c_grow_92f84_b40 C x0 r5 szq6 nsq6 shq6 dq6 hf (by omega) (by omega) hw hS (lv_sub hl [] rfl)

set_option maxRecDepth 100000 in
set_option maxHeartbeats 4000000 in
theorem wJx4a65c_grow_92f84_b55 (C : mx p s m args meth c yJx4a65c_grow_92f84 cJx4a65c_grow_92f84 4 (some (.array (.object "java/lang/Object"))) A D cy st) {r : Option Nat} {sz9 ns9 : Nat} {sh9 : Sh} {d9 : Dt} {mc ms : Nat} : ∀ (t0 : Nat) (t1 : Nat) (sz : Nat) (ns : Nat) (sh : Sh) (d : Dt), fJx4a65c_grow_92f84_b55 (st 1) (st 2) t0 t1 sz ns sh d = some (r, sz9, ns9, sh9, d9) → ∀ {cu su : Nat}, sz9 + cu = sz + mc → ns9 + su = ns + ms → ∀ {H : Heap} {locs : List Loc} {ls : Array Slot}, HW A D cy sz sh d H → va_S A s.heap H locs → lv_has ls 4 [] → GA p l e s m args below meth c 3 74 mc ms A D cy (some (va_rf r)) sz9 sh9 d9 H locs cu su 55 ls [.ref t1, .ref t0] := by
  have hx := C.1
  have hb := C.2.1
  intro t0 t1 sz ns sh d hf cu su hcm hsm H locs ls hw hS hl
  have hm0 := mJx4a65c_grow_92f84_b55 (st 1) (st 2) t0 t1 sz ns sh d hf
  unfold fJx4a65c_grow_92f84_b55 at hf
  refine lv_dup_x1 hx hb dJx4a65c_grow_92f84_55 rfl rfl ?_
  obtain ⟨d1, hd1, hf⟩ := bd_s hf
  refine pt_33 C hw hS hd1 kw_44 dJx4a65c_grow_92f84_56 (fun H locs hw hS => ?_)
  cases hf
  obtain rfl : mc = cu := by omega
  obtain rfl : ms = su := by omega
  exact rt_aa C hw hS dJx4a65c_grow_92f84_59

set_option maxRecDepth 100000 in
set_option maxHeartbeats 4000000 in
theorem wJx4a65c_grow_92f84_b0 (C : mx p s m args meth c yJx4a65c_grow_92f84 cJx4a65c_grow_92f84 4 (some (.array (.object "java/lang/Object"))) A D cy st) {r : Option Nat} {sz9 ns9 : Nat} {sh9 : Sh} {d9 : Dt} {mc ms : Nat} : ∀ (x0 : Nat) (x1 : Int32) (sz : Nat) (ns : Nat) (sh : Sh) (d : Dt), fJx4a65c_grow_92f84_b0 (st 1) (st 2) x0 x1 sz ns sh d = some (r, sz9, ns9, sh9, d9) → ∀ {cu su : Nat}, sz9 + cu = sz + mc → ns9 + su = ns + ms → ∀ {H : Heap} {locs : List Loc} {ls : Array Slot}, HW A D cy sz sh d H → va_S A s.heap H locs → lv_has ls 4 [(0, .ref x0), (1, .int x1)] → GA p l e s m args below meth c 3 74 mc ms A D cy (some (va_rf r)) sz9 sh9 d9 H locs cu su 0 ls [] := by
  have hx := C.1
  have hb := C.2.1
  intro x0 x1 sz ns sh d hf cu su hcm hsm H locs ls hw hS hl
  have hm0 := mJx4a65c_grow_92f84_b0 (st 1) (st 2) x0 x1 sz ns sh d hf
  unfold fJx4a65c_grow_92f84_b0 at hf
  refine lv_aload_n hx hb dJx4a65c_grow_92f84_0 rfl (lv_at hl 0 rfl) ?_
  obtain ⟨v1, hv1, hf⟩ := bd_s hf
  refine gt_33 C hw hv1 kw_44 dJx4a65c_grow_92f84_1 ?_
  obtain ⟨a2, ea2, hg⟩ := bd_s hf
  clear hf
  subst ea2
  have hf := hg
  clear hg
  obtain ⟨v3, hv3, hf⟩ := bd_s hf
  refine w_lnE C hw hS hv3 dJx4a65c_grow_92f84_4 ?_
  refine lv_istore_n (lv' := [(2, .int v3), (0, .ref x0), (1, .int x1)]) hx hb dJx4a65c_grow_92f84_5 rfl hl (by decide) rfl (fun ls hl => ?_)
  refine lv_iload_n hx hb dJx4a65c_grow_92f84_6 rfl (lv_at hl 0 rfl) ?_
  refine lv_if_gt (tgt := 20) hx hb dJx4a65c_grow_92f84_7 (by decide) (fun c_4 => ?_) (fun c_4 => ?_)
  · have hf := if_t c_4 hf
    exact wJx4a65c_grow_92f84_b20 C x0 x1 v3 sz ns sh d hf (by omega) (by omega) hw hS (lv_sub hl [1, 2, 0] rfl)
  · have hf := if_f c_4 hf
    refine lv_aload_n hx hb dJx4a65c_grow_92f84_10 rfl (lv_at hl 1 rfl) ?_
    obtain ⟨v5, hv5, hf⟩ := bd_s hf
    refine gt_33 C hw hv5 kw_44 dJx4a65c_grow_92f84_11 ?_
    refine va_gets hx hb C.2.2.2.2.2.2.2.1.2.2.2.2.2.2.2.1 hS C.2.2.2.2.2.1 (C.2.2.2.2.1 _ kw_42) (fun _ h => h) dJx4a65c_grow_92f84_14 ?_
    refine lv_acmp_eq (rx := v5) (ry := (some (st 1))) (tgt := 45) hx hb dJx4a65c_grow_92f84_17 (by decide) (fun c_6 => ?_) (fun c_6 => ?_)
    · have hf := if_t c_6 hf
      refine lv_aload_n hx hb dJx4a65c_grow_92f84_45 rfl (lv_at hl 1 rfl) ?_
      refine lv_bipush (v := 10) hx hb dJx4a65c_grow_92f84_46 (by decide) ?_
      refine lv_iload_n hx hb dJx4a65c_grow_92f84_48 rfl (lv_at hl 2 rfl) ?_
      refine va_mmax hx hb (C.2.2.2.1.trans hl.1.symm) C.2.2.2.2.2.1 (C.2.2.2.2.1 _ kw_387) (C.2.2.2.2.1 _ kw_353) (C.2.2.2.2.1 _ kw_13) (C.2.2.2.2.1 _ kw_354) (Nat.le_of_ble_eq_true rfl) (Nat.le_of_ble_eq_true rfl) (by show _ ≤ mc; omega) (by show _ ≤ ms; omega) dJx4a65c_grow_92f84_49 ?_
      obtain ⟨szq7, nsq7, shq7, dq7, hq7, hf⟩ := bw_s hf
      have hm := mJx4a65c_grow_92f84_b55 (st 1) (st 2) x0 sz szq7 nsq7 shq7 dq7 hf
      have hq := nwA_s hq7
      refine w_newq C hw hS 6 rfl (by decide) kw_388 C.2.2.2.2.2.2.2.1.2.2.1.2.2.2 rfl hq7 (by show _ ≤ mc; omega) (by show _ ≤ ms; omega) dJx4a65c_grow_92f84_52 (fun H hw hS => ?_)
      exact wJx4a65c_grow_92f84_b55 C x0 sz szq7 nsq7 shq7 dq7 hf (by omega) (by omega) hw hS (lv_sub hl [] rfl)
    · have hf := if_f c_6 hf
      exact wJx4a65c_grow_92f84_b20 C x0 x1 v3 sz ns sh d hf (by omega) (by omega) hw hS (lv_sub hl [1, 2, 0] rfl)

set_option maxRecDepth 100000 in
set_option maxHeartbeats 4000000 in
theorem tJx4a65c_grow_92f84 (l : Launch) (A : Nat → Prop) (D : va_G) (cy : Nat → ClassId) (st : Nat → Nat) (x0 : Nat) (x1 : Int32) (sz ns : Nat) (sh : Sh) (d : Dt) {r : Option Nat} {sz9 ns9 : Nat} {sh9 : Sh} {d9 : Dt} (hf : fJx4a65c_grow_92f84 (st 1) (st 2) x0 x1 sz ns sh d = some (r, sz9, ns9, sh9, d9)) : Ct l yJx4a65c_grow_92f84 cJx4a65c_grow_92f84 4 (some (.array (.object "java/lang/Object"))) 3 74 (sz9 - sz) (ns9 - ns) A D cy st [.ref x0, .int x1] sz sh d (some (va_rf r)) sz9 sh9 d9 := by
  have hm := gJx4a65c_grow_92f84 (st 1) (st 2) x0 x1 sz ns sh d hf
  exact ct_of (by decide) (Nat.le_of_ble_eq_true rfl) (fun p e s m args below meth c C hw hS ls hl => wJx4a65c_grow_92f84_b0 C x0 x1 sz ns sh d hf (by omega) (by omega) hw hS hl)
theorem dJx4a65c_grow_d5877_0 : decode cJx4a65c_grow_d5877 0 = .ok (.aload_n 0, 1) := by decide +kernel
theorem dJx4a65c_grow_d5877_1 : decode cJx4a65c_grow_d5877 1 = .ok (.aload_n 0, 1) := by decide +kernel
theorem dJx4a65c_grow_d5877_2 : decode cJx4a65c_grow_d5877 2 = .ok (.getfield 48, 3) := by decide +kernel
theorem dJx4a65c_grow_d5877_5 : decode cJx4a65c_grow_d5877 5 = .ok (.iconst 1, 1) := by decide +kernel
theorem dJx4a65c_grow_d5877_6 : decode cJx4a65c_grow_d5877 6 = .ok (.iadd, 1) := by decide +kernel
theorem dJx4a65c_grow_d5877_7 : decode cJx4a65c_grow_d5877 7 = .ok (.invokevirtual 69, 3) := by decide +kernel
theorem dJx4a65c_grow_d5877_10 : decode cJx4a65c_grow_d5877 10 = .ok (.areturn, 1) := by decide +kernel
theorem cvJx4a65c_grow_d5877 : CV yJx4a65c_grow_d5877 cJx4a65c_grow_d5877 1 (some (.array (.object "java/lang/Object"))) 0 0 := ⟨kw_343, ks_7, kw_4, kw_344, ⟨_, _, rfl⟩, by decide, by decide +kernel, by decide +kernel, by decide +kernel⟩
def fJx4a65c_grow_d5877_b10 (em mi : Nat) (t0 : Option Nat) (sz : Nat) (ns : Nat) (sh : Sh) (d : Dt) : Option (Option Nat × Wl) := some (t0, sz, ns, sh, d)

def fJx4a65c_grow_d5877_b0 (em mi : Nat) (x0 : Nat) (sz : Nat) (ns : Nat) (sh : Sh) (d : Dt) : Option (Option Nat × Wl) := bd (gI sh d 1 34 x0) fun v1 => bw2 (fJx4a65c_grow_92f84 em mi x0 (v1 + (1 : Int32)) sz ns sh d) fun r3 szq4 nsq4 shq4 dq4 => fJx4a65c_grow_d5877_b10 em mi r3 szq4 nsq4 shq4 dq4

def fJx4a65c_grow_d5877 (em mi : Nat) (x0 : Nat) (sz ns : Nat) (sh : Sh) (d : Dt) : Option (Option Nat × Wl) := fJx4a65c_grow_d5877_b0 em mi x0 sz ns sh d

set_option maxRecDepth 100000 in
set_option maxHeartbeats 4000000 in
theorem mJx4a65c_grow_d5877_b10 (em mi : Nat) {r : Option Nat} {sz9 ns9 : Nat} {sh9 : Sh} {d9 : Dt} : ∀ (t0 : Option Nat) (sz : Nat) (ns : Nat) (sh : Sh) (d : Dt), fJx4a65c_grow_d5877_b10 em mi t0 sz ns sh d = some (r, sz9, ns9, sh9, d9) → sz ≤ sz9 ∧ ns ≤ ns9 := by
  intro t0 sz ns sh d hf
  unfold fJx4a65c_grow_d5877_b10 at hf
  cases hf
  exact ⟨Nat.le_refl _, Nat.le_refl _⟩

set_option maxRecDepth 100000 in
set_option maxHeartbeats 4000000 in
theorem mJx4a65c_grow_d5877_b0 (em mi : Nat) {r : Option Nat} {sz9 ns9 : Nat} {sh9 : Sh} {d9 : Dt} : ∀ (x0 : Nat) (sz : Nat) (ns : Nat) (sh : Sh) (d : Dt), fJx4a65c_grow_d5877_b0 em mi x0 sz ns sh d = some (r, sz9, ns9, sh9, d9) → sz ≤ sz9 ∧ ns ≤ ns9 := by
  intro x0 sz ns sh d hf
  unfold fJx4a65c_grow_d5877_b0 at hf
  obtain ⟨v1, hv1, hf⟩ := bd_s hf
  obtain ⟨r3, szq4, nsq4, shq4, dq4, h2, hf⟩ := bw2_s hf
  have hq := gJx4a65c_grow_92f84 em mi x0 (v1 + (1 : Int32)) sz ns sh d h2
  have hm := mJx4a65c_grow_d5877_b10 em mi r3 szq4 nsq4 shq4 dq4 hf
  omega

theorem gJx4a65c_grow_d5877 (em mi : Nat) (x0 : Nat) (sz ns : Nat) (sh : Sh) (d : Dt) {r : Option Nat} {sz9 ns9 : Nat} {sh9 : Sh} {d9 : Dt} (hf : fJx4a65c_grow_d5877 em mi x0 sz ns sh d = some (r, sz9, ns9, sh9, d9)) : sz ≤ sz9 ∧ ns ≤ ns9 := mJx4a65c_grow_d5877_b0 em mi x0 sz ns sh d hf

set_option maxRecDepth 100000 in
set_option maxHeartbeats 4000000 in
theorem wJx4a65c_grow_d5877_b10 (C : mx p s m args meth c yJx4a65c_grow_d5877 cJx4a65c_grow_d5877 1 (some (.array (.object "java/lang/Object"))) A D cy st) {r : Option Nat} {sz9 ns9 : Nat} {sh9 : Sh} {d9 : Dt} {mc ms : Nat} : ∀ (t0 : Option Nat) (sz : Nat) (ns : Nat) (sh : Sh) (d : Dt), fJx4a65c_grow_d5877_b10 (st 1) (st 2) t0 sz ns sh d = some (r, sz9, ns9, sh9, d9) → ∀ {cu su : Nat}, sz9 + cu = sz + mc → ns9 + su = ns + ms → ∀ {H : Heap} {locs : List Loc} {ls : Array Slot}, HW A D cy sz sh d H → va_S A s.heap H locs → lv_has ls 1 [] → GA p l e s m args below meth c 4 97 mc ms A D cy (some (va_rf r)) sz9 sh9 d9 H locs cu su 10 ls [va_rf t0] := by
  have hx := C.1
  have hb := C.2.1
  intro t0 sz ns sh d hf cu su hcm hsm H locs ls hw hS hl
  have hm0 := mJx4a65c_grow_d5877_b10 (st 1) (st 2) t0 sz ns sh d hf
  unfold fJx4a65c_grow_d5877_b10 at hf
  cases hf
  obtain rfl : mc = cu := by omega
  obtain rfl : ms = su := by omega
  exact rt_aa C hw hS dJx4a65c_grow_d5877_10

set_option maxRecDepth 100000 in
set_option maxHeartbeats 4000000 in
theorem wJx4a65c_grow_d5877_b0 (C : mx p s m args meth c yJx4a65c_grow_d5877 cJx4a65c_grow_d5877 1 (some (.array (.object "java/lang/Object"))) A D cy st) {r : Option Nat} {sz9 ns9 : Nat} {sh9 : Sh} {d9 : Dt} {mc ms : Nat} : ∀ (x0 : Nat) (sz : Nat) (ns : Nat) (sh : Sh) (d : Dt), fJx4a65c_grow_d5877_b0 (st 1) (st 2) x0 sz ns sh d = some (r, sz9, ns9, sh9, d9) → ∀ {cu su : Nat}, sz9 + cu = sz + mc → ns9 + su = ns + ms → ∀ {H : Heap} {locs : List Loc} {ls : Array Slot}, HW A D cy sz sh d H → va_S A s.heap H locs → lv_has ls 1 [(0, .ref x0)] → GA p l e s m args below meth c 4 97 mc ms A D cy (some (va_rf r)) sz9 sh9 d9 H locs cu su 0 ls [] := by
  have hx := C.1
  have hb := C.2.1
  intro x0 sz ns sh d hf cu su hcm hsm H locs ls hw hS hl
  have hm0 := mJx4a65c_grow_d5877_b0 (st 1) (st 2) x0 sz ns sh d hf
  unfold fJx4a65c_grow_d5877_b0 at hf
  refine lv_aload_n hx hb dJx4a65c_grow_d5877_0 rfl (lv_at hl 0 rfl) ?_
  refine lv_aload_n hx hb dJx4a65c_grow_d5877_1 rfl (lv_at hl 0 rfl) ?_
  obtain ⟨v1, hv1, hf⟩ := bd_s hf
  refine gt_34 C hw hv1 kw_45 dJx4a65c_grow_d5877_2 ?_
  refine lv_iconst (v := 1) hx hb dJx4a65c_grow_d5877_5 (by decide) ?_
  refine lv_iadd hx hb dJx4a65c_grow_d5877_6 ?_
  obtain ⟨r3, szq4, nsq4, shq4, dq4, h2, hf⟩ := bw2_s hf
  have hm := mJx4a65c_grow_d5877_b10 (st 1) (st 2) r3 szq4 nsq4 shq4 dq4 hf
  have hq := gJx4a65c_grow_92f84 (st 1) (st 2) x0 (v1 + (1 : Int32)) sz ns sh d h2
  refine cl_V C hw hS (tJx4a65c_grow_92f84 l A D cy st x0 (v1 + (1 : Int32)) sz ns sh d h2) cvJx4a65c_grow_92f84 kw_345 (gI_s hv1).1 ⟨(Nat.le_of_ble_eq_true rfl), (Nat.le_of_ble_eq_true rfl)⟩ hl.1 rfl (Nat.le_of_ble_eq_true rfl) dJx4a65c_grow_d5877_7 ⟨by show _ ≤ mc; omega, by show _ ≤ ms; omega⟩ (fun H locs hw hS => ?_)
  exact wJx4a65c_grow_d5877_b10 C r3 szq4 nsq4 shq4 dq4 hf (by omega) (by omega) hw hS (lv_sub hl [] rfl)

set_option maxRecDepth 100000 in
set_option maxHeartbeats 4000000 in
theorem tJx4a65c_grow_d5877 (l : Launch) (A : Nat → Prop) (D : va_G) (cy : Nat → ClassId) (st : Nat → Nat) (x0 : Nat) (sz ns : Nat) (sh : Sh) (d : Dt) {r : Option Nat} {sz9 ns9 : Nat} {sh9 : Sh} {d9 : Dt} (hf : fJx4a65c_grow_d5877 (st 1) (st 2) x0 sz ns sh d = some (r, sz9, ns9, sh9, d9)) : Ct l yJx4a65c_grow_d5877 cJx4a65c_grow_d5877 1 (some (.array (.object "java/lang/Object"))) 4 97 (sz9 - sz) (ns9 - ns) A D cy st [.ref x0] sz sh d (some (va_rf r)) sz9 sh9 d9 := by
  have hm := gJx4a65c_grow_d5877 (st 1) (st 2) x0 sz ns sh d hf
  exact ct_of (by decide) (Nat.le_of_ble_eq_true rfl) (fun p e s m args below meth c C hw hS ls hl => wJx4a65c_grow_d5877_b0 C x0 sz ns sh d hf (by omega) (by omega) hw hS hl)
theorem dJx4a65c_add_72be8_0 : decode cJx4a65c_add_72be8 0 = .ok (.iload_n 3, 1) := by decide +kernel
theorem dJx4a65c_add_72be8_1 : decode cJx4a65c_add_72be8 1 = .ok (.aload_n 2, 1) := by decide +kernel
theorem dJx4a65c_add_72be8_2 : decode cJx4a65c_add_72be8 2 = .ok (.arraylength, 1) := by decide +kernel
theorem dJx4a65c_add_72be8_3 : decode cJx4a65c_add_72be8 3 = .ok (.if_icmp .ne 8, 3) := by decide +kernel
theorem dJx4a65c_add_72be8_6 : decode cJx4a65c_add_72be8 6 = .ok (.aload_n 0, 1) := by decide +kernel
theorem dJx4a65c_add_72be8_7 : decode cJx4a65c_add_72be8 7 = .ok (.invokevirtual 129, 3) := by decide +kernel
theorem dJx4a65c_add_72be8_10 : decode cJx4a65c_add_72be8 10 = .ok (.astore_n 2, 1) := by decide +kernel
theorem dJx4a65c_add_72be8_11 : decode cJx4a65c_add_72be8 11 = .ok (.aload_n 2, 1) := by decide +kernel
theorem dJx4a65c_add_72be8_12 : decode cJx4a65c_add_72be8 12 = .ok (.iload_n 3, 1) := by decide +kernel
theorem dJx4a65c_add_72be8_13 : decode cJx4a65c_add_72be8 13 = .ok (.aload_n 1, 1) := by decide +kernel
theorem dJx4a65c_add_72be8_14 : decode cJx4a65c_add_72be8 14 = .ok (.aastore, 1) := by decide +kernel
theorem dJx4a65c_add_72be8_15 : decode cJx4a65c_add_72be8 15 = .ok (.aload_n 0, 1) := by decide +kernel
theorem dJx4a65c_add_72be8_16 : decode cJx4a65c_add_72be8 16 = .ok (.iload_n 3, 1) := by decide +kernel
theorem dJx4a65c_add_72be8_17 : decode cJx4a65c_add_72be8 17 = .ok (.iconst 1, 1) := by decide +kernel
theorem dJx4a65c_add_72be8_18 : decode cJx4a65c_add_72be8 18 = .ok (.iadd, 1) := by decide +kernel
theorem dJx4a65c_add_72be8_19 : decode cJx4a65c_add_72be8 19 = .ok (.putfield 48, 3) := by decide +kernel
theorem dJx4a65c_add_72be8_22 : decode cJx4a65c_add_72be8 22 = .ok (.return_, 1) := by decide +kernel
theorem cvJx4a65c_add_72be8 : CV yJx4a65c_add_72be8 cJx4a65c_add_72be8 4 none 0 3 := ⟨kw_339, ks_6, kw_4, kw_340, ⟨_, _, rfl⟩, by decide, by decide +kernel, by decide +kernel, by decide +kernel⟩
def fJx4a65c_add_72be8_b11 (em mi : Nat) (x0 : Nat) (x1 : Option Nat) (x2 : Option Nat) (x3 : Int32) (sz : Nat) (ns : Nat) (sh : Sh) (d : Dt) : Option (Wl) := bd x2 fun a1 => bd (cst sh 2 x1) fun _ => bd (sR sh d 26 a1 x3 x1) fun d2 => bd (pI sh d2 1 34 x0 (x3 + (1 : Int32))) fun d3 => some (sz, ns, sh, d3)

def fJx4a65c_add_72be8_b10 (em mi : Nat) (x0 : Nat) (x1 : Option Nat) (x3 : Int32) (t0 : Option Nat) (sz : Nat) (ns : Nat) (sh : Sh) (d : Dt) : Option (Wl) := fJx4a65c_add_72be8_b11 em mi x0 x1 t0 x3 sz ns sh d

def fJx4a65c_add_72be8_b0 (em mi : Nat) (x0 : Nat) (x1 : Option Nat) (x2 : Option Nat) (x3 : Int32) (sz : Nat) (ns : Nat) (sh : Sh) (d : Dt) : Option (Wl) := bd x2 fun a1 => bd (lnE sh em a1) fun v2 => if x3 = v2 then (bd (kc sh 1 x0) fun _ => bw2 (fJx4a65c_grow_d5877 em mi x0 sz ns sh d) fun r6 szq7 nsq7 shq7 dq7 => fJx4a65c_add_72be8_b10 em mi x0 x1 x3 r6 szq7 nsq7 shq7 dq7) else (fJx4a65c_add_72be8_b11 em mi x0 x1 (some a1) x3 sz ns sh d)

def fJx4a65c_add_72be8 (em mi : Nat) (x0 : Nat) (x1 : Option Nat) (x2 : Option Nat) (x3 : Int32) (sz ns : Nat) (sh : Sh) (d : Dt) : Option (Wl) := fJx4a65c_add_72be8_b0 em mi x0 x1 x2 x3 sz ns sh d

set_option maxRecDepth 100000 in
set_option maxHeartbeats 4000000 in
theorem mJx4a65c_add_72be8_b11 (em mi : Nat) {sz9 ns9 : Nat} {sh9 : Sh} {d9 : Dt} : ∀ (x0 : Nat) (x1 : Option Nat) (x2 : Option Nat) (x3 : Int32) (sz : Nat) (ns : Nat) (sh : Sh) (d : Dt), fJx4a65c_add_72be8_b11 em mi x0 x1 x2 x3 sz ns sh d = some (sz9, ns9, sh9, d9) → sz ≤ sz9 ∧ ns ≤ ns9 := by
  intro x0 x1 x2 x3 sz ns sh d hf
  unfold fJx4a65c_add_72be8_b11 at hf
  obtain ⟨a1, ea1, hg⟩ := bd_s hf
  clear hf
  subst ea1
  have hf := hg
  clear hg
  obtain ⟨ud2, hud2, hf⟩ := bd_s hf
  obtain ⟨d2, hd2, hf⟩ := bd_s hf
  obtain ⟨d3, hd3, hf⟩ := bd_s hf
  cases hf
  exact ⟨Nat.le_refl _, Nat.le_refl _⟩

set_option maxRecDepth 100000 in
set_option maxHeartbeats 4000000 in
theorem mJx4a65c_add_72be8_b10 (em mi : Nat) {sz9 ns9 : Nat} {sh9 : Sh} {d9 : Dt} : ∀ (x0 : Nat) (x1 : Option Nat) (x3 : Int32) (t0 : Option Nat) (sz : Nat) (ns : Nat) (sh : Sh) (d : Dt), fJx4a65c_add_72be8_b10 em mi x0 x1 x3 t0 sz ns sh d = some (sz9, ns9, sh9, d9) → sz ≤ sz9 ∧ ns ≤ ns9 := by
  intro x0 x1 x3 t0 sz ns sh d hf
  unfold fJx4a65c_add_72be8_b10 at hf
  have hm := mJx4a65c_add_72be8_b11 em mi x0 x1 t0 x3 sz ns sh d hf
  omega

set_option maxRecDepth 100000 in
set_option maxHeartbeats 4000000 in
theorem mJx4a65c_add_72be8_b0 (em mi : Nat) {sz9 ns9 : Nat} {sh9 : Sh} {d9 : Dt} : ∀ (x0 : Nat) (x1 : Option Nat) (x2 : Option Nat) (x3 : Int32) (sz : Nat) (ns : Nat) (sh : Sh) (d : Dt), fJx4a65c_add_72be8_b0 em mi x0 x1 x2 x3 sz ns sh d = some (sz9, ns9, sh9, d9) → sz ≤ sz9 ∧ ns ≤ ns9 := by
  intro x0 x1 x2 x3 sz ns sh d hf
  unfold fJx4a65c_add_72be8_b0 at hf
  obtain ⟨a1, ea1, hg⟩ := bd_s hf
  clear hf
  subst ea1
  have hf := hg
  clear hg
  obtain ⟨v2, hv2, hf⟩ := bd_s hf
  by_cases c_3 : x3 = v2
  · have hf := if_t c_3 hf
    obtain ⟨_, h4, hf⟩ := bd_s hf
    obtain ⟨r6, szq7, nsq7, shq7, dq7, h5, hf⟩ := bw2_s hf
    have hq := gJx4a65c_grow_d5877 em mi x0 sz ns sh d h5
    have hm := mJx4a65c_add_72be8_b10 em mi x0 x1 x3 r6 szq7 nsq7 shq7 dq7 hf
    omega
  · have hf := if_f c_3 hf
    have hm := mJx4a65c_add_72be8_b11 em mi x0 x1 (some a1) x3 sz ns sh d hf
    omega

theorem gJx4a65c_add_72be8 (em mi : Nat) (x0 : Nat) (x1 : Option Nat) (x2 : Option Nat) (x3 : Int32) (sz ns : Nat) (sh : Sh) (d : Dt) {sz9 ns9 : Nat} {sh9 : Sh} {d9 : Dt} (hf : fJx4a65c_add_72be8 em mi x0 x1 x2 x3 sz ns sh d = some (sz9, ns9, sh9, d9)) : sz ≤ sz9 ∧ ns ≤ ns9 := mJx4a65c_add_72be8_b0 em mi x0 x1 x2 x3 sz ns sh d hf

set_option maxRecDepth 100000 in
set_option maxHeartbeats 4000000 in
theorem wJx4a65c_add_72be8_b11 (C : mx p s m args meth c yJx4a65c_add_72be8 cJx4a65c_add_72be8 4 none A D cy st) {sz9 ns9 : Nat} {sh9 : Sh} {d9 : Dt} {mc ms : Nat} : ∀ (x0 : Nat) (x1 : Option Nat) (x2 : Option Nat) (x3 : Int32) (sz : Nat) (ns : Nat) (sh : Sh) (d : Dt), fJx4a65c_add_72be8_b11 (st 1) (st 2) x0 x1 x2 x3 sz ns sh d = some (sz9, ns9, sh9, d9) → ∀ {cu su : Nat}, sz9 + cu = sz + mc → ns9 + su = ns + ms → ∀ {H : Heap} {locs : List Loc} {ls : Array Slot}, HW A D cy sz sh d H → va_S A s.heap H locs → lv_has ls 4 [(0, .ref x0), (1, va_rf x1), (2, va_rf x2), (3, .int x3)] → GA p l e s m args below meth c 5 117 mc ms A D cy none sz9 sh9 d9 H locs cu su 11 ls [] := by
  have hx := C.1
  have hb := C.2.1
  intro x0 x1 x2 x3 sz ns sh d hf cu su hcm hsm H locs ls hw hS hl
  have hm0 := mJx4a65c_add_72be8_b11 (st 1) (st 2) x0 x1 x2 x3 sz ns sh d hf
  unfold fJx4a65c_add_72be8_b11 at hf
  refine lq_aload_n hx hb dJx4a65c_add_72be8_11 rfl (lv_at hl 2 rfl) ?_
  refine lv_iload_n hx hb dJx4a65c_add_72be8_12 rfl (lv_at hl 3 rfl) ?_
  refine lq_aload_n hx hb dJx4a65c_add_72be8_13 rfl (lv_at hl 1 rfl) ?_
  obtain ⟨a1, ea1, hg⟩ := bd_s hf
  clear hf
  subst ea1
  have hf := hg
  clear hg
  obtain ⟨ud2, hud2, hf⟩ := bd_s hf
  obtain ⟨d2, hd2, hf⟩ := bd_s hf
  refine w_aast (ci := 1) (v := x1) C hw hS 6 rfl (by decide) rfl rfl (by decide) hud2 (fun a b h1 h2 => vb_asgC (C := "ManyHands$Entry") (C.2.2.2.2.2.2.2.1.2.1 _ (by decide +kernel)) a b h1 h2) hd2 dJx4a65c_add_72be8_14 (fun H locs hw hS => ?_)
  refine lv_aload_n hx hb dJx4a65c_add_72be8_15 rfl (lv_at hl 0 rfl) ?_
  refine lv_iload_n hx hb dJx4a65c_add_72be8_16 rfl (lv_at hl 3 rfl) ?_
  refine lv_iconst (v := 1) hx hb dJx4a65c_add_72be8_17 (by decide) ?_
  refine lv_iadd hx hb dJx4a65c_add_72be8_18 ?_
  obtain ⟨d3, hd3, hf⟩ := bd_s hf
  refine pt_34 C hw hS hd3 kw_45 dJx4a65c_add_72be8_19 (fun H locs hw hS => ?_)
  cases hf
  obtain rfl : mc = cu := by omega
  obtain rfl : ms = su := by omega
  exact rt_v C hw hS dJx4a65c_add_72be8_22

set_option maxRecDepth 100000 in
set_option maxHeartbeats 4000000 in
theorem wJx4a65c_add_72be8_b10 (C : mx p s m args meth c yJx4a65c_add_72be8 cJx4a65c_add_72be8 4 none A D cy st) {sz9 ns9 : Nat} {sh9 : Sh} {d9 : Dt} {mc ms : Nat} : ∀ (x0 : Nat) (x1 : Option Nat) (x3 : Int32) (t0 : Option Nat) (sz : Nat) (ns : Nat) (sh : Sh) (d : Dt), fJx4a65c_add_72be8_b10 (st 1) (st 2) x0 x1 x3 t0 sz ns sh d = some (sz9, ns9, sh9, d9) → ∀ {cu su : Nat}, sz9 + cu = sz + mc → ns9 + su = ns + ms → ∀ {H : Heap} {locs : List Loc} {ls : Array Slot}, HW A D cy sz sh d H → va_S A s.heap H locs → lv_has ls 4 [(0, .ref x0), (1, va_rf x1), (3, .int x3)] → GA p l e s m args below meth c 5 117 mc ms A D cy none sz9 sh9 d9 H locs cu su 10 ls [va_rf t0] := by
  have hx := C.1
  have hb := C.2.1
  intro x0 x1 x3 t0 sz ns sh d hf cu su hcm hsm H locs ls hw hS hl
  have hm0 := mJx4a65c_add_72be8_b10 (st 1) (st 2) x0 x1 x3 t0 sz ns sh d hf
  unfold fJx4a65c_add_72be8_b10 at hf
  refine lq_astore_n (i := 2) (x := t0) (lv' := [(2, va_rf t0), (0, .ref x0), (1, va_rf x1), (3, .int x3)]) hx hb dJx4a65c_add_72be8_10 rfl hl (by decide) (by simp [va_rf_c, cat_i, cat_l, cat_r]) (fun ls hl => ?_)
  exact wJx4a65c_add_72be8_b11 C x0 x1 t0 x3 sz ns sh d hf (by omega) (by omega) hw hS (lv_sub hl [1, 2, 0, 3] rfl)

set_option maxRecDepth 100000 in
set_option maxHeartbeats 4000000 in
theorem wJx4a65c_add_72be8_b0 (C : mx p s m args meth c yJx4a65c_add_72be8 cJx4a65c_add_72be8 4 none A D cy st) {sz9 ns9 : Nat} {sh9 : Sh} {d9 : Dt} {mc ms : Nat} : ∀ (x0 : Nat) (x1 : Option Nat) (x2 : Option Nat) (x3 : Int32) (sz : Nat) (ns : Nat) (sh : Sh) (d : Dt), fJx4a65c_add_72be8_b0 (st 1) (st 2) x0 x1 x2 x3 sz ns sh d = some (sz9, ns9, sh9, d9) → ∀ {cu su : Nat}, sz9 + cu = sz + mc → ns9 + su = ns + ms → ∀ {H : Heap} {locs : List Loc} {ls : Array Slot}, HW A D cy sz sh d H → va_S A s.heap H locs → lv_has ls 4 [(0, .ref x0), (1, va_rf x1), (2, va_rf x2), (3, .int x3)] → GA p l e s m args below meth c 5 117 mc ms A D cy none sz9 sh9 d9 H locs cu su 0 ls [] := by
  have hx := C.1
  have hb := C.2.1
  intro x0 x1 x2 x3 sz ns sh d hf cu su hcm hsm H locs ls hw hS hl
  have hm0 := mJx4a65c_add_72be8_b0 (st 1) (st 2) x0 x1 x2 x3 sz ns sh d hf
  unfold fJx4a65c_add_72be8_b0 at hf
  refine lv_iload_n hx hb dJx4a65c_add_72be8_0 rfl (lv_at hl 3 rfl) ?_
  refine lq_aload_n hx hb dJx4a65c_add_72be8_1 rfl (lv_at hl 2 rfl) ?_
  obtain ⟨a1, ea1, hg⟩ := bd_s hf
  clear hf
  subst ea1
  have hf := hg
  clear hg
  obtain ⟨v2, hv2, hf⟩ := bd_s hf
  refine w_lnE C hw hS hv2 dJx4a65c_add_72be8_2 ?_
  refine lv_icmp_ne (tgt := 11) hx hb dJx4a65c_add_72be8_3 (by decide) (fun c_3 => ?_) (fun c_3 => ?_)
  · have hf := if_f c_3 hf
    exact wJx4a65c_add_72be8_b11 C x0 x1 (some a1) x3 sz ns sh d hf (by omega) (by omega) hw hS (lv_sub hl [0, 1, 2, 3] rfl)
  · have hf := if_t c_3 hf
    refine lv_aload_n hx hb dJx4a65c_add_72be8_6 rfl (lv_at hl 0 rfl) ?_
    obtain ⟨_, h4, hf⟩ := bd_s hf
    obtain ⟨r6, szq7, nsq7, shq7, dq7, h5, hf⟩ := bw2_s hf
    have hm := mJx4a65c_add_72be8_b10 (st 1) (st 2) x0 x1 x3 r6 szq7 nsq7 shq7 dq7 hf
    have hq := gJx4a65c_grow_d5877 (st 1) (st 2) x0 sz ns sh d h5
    refine cl_V C hw hS (tJx4a65c_grow_d5877 l A D cy st x0 sz ns sh d h5) cvJx4a65c_grow_d5877 kw_341 (kc_k h4) ⟨(Nat.le_of_ble_eq_true rfl), (Nat.le_of_ble_eq_true rfl)⟩ hl.1 rfl (Nat.le_of_ble_eq_true rfl) dJx4a65c_add_72be8_7 ⟨by show _ ≤ mc; omega, by show _ ≤ ms; omega⟩ (fun H locs hw hS => ?_)
    exact wJx4a65c_add_72be8_b10 C x0 x1 x3 r6 szq7 nsq7 shq7 dq7 hf (by omega) (by omega) hw hS (lv_sub hl [0, 1, 3] rfl)

set_option maxRecDepth 100000 in
set_option maxHeartbeats 4000000 in
theorem tJx4a65c_add_72be8 (l : Launch) (A : Nat → Prop) (D : va_G) (cy : Nat → ClassId) (st : Nat → Nat) (x0 : Nat) (x1 : Option Nat) (x2 : Option Nat) (x3 : Int32) (sz ns : Nat) (sh : Sh) (d : Dt) {sz9 ns9 : Nat} {sh9 : Sh} {d9 : Dt} (hf : fJx4a65c_add_72be8 (st 1) (st 2) x0 x1 x2 x3 sz ns sh d = some (sz9, ns9, sh9, d9)) : Ct l yJx4a65c_add_72be8 cJx4a65c_add_72be8 4 none 5 117 (sz9 - sz) (ns9 - ns) A D cy st [.ref x0, va_rf x1, va_rf x2, .int x3] sz sh d none sz9 sh9 d9 := by
  have hm := gJx4a65c_add_72be8 (st 1) (st 2) x0 x1 x2 x3 sz ns sh d hf
  exact ct_of (by decide) (by simp [lg_sl, va_rf_c, cat_i, cat_l, cat_r]) (fun p e s m args below meth c C hw hS ls hl => wJx4a65c_add_72be8_b0 C x0 x1 x2 x3 sz ns sh d hf (by omega) (by omega) hw hS (by simpa [lv_args, va_rf_c, cat_i, cat_l, cat_r] using hl))
theorem dJx4a65c_add_9ea2d_0 : decode cJx4a65c_add_9ea2d 0 = .ok (.aload_n 0, 1) := by decide +kernel
theorem dJx4a65c_add_9ea2d_1 : decode cJx4a65c_add_9ea2d 1 = .ok (.dup, 1) := by decide +kernel
theorem dJx4a65c_add_9ea2d_2 : decode cJx4a65c_add_9ea2d 2 = .ok (.getfield 63, 3) := by decide +kernel
theorem dJx4a65c_add_9ea2d_5 : decode cJx4a65c_add_9ea2d 5 = .ok (.iconst 1, 1) := by decide +kernel
theorem dJx4a65c_add_9ea2d_6 : decode cJx4a65c_add_9ea2d 6 = .ok (.iadd, 1) := by decide +kernel
theorem dJx4a65c_add_9ea2d_7 : decode cJx4a65c_add_9ea2d 7 = .ok (.putfield 63, 3) := by decide +kernel
theorem dJx4a65c_add_9ea2d_10 : decode cJx4a65c_add_9ea2d 10 = .ok (.aload_n 0, 1) := by decide +kernel
theorem dJx4a65c_add_9ea2d_11 : decode cJx4a65c_add_9ea2d 11 = .ok (.aload_n 1, 1) := by decide +kernel
theorem dJx4a65c_add_9ea2d_12 : decode cJx4a65c_add_9ea2d 12 = .ok (.aload_n 0, 1) := by decide +kernel
theorem dJx4a65c_add_9ea2d_13 : decode cJx4a65c_add_9ea2d 13 = .ok (.getfield 9, 3) := by decide +kernel
theorem dJx4a65c_add_9ea2d_16 : decode cJx4a65c_add_9ea2d 16 = .ok (.aload_n 0, 1) := by decide +kernel
theorem dJx4a65c_add_9ea2d_17 : decode cJx4a65c_add_9ea2d 17 = .ok (.getfield 48, 3) := by decide +kernel
theorem dJx4a65c_add_9ea2d_20 : decode cJx4a65c_add_9ea2d 20 = .ok (.invokevirtual 131, 3) := by decide +kernel
theorem dJx4a65c_add_9ea2d_23 : decode cJx4a65c_add_9ea2d 23 = .ok (.iconst 1, 1) := by decide +kernel
theorem dJx4a65c_add_9ea2d_24 : decode cJx4a65c_add_9ea2d 24 = .ok (.ireturn, 1) := by decide +kernel
theorem cvJx4a65c_add_9ea2d : CV yJx4a65c_add_9ea2d cJx4a65c_add_9ea2d 2 (some .boolean) 0 1 := ⟨kw_334, kw_335, kw_4, kw_336, ⟨_, _, rfl⟩, by decide, by decide +kernel, by decide +kernel, by decide +kernel⟩
def fJx4a65c_add_9ea2d_b23 (em mi : Nat) (sz : Nat) (ns : Nat) (sh : Sh) (d : Dt) : Option (Bool × Wl) := some (true, sz, ns, sh, d)

def fJx4a65c_add_9ea2d_b0 (em mi : Nat) (x0 : Nat) (x1 : Option Nat) (sz : Nat) (ns : Nat) (sh : Sh) (d : Dt) : Option (Bool × Wl) := bd (gI sh d 1 32 x0) fun v1 => bd (pI sh d 1 32 x0 (v1 + (1 : Int32))) fun d2 => bd (gR sh d2 1 33 x0) fun v3 => bd (gI sh d2 1 34 x0) fun v4 => bw (fJx4a65c_add_72be8 em mi x0 x1 v3 v4 sz ns sh d2) fun szq7 nsq7 shq7 dq7 => fJx4a65c_add_9ea2d_b23 em mi szq7 nsq7 shq7 dq7

def fJx4a65c_add_9ea2d (em mi : Nat) (x0 : Nat) (x1 : Option Nat) (sz ns : Nat) (sh : Sh) (d : Dt) : Option (Bool × Wl) := fJx4a65c_add_9ea2d_b0 em mi x0 x1 sz ns sh d

set_option maxRecDepth 100000 in
set_option maxHeartbeats 4000000 in
theorem mJx4a65c_add_9ea2d_b23 (em mi : Nat) {r : Bool} {sz9 ns9 : Nat} {sh9 : Sh} {d9 : Dt} : ∀ (sz : Nat) (ns : Nat) (sh : Sh) (d : Dt), fJx4a65c_add_9ea2d_b23 em mi sz ns sh d = some (r, sz9, ns9, sh9, d9) → sz ≤ sz9 ∧ ns ≤ ns9 := by
  intro sz ns sh d hf
  unfold fJx4a65c_add_9ea2d_b23 at hf
  cases hf
  exact ⟨Nat.le_refl _, Nat.le_refl _⟩

set_option maxRecDepth 100000 in
set_option maxHeartbeats 4000000 in
theorem mJx4a65c_add_9ea2d_b0 (em mi : Nat) {r : Bool} {sz9 ns9 : Nat} {sh9 : Sh} {d9 : Dt} : ∀ (x0 : Nat) (x1 : Option Nat) (sz : Nat) (ns : Nat) (sh : Sh) (d : Dt), fJx4a65c_add_9ea2d_b0 em mi x0 x1 sz ns sh d = some (r, sz9, ns9, sh9, d9) → sz ≤ sz9 ∧ ns ≤ ns9 := by
  intro x0 x1 sz ns sh d hf
  unfold fJx4a65c_add_9ea2d_b0 at hf
  obtain ⟨v1, hv1, hf⟩ := bd_s hf
  obtain ⟨d2, hd2, hf⟩ := bd_s hf
  obtain ⟨v3, hv3, hf⟩ := bd_s hf
  obtain ⟨v4, hv4, hf⟩ := bd_s hf
  obtain ⟨szq7, nsq7, shq7, dq7, h5, hf⟩ := bw_s hf
  have hq := gJx4a65c_add_72be8 em mi x0 x1 v3 v4 sz ns sh d2 h5
  have hm := mJx4a65c_add_9ea2d_b23 em mi szq7 nsq7 shq7 dq7 hf
  omega

theorem gJx4a65c_add_9ea2d (em mi : Nat) (x0 : Nat) (x1 : Option Nat) (sz ns : Nat) (sh : Sh) (d : Dt) {r : Bool} {sz9 ns9 : Nat} {sh9 : Sh} {d9 : Dt} (hf : fJx4a65c_add_9ea2d em mi x0 x1 sz ns sh d = some (r, sz9, ns9, sh9, d9)) : sz ≤ sz9 ∧ ns ≤ ns9 := mJx4a65c_add_9ea2d_b0 em mi x0 x1 sz ns sh d hf

set_option maxRecDepth 100000 in
set_option maxHeartbeats 4000000 in
theorem wJx4a65c_add_9ea2d_b23 (C : mx p s m args meth c yJx4a65c_add_9ea2d cJx4a65c_add_9ea2d 2 (some .boolean) A D cy st) {r : Bool} {sz9 ns9 : Nat} {sh9 : Sh} {d9 : Dt} {mc ms : Nat} : ∀ (sz : Nat) (ns : Nat) (sh : Sh) (d : Dt), fJx4a65c_add_9ea2d_b23 (st 1) (st 2) sz ns sh d = some (r, sz9, ns9, sh9, d9) → ∀ {cu su : Nat}, sz9 + cu = sz + mc → ns9 + su = ns + ms → ∀ {H : Heap} {locs : List Loc} {ls : Array Slot}, HW A D cy sz sh d H → va_S A s.heap H locs → lv_has ls 2 [] → GA p l e s m args below meth c 6 140 mc ms A D cy (some (.int (bI r))) sz9 sh9 d9 H locs cu su 23 ls [] := by
  have hx := C.1
  have hb := C.2.1
  intro sz ns sh d hf cu su hcm hsm H locs ls hw hS hl
  have hm0 := mJx4a65c_add_9ea2d_b23 (st 1) (st 2) sz ns sh d hf
  unfold fJx4a65c_add_9ea2d_b23 at hf
  refine lv_iconst (v := 1) hx hb dJx4a65c_add_9ea2d_23 (by decide) ?_
  cases hf
  obtain rfl : mc = cu := by omega
  obtain rfl : ms = su := by omega
  exact rt_z C hw hS _ rfl dJx4a65c_add_9ea2d_24

set_option maxRecDepth 100000 in
set_option maxHeartbeats 4000000 in
theorem wJx4a65c_add_9ea2d_b0 (C : mx p s m args meth c yJx4a65c_add_9ea2d cJx4a65c_add_9ea2d 2 (some .boolean) A D cy st) {r : Bool} {sz9 ns9 : Nat} {sh9 : Sh} {d9 : Dt} {mc ms : Nat} : ∀ (x0 : Nat) (x1 : Option Nat) (sz : Nat) (ns : Nat) (sh : Sh) (d : Dt), fJx4a65c_add_9ea2d_b0 (st 1) (st 2) x0 x1 sz ns sh d = some (r, sz9, ns9, sh9, d9) → ∀ {cu su : Nat}, sz9 + cu = sz + mc → ns9 + su = ns + ms → ∀ {H : Heap} {locs : List Loc} {ls : Array Slot}, HW A D cy sz sh d H → va_S A s.heap H locs → lv_has ls 2 [(0, .ref x0), (1, va_rf x1)] → GA p l e s m args below meth c 6 140 mc ms A D cy (some (.int (bI r))) sz9 sh9 d9 H locs cu su 0 ls [] := by
  have hx := C.1
  have hb := C.2.1
  intro x0 x1 sz ns sh d hf cu su hcm hsm H locs ls hw hS hl
  have hm0 := mJx4a65c_add_9ea2d_b0 (st 1) (st 2) x0 x1 sz ns sh d hf
  unfold fJx4a65c_add_9ea2d_b0 at hf
  refine lv_aload_n hx hb dJx4a65c_add_9ea2d_0 rfl (lv_at hl 0 rfl) ?_
  refine lv_dup hx hb dJx4a65c_add_9ea2d_1 rfl ?_
  obtain ⟨v1, hv1, hf⟩ := bd_s hf
  refine gt_32 C hw hv1 kw_47 dJx4a65c_add_9ea2d_2 ?_
  refine lv_iconst (v := 1) hx hb dJx4a65c_add_9ea2d_5 (by decide) ?_
  refine lv_iadd hx hb dJx4a65c_add_9ea2d_6 ?_
  obtain ⟨d2, hd2, hf⟩ := bd_s hf
  refine pt_32 C hw hS hd2 kw_47 dJx4a65c_add_9ea2d_7 (fun H locs hw hS => ?_)
  refine lv_aload_n hx hb dJx4a65c_add_9ea2d_10 rfl (lv_at hl 0 rfl) ?_
  refine lq_aload_n hx hb dJx4a65c_add_9ea2d_11 rfl (lv_at hl 1 rfl) ?_
  refine lv_aload_n hx hb dJx4a65c_add_9ea2d_12 rfl (lv_at hl 0 rfl) ?_
  obtain ⟨v3, hv3, hf⟩ := bd_s hf
  refine gt_33 C hw hv3 kw_44 dJx4a65c_add_9ea2d_13 ?_
  refine lv_aload_n hx hb dJx4a65c_add_9ea2d_16 rfl (lv_at hl 0 rfl) ?_
  obtain ⟨v4, hv4, hf⟩ := bd_s hf
  refine gt_34 C hw hv4 kw_45 dJx4a65c_add_9ea2d_17 ?_
  obtain ⟨szq7, nsq7, shq7, dq7, h5, hf⟩ := bw_s hf
  have hm := mJx4a65c_add_9ea2d_b23 (st 1) (st 2) szq7 nsq7 shq7 dq7 hf
  have hq := gJx4a65c_add_72be8 (st 1) (st 2) x0 x1 v3 v4 sz ns sh d2 h5
  refine cl_V C hw hS (tJx4a65c_add_72be8 l A D cy st x0 x1 v3 v4 sz ns sh d2 h5) cvJx4a65c_add_72be8 kw_337 (gI_s hv4).1 ⟨(Nat.le_of_ble_eq_true rfl), (Nat.le_of_ble_eq_true rfl)⟩ hl.1 rfl (Nat.le_of_ble_eq_true rfl) dJx4a65c_add_9ea2d_20 ⟨by show _ ≤ mc; omega, by show _ ≤ ms; omega⟩ (fun H locs hw hS => ?_)
  exact wJx4a65c_add_9ea2d_b23 C szq7 nsq7 shq7 dq7 hf (by omega) (by omega) hw hS (lv_sub hl [] rfl)

set_option maxRecDepth 100000 in
set_option maxHeartbeats 4000000 in
theorem tJx4a65c_add_9ea2d (l : Launch) (A : Nat → Prop) (D : va_G) (cy : Nat → ClassId) (st : Nat → Nat) (x0 : Nat) (x1 : Option Nat) (sz ns : Nat) (sh : Sh) (d : Dt) {r : Bool} {sz9 ns9 : Nat} {sh9 : Sh} {d9 : Dt} (hf : fJx4a65c_add_9ea2d (st 1) (st 2) x0 x1 sz ns sh d = some (r, sz9, ns9, sh9, d9)) : Ct l yJx4a65c_add_9ea2d cJx4a65c_add_9ea2d 2 (some .boolean) 6 140 (sz9 - sz) (ns9 - ns) A D cy st [.ref x0, va_rf x1] sz sh d (some (.int (bI r))) sz9 sh9 d9 := by
  have hm := gJx4a65c_add_9ea2d (st 1) (st 2) x0 x1 sz ns sh d hf
  exact ct_of (by decide) (by simp [lg_sl, va_rf_c, cat_i, cat_l, cat_r]) (fun p e s m args below meth c C hw hS ls hl => wJx4a65c_add_9ea2d_b0 C x0 x1 sz ns sh d hf (by omega) (by omega) hw hS (by simpa [lv_args, va_rf_c, cat_i, cat_l, cat_r] using hl))
theorem dJ3_checkIndex_8e157_0 : decode cJ3_checkIndex_8e157 0 = .ok (.iload_n 0, 1) := by decide +kernel
theorem dJ3_checkIndex_8e157_1 : decode cJ3_checkIndex_8e157 1 = .ok (.ifCond .lt 8, 3) := by decide +kernel
theorem dJ3_checkIndex_8e157_4 : decode cJ3_checkIndex_8e157 4 = .ok (.iload_n 0, 1) := by decide +kernel
theorem dJ3_checkIndex_8e157_5 : decode cJ3_checkIndex_8e157 5 = .ok (.iload_n 1, 1) := by decide +kernel
theorem dJ3_checkIndex_8e157_6 : decode cJ3_checkIndex_8e157 6 = .ok (.if_icmp .lt 10, 3) := by decide +kernel
theorem dJ3_checkIndex_8e157_9 : decode cJ3_checkIndex_8e157 9 = .ok (.aload_n 2, 1) := by decide +kernel
theorem dJ3_checkIndex_8e157_10 : decode cJ3_checkIndex_8e157 10 = .ok (.iload_n 0, 1) := by decide +kernel
theorem dJ3_checkIndex_8e157_11 : decode cJ3_checkIndex_8e157 11 = .ok (.iload_n 1, 1) := by decide +kernel
theorem dJ3_checkIndex_8e157_12 : decode cJ3_checkIndex_8e157 12 = .ok (.invokestatic 95, 3) := by decide +kernel
theorem dJ3_checkIndex_8e157_15 : decode cJ3_checkIndex_8e157 15 = .ok (.athrow, 1) := by decide +kernel
theorem dJ3_checkIndex_8e157_16 : decode cJ3_checkIndex_8e157 16 = .ok (.iload_n 0, 1) := by decide +kernel
theorem dJ3_checkIndex_8e157_17 : decode cJ3_checkIndex_8e157 17 = .ok (.ireturn, 1) := by decide +kernel
theorem csJ3_checkIndex_8e157 : CS yJ3_checkIndex_8e157 cJ3_checkIndex_8e157 3 (some .int) 3 := ⟨kw_479, kw_17, kw_480, by decide +kernel, by decide +kernel, by decide +kernel⟩
def fJ3_checkIndex_8e157_b9 (sh : Sh) (d : Dt) (x0 : Int32) (x1 : Int32) (x2 : Option Nat) : Option (Int32) := none

def fJ3_checkIndex_8e157_b0 (sh : Sh) (d : Dt) (x0 : Int32) (x1 : Int32) (x2 : Option Nat) : Option (Int32) := if x0 < 0 then (fJ3_checkIndex_8e157_b9 sh d x0 x1 x2) else (if x0 < x1 then (some x0) else (fJ3_checkIndex_8e157_b9 sh d x0 x1 x2))

def fJ3_checkIndex_8e157 (sh : Sh) (d : Dt) (x0 : Int32) (x1 : Int32) (x2 : Option Nat) : Option (Int32) := fJ3_checkIndex_8e157_b0 sh d x0 x1 x2

set_option maxRecDepth 100000 in
set_option maxHeartbeats 4000000 in
theorem wJ3_checkIndex_8e157_b9 (C : mx p s m args meth c yJ3_checkIndex_8e157 cJ3_checkIndex_8e157 3 (some .int) A D cy st) {r : Int32} {d : Dt} : ∀ (x0 : Int32) (x1 : Int32) (x2 : Option Nat), fJ3_checkIndex_8e157_b9 sh d x0 x1 x2 = some r → ∀ {H : Heap} {locs : List Loc} {ls : Array Slot}, HW A D cy sz sh d H → va_S A s.heap H locs → lv_has ls 3 [(0, .int x0), (1, .int x1), (2, va_rf x2)] → GL p l e s m args below meth c 0 0 A D cy (some (.int r)) sz sh d H locs 9 ls [] := by
  have hx := C.1
  have hb := C.2.1
  intro x0 x1 x2 hf H locs ls hw hS hl
  unfold fJ3_checkIndex_8e157_b9 at hf
  refine lq_aload_n hx hb dJ3_checkIndex_8e157_9 rfl (lv_at hl 2 rfl) ?_
  refine lv_iload_n hx hb dJ3_checkIndex_8e157_10 rfl (lv_at hl 0 rfl) ?_
  refine lv_iload_n hx hb dJ3_checkIndex_8e157_11 rfl (lv_at hl 1 rfl) ?_
  cases hf

set_option maxRecDepth 100000 in
set_option maxHeartbeats 4000000 in
theorem wJ3_checkIndex_8e157_b0 (C : mx p s m args meth c yJ3_checkIndex_8e157 cJ3_checkIndex_8e157 3 (some .int) A D cy st) {r : Int32} {d : Dt} : ∀ (x0 : Int32) (x1 : Int32) (x2 : Option Nat), fJ3_checkIndex_8e157_b0 sh d x0 x1 x2 = some r → ∀ {H : Heap} {locs : List Loc} {ls : Array Slot}, HW A D cy sz sh d H → va_S A s.heap H locs → lv_has ls 3 [(0, .int x0), (1, .int x1), (2, va_rf x2)] → GL p l e s m args below meth c 0 0 A D cy (some (.int r)) sz sh d H locs 0 ls [] := by
  have hx := C.1
  have hb := C.2.1
  intro x0 x1 x2 hf H locs ls hw hS hl
  unfold fJ3_checkIndex_8e157_b0 at hf
  refine lv_iload_n hx hb dJ3_checkIndex_8e157_0 rfl (lv_at hl 0 rfl) ?_
  refine lv_if_lt (tgt := 9) hx hb dJ3_checkIndex_8e157_1 (by decide) (fun c_1 => ?_) (fun c_1 => ?_)
  · have hf := if_t c_1 hf
    exact wJ3_checkIndex_8e157_b9 C x0 x1 x2 hf hw hS (lv_sub hl [0, 1, 2] rfl)
  · have hf := if_f c_1 hf
    refine lv_iload_n hx hb dJ3_checkIndex_8e157_4 rfl (lv_at hl 0 rfl) ?_
    refine lv_iload_n hx hb dJ3_checkIndex_8e157_5 rfl (lv_at hl 1 rfl) ?_
    refine lv_icmp_lt (tgt := 16) hx hb dJ3_checkIndex_8e157_6 (by decide) (fun c_2 => ?_) (fun c_2 => ?_)
    · have hf := if_t c_2 hf
      refine lv_iload_n hx hb dJ3_checkIndex_8e157_16 rfl (lv_at hl 0 rfl) ?_
      cases hf
      exact rt_i C hw hS dJ3_checkIndex_8e157_17
    · have hf := if_f c_2 hf
      exact wJ3_checkIndex_8e157_b9 C x0 x1 x2 hf hw hS (lv_sub hl [0, 1, 2] rfl)

set_option maxRecDepth 100000 in
set_option maxHeartbeats 4000000 in
theorem tJ3_checkIndex_8e157 (l : Launch) (A : Nat → Prop) (D : va_G) (cy : Nat → ClassId) (st : Nat → Nat) (sz : Nat) (sh : Sh) (d : Dt) (x0 : Int32) (x1 : Int32) (x2 : Option Nat) {r : Int32} (hf : fJ3_checkIndex_8e157 sh d x0 x1 x2 = some r) : Ct l yJ3_checkIndex_8e157 cJ3_checkIndex_8e157 3 (some .int) 0 0 0 0 A D cy st [.int x0, .int x1, va_rf x2] sz sh d (some (.int r)) sz sh d := ct_of (by decide) (by simp [lg_sl, va_rf_c, cat_i, cat_l, cat_r]) (fun p e s m args below meth c C hw hS ls hl => wJ3_checkIndex_8e157_b0 C x0 x1 x2 hf hw hS (by simpa [lv_args, va_rf_c, cat_i, cat_l, cat_r] using hl))
theorem dJ15_checkIndex_7cf53_0 : decode cJ15_checkIndex_7cf53 0 = .ok (.iload_n 0, 1) := by decide +kernel
theorem dJ15_checkIndex_7cf53_1 : decode cJ15_checkIndex_7cf53 1 = .ok (.iload_n 1, 1) := by decide +kernel
theorem dJ15_checkIndex_7cf53_2 : decode cJ15_checkIndex_7cf53 2 = .ok (.aconst_null, 1) := by decide +kernel
theorem dJ15_checkIndex_7cf53_3 : decode cJ15_checkIndex_7cf53 3 = .ok (.invokestatic 105, 3) := by decide +kernel
theorem dJ15_checkIndex_7cf53_6 : decode cJ15_checkIndex_7cf53 6 = .ok (.ireturn, 1) := by decide +kernel
theorem csJ15_checkIndex_7cf53 : CS yJ15_checkIndex_7cf53 cJ15_checkIndex_7cf53 2 (some .int) 2 := ⟨kw_476, kw_16, kw_477, by decide +kernel, by decide +kernel, by decide +kernel⟩
def fJ15_checkIndex_7cf53_b0 (sh : Sh) (d : Dt) (x0 : Int32) (x1 : Int32) : Option (Int32) := bd (fJ3_checkIndex_8e157 sh d x0 x1 none) fun r2 => some r2

def fJ15_checkIndex_7cf53 (sh : Sh) (d : Dt) (x0 : Int32) (x1 : Int32) : Option (Int32) := fJ15_checkIndex_7cf53_b0 sh d x0 x1

set_option maxRecDepth 100000 in
set_option maxHeartbeats 4000000 in
theorem wJ15_checkIndex_7cf53_b0 (C : mx p s m args meth c yJ15_checkIndex_7cf53 cJ15_checkIndex_7cf53 2 (some .int) A D cy st) {r : Int32} {d : Dt} : ∀ (x0 : Int32) (x1 : Int32), fJ15_checkIndex_7cf53_b0 sh d x0 x1 = some r → ∀ {H : Heap} {locs : List Loc} {ls : Array Slot}, HW A D cy sz sh d H → va_S A s.heap H locs → lv_has ls 2 [(0, .int x0), (1, .int x1)] → GL p l e s m args below meth c 1 22 A D cy (some (.int r)) sz sh d H locs 0 ls [] := by
  have hx := C.1
  have hb := C.2.1
  intro x0 x1 hf H locs ls hw hS hl
  unfold fJ15_checkIndex_7cf53_b0 at hf
  refine lv_iload_n hx hb dJ15_checkIndex_7cf53_0 rfl (lv_at hl 0 rfl) ?_
  refine lv_iload_n hx hb dJ15_checkIndex_7cf53_1 rfl (lv_at hl 1 rfl) ?_
  refine lv_null hx hb dJ15_checkIndex_7cf53_2 ?_
  obtain ⟨r2, h1, hf⟩ := bd_s hf
  refine cl_S0 C hw hS (tJ3_checkIndex_8e157 l A D cy st sz sh d x0 x1 none h1) csJ3_checkIndex_8e157 kw_478 ⟨(Nat.le_of_ble_eq_true rfl), (Nat.le_of_ble_eq_true rfl)⟩ hl.1 rfl (Nat.le_of_ble_eq_true rfl) dJ15_checkIndex_7cf53_3 ⟨Nat.zero_le _, Nat.zero_le _⟩ (fun H locs hw hS => ?_)
  cases hf
  exact rt_i C hw hS dJ15_checkIndex_7cf53_6

set_option maxRecDepth 100000 in
set_option maxHeartbeats 4000000 in
theorem tJ15_checkIndex_7cf53 (l : Launch) (A : Nat → Prop) (D : va_G) (cy : Nat → ClassId) (st : Nat → Nat) (sz : Nat) (sh : Sh) (d : Dt) (x0 : Int32) (x1 : Int32) {r : Int32} (hf : fJ15_checkIndex_7cf53 sh d x0 x1 = some r) : Ct l yJ15_checkIndex_7cf53 cJ15_checkIndex_7cf53 2 (some .int) 1 22 0 0 A D cy st [.int x0, .int x1] sz sh d (some (.int r)) sz sh d := ct_of (by decide) (Nat.le_of_ble_eq_true rfl) (fun p e s m args below meth c C hw hS ls hl => wJ15_checkIndex_7cf53_b0 C x0 x1 hf hw hS hl)
theorem dJx4a65c_elementData_915e3_0 : decode cJx4a65c_elementData_915e3 0 = .ok (.aload_n 0, 1) := by decide +kernel
theorem dJx4a65c_elementData_915e3_1 : decode cJx4a65c_elementData_915e3 1 = .ok (.getfield 9, 3) := by decide +kernel
theorem dJx4a65c_elementData_915e3_4 : decode cJx4a65c_elementData_915e3 4 = .ok (.iload_n 1, 1) := by decide +kernel
theorem dJx4a65c_elementData_915e3_5 : decode cJx4a65c_elementData_915e3 5 = .ok (.aaload, 1) := by decide +kernel
theorem dJx4a65c_elementData_915e3_6 : decode cJx4a65c_elementData_915e3 6 = .ok (.areturn, 1) := by decide +kernel
theorem cvJx4a65c_elementData_915e3 : CV yJx4a65c_elementData_915e3 cJx4a65c_elementData_915e3 2 (some (.object "java/lang/Object")) 0 1 := ⟨kw_482, kw_483, kw_4, kw_484, ⟨_, _, rfl⟩, by decide, by decide +kernel, by decide +kernel, by decide +kernel⟩
def fJx4a65c_elementData_915e3_b0 (sh : Sh) (d : Dt) (x0 : Nat) (x1 : Int32) : Option (Option Nat) := bd (gR sh d 1 33 x0) fun v1 => bd v1 fun a2 => bd (aR sh d 26 a2 x1) fun v3 => some v3

def fJx4a65c_elementData_915e3 (sh : Sh) (d : Dt) (x0 : Nat) (x1 : Int32) : Option (Option Nat) := fJx4a65c_elementData_915e3_b0 sh d x0 x1

set_option maxRecDepth 100000 in
set_option maxHeartbeats 4000000 in
theorem wJx4a65c_elementData_915e3_b0 (C : mx p s m args meth c yJx4a65c_elementData_915e3 cJx4a65c_elementData_915e3 2 (some (.object "java/lang/Object")) A D cy st) {r : Option Nat} {d : Dt} : ∀ (x0 : Nat) (x1 : Int32), fJx4a65c_elementData_915e3_b0 sh d x0 x1 = some r → ∀ {H : Heap} {locs : List Loc} {ls : Array Slot}, HW A D cy sz sh d H → va_S A s.heap H locs → lv_has ls 2 [(0, .ref x0), (1, .int x1)] → GL p l e s m args below meth c 0 0 A D cy (some (va_rf r)) sz sh d H locs 0 ls [] := by
  have hx := C.1
  have hb := C.2.1
  intro x0 x1 hf H locs ls hw hS hl
  unfold fJx4a65c_elementData_915e3_b0 at hf
  refine lv_aload_n hx hb dJx4a65c_elementData_915e3_0 rfl (lv_at hl 0 rfl) ?_
  obtain ⟨v1, hv1, hf⟩ := bd_s hf
  refine gt_33 C hw hv1 kw_44 dJx4a65c_elementData_915e3_1 ?_
  refine lv_iload_n hx hb dJx4a65c_elementData_915e3_4 rfl (lv_at hl 1 rfl) ?_
  obtain ⟨a2, ea2, hg⟩ := bd_s hf
  clear hf
  subst ea2
  have hf := hg
  clear hg
  obtain ⟨v3, hv3, hf⟩ := bd_s hf
  refine w_aald C hw 6 rfl (by decide) rfl hv3 dJx4a65c_elementData_915e3_5 ?_
  cases hf
  exact rt_a C hw hS dJx4a65c_elementData_915e3_6

set_option maxRecDepth 100000 in
set_option maxHeartbeats 4000000 in
theorem tJx4a65c_elementData_915e3 (l : Launch) (A : Nat → Prop) (D : va_G) (cy : Nat → ClassId) (st : Nat → Nat) (sz : Nat) (sh : Sh) (d : Dt) (x0 : Nat) (x1 : Int32) {r : Option Nat} (hf : fJx4a65c_elementData_915e3 sh d x0 x1 = some r) : Ct l yJx4a65c_elementData_915e3 cJx4a65c_elementData_915e3 2 (some (.object "java/lang/Object")) 0 0 0 0 A D cy st [.ref x0, .int x1] sz sh d (some (va_rf r)) sz sh d := ct_of (by decide) (Nat.le_of_ble_eq_true rfl) (fun p e s m args below meth c C hw hS ls hl => wJx4a65c_elementData_915e3_b0 C x0 x1 hf hw hS hl)
theorem dJx4a65c_get_915e3_0 : decode cJx4a65c_get_915e3 0 = .ok (.iload_n 1, 1) := by decide +kernel
theorem dJx4a65c_get_915e3_1 : decode cJx4a65c_get_915e3 1 = .ok (.aload_n 0, 1) := by decide +kernel
theorem dJx4a65c_get_915e3_2 : decode cJx4a65c_get_915e3 2 = .ok (.getfield 48, 3) := by decide +kernel
theorem dJx4a65c_get_915e3_5 : decode cJx4a65c_get_915e3 5 = .ok (.invokestatic 118, 3) := by decide +kernel
theorem dJx4a65c_get_915e3_8 : decode cJx4a65c_get_915e3 8 = .ok (.pop, 1) := by decide +kernel
theorem dJx4a65c_get_915e3_9 : decode cJx4a65c_get_915e3 9 = .ok (.aload_n 0, 1) := by decide +kernel
theorem dJx4a65c_get_915e3_10 : decode cJx4a65c_get_915e3 10 = .ok (.iload_n 1, 1) := by decide +kernel
theorem dJx4a65c_get_915e3_11 : decode cJx4a65c_get_915e3 11 = .ok (.invokevirtual 123, 3) := by decide +kernel
theorem dJx4a65c_get_915e3_14 : decode cJx4a65c_get_915e3 14 = .ok (.areturn, 1) := by decide +kernel
theorem cvJx4a65c_get_915e3 : CV yJx4a65c_get_915e3 cJx4a65c_get_915e3 2 (some (.object "java/lang/Object")) 0 1 := ⟨kw_472, kw_473, kw_4, kw_474, ⟨_, _, rfl⟩, by decide, by decide +kernel, by decide +kernel, by decide +kernel⟩
def fJx4a65c_get_915e3_b0 (sh : Sh) (d : Dt) (x0 : Nat) (x1 : Int32) : Option (Option Nat) := bd (gI sh d 1 34 x0) fun v1 => bd (fJ15_checkIndex_7cf53 sh d x1 v1) fun r3 => bd (fJx4a65c_elementData_915e3 sh d x0 x1) fun r5 => some r5

def fJx4a65c_get_915e3 (sh : Sh) (d : Dt) (x0 : Nat) (x1 : Int32) : Option (Option Nat) := fJx4a65c_get_915e3_b0 sh d x0 x1

set_option maxRecDepth 100000 in
set_option maxHeartbeats 4000000 in
theorem wJx4a65c_get_915e3_b0 (C : mx p s m args meth c yJx4a65c_get_915e3 cJx4a65c_get_915e3 2 (some (.object "java/lang/Object")) A D cy st) {r : Option Nat} {d : Dt} : ∀ (x0 : Nat) (x1 : Int32), fJx4a65c_get_915e3_b0 sh d x0 x1 = some r → ∀ {H : Heap} {locs : List Loc} {ls : Array Slot}, HW A D cy sz sh d H → va_S A s.heap H locs → lv_has ls 2 [(0, .ref x0), (1, .int x1)] → GL p l e s m args below meth c 2 43 A D cy (some (va_rf r)) sz sh d H locs 0 ls [] := by
  have hx := C.1
  have hb := C.2.1
  intro x0 x1 hf H locs ls hw hS hl
  unfold fJx4a65c_get_915e3_b0 at hf
  refine lv_iload_n hx hb dJx4a65c_get_915e3_0 rfl (lv_at hl 1 rfl) ?_
  refine lv_aload_n hx hb dJx4a65c_get_915e3_1 rfl (lv_at hl 0 rfl) ?_
  obtain ⟨v1, hv1, hf⟩ := bd_s hf
  refine gt_34 C hw hv1 kw_45 dJx4a65c_get_915e3_2 ?_
  obtain ⟨r3, h2, hf⟩ := bd_s hf
  refine cl_S0 C hw hS (tJ15_checkIndex_7cf53 l A D cy st sz sh d x1 v1 h2) csJ15_checkIndex_7cf53 kw_475 ⟨(Nat.le_of_ble_eq_true rfl), (Nat.le_of_ble_eq_true rfl)⟩ hl.1 rfl (Nat.le_of_ble_eq_true rfl) dJx4a65c_get_915e3_5 ⟨Nat.zero_le _, Nat.zero_le _⟩ (fun H locs hw hS => ?_)
  refine lv_pop hx hb dJx4a65c_get_915e3_8 rfl ?_
  refine lv_aload_n hx hb dJx4a65c_get_915e3_9 rfl (lv_at hl 0 rfl) ?_
  refine lv_iload_n hx hb dJx4a65c_get_915e3_10 rfl (lv_at hl 1 rfl) ?_
  obtain ⟨r5, h4, hf⟩ := bd_s hf
  refine cl_V0 C hw hS (tJx4a65c_elementData_915e3 l A D cy st sz sh d x0 x1 h4) cvJx4a65c_elementData_915e3 kw_481 (gI_s hv1).1 ⟨(Nat.le_of_ble_eq_true rfl), (Nat.le_of_ble_eq_true rfl)⟩ hl.1 rfl (Nat.le_of_ble_eq_true rfl) dJx4a65c_get_915e3_11 ⟨Nat.zero_le _, Nat.zero_le _⟩ (fun H locs hw hS => ?_)
  cases hf
  exact rt_a C hw hS dJx4a65c_get_915e3_14

set_option maxRecDepth 100000 in
set_option maxHeartbeats 4000000 in
theorem tJx4a65c_get_915e3 (l : Launch) (A : Nat → Prop) (D : va_G) (cy : Nat → ClassId) (st : Nat → Nat) (sz : Nat) (sh : Sh) (d : Dt) (x0 : Nat) (x1 : Int32) {r : Option Nat} (hf : fJx4a65c_get_915e3 sh d x0 x1 = some r) : Ct l yJx4a65c_get_915e3 cJx4a65c_get_915e3 2 (some (.object "java/lang/Object")) 2 43 0 0 A D cy st [.ref x0, .int x1] sz sh d (some (va_rf r)) sz sh d := ct_of (by decide) (Nat.le_of_ble_eq_true rfl) (fun p e s m args below meth c C hw hS ls hl => wJx4a65c_get_915e3_b0 C x0 x1 hf hw hS hl)
theorem dJx4a65c_rangeCheckForAdd_d00df_0 : decode cJx4a65c_rangeCheckForAdd_d00df 0 = .ok (.iload_n 1, 1) := by decide +kernel
theorem dJx4a65c_rangeCheckForAdd_d00df_1 : decode cJx4a65c_rangeCheckForAdd_d00df 1 = .ok (.aload_n 0, 1) := by decide +kernel
theorem dJx4a65c_rangeCheckForAdd_d00df_2 : decode cJx4a65c_rangeCheckForAdd_d00df 2 = .ok (.getfield 48, 3) := by decide +kernel
theorem dJx4a65c_rangeCheckForAdd_d00df_5 : decode cJx4a65c_rangeCheckForAdd_d00df 5 = .ok (.if_icmp .gt 7, 3) := by decide +kernel
theorem dJx4a65c_rangeCheckForAdd_d00df_8 : decode cJx4a65c_rangeCheckForAdd_d00df 8 = .ok (.iload_n 1, 1) := by decide +kernel
theorem dJx4a65c_rangeCheckForAdd_d00df_9 : decode cJx4a65c_rangeCheckForAdd_d00df 9 = .ok (.ifCond .ge 16, 3) := by decide +kernel
theorem dJx4a65c_rangeCheckForAdd_d00df_12 : decode cJx4a65c_rangeCheckForAdd_d00df 12 = .ok (.new 187, 3) := by decide +kernel
theorem dJx4a65c_rangeCheckForAdd_d00df_15 : decode cJx4a65c_rangeCheckForAdd_d00df 15 = .ok (.dup, 1) := by decide +kernel
theorem dJx4a65c_rangeCheckForAdd_d00df_16 : decode cJx4a65c_rangeCheckForAdd_d00df 16 = .ok (.aload_n 0, 1) := by decide +kernel
theorem dJx4a65c_rangeCheckForAdd_d00df_17 : decode cJx4a65c_rangeCheckForAdd_d00df 17 = .ok (.iload_n 1, 1) := by decide +kernel
theorem dJx4a65c_rangeCheckForAdd_d00df_18 : decode cJx4a65c_rangeCheckForAdd_d00df 18 = .ok (.invokevirtual 198, 3) := by decide +kernel
theorem dJx4a65c_rangeCheckForAdd_d00df_21 : decode cJx4a65c_rangeCheckForAdd_d00df 21 = .ok (.invokespecial 193, 3) := by decide +kernel
theorem dJx4a65c_rangeCheckForAdd_d00df_24 : decode cJx4a65c_rangeCheckForAdd_d00df 24 = .ok (.athrow, 1) := by decide +kernel
theorem dJx4a65c_rangeCheckForAdd_d00df_25 : decode cJx4a65c_rangeCheckForAdd_d00df 25 = .ok (.return_, 1) := by decide +kernel
theorem cvJx4a65c_rangeCheckForAdd_d00df : CV yJx4a65c_rangeCheckForAdd_d00df cJx4a65c_rangeCheckForAdd_d00df 2 none 0 1 := ⟨kw_526, ks_14, kw_4, kw_527, ⟨_, _, rfl⟩, by decide, by decide +kernel, by decide +kernel, by decide +kernel⟩
def fJx4a65c_rangeCheckForAdd_d00df_b12 (sh : Sh) (d : Dt) : Option (Unit) := none

def fJx4a65c_rangeCheckForAdd_d00df_b0 (sh : Sh) (d : Dt) (x0 : Nat) (x1 : Int32) : Option (Unit) := bd (gI sh d 1 34 x0) fun v1 => if v1 < x1 then (fJx4a65c_rangeCheckForAdd_d00df_b12 sh d ) else (if 0 ≤ x1 then (some ()) else (fJx4a65c_rangeCheckForAdd_d00df_b12 sh d ))

def fJx4a65c_rangeCheckForAdd_d00df (sh : Sh) (d : Dt) (x0 : Nat) (x1 : Int32) : Option (Unit) := fJx4a65c_rangeCheckForAdd_d00df_b0 sh d x0 x1

set_option maxRecDepth 100000 in
set_option maxHeartbeats 4000000 in
theorem wJx4a65c_rangeCheckForAdd_d00df_b12 (C : mx p s m args meth c yJx4a65c_rangeCheckForAdd_d00df cJx4a65c_rangeCheckForAdd_d00df 2 none A D cy st) {d : Dt} : fJx4a65c_rangeCheckForAdd_d00df_b12 sh d  = some () → ∀ {H : Heap} {locs : List Loc} {ls : Array Slot}, HW A D cy sz sh d H → va_S A s.heap H locs → lv_has ls 2 [] → GL p l e s m args below meth c 0 0 A D cy none sz sh d H locs 12 ls [] := by
  have hx := C.1
  have hb := C.2.1
  intro  hf H locs ls hw hS hl
  unfold fJx4a65c_rangeCheckForAdd_d00df_b12 at hf
  cases hf

set_option maxRecDepth 100000 in
set_option maxHeartbeats 4000000 in
theorem wJx4a65c_rangeCheckForAdd_d00df_b0 (C : mx p s m args meth c yJx4a65c_rangeCheckForAdd_d00df cJx4a65c_rangeCheckForAdd_d00df 2 none A D cy st) {d : Dt} : ∀ (x0 : Nat) (x1 : Int32), fJx4a65c_rangeCheckForAdd_d00df_b0 sh d x0 x1 = some () → ∀ {H : Heap} {locs : List Loc} {ls : Array Slot}, HW A D cy sz sh d H → va_S A s.heap H locs → lv_has ls 2 [(0, .ref x0), (1, .int x1)] → GL p l e s m args below meth c 0 0 A D cy none sz sh d H locs 0 ls [] := by
  have hx := C.1
  have hb := C.2.1
  intro x0 x1 hf H locs ls hw hS hl
  unfold fJx4a65c_rangeCheckForAdd_d00df_b0 at hf
  refine lv_iload_n hx hb dJx4a65c_rangeCheckForAdd_d00df_0 rfl (lv_at hl 1 rfl) ?_
  refine lv_aload_n hx hb dJx4a65c_rangeCheckForAdd_d00df_1 rfl (lv_at hl 0 rfl) ?_
  obtain ⟨v1, hv1, hf⟩ := bd_s hf
  refine gt_34 C hw hv1 kw_45 dJx4a65c_rangeCheckForAdd_d00df_2 ?_
  refine lv_icmp_gt (tgt := 12) hx hb dJx4a65c_rangeCheckForAdd_d00df_5 (by decide) (fun c_2 => ?_) (fun c_2 => ?_)
  · have hf := if_t c_2 hf
    exact wJx4a65c_rangeCheckForAdd_d00df_b12 C  hf hw hS (lv_sub hl [] rfl)
  · have hf := if_f c_2 hf
    refine lv_iload_n hx hb dJx4a65c_rangeCheckForAdd_d00df_8 rfl (lv_at hl 1 rfl) ?_
    refine lv_if_ge (tgt := 25) hx hb dJx4a65c_rangeCheckForAdd_d00df_9 (by decide) (fun c_3 => ?_) (fun c_3 => ?_)
    · have hf := if_t c_3 hf
      cases hf
      exact rt_v C hw hS dJx4a65c_rangeCheckForAdd_d00df_25
    · have hf := if_f c_3 hf
      exact wJx4a65c_rangeCheckForAdd_d00df_b12 C  hf hw hS (lv_sub hl [] rfl)

set_option maxRecDepth 100000 in
set_option maxHeartbeats 4000000 in
theorem tJx4a65c_rangeCheckForAdd_d00df (l : Launch) (A : Nat → Prop) (D : va_G) (cy : Nat → ClassId) (st : Nat → Nat) (sz : Nat) (sh : Sh) (d : Dt) (x0 : Nat) (x1 : Int32) (hf : fJx4a65c_rangeCheckForAdd_d00df sh d x0 x1 = some ()) : Ct l yJx4a65c_rangeCheckForAdd_d00df cJx4a65c_rangeCheckForAdd_d00df 2 none 0 0 0 0 A D cy st [.ref x0, .int x1] sz sh d none sz sh d := ct_of (by decide) (Nat.le_of_ble_eq_true rfl) (fun p e s m args below meth c C hw hS ls hl => wJx4a65c_rangeCheckForAdd_d00df_b0 C x0 x1 hf hw hS hl)
theorem dJx4a65c_add_7a177_0 : decode cJx4a65c_add_7a177 0 = .ok (.aload_n 0, 1) := by decide +kernel
theorem dJx4a65c_add_7a177_1 : decode cJx4a65c_add_7a177 1 = .ok (.iload_n 1, 1) := by decide +kernel
theorem dJx4a65c_add_7a177_2 : decode cJx4a65c_add_7a177 2 = .ok (.invokevirtual 135, 3) := by decide +kernel
theorem dJx4a65c_add_7a177_5 : decode cJx4a65c_add_7a177 5 = .ok (.aload_n 0, 1) := by decide +kernel
theorem dJx4a65c_add_7a177_6 : decode cJx4a65c_add_7a177 6 = .ok (.dup, 1) := by decide +kernel
theorem dJx4a65c_add_7a177_7 : decode cJx4a65c_add_7a177 7 = .ok (.getfield 63, 3) := by decide +kernel
theorem dJx4a65c_add_7a177_10 : decode cJx4a65c_add_7a177 10 = .ok (.iconst 1, 1) := by decide +kernel
theorem dJx4a65c_add_7a177_11 : decode cJx4a65c_add_7a177 11 = .ok (.iadd, 1) := by decide +kernel
theorem dJx4a65c_add_7a177_12 : decode cJx4a65c_add_7a177 12 = .ok (.putfield 63, 3) := by decide +kernel
theorem dJx4a65c_add_7a177_15 : decode cJx4a65c_add_7a177 15 = .ok (.aload_n 0, 1) := by decide +kernel
theorem dJx4a65c_add_7a177_16 : decode cJx4a65c_add_7a177 16 = .ok (.getfield 48, 3) := by decide +kernel
theorem dJx4a65c_add_7a177_19 : decode cJx4a65c_add_7a177 19 = .ok (.dup, 1) := by decide +kernel
theorem dJx4a65c_add_7a177_20 : decode cJx4a65c_add_7a177 20 = .ok (.istore_n 3, 1) := by decide +kernel
theorem dJx4a65c_add_7a177_21 : decode cJx4a65c_add_7a177 21 = .ok (.aload_n 0, 1) := by decide +kernel
theorem dJx4a65c_add_7a177_22 : decode cJx4a65c_add_7a177 22 = .ok (.getfield 9, 3) := by decide +kernel
theorem dJx4a65c_add_7a177_25 : decode cJx4a65c_add_7a177 25 = .ok (.dup, 1) := by decide +kernel
theorem dJx4a65c_add_7a177_26 : decode cJx4a65c_add_7a177 26 = .ok (.astore 4, 2) := by decide +kernel
theorem dJx4a65c_add_7a177_28 : decode cJx4a65c_add_7a177 28 = .ok (.arraylength, 1) := by decide +kernel
theorem dJx4a65c_add_7a177_29 : decode cJx4a65c_add_7a177 29 = .ok (.if_icmp .ne 9, 3) := by decide +kernel
theorem dJx4a65c_add_7a177_32 : decode cJx4a65c_add_7a177 32 = .ok (.aload_n 0, 1) := by decide +kernel
theorem dJx4a65c_add_7a177_33 : decode cJx4a65c_add_7a177 33 = .ok (.invokevirtual 129, 3) := by decide +kernel
theorem dJx4a65c_add_7a177_36 : decode cJx4a65c_add_7a177 36 = .ok (.astore 4, 2) := by decide +kernel
theorem dJx4a65c_add_7a177_38 : decode cJx4a65c_add_7a177 38 = .ok (.aload 4, 2) := by decide +kernel
theorem dJx4a65c_add_7a177_40 : decode cJx4a65c_add_7a177 40 = .ok (.iload_n 1, 1) := by decide +kernel
theorem dJx4a65c_add_7a177_41 : decode cJx4a65c_add_7a177 41 = .ok (.aload 4, 2) := by decide +kernel
theorem dJx4a65c_add_7a177_43 : decode cJx4a65c_add_7a177 43 = .ok (.iload_n 1, 1) := by decide +kernel
theorem dJx4a65c_add_7a177_44 : decode cJx4a65c_add_7a177 44 = .ok (.iconst 1, 1) := by decide +kernel
theorem dJx4a65c_add_7a177_45 : decode cJx4a65c_add_7a177 45 = .ok (.iadd, 1) := by decide +kernel
theorem dJx4a65c_add_7a177_46 : decode cJx4a65c_add_7a177 46 = .ok (.iload_n 3, 1) := by decide +kernel
theorem dJx4a65c_add_7a177_47 : decode cJx4a65c_add_7a177 47 = .ok (.iload_n 1, 1) := by decide +kernel
theorem dJx4a65c_add_7a177_48 : decode cJx4a65c_add_7a177 48 = .ok (.isub, 1) := by decide +kernel
theorem dJx4a65c_add_7a177_49 : decode cJx4a65c_add_7a177 49 = .ok (.invokestatic 112, 3) := by decide +kernel
theorem dJx4a65c_add_7a177_52 : decode cJx4a65c_add_7a177 52 = .ok (.aload 4, 2) := by decide +kernel
theorem dJx4a65c_add_7a177_54 : decode cJx4a65c_add_7a177 54 = .ok (.iload_n 1, 1) := by decide +kernel
theorem dJx4a65c_add_7a177_55 : decode cJx4a65c_add_7a177 55 = .ok (.aload_n 2, 1) := by decide +kernel
theorem dJx4a65c_add_7a177_56 : decode cJx4a65c_add_7a177 56 = .ok (.aastore, 1) := by decide +kernel
theorem dJx4a65c_add_7a177_57 : decode cJx4a65c_add_7a177 57 = .ok (.aload_n 0, 1) := by decide +kernel
theorem dJx4a65c_add_7a177_58 : decode cJx4a65c_add_7a177 58 = .ok (.iload_n 3, 1) := by decide +kernel
theorem dJx4a65c_add_7a177_59 : decode cJx4a65c_add_7a177 59 = .ok (.iconst 1, 1) := by decide +kernel
theorem dJx4a65c_add_7a177_60 : decode cJx4a65c_add_7a177 60 = .ok (.iadd, 1) := by decide +kernel
theorem dJx4a65c_add_7a177_61 : decode cJx4a65c_add_7a177 61 = .ok (.putfield 48, 3) := by decide +kernel
theorem dJx4a65c_add_7a177_64 : decode cJx4a65c_add_7a177 64 = .ok (.return_, 1) := by decide +kernel
theorem cvJx4a65c_add_7a177 : CV yJx4a65c_add_7a177 cJx4a65c_add_7a177 5 none 0 2 := ⟨kw_521, kw_522, kw_4, kw_523, ⟨_, _, rfl⟩, by decide, by decide +kernel, by decide +kernel, by decide +kernel⟩
def fJx4a65c_add_7a177_b38 (em mi : Nat) (x0 : Nat) (x1 : Int32) (x2 : Option Nat) (x3 : Int32) (x4 : Option Nat) (sz : Nat) (ns : Nat) (sh : Sh) (d : Dt) : Option (Wl) := bd x4 fun a1 => bd (cpR sh d a1 x1 a1 (x1 + (1 : Int32)) (x3 - x1)) fun d2 => bd (cst sh 2 x2) fun _ => bd (sR sh d2 26 a1 x1 x2) fun d3 => bd (pI sh d3 1 34 x0 (x3 + (1 : Int32))) fun d4 => some (sz, ns, sh, d4)

def fJx4a65c_add_7a177_b36 (em mi : Nat) (x0 : Nat) (x1 : Int32) (x2 : Option Nat) (x3 : Int32) (t0 : Option Nat) (sz : Nat) (ns : Nat) (sh : Sh) (d : Dt) : Option (Wl) := fJx4a65c_add_7a177_b38 em mi x0 x1 x2 x3 t0 sz ns sh d

def fJx4a65c_add_7a177_b0 (em mi : Nat) (x0 : Nat) (x1 : Int32) (x2 : Option Nat) (sz : Nat) (ns : Nat) (sh : Sh) (d : Dt) : Option (Wl) := bd (kc sh 1 x0) fun _ => bd (fJx4a65c_rangeCheckForAdd_d00df sh d x0 x1) fun _ => bd (gI sh d 1 32 x0) fun v4 => bd (pI sh d 1 32 x0 (v4 + (1 : Int32))) fun d5 => bd (gI sh d5 1 34 x0) fun v6 => bd (gR sh d5 1 33 x0) fun v7 => bd v7 fun a8 => bd (lnE sh em a8) fun v9 => if v6 = v9 then (bw2 (fJx4a65c_grow_d5877 em mi x0 sz ns sh d5) fun r12 szq13 nsq13 shq13 dq13 => fJx4a65c_add_7a177_b36 em mi x0 x1 x2 v6 r12 szq13 nsq13 shq13 dq13) else (fJx4a65c_add_7a177_b38 em mi x0 x1 x2 v6 (some a8) sz ns sh d5)

def fJx4a65c_add_7a177 (em mi : Nat) (x0 : Nat) (x1 : Int32) (x2 : Option Nat) (sz ns : Nat) (sh : Sh) (d : Dt) : Option (Wl) := fJx4a65c_add_7a177_b0 em mi x0 x1 x2 sz ns sh d

set_option maxRecDepth 100000 in
set_option maxHeartbeats 4000000 in
theorem mJx4a65c_add_7a177_b38 (em mi : Nat) {sz9 ns9 : Nat} {sh9 : Sh} {d9 : Dt} : ∀ (x0 : Nat) (x1 : Int32) (x2 : Option Nat) (x3 : Int32) (x4 : Option Nat) (sz : Nat) (ns : Nat) (sh : Sh) (d : Dt), fJx4a65c_add_7a177_b38 em mi x0 x1 x2 x3 x4 sz ns sh d = some (sz9, ns9, sh9, d9) → sz ≤ sz9 ∧ ns ≤ ns9 := by
  intro x0 x1 x2 x3 x4 sz ns sh d hf
  unfold fJx4a65c_add_7a177_b38 at hf
  obtain ⟨a1, ea1, hg⟩ := bd_s hf
  clear hf
  subst ea1
  have hf := hg
  clear hg
  obtain ⟨d2, hd2, hf⟩ := bd_s hf
  obtain ⟨ud3, hud3, hf⟩ := bd_s hf
  obtain ⟨d3, hd3, hf⟩ := bd_s hf
  obtain ⟨d4, hd4, hf⟩ := bd_s hf
  cases hf
  exact ⟨Nat.le_refl _, Nat.le_refl _⟩

set_option maxRecDepth 100000 in
set_option maxHeartbeats 4000000 in
theorem mJx4a65c_add_7a177_b36 (em mi : Nat) {sz9 ns9 : Nat} {sh9 : Sh} {d9 : Dt} : ∀ (x0 : Nat) (x1 : Int32) (x2 : Option Nat) (x3 : Int32) (t0 : Option Nat) (sz : Nat) (ns : Nat) (sh : Sh) (d : Dt), fJx4a65c_add_7a177_b36 em mi x0 x1 x2 x3 t0 sz ns sh d = some (sz9, ns9, sh9, d9) → sz ≤ sz9 ∧ ns ≤ ns9 := by
  intro x0 x1 x2 x3 t0 sz ns sh d hf
  unfold fJx4a65c_add_7a177_b36 at hf
  have hm := mJx4a65c_add_7a177_b38 em mi x0 x1 x2 x3 t0 sz ns sh d hf
  omega

set_option maxRecDepth 100000 in
set_option maxHeartbeats 4000000 in
theorem mJx4a65c_add_7a177_b0 (em mi : Nat) {sz9 ns9 : Nat} {sh9 : Sh} {d9 : Dt} : ∀ (x0 : Nat) (x1 : Int32) (x2 : Option Nat) (sz : Nat) (ns : Nat) (sh : Sh) (d : Dt), fJx4a65c_add_7a177_b0 em mi x0 x1 x2 sz ns sh d = some (sz9, ns9, sh9, d9) → sz ≤ sz9 ∧ ns ≤ ns9 := by
  intro x0 x1 x2 sz ns sh d hf
  unfold fJx4a65c_add_7a177_b0 at hf
  obtain ⟨_, h1, hf⟩ := bd_s hf
  obtain ⟨_, h2, hf⟩ := bd_s hf
  obtain ⟨v4, hv4, hf⟩ := bd_s hf
  obtain ⟨d5, hd5, hf⟩ := bd_s hf
  obtain ⟨v6, hv6, hf⟩ := bd_s hf
  obtain ⟨v7, hv7, hf⟩ := bd_s hf
  obtain ⟨a8, ea8, hg⟩ := bd_s hf
  clear hf
  subst ea8
  have hf := hg
  clear hg
  obtain ⟨v9, hv9, hf⟩ := bd_s hf
  by_cases c_10 : v6 = v9
  · have hf := if_t c_10 hf
    obtain ⟨r12, szq13, nsq13, shq13, dq13, h11, hf⟩ := bw2_s hf
    have hq := gJx4a65c_grow_d5877 em mi x0 sz ns sh d5 h11
    have hm := mJx4a65c_add_7a177_b36 em mi x0 x1 x2 v6 r12 szq13 nsq13 shq13 dq13 hf
    omega
  · have hf := if_f c_10 hf
    have hm := mJx4a65c_add_7a177_b38 em mi x0 x1 x2 v6 (some a8) sz ns sh d5 hf
    omega

theorem gJx4a65c_add_7a177 (em mi : Nat) (x0 : Nat) (x1 : Int32) (x2 : Option Nat) (sz ns : Nat) (sh : Sh) (d : Dt) {sz9 ns9 : Nat} {sh9 : Sh} {d9 : Dt} (hf : fJx4a65c_add_7a177 em mi x0 x1 x2 sz ns sh d = some (sz9, ns9, sh9, d9)) : sz ≤ sz9 ∧ ns ≤ ns9 := mJx4a65c_add_7a177_b0 em mi x0 x1 x2 sz ns sh d hf

set_option maxRecDepth 100000 in
set_option maxHeartbeats 4000000 in
theorem wJx4a65c_add_7a177_b38 (C : mx p s m args meth c yJx4a65c_add_7a177 cJx4a65c_add_7a177 5 none A D cy st) {sz9 ns9 : Nat} {sh9 : Sh} {d9 : Dt} {mc ms : Nat} : ∀ (x0 : Nat) (x1 : Int32) (x2 : Option Nat) (x3 : Int32) (x4 : Option Nat) (sz : Nat) (ns : Nat) (sh : Sh) (d : Dt), fJx4a65c_add_7a177_b38 (st 1) (st 2) x0 x1 x2 x3 x4 sz ns sh d = some (sz9, ns9, sh9, d9) → ∀ {cu su : Nat}, sz9 + cu = sz + mc → ns9 + su = ns + ms → ∀ {H : Heap} {locs : List Loc} {ls : Array Slot}, HW A D cy sz sh d H → va_S A s.heap H locs → lv_has ls 5 [(0, .ref x0), (1, .int x1), (2, va_rf x2), (3, .int x3), (4, va_rf x4)] → GA p l e s m args below meth c 5 117 mc ms A D cy none sz9 sh9 d9 H locs cu su 38 ls [] := by
  have hx := C.1
  have hb := C.2.1
  intro x0 x1 x2 x3 x4 sz ns sh d hf cu su hcm hsm H locs ls hw hS hl
  have hm0 := mJx4a65c_add_7a177_b38 (st 1) (st 2) x0 x1 x2 x3 x4 sz ns sh d hf
  unfold fJx4a65c_add_7a177_b38 at hf
  refine lq_aload hx hb dJx4a65c_add_7a177_38 (lv_at hl 4 rfl) ?_
  refine lv_iload_n hx hb dJx4a65c_add_7a177_40 rfl (lv_at hl 1 rfl) ?_
  refine lq_aload hx hb dJx4a65c_add_7a177_41 (lv_at hl 4 rfl) ?_
  refine lv_iload_n hx hb dJx4a65c_add_7a177_43 rfl (lv_at hl 1 rfl) ?_
  refine lv_iconst (v := 1) hx hb dJx4a65c_add_7a177_44 (by decide) ?_
  refine lv_iadd hx hb dJx4a65c_add_7a177_45 ?_
  refine lv_iload_n hx hb dJx4a65c_add_7a177_46 rfl (lv_at hl 3 rfl) ?_
  refine lv_iload_n hx hb dJx4a65c_add_7a177_47 rfl (lv_at hl 1 rfl) ?_
  refine lv_isub hx hb dJx4a65c_add_7a177_48 ?_
  obtain ⟨a1, ea1, hg⟩ := bd_s hf
  clear hf
  subst ea1
  have hf := hg
  clear hg
  obtain ⟨d2, hd2, hf⟩ := bd_s hf
  refine w_cpR C hw hS hd2 kw_528 kw_386 kw_385 kw_15 hl.1 (Nat.le_of_ble_eq_true rfl) (Nat.le_of_ble_eq_true rfl) dJx4a65c_add_7a177_49 (fun H locs hw hS => ?_)
  refine lq_aload hx hb dJx4a65c_add_7a177_52 (lv_at hl 4 rfl) ?_
  refine lv_iload_n hx hb dJx4a65c_add_7a177_54 rfl (lv_at hl 1 rfl) ?_
  refine lq_aload_n hx hb dJx4a65c_add_7a177_55 rfl (lv_at hl 2 rfl) ?_
  obtain ⟨ud3, hud3, hf⟩ := bd_s hf
  obtain ⟨d3, hd3, hf⟩ := bd_s hf
  refine w_aast (ci := 1) (v := x2) C hw hS 6 rfl (by decide) rfl rfl (by decide) hud3 (fun a b h1 h2 => vb_asgC (C := "ManyHands$Entry") (C.2.2.2.2.2.2.2.1.2.1 _ (by decide +kernel)) a b h1 h2) hd3 dJx4a65c_add_7a177_56 (fun H locs hw hS => ?_)
  refine lv_aload_n hx hb dJx4a65c_add_7a177_57 rfl (lv_at hl 0 rfl) ?_
  refine lv_iload_n hx hb dJx4a65c_add_7a177_58 rfl (lv_at hl 3 rfl) ?_
  refine lv_iconst (v := 1) hx hb dJx4a65c_add_7a177_59 (by decide) ?_
  refine lv_iadd hx hb dJx4a65c_add_7a177_60 ?_
  obtain ⟨d4, hd4, hf⟩ := bd_s hf
  refine pt_34 C hw hS hd4 kw_45 dJx4a65c_add_7a177_61 (fun H locs hw hS => ?_)
  cases hf
  obtain rfl : mc = cu := by omega
  obtain rfl : ms = su := by omega
  exact rt_v C hw hS dJx4a65c_add_7a177_64

set_option maxRecDepth 100000 in
set_option maxHeartbeats 4000000 in
theorem wJx4a65c_add_7a177_b36 (C : mx p s m args meth c yJx4a65c_add_7a177 cJx4a65c_add_7a177 5 none A D cy st) {sz9 ns9 : Nat} {sh9 : Sh} {d9 : Dt} {mc ms : Nat} : ∀ (x0 : Nat) (x1 : Int32) (x2 : Option Nat) (x3 : Int32) (t0 : Option Nat) (sz : Nat) (ns : Nat) (sh : Sh) (d : Dt), fJx4a65c_add_7a177_b36 (st 1) (st 2) x0 x1 x2 x3 t0 sz ns sh d = some (sz9, ns9, sh9, d9) → ∀ {cu su : Nat}, sz9 + cu = sz + mc → ns9 + su = ns + ms → ∀ {H : Heap} {locs : List Loc} {ls : Array Slot}, HW A D cy sz sh d H → va_S A s.heap H locs → lv_has ls 5 [(0, .ref x0), (1, .int x1), (2, va_rf x2), (3, .int x3)] → GA p l e s m args below meth c 5 117 mc ms A D cy none sz9 sh9 d9 H locs cu su 36 ls [va_rf t0] := by
  have hx := C.1
  have hb := C.2.1
  intro x0 x1 x2 x3 t0 sz ns sh d hf cu su hcm hsm H locs ls hw hS hl
  have hm0 := mJx4a65c_add_7a177_b36 (st 1) (st 2) x0 x1 x2 x3 t0 sz ns sh d hf
  unfold fJx4a65c_add_7a177_b36 at hf
  refine lq_astore (x := t0) (lv' := [(4, va_rf t0), (0, .ref x0), (1, .int x1), (2, va_rf x2), (3, .int x3)]) hx hb dJx4a65c_add_7a177_36 hl (by decide) rfl (fun ls hl => ?_)
  exact wJx4a65c_add_7a177_b38 C x0 x1 x2 x3 t0 sz ns sh d hf (by omega) (by omega) hw hS (lv_sub hl [1, 2, 3, 4, 0] rfl)

set_option maxRecDepth 100000 in
set_option maxHeartbeats 4000000 in
theorem wJx4a65c_add_7a177_b0 (C : mx p s m args meth c yJx4a65c_add_7a177 cJx4a65c_add_7a177 5 none A D cy st) {sz9 ns9 : Nat} {sh9 : Sh} {d9 : Dt} {mc ms : Nat} : ∀ (x0 : Nat) (x1 : Int32) (x2 : Option Nat) (sz : Nat) (ns : Nat) (sh : Sh) (d : Dt), fJx4a65c_add_7a177_b0 (st 1) (st 2) x0 x1 x2 sz ns sh d = some (sz9, ns9, sh9, d9) → ∀ {cu su : Nat}, sz9 + cu = sz + mc → ns9 + su = ns + ms → ∀ {H : Heap} {locs : List Loc} {ls : Array Slot}, HW A D cy sz sh d H → va_S A s.heap H locs → lv_has ls 5 [(0, .ref x0), (1, .int x1), (2, va_rf x2)] → GA p l e s m args below meth c 5 117 mc ms A D cy none sz9 sh9 d9 H locs cu su 0 ls [] := by
  have hx := C.1
  have hb := C.2.1
  intro x0 x1 x2 sz ns sh d hf cu su hcm hsm H locs ls hw hS hl
  have hm0 := mJx4a65c_add_7a177_b0 (st 1) (st 2) x0 x1 x2 sz ns sh d hf
  unfold fJx4a65c_add_7a177_b0 at hf
  refine lv_aload_n hx hb dJx4a65c_add_7a177_0 rfl (lv_at hl 0 rfl) ?_
  refine lv_iload_n hx hb dJx4a65c_add_7a177_1 rfl (lv_at hl 1 rfl) ?_
  obtain ⟨_, h1, hf⟩ := bd_s hf
  obtain ⟨_, h2, hf⟩ := bd_s hf
  refine cl_V0 C hw hS (tJx4a65c_rangeCheckForAdd_d00df l A D cy st sz sh d x0 x1 h2) cvJx4a65c_rangeCheckForAdd_d00df kw_524 (kc_k h1) ⟨(Nat.le_of_ble_eq_true rfl), (Nat.le_of_ble_eq_true rfl)⟩ hl.1 rfl (Nat.le_of_ble_eq_true rfl) dJx4a65c_add_7a177_2 ⟨by show _ ≤ mc; omega, by show _ ≤ ms; omega⟩ (fun H locs hw hS => ?_)
  refine lv_aload_n hx hb dJx4a65c_add_7a177_5 rfl (lv_at hl 0 rfl) ?_
  refine lv_dup hx hb dJx4a65c_add_7a177_6 rfl ?_
  obtain ⟨v4, hv4, hf⟩ := bd_s hf
  refine gt_32 C hw hv4 kw_47 dJx4a65c_add_7a177_7 ?_
  refine lv_iconst (v := 1) hx hb dJx4a65c_add_7a177_10 (by decide) ?_
  refine lv_iadd hx hb dJx4a65c_add_7a177_11 ?_
  obtain ⟨d5, hd5, hf⟩ := bd_s hf
  refine pt_32 C hw hS hd5 kw_47 dJx4a65c_add_7a177_12 (fun H locs hw hS => ?_)
  refine lv_aload_n hx hb dJx4a65c_add_7a177_15 rfl (lv_at hl 0 rfl) ?_
  obtain ⟨v6, hv6, hf⟩ := bd_s hf
  refine gt_34 C hw hv6 kw_45 dJx4a65c_add_7a177_16 ?_
  refine lv_dup hx hb dJx4a65c_add_7a177_19 rfl ?_
  refine lv_istore_n (i := 3) (lv' := [(3, .int v6), (0, .ref x0), (1, .int x1), (2, va_rf x2)]) hx hb dJx4a65c_add_7a177_20 rfl hl (by decide) (by simp [va_rf_c, cat_i, cat_l, cat_r]) (fun ls hl => ?_)
  refine lv_aload_n hx hb dJx4a65c_add_7a177_21 rfl (lv_at hl 1 rfl) ?_
  obtain ⟨v7, hv7, hf⟩ := bd_s hf
  refine gt_33 C hw hv7 kw_44 dJx4a65c_add_7a177_22 ?_
  refine lv_dup hx hb dJx4a65c_add_7a177_25 (va_rf_c _) ?_
  refine lq_astore (x := v7) (lv' := [(4, va_rf v7), (3, .int v6), (0, .ref x0), (1, .int x1), (2, va_rf x2)]) hx hb dJx4a65c_add_7a177_26 hl (by decide) rfl (fun ls hl => ?_)
  obtain ⟨a8, ea8, hg⟩ := bd_s hf
  clear hf
  subst ea8
  have hf := hg
  clear hg
  obtain ⟨v9, hv9, hf⟩ := bd_s hf
  refine w_lnE C hw hS hv9 dJx4a65c_add_7a177_28 ?_
  refine lv_icmp_ne (tgt := 38) hx hb dJx4a65c_add_7a177_29 (by decide) (fun c_10 => ?_) (fun c_10 => ?_)
  · have hf := if_f c_10 hf
    exact wJx4a65c_add_7a177_b38 C x0 x1 x2 v6 (some a8) sz ns sh d5 hf (by omega) (by omega) hw hS (lv_sub hl [2, 3, 4, 1, 0] rfl)
  · have hf := if_t c_10 hf
    refine lv_aload_n hx hb dJx4a65c_add_7a177_32 rfl (lv_at hl 2 rfl) ?_
    obtain ⟨r12, szq13, nsq13, shq13, dq13, h11, hf⟩ := bw2_s hf
    have hm := mJx4a65c_add_7a177_b36 (st 1) (st 2) x0 x1 x2 v6 r12 szq13 nsq13 shq13 dq13 hf
    have hq := gJx4a65c_grow_d5877 (st 1) (st 2) x0 sz ns sh d5 h11
    refine cl_V C hw hS (tJx4a65c_grow_d5877 l A D cy st x0 sz ns sh d5 h11) cvJx4a65c_grow_d5877 kw_341 (gR_s hv7).1 ⟨(Nat.le_of_ble_eq_true rfl), (Nat.le_of_ble_eq_true rfl)⟩ hl.1 rfl (Nat.le_of_ble_eq_true rfl) dJx4a65c_add_7a177_33 ⟨by show _ ≤ mc; omega, by show _ ≤ ms; omega⟩ (fun H locs hw hS => ?_)
    exact wJx4a65c_add_7a177_b36 C x0 x1 x2 v6 r12 szq13 nsq13 shq13 dq13 hf (by omega) (by omega) hw hS (lv_sub hl [2, 3, 4, 1] rfl)

set_option maxRecDepth 100000 in
set_option maxHeartbeats 4000000 in
theorem tJx4a65c_add_7a177 (l : Launch) (A : Nat → Prop) (D : va_G) (cy : Nat → ClassId) (st : Nat → Nat) (x0 : Nat) (x1 : Int32) (x2 : Option Nat) (sz ns : Nat) (sh : Sh) (d : Dt) {sz9 ns9 : Nat} {sh9 : Sh} {d9 : Dt} (hf : fJx4a65c_add_7a177 (st 1) (st 2) x0 x1 x2 sz ns sh d = some (sz9, ns9, sh9, d9)) : Ct l yJx4a65c_add_7a177 cJx4a65c_add_7a177 5 none 5 117 (sz9 - sz) (ns9 - ns) A D cy st [.ref x0, .int x1, va_rf x2] sz sh d none sz9 sh9 d9 := by
  have hm := gJx4a65c_add_7a177 (st 1) (st 2) x0 x1 x2 sz ns sh d hf
  exact ct_of (by decide) (by simp [lg_sl, va_rf_c, cat_i, cat_l, cat_r]) (fun p e s m args below meth c C hw hS ls hl => wJx4a65c_add_7a177_b0 C x0 x1 x2 sz ns sh d hf (by omega) (by omega) hw hS (by simpa [lv_args, va_rf_c, cat_i, cat_l, cat_r] using hl))
theorem dJx4a65c_fastRemove_b59b0_0 : decode cJx4a65c_fastRemove_b59b0 0 = .ok (.aload_n 0, 1) := by decide +kernel
theorem dJx4a65c_fastRemove_b59b0_1 : decode cJx4a65c_fastRemove_b59b0 1 = .ok (.dup, 1) := by decide +kernel
theorem dJx4a65c_fastRemove_b59b0_2 : decode cJx4a65c_fastRemove_b59b0 2 = .ok (.getfield 63, 3) := by decide +kernel
theorem dJx4a65c_fastRemove_b59b0_5 : decode cJx4a65c_fastRemove_b59b0 5 = .ok (.iconst 1, 1) := by decide +kernel
theorem dJx4a65c_fastRemove_b59b0_6 : decode cJx4a65c_fastRemove_b59b0 6 = .ok (.iadd, 1) := by decide +kernel
theorem dJx4a65c_fastRemove_b59b0_7 : decode cJx4a65c_fastRemove_b59b0 7 = .ok (.putfield 63, 3) := by decide +kernel
theorem dJx4a65c_fastRemove_b59b0_10 : decode cJx4a65c_fastRemove_b59b0 10 = .ok (.aload_n 0, 1) := by decide +kernel
theorem dJx4a65c_fastRemove_b59b0_11 : decode cJx4a65c_fastRemove_b59b0 11 = .ok (.getfield 48, 3) := by decide +kernel
theorem dJx4a65c_fastRemove_b59b0_14 : decode cJx4a65c_fastRemove_b59b0 14 = .ok (.iconst 1, 1) := by decide +kernel
theorem dJx4a65c_fastRemove_b59b0_15 : decode cJx4a65c_fastRemove_b59b0 15 = .ok (.isub, 1) := by decide +kernel
theorem dJx4a65c_fastRemove_b59b0_16 : decode cJx4a65c_fastRemove_b59b0 16 = .ok (.dup, 1) := by decide +kernel
theorem dJx4a65c_fastRemove_b59b0_17 : decode cJx4a65c_fastRemove_b59b0 17 = .ok (.istore_n 3, 1) := by decide +kernel
theorem dJx4a65c_fastRemove_b59b0_18 : decode cJx4a65c_fastRemove_b59b0 18 = .ok (.iload_n 2, 1) := by decide +kernel
theorem dJx4a65c_fastRemove_b59b0_19 : decode cJx4a65c_fastRemove_b59b0 19 = .ok (.if_icmp .le 15, 3) := by decide +kernel
theorem dJx4a65c_fastRemove_b59b0_22 : decode cJx4a65c_fastRemove_b59b0 22 = .ok (.aload_n 1, 1) := by decide +kernel
theorem dJx4a65c_fastRemove_b59b0_23 : decode cJx4a65c_fastRemove_b59b0 23 = .ok (.iload_n 2, 1) := by decide +kernel
theorem dJx4a65c_fastRemove_b59b0_24 : decode cJx4a65c_fastRemove_b59b0 24 = .ok (.iconst 1, 1) := by decide +kernel
theorem dJx4a65c_fastRemove_b59b0_25 : decode cJx4a65c_fastRemove_b59b0 25 = .ok (.iadd, 1) := by decide +kernel
theorem dJx4a65c_fastRemove_b59b0_26 : decode cJx4a65c_fastRemove_b59b0 26 = .ok (.aload_n 1, 1) := by decide +kernel
theorem dJx4a65c_fastRemove_b59b0_27 : decode cJx4a65c_fastRemove_b59b0 27 = .ok (.iload_n 2, 1) := by decide +kernel
theorem dJx4a65c_fastRemove_b59b0_28 : decode cJx4a65c_fastRemove_b59b0 28 = .ok (.iload_n 3, 1) := by decide +kernel
theorem dJx4a65c_fastRemove_b59b0_29 : decode cJx4a65c_fastRemove_b59b0 29 = .ok (.iload_n 2, 1) := by decide +kernel
theorem dJx4a65c_fastRemove_b59b0_30 : decode cJx4a65c_fastRemove_b59b0 30 = .ok (.isub, 1) := by decide +kernel
theorem dJx4a65c_fastRemove_b59b0_31 : decode cJx4a65c_fastRemove_b59b0 31 = .ok (.invokestatic 112, 3) := by decide +kernel
theorem dJx4a65c_fastRemove_b59b0_34 : decode cJx4a65c_fastRemove_b59b0 34 = .ok (.aload_n 1, 1) := by decide +kernel
theorem dJx4a65c_fastRemove_b59b0_35 : decode cJx4a65c_fastRemove_b59b0 35 = .ok (.aload_n 0, 1) := by decide +kernel
theorem dJx4a65c_fastRemove_b59b0_36 : decode cJx4a65c_fastRemove_b59b0 36 = .ok (.iload_n 3, 1) := by decide +kernel
theorem dJx4a65c_fastRemove_b59b0_37 : decode cJx4a65c_fastRemove_b59b0 37 = .ok (.dup_x1, 1) := by decide +kernel
theorem dJx4a65c_fastRemove_b59b0_38 : decode cJx4a65c_fastRemove_b59b0 38 = .ok (.putfield 48, 3) := by decide +kernel
theorem dJx4a65c_fastRemove_b59b0_41 : decode cJx4a65c_fastRemove_b59b0 41 = .ok (.aconst_null, 1) := by decide +kernel
theorem dJx4a65c_fastRemove_b59b0_42 : decode cJx4a65c_fastRemove_b59b0 42 = .ok (.aastore, 1) := by decide +kernel
theorem dJx4a65c_fastRemove_b59b0_43 : decode cJx4a65c_fastRemove_b59b0 43 = .ok (.return_, 1) := by decide +kernel
theorem cvJx4a65c_fastRemove_b59b0 : CV yJx4a65c_fastRemove_b59b0 cJx4a65c_fastRemove_b59b0 4 none 0 2 := ⟨kw_544, ks_15, kw_4, kw_545, ⟨_, _, rfl⟩, by decide, by decide +kernel, by decide +kernel, by decide +kernel⟩
def fJx4a65c_fastRemove_b59b0_b34 (sh : Sh) (x0 : Nat) (x1 : Option Nat) (x3 : Int32) (d : Dt) : Option (Dt) := bd (pI sh d 1 34 x0 x3) fun d1 => bd x1 fun a2 => bd (cst sh 2 none) fun _ => bd (sR sh d1 26 a2 x3 none) fun d3 => some (d3)

def fJx4a65c_fastRemove_b59b0_b0 (sh : Sh) (x0 : Nat) (x1 : Option Nat) (x2 : Int32) (d : Dt) : Option (Dt) := bd (gI sh d 1 32 x0) fun v1 => bd (pI sh d 1 32 x0 (v1 + (1 : Int32))) fun d2 => bd (gI sh d2 1 34 x0) fun v3 => if (v3 - (1 : Int32)) ≤ x2 then (fJx4a65c_fastRemove_b59b0_b34 sh x0 x1 (v3 - (1 : Int32)) d2) else (bd x1 fun a5 => bd (cpR sh d2 a5 (x2 + (1 : Int32)) a5 x2 ((v3 - (1 : Int32)) - x2)) fun d6 => fJx4a65c_fastRemove_b59b0_b34 sh x0 (some a5) (v3 - (1 : Int32)) d6)

def fJx4a65c_fastRemove_b59b0 (sh : Sh) (d : Dt) (x0 : Nat) (x1 : Option Nat) (x2 : Int32) : Option (Dt) := fJx4a65c_fastRemove_b59b0_b0 sh x0 x1 x2 d

set_option maxRecDepth 100000 in
set_option maxHeartbeats 4000000 in
theorem wJx4a65c_fastRemove_b59b0_b34 (C : mx p s m args meth c yJx4a65c_fastRemove_b59b0 cJx4a65c_fastRemove_b59b0 4 none A D cy st) {d9 : Dt} : ∀ (x0 : Nat) (x1 : Option Nat) (x3 : Int32) (d : Dt), fJx4a65c_fastRemove_b59b0_b34 sh x0 x1 x3 d = some d9 → ∀ {H : Heap} {locs : List Loc} {ls : Array Slot}, HW A D cy sz sh d H → va_S A s.heap H locs → lv_has ls 4 [(0, .ref x0), (1, va_rf x1), (3, .int x3)] → GL p l e s m args below meth c 1 30 A D cy none sz sh d9 H locs 34 ls [] := by
  have hx := C.1
  have hb := C.2.1
  intro x0 x1 x3 d hf H locs ls hw hS hl
  unfold fJx4a65c_fastRemove_b59b0_b34 at hf
  refine lq_aload_n hx hb dJx4a65c_fastRemove_b59b0_34 rfl (lv_at hl 1 rfl) ?_
  refine lv_aload_n hx hb dJx4a65c_fastRemove_b59b0_35 rfl (lv_at hl 0 rfl) ?_
  refine lv_iload_n hx hb dJx4a65c_fastRemove_b59b0_36 rfl (lv_at hl 2 rfl) ?_
  refine lv_dup_x1 hx hb dJx4a65c_fastRemove_b59b0_37 rfl rfl ?_
  obtain ⟨d1, hd1, hf⟩ := bd_s hf
  refine pt_34 C hw hS hd1 kw_45 dJx4a65c_fastRemove_b59b0_38 (fun H locs hw hS => ?_)
  refine lv_null hx hb dJx4a65c_fastRemove_b59b0_41 ?_
  obtain ⟨a2, ea2, hg⟩ := bd_s hf
  clear hf
  subst ea2
  have hf := hg
  clear hg
  obtain ⟨ud3, hud3, hf⟩ := bd_s hf
  obtain ⟨d3, hd3, hf⟩ := bd_s hf
  refine w_aast (ci := 1) (v := none) C hw hS 6 rfl (by decide) rfl rfl (by decide) hud3 (fun a b h1 h2 => vb_asgC (C := "ManyHands$Entry") (C.2.2.2.2.2.2.2.1.2.1 _ (by decide +kernel)) a b h1 h2) hd3 dJx4a65c_fastRemove_b59b0_42 (fun H locs hw hS => ?_)
  cases hf
  exact rt_v C hw hS dJx4a65c_fastRemove_b59b0_43

set_option maxRecDepth 100000 in
set_option maxHeartbeats 4000000 in
theorem wJx4a65c_fastRemove_b59b0_b0 (C : mx p s m args meth c yJx4a65c_fastRemove_b59b0 cJx4a65c_fastRemove_b59b0 4 none A D cy st) {d9 : Dt} : ∀ (x0 : Nat) (x1 : Option Nat) (x2 : Int32) (d : Dt), fJx4a65c_fastRemove_b59b0_b0 sh x0 x1 x2 d = some d9 → ∀ {H : Heap} {locs : List Loc} {ls : Array Slot}, HW A D cy sz sh d H → va_S A s.heap H locs → lv_has ls 4 [(0, .ref x0), (1, va_rf x1), (2, .int x2)] → GL p l e s m args below meth c 1 30 A D cy none sz sh d9 H locs 0 ls [] := by
  have hx := C.1
  have hb := C.2.1
  intro x0 x1 x2 d hf H locs ls hw hS hl
  unfold fJx4a65c_fastRemove_b59b0_b0 at hf
  refine lv_aload_n hx hb dJx4a65c_fastRemove_b59b0_0 rfl (lv_at hl 0 rfl) ?_
  refine lv_dup hx hb dJx4a65c_fastRemove_b59b0_1 rfl ?_
  obtain ⟨v1, hv1, hf⟩ := bd_s hf
  refine gt_32 C hw hv1 kw_47 dJx4a65c_fastRemove_b59b0_2 ?_
  refine lv_iconst (v := 1) hx hb dJx4a65c_fastRemove_b59b0_5 (by decide) ?_
  refine lv_iadd hx hb dJx4a65c_fastRemove_b59b0_6 ?_
  obtain ⟨d2, hd2, hf⟩ := bd_s hf
  refine pt_32 C hw hS hd2 kw_47 dJx4a65c_fastRemove_b59b0_7 (fun H locs hw hS => ?_)
  refine lv_aload_n hx hb dJx4a65c_fastRemove_b59b0_10 rfl (lv_at hl 0 rfl) ?_
  obtain ⟨v3, hv3, hf⟩ := bd_s hf
  refine gt_34 C hw hv3 kw_45 dJx4a65c_fastRemove_b59b0_11 ?_
  refine lv_iconst (v := 1) hx hb dJx4a65c_fastRemove_b59b0_14 (by decide) ?_
  refine lv_isub hx hb dJx4a65c_fastRemove_b59b0_15 ?_
  refine lv_dup hx hb dJx4a65c_fastRemove_b59b0_16 rfl ?_
  refine lv_istore_n (lv' := [(3, .int (v3 - (1 : Int32))), (0, .ref x0), (1, va_rf x1), (2, .int x2)]) hx hb dJx4a65c_fastRemove_b59b0_17 rfl hl (by decide) rfl (fun ls hl => ?_)
  refine lv_iload_n hx hb dJx4a65c_fastRemove_b59b0_18 rfl (lv_at hl 3 rfl) ?_
  refine lv_icmp_le (tgt := 34) hx hb dJx4a65c_fastRemove_b59b0_19 (by decide) (fun c_4 => ?_) (fun c_4 => ?_)
  · have hf := if_t c_4 hf
    exact wJx4a65c_fastRemove_b59b0_b34 C x0 x1 (v3 - (1 : Int32)) d2 hf hw hS (lv_sub hl [1, 2, 0] rfl)
  · have hf := if_f c_4 hf
    refine lq_aload_n hx hb dJx4a65c_fastRemove_b59b0_22 rfl (lv_at hl 2 rfl) ?_
    refine lv_iload_n hx hb dJx4a65c_fastRemove_b59b0_23 rfl (lv_at hl 3 rfl) ?_
    refine lv_iconst (v := 1) hx hb dJx4a65c_fastRemove_b59b0_24 (by decide) ?_
    refine lv_iadd hx hb dJx4a65c_fastRemove_b59b0_25 ?_
    refine lq_aload_n hx hb dJx4a65c_fastRemove_b59b0_26 rfl (lv_at hl 2 rfl) ?_
    refine lv_iload_n hx hb dJx4a65c_fastRemove_b59b0_27 rfl (lv_at hl 3 rfl) ?_
    refine lv_iload_n hx hb dJx4a65c_fastRemove_b59b0_28 rfl (lv_at hl 0 rfl) ?_
    refine lv_iload_n hx hb dJx4a65c_fastRemove_b59b0_29 rfl (lv_at hl 3 rfl) ?_
    refine lv_isub hx hb dJx4a65c_fastRemove_b59b0_30 ?_
    obtain ⟨a5, ea5, hg⟩ := bd_s hf
    clear hf
    subst ea5
    have hf := hg
    clear hg
    obtain ⟨d6, hd6, hf⟩ := bd_s hf
    refine w_cpR C hw hS hd6 kw_528 kw_386 kw_385 kw_15 hl.1 (Nat.le_of_ble_eq_true rfl) (Nat.le_of_ble_eq_true rfl) dJx4a65c_fastRemove_b59b0_31 (fun H locs hw hS => ?_)
    exact wJx4a65c_fastRemove_b59b0_b34 C x0 (some a5) (v3 - (1 : Int32)) d6 hf hw hS (lv_sub hl [1, 2, 0] rfl)

set_option maxRecDepth 100000 in
set_option maxHeartbeats 4000000 in
theorem tJx4a65c_fastRemove_b59b0 (l : Launch) (A : Nat → Prop) (D : va_G) (cy : Nat → ClassId) (st : Nat → Nat) (sz : Nat) (sh : Sh) (d : Dt) (x0 : Nat) (x1 : Option Nat) (x2 : Int32) {d9 : Dt} (hf : fJx4a65c_fastRemove_b59b0 sh d x0 x1 x2 = some d9) : Ct l yJx4a65c_fastRemove_b59b0 cJx4a65c_fastRemove_b59b0 4 none 1 30 0 0 A D cy st [.ref x0, va_rf x1, .int x2] sz sh d none sz sh d9 := ct_of (by decide) (by simp [lg_sl, va_rf_c, cat_i, cat_l, cat_r]) (fun p e s m args below meth c C hw hS ls hl => wJx4a65c_fastRemove_b59b0_b0 C x0 x1 x2 d hf hw hS (by simpa [lv_args, va_rf_c, cat_i, cat_l, cat_r] using hl))
theorem dJx4a65c_remove_915e3_0 : decode cJx4a65c_remove_915e3 0 = .ok (.iload_n 1, 1) := by decide +kernel
theorem dJx4a65c_remove_915e3_1 : decode cJx4a65c_remove_915e3 1 = .ok (.aload_n 0, 1) := by decide +kernel
theorem dJx4a65c_remove_915e3_2 : decode cJx4a65c_remove_915e3 2 = .ok (.getfield 48, 3) := by decide +kernel
theorem dJx4a65c_remove_915e3_5 : decode cJx4a65c_remove_915e3 5 = .ok (.invokestatic 118, 3) := by decide +kernel
theorem dJx4a65c_remove_915e3_8 : decode cJx4a65c_remove_915e3 8 = .ok (.pop, 1) := by decide +kernel
theorem dJx4a65c_remove_915e3_9 : decode cJx4a65c_remove_915e3 9 = .ok (.aload_n 0, 1) := by decide +kernel
theorem dJx4a65c_remove_915e3_10 : decode cJx4a65c_remove_915e3 10 = .ok (.getfield 9, 3) := by decide +kernel
theorem dJx4a65c_remove_915e3_13 : decode cJx4a65c_remove_915e3 13 = .ok (.astore_n 2, 1) := by decide +kernel
theorem dJx4a65c_remove_915e3_14 : decode cJx4a65c_remove_915e3 14 = .ok (.aload_n 2, 1) := by decide +kernel
theorem dJx4a65c_remove_915e3_15 : decode cJx4a65c_remove_915e3 15 = .ok (.iload_n 1, 1) := by decide +kernel
theorem dJx4a65c_remove_915e3_16 : decode cJx4a65c_remove_915e3 16 = .ok (.aaload, 1) := by decide +kernel
theorem dJx4a65c_remove_915e3_17 : decode cJx4a65c_remove_915e3 17 = .ok (.astore_n 3, 1) := by decide +kernel
theorem dJx4a65c_remove_915e3_18 : decode cJx4a65c_remove_915e3 18 = .ok (.aload_n 0, 1) := by decide +kernel
theorem dJx4a65c_remove_915e3_19 : decode cJx4a65c_remove_915e3 19 = .ok (.aload_n 2, 1) := by decide +kernel
theorem dJx4a65c_remove_915e3_20 : decode cJx4a65c_remove_915e3 20 = .ok (.iload_n 1, 1) := by decide +kernel
theorem dJx4a65c_remove_915e3_21 : decode cJx4a65c_remove_915e3 21 = .ok (.invokevirtual 144, 3) := by decide +kernel
theorem dJx4a65c_remove_915e3_24 : decode cJx4a65c_remove_915e3 24 = .ok (.aload_n 3, 1) := by decide +kernel
theorem dJx4a65c_remove_915e3_25 : decode cJx4a65c_remove_915e3 25 = .ok (.areturn, 1) := by decide +kernel
theorem cvJx4a65c_remove_915e3 : CV yJx4a65c_remove_915e3 cJx4a65c_remove_915e3 4 (some (.object "java/lang/Object")) 0 1 := ⟨kw_539, kw_540, kw_4, kw_541, ⟨_, _, rfl⟩, by decide, by decide +kernel, by decide +kernel, by decide +kernel⟩
def fJx4a65c_remove_915e3_b0 (sh : Sh) (x0 : Nat) (x1 : Int32) (d : Dt) : Option (Option Nat × Dt) := bd (gI sh d 1 34 x0) fun v1 => bd (fJ15_checkIndex_7cf53 sh d x1 v1) fun r3 => bd (gR sh d 1 33 x0) fun v4 => bd v4 fun a5 => bd (aR sh d 26 a5 x1) fun v6 => bd (fJx4a65c_fastRemove_b59b0 sh d x0 (some a5) x1) fun d9 => some (v6, d9)

def fJx4a65c_remove_915e3 (sh : Sh) (d : Dt) (x0 : Nat) (x1 : Int32) : Option (Option Nat × Dt) := fJx4a65c_remove_915e3_b0 sh x0 x1 d

set_option maxRecDepth 100000 in
set_option maxHeartbeats 4000000 in
theorem wJx4a65c_remove_915e3_b0 (C : mx p s m args meth c yJx4a65c_remove_915e3 cJx4a65c_remove_915e3 4 (some (.object "java/lang/Object")) A D cy st) {r : Option Nat} {d9 : Dt} : ∀ (x0 : Nat) (x1 : Int32) (d : Dt), fJx4a65c_remove_915e3_b0 sh x0 x1 d = some (r, d9) → ∀ {H : Heap} {locs : List Loc} {ls : Array Slot}, HW A D cy sz sh d H → va_S A s.heap H locs → lv_has ls 4 [(0, .ref x0), (1, .int x1)] → GL p l e s m args below meth c 2 53 A D cy (some (va_rf r)) sz sh d9 H locs 0 ls [] := by
  have hx := C.1
  have hb := C.2.1
  intro x0 x1 d hf H locs ls hw hS hl
  unfold fJx4a65c_remove_915e3_b0 at hf
  refine lv_iload_n hx hb dJx4a65c_remove_915e3_0 rfl (lv_at hl 1 rfl) ?_
  refine lv_aload_n hx hb dJx4a65c_remove_915e3_1 rfl (lv_at hl 0 rfl) ?_
  obtain ⟨v1, hv1, hf⟩ := bd_s hf
  refine gt_34 C hw hv1 kw_45 dJx4a65c_remove_915e3_2 ?_
  obtain ⟨r3, h2, hf⟩ := bd_s hf
  refine cl_S0 C hw hS (tJ15_checkIndex_7cf53 l A D cy st sz sh d x1 v1 h2) csJ15_checkIndex_7cf53 kw_475 ⟨(Nat.le_of_ble_eq_true rfl), (Nat.le_of_ble_eq_true rfl)⟩ hl.1 rfl (Nat.le_of_ble_eq_true rfl) dJx4a65c_remove_915e3_5 ⟨Nat.zero_le _, Nat.zero_le _⟩ (fun H locs hw hS => ?_)
  refine lv_pop hx hb dJx4a65c_remove_915e3_8 rfl ?_
  refine lv_aload_n hx hb dJx4a65c_remove_915e3_9 rfl (lv_at hl 0 rfl) ?_
  obtain ⟨v4, hv4, hf⟩ := bd_s hf
  refine gt_33 C hw hv4 kw_44 dJx4a65c_remove_915e3_10 ?_
  refine lq_astore_n (x := v4) (lv' := [(2, va_rf v4), (0, .ref x0), (1, .int x1)]) hx hb dJx4a65c_remove_915e3_13 rfl hl (by decide) rfl (fun ls hl => ?_)
  refine lq_aload_n hx hb dJx4a65c_remove_915e3_14 rfl (lv_at hl 0 rfl) ?_
  refine lv_iload_n hx hb dJx4a65c_remove_915e3_15 rfl (lv_at hl 2 rfl) ?_
  obtain ⟨a5, ea5, hg⟩ := bd_s hf
  clear hf
  subst ea5
  have hf := hg
  clear hg
  obtain ⟨v6, hv6, hf⟩ := bd_s hf
  refine w_aald C hw 6 rfl (by decide) rfl hv6 dJx4a65c_remove_915e3_16 ?_
  refine lq_astore_n (i := 3) (x := v6) (lv' := [(3, va_rf v6), (2, va_rf (some a5)), (0, .ref x0), (1, .int x1)]) hx hb dJx4a65c_remove_915e3_17 rfl hl (by decide) (by simp [va_rf_c, cat_i, cat_l, cat_r]) (fun ls hl => ?_)
  refine lv_aload_n hx hb dJx4a65c_remove_915e3_18 rfl (lv_at hl 2 rfl) ?_
  refine lq_aload_n hx hb dJx4a65c_remove_915e3_19 rfl (lv_at hl 1 rfl) ?_
  refine lv_iload_n hx hb dJx4a65c_remove_915e3_20 rfl (lv_at hl 3 rfl) ?_
  obtain ⟨d9, h7, hf⟩ := bd_s hf
  refine cl_V0 C hw hS (tJx4a65c_fastRemove_b59b0 l A D cy st sz sh d x0 (some a5) x1 h7) cvJx4a65c_fastRemove_b59b0 kw_542 (gR_s hv4).1 ⟨(Nat.le_of_ble_eq_true rfl), (Nat.le_of_ble_eq_true rfl)⟩ hl.1 rfl (Nat.le_of_ble_eq_true rfl) dJx4a65c_remove_915e3_21 ⟨Nat.zero_le _, Nat.zero_le _⟩ (fun H locs hw hS => ?_)
  refine lq_aload_n hx hb dJx4a65c_remove_915e3_24 rfl (lv_at hl 0 rfl) ?_
  cases hf
  exact rt_a C hw hS dJx4a65c_remove_915e3_25

set_option maxRecDepth 100000 in
set_option maxHeartbeats 4000000 in
theorem tJx4a65c_remove_915e3 (l : Launch) (A : Nat → Prop) (D : va_G) (cy : Nat → ClassId) (st : Nat → Nat) (sz : Nat) (sh : Sh) (d : Dt) (x0 : Nat) (x1 : Int32) {r : Option Nat} {d9 : Dt} (hf : fJx4a65c_remove_915e3 sh d x0 x1 = some (r, d9)) : Ct l yJx4a65c_remove_915e3 cJx4a65c_remove_915e3 4 (some (.object "java/lang/Object")) 2 53 0 0 A D cy st [.ref x0, .int x1] sz sh d (some (va_rf r)) sz sh d9 := ct_of (by decide) (Nat.le_of_ble_eq_true rfl) (fun p e s m args below meth c C hw hS ls hl => wJx4a65c_remove_915e3_b0 C x0 x1 d hf hw hS hl)
theorem dJx4a65c_clear_da8c8_0 : decode cJx4a65c_clear_da8c8 0 = .ok (.aload_n 0, 1) := by decide +kernel
theorem dJx4a65c_clear_da8c8_1 : decode cJx4a65c_clear_da8c8 1 = .ok (.dup, 1) := by decide +kernel
theorem dJx4a65c_clear_da8c8_2 : decode cJx4a65c_clear_da8c8 2 = .ok (.getfield 63, 3) := by decide +kernel
theorem dJx4a65c_clear_da8c8_5 : decode cJx4a65c_clear_da8c8 5 = .ok (.iconst 1, 1) := by decide +kernel
theorem dJx4a65c_clear_da8c8_6 : decode cJx4a65c_clear_da8c8 6 = .ok (.iadd, 1) := by decide +kernel
theorem dJx4a65c_clear_da8c8_7 : decode cJx4a65c_clear_da8c8 7 = .ok (.putfield 63, 3) := by decide +kernel
theorem dJx4a65c_clear_da8c8_10 : decode cJx4a65c_clear_da8c8 10 = .ok (.aload_n 0, 1) := by decide +kernel
theorem dJx4a65c_clear_da8c8_11 : decode cJx4a65c_clear_da8c8 11 = .ok (.getfield 9, 3) := by decide +kernel
theorem dJx4a65c_clear_da8c8_14 : decode cJx4a65c_clear_da8c8 14 = .ok (.astore_n 1, 1) := by decide +kernel
theorem dJx4a65c_clear_da8c8_15 : decode cJx4a65c_clear_da8c8 15 = .ok (.aload_n 0, 1) := by decide +kernel
theorem dJx4a65c_clear_da8c8_16 : decode cJx4a65c_clear_da8c8 16 = .ok (.getfield 48, 3) := by decide +kernel
theorem dJx4a65c_clear_da8c8_19 : decode cJx4a65c_clear_da8c8 19 = .ok (.istore_n 2, 1) := by decide +kernel
theorem dJx4a65c_clear_da8c8_20 : decode cJx4a65c_clear_da8c8 20 = .ok (.aload_n 0, 1) := by decide +kernel
theorem dJx4a65c_clear_da8c8_21 : decode cJx4a65c_clear_da8c8 21 = .ok (.iconst 0, 1) := by decide +kernel
theorem dJx4a65c_clear_da8c8_22 : decode cJx4a65c_clear_da8c8 22 = .ok (.dup_x1, 1) := by decide +kernel
theorem dJx4a65c_clear_da8c8_23 : decode cJx4a65c_clear_da8c8 23 = .ok (.putfield 48, 3) := by decide +kernel
theorem dJx4a65c_clear_da8c8_26 : decode cJx4a65c_clear_da8c8 26 = .ok (.istore_n 3, 1) := by decide +kernel
theorem dJx4a65c_clear_da8c8_27 : decode cJx4a65c_clear_da8c8 27 = .ok (.iload_n 3, 1) := by decide +kernel
theorem dJx4a65c_clear_da8c8_28 : decode cJx4a65c_clear_da8c8 28 = .ok (.iload_n 2, 1) := by decide +kernel
theorem dJx4a65c_clear_da8c8_29 : decode cJx4a65c_clear_da8c8 29 = .ok (.if_icmp .ge 13, 3) := by decide +kernel
theorem dJx4a65c_clear_da8c8_32 : decode cJx4a65c_clear_da8c8 32 = .ok (.aload_n 1, 1) := by decide +kernel
theorem dJx4a65c_clear_da8c8_33 : decode cJx4a65c_clear_da8c8 33 = .ok (.iload_n 3, 1) := by decide +kernel
theorem dJx4a65c_clear_da8c8_34 : decode cJx4a65c_clear_da8c8 34 = .ok (.aconst_null, 1) := by decide +kernel
theorem dJx4a65c_clear_da8c8_35 : decode cJx4a65c_clear_da8c8 35 = .ok (.aastore, 1) := by decide +kernel
theorem dJx4a65c_clear_da8c8_36 : decode cJx4a65c_clear_da8c8 36 = .ok (.iinc 3 1, 3) := by decide +kernel
theorem dJx4a65c_clear_da8c8_39 : decode cJx4a65c_clear_da8c8 39 = .ok (.goto (-12), 3) := by decide +kernel
theorem dJx4a65c_clear_da8c8_42 : decode cJx4a65c_clear_da8c8 42 = .ok (.return_, 1) := by decide +kernel
theorem cvJx4a65c_clear_da8c8 : CV yJx4a65c_clear_da8c8 cJx4a65c_clear_da8c8 4 none 0 0 := ⟨kw_571, kw_572, kw_4, kw_573, ⟨_, _, rfl⟩, by decide, by decide +kernel, by decide +kernel, by decide +kernel⟩
def fJx4a65c_clear_da8c8_b27 (sh : Sh) : Nat → Option Nat → Int32 → Int32 → Dt → Option (Dt)
  | 0, _, _, _, _ => none
  | n + 1, x1, x2, x3, d => if x2 ≤ x3 then (some (d)) else (bd x1 fun a2 => bd (cst sh 2 none) fun _ => bd (sR sh d 26 a2 x3 none) fun d3 => fJx4a65c_clear_da8c8_b27 sh n (some a2) x2 (x3 + 1) d3)

def fJx4a65c_clear_da8c8_b0 (sh : Sh) (x0 : Nat) (d : Dt) : Option (Dt) := bd (gI sh d 1 32 x0) fun v1 => bd (pI sh d 1 32 x0 (v1 + (1 : Int32))) fun d2 => bd (gR sh d2 1 33 x0) fun v3 => bd (gI sh d2 1 34 x0) fun v4 => bd (pI sh d2 1 34 x0 (0 : Int32)) fun d5 => fJx4a65c_clear_da8c8_b27 sh fu v3 v4 (0 : Int32) d5

def fJx4a65c_clear_da8c8 (sh : Sh) (d : Dt) (x0 : Nat) : Option (Dt) := fJx4a65c_clear_da8c8_b0 sh x0 d

set_option maxRecDepth 100000 in
set_option maxHeartbeats 4000000 in
theorem wJx4a65c_clear_da8c8_b27 (C : mx p s m args meth c yJx4a65c_clear_da8c8 cJx4a65c_clear_da8c8 4 none A D cy st) {d9 : Dt} : ∀ (n : Nat) (x1 : Option Nat) (x2 : Int32) (x3 : Int32) (d : Dt), fJx4a65c_clear_da8c8_b27 sh n x1 x2 x3 d = some d9 → ∀ {H : Heap} {locs : List Loc} {ls : Array Slot}, HW A D cy sz sh d H → va_S A s.heap H locs → lv_has ls 4 [(1, va_rf x1), (2, .int x2), (3, .int x3)] → GL p l e s m args below meth c 0 0 A D cy none sz sh d9 H locs 27 ls [] := by
  have hx := C.1
  have hb := C.2.1
  intro n
  induction n with
  | zero => intro x1 x2 x3 d hf; cases hf
  | succ n ih =>
    intro x1 x2 x3 d hf H locs ls hw hS hl
    rw [fJx4a65c_clear_da8c8_b27] at hf
    refine lv_iload_n hx hb dJx4a65c_clear_da8c8_27 rfl (lv_at hl 2 rfl) ?_
    refine lv_iload_n hx hb dJx4a65c_clear_da8c8_28 rfl (lv_at hl 1 rfl) ?_
    refine lv_icmp_ge (tgt := 42) hx hb dJx4a65c_clear_da8c8_29 (by decide) (fun c_1 => ?_) (fun c_1 => ?_)
    · have hf := if_t c_1 hf
      cases hf
      exact rt_v C hw hS dJx4a65c_clear_da8c8_42
    · have hf := if_f c_1 hf
      refine lq_aload_n hx hb dJx4a65c_clear_da8c8_32 rfl (lv_at hl 0 rfl) ?_
      refine lv_iload_n hx hb dJx4a65c_clear_da8c8_33 rfl (lv_at hl 2 rfl) ?_
      refine lv_null hx hb dJx4a65c_clear_da8c8_34 ?_
      obtain ⟨a2, ea2, hg⟩ := bd_s hf
      clear hf
      subst ea2
      have hf := hg
      clear hg
      obtain ⟨ud3, hud3, hf⟩ := bd_s hf
      obtain ⟨d3, hd3, hf⟩ := bd_s hf
      refine w_aast (ci := 1) (v := none) C hw hS 6 rfl (by decide) rfl rfl (by decide) hud3 (fun a b h1 h2 => vb_asgC (C := "ManyHands$Entry") (C.2.2.2.2.2.2.2.1.2.1 _ (by decide +kernel)) a b h1 h2) hd3 dJx4a65c_clear_da8c8_35 (fun H locs hw hS => ?_)
      refine lv_iinc (v := (x3 + 1)) (lv' := [(3, .int (x3 + 1)), (1, va_rf (some a2)), (2, .int x2)]) hx hb dJx4a65c_clear_da8c8_36 hl (k := 2) rfl rfl (by decide) rfl (fun ls hl => ?_)
      refine lv_goto (tgt := 27) hx hb dJx4a65c_clear_da8c8_39 (by decide) ?_
      exact ih (some a2) x2 (x3 + 1) d3 hf hw hS (lv_sub hl [1, 2, 0] rfl)

set_option maxRecDepth 100000 in
set_option maxHeartbeats 4000000 in
theorem wJx4a65c_clear_da8c8_b0 (C : mx p s m args meth c yJx4a65c_clear_da8c8 cJx4a65c_clear_da8c8 4 none A D cy st) {d9 : Dt} : ∀ (x0 : Nat) (d : Dt), fJx4a65c_clear_da8c8_b0 sh x0 d = some d9 → ∀ {H : Heap} {locs : List Loc} {ls : Array Slot}, HW A D cy sz sh d H → va_S A s.heap H locs → lv_has ls 4 [(0, .ref x0)] → GL p l e s m args below meth c 0 0 A D cy none sz sh d9 H locs 0 ls [] := by
  have hx := C.1
  have hb := C.2.1
  intro x0 d hf H locs ls hw hS hl
  unfold fJx4a65c_clear_da8c8_b0 at hf
  refine lv_aload_n hx hb dJx4a65c_clear_da8c8_0 rfl (lv_at hl 0 rfl) ?_
  refine lv_dup hx hb dJx4a65c_clear_da8c8_1 rfl ?_
  obtain ⟨v1, hv1, hf⟩ := bd_s hf
  refine gt_32 C hw hv1 kw_47 dJx4a65c_clear_da8c8_2 ?_
  refine lv_iconst (v := 1) hx hb dJx4a65c_clear_da8c8_5 (by decide) ?_
  refine lv_iadd hx hb dJx4a65c_clear_da8c8_6 ?_
  obtain ⟨d2, hd2, hf⟩ := bd_s hf
  refine pt_32 C hw hS hd2 kw_47 dJx4a65c_clear_da8c8_7 (fun H locs hw hS => ?_)
  refine lv_aload_n hx hb dJx4a65c_clear_da8c8_10 rfl (lv_at hl 0 rfl) ?_
  obtain ⟨v3, hv3, hf⟩ := bd_s hf
  refine gt_33 C hw hv3 kw_44 dJx4a65c_clear_da8c8_11 ?_
  refine lq_astore_n (x := v3) (lv' := [(1, va_rf v3), (0, .ref x0)]) hx hb dJx4a65c_clear_da8c8_14 rfl hl (by decide) rfl (fun ls hl => ?_)
  refine lv_aload_n hx hb dJx4a65c_clear_da8c8_15 rfl (lv_at hl 1 rfl) ?_
  obtain ⟨v4, hv4, hf⟩ := bd_s hf
  refine gt_34 C hw hv4 kw_45 dJx4a65c_clear_da8c8_16 ?_
  refine lv_istore_n (i := 2) (lv' := [(2, .int v4), (1, va_rf v3), (0, .ref x0)]) hx hb dJx4a65c_clear_da8c8_19 rfl hl (by decide) (by simp [va_rf_c, cat_i, cat_l, cat_r]) (fun ls hl => ?_)
  refine lv_aload_n hx hb dJx4a65c_clear_da8c8_20 rfl (lv_at hl 2 rfl) ?_
  refine lv_iconst (v := 0) hx hb dJx4a65c_clear_da8c8_21 (by decide) ?_
  refine lv_dup_x1 hx hb dJx4a65c_clear_da8c8_22 rfl rfl ?_
  obtain ⟨d5, hd5, hf⟩ := bd_s hf
  refine pt_34 C hw hS hd5 kw_45 dJx4a65c_clear_da8c8_23 (fun H locs hw hS => ?_)
  refine lv_istore_n (lv' := [(3, .int (0 : Int32)), (2, .int v4), (1, va_rf v3), (0, .ref x0)]) hx hb dJx4a65c_clear_da8c8_26 rfl hl (by decide) rfl (fun ls hl => ?_)
  exact wJx4a65c_clear_da8c8_b27 C fu v3 v4 (0 : Int32) d5 hf hw hS (lv_sub hl [2, 1, 0] rfl)

set_option maxRecDepth 100000 in
set_option maxHeartbeats 4000000 in
theorem tJx4a65c_clear_da8c8 (l : Launch) (A : Nat → Prop) (D : va_G) (cy : Nat → ClassId) (st : Nat → Nat) (sz : Nat) (sh : Sh) (d : Dt) (x0 : Nat) {d9 : Dt} (hf : fJx4a65c_clear_da8c8 sh d x0 = some d9) : Ct l yJx4a65c_clear_da8c8 cJx4a65c_clear_da8c8 4 none 0 0 0 0 A D cy st [.ref x0] sz sh d none sz sh d9 := ct_of (by decide) (Nat.le_of_ble_eq_true rfl) (fun p e s m args below meth c C hw hS ls hl => wJx4a65c_clear_da8c8_b0 C x0 d hf hw hS hl)
end
