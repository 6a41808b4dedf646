section
variable {p : Program} {l : Launch} {e : Env} {s : State} {m : MethodId} {args : Array Value} {below : List Frame} {meth : Method} {c : Code} {A : Nat → Prop} {D : va_G} {cy : Nat → ClassId} {st : Nat → Nat} {sz : Nat} {sh : Sh}
theorem dX5_init_0 : decode cX5_init 0 = .ok (.aload_n 0, 1) := by decide +kernel
theorem dX5_init_1 : decode cX5_init 1 = .ok (.invokespecial 3, 3) := by decide +kernel
theorem dX5_init_4 : decode cX5_init 4 = .ok (.aload_n 0, 1) := by decide +kernel
theorem dX5_init_5 : decode cX5_init 5 = .ok (.bipush 64, 2) := by decide +kernel
theorem dX5_init_7 : decode cX5_init 7 = .ok (.newarray .long, 2) := by decide +kernel
theorem dX5_init_9 : decode cX5_init 9 = .ok (.putfield 9, 3) := by decide +kernel
theorem dX5_init_12 : decode cX5_init 12 = .ok (.return_, 1) := by decide +kernel
theorem ckX5_init : CK yX5_init cX5_init 1 0 := ⟨rfl, kw_59, kw_5, kw_60, by decide +kernel, by decide +kernel, by decide +kernel⟩
def fX5_init_b9 (em mi : Nat) (t0 : Nat) (t1 : Nat) (sz : Nat) (ns : Nat) (sh : Sh) (d : Dt) : Option (Wl) := bd (pR sh d 7 224 t0 (some t1)) fun d1 => some (sz, ns, sh, d1)

def fX5_init_b0 (em mi : Nat) (x0 : Nat) (sz : Nat) (ns : Nat) (sh : Sh) (d : Dt) : Option (Wl) := bw (nwA sz ns sh d 21 (64 : Int32)) fun szq1 nsq1 shq1 dq1 => fX5_init_b9 em mi x0 sz szq1 nsq1 shq1 dq1

def fX5_init (em mi : Nat) (x0 : Nat) (sz ns : Nat) (sh : Sh) (d : Dt) : Option (Wl) := fX5_init_b0 em mi x0 sz ns sh d

set_option maxRecDepth 100000 in
set_option maxHeartbeats 4000000 in
theorem mX5_init_b9 (em mi : Nat) {sz9 ns9 : Nat} {sh9 : Sh} {d9 : Dt} : ∀ (t0 : Nat) (t1 : Nat) (sz : Nat) (ns : Nat) (sh : Sh) (d : Dt), fX5_init_b9 em mi t0 t1 sz ns sh d = some (sz9, ns9, sh9, d9) → sz ≤ sz9 ∧ ns ≤ ns9 := by
  intro t0 t1 sz ns sh d hf
  unfold fX5_init_b9 at hf
  obtain ⟨d1, hd1, hf⟩ := bd_s hf
  cases hf
  exact ⟨Nat.le_refl _, Nat.le_refl _⟩

set_option maxRecDepth 100000 in
set_option maxHeartbeats 4000000 in
theorem mX5_init_b0 (em mi : Nat) {sz9 ns9 : Nat} {sh9 : Sh} {d9 : Dt} : ∀ (x0 : Nat) (sz : Nat) (ns : Nat) (sh : Sh) (d : Dt), fX5_init_b0 em mi x0 sz ns sh d = some (sz9, ns9, sh9, d9) → sz ≤ sz9 ∧ ns ≤ ns9 := by
  intro x0 sz ns sh d hf
  unfold fX5_init_b0 at hf
  obtain ⟨szq1, nsq1, shq1, dq1, hq1, hf⟩ := bw_s hf
  have hq := nwA_s hq1
  have hm := mX5_init_b9 em mi x0 sz szq1 nsq1 shq1 dq1 hf
  omega

theorem gX5_init (em mi : Nat) (x0 : Nat) (sz ns : Nat) (sh : Sh) (d : Dt) {sz9 ns9 : Nat} {sh9 : Sh} {d9 : Dt} (hf : fX5_init em mi x0 sz ns sh d = some (sz9, ns9, sh9, d9)) : sz ≤ sz9 ∧ ns ≤ ns9 := mX5_init_b0 em mi x0 sz ns sh d hf

set_option maxRecDepth 100000 in
set_option maxHeartbeats 4000000 in
theorem wX5_init_b9 (C : mx p s m args meth c yX5_init cX5_init 1 none A D cy st) {sz9 ns9 : Nat} {sh9 : Sh} {d9 : Dt} {mc ms : Nat} : ∀ (t0 : Nat) (t1 : Nat) (sz : Nat) (ns : Nat) (sh : Sh) (d : Dt), fX5_init_b9 (st 1) (st 2) t0 t1 sz ns sh d = some (sz9, ns9, sh9, d9) → ∀ {cu su : Nat}, sz9 + cu = sz + mc → ns9 + su = ns + ms → ∀ {H : Heap} {locs : List Loc} {ls : Array Slot}, HW A D cy sz sh d H → va_S A s.heap H locs → lv_has ls 1 [] → GA p l e s m args below meth c 1 20 mc ms A D cy none sz9 sh9 d9 H locs cu su 9 ls [.ref t1, .ref t0] := by
  have hx := C.1
  have hb := C.2.1
  intro t0 t1 sz ns sh d hf cu su hcm hsm H locs ls hw hS hl
  have hm0 := mX5_init_b9 (st 1) (st 2) t0 t1 sz ns sh d hf
  unfold fX5_init_b9 at hf
  obtain ⟨d1, hd1, hf⟩ := bd_s hf
  refine pt_224 C hw hS rfl rfl hd1 kw_62 dX5_init_9 (fun H locs hw hS => ?_)
  cases hf
  obtain rfl : mc = cu := by omega
  obtain rfl : ms = su := by omega
  exact rt_v C hw hS dX5_init_12

set_option maxRecDepth 100000 in
set_option maxHeartbeats 4000000 in
theorem wX5_init_b0 (C : mx p s m args meth c yX5_init cX5_init 1 none A D cy st) {sz9 ns9 : Nat} {sh9 : Sh} {d9 : Dt} {mc ms : Nat} : ∀ (x0 : Nat) (sz : Nat) (ns : Nat) (sh : Sh) (d : Dt), fX5_init_b0 (st 1) (st 2) x0 sz ns sh d = some (sz9, ns9, sh9, d9) → ∀ {cu su : Nat}, sz9 + cu = sz + mc → ns9 + su = ns + ms → ∀ {H : Heap} {locs : List Loc} {ls : Array Slot}, HW A D cy sz sh d H → va_S A s.heap H locs → lv_has ls 1 [(0, .ref x0)] → GA p l e s m args below meth c 1 20 mc ms A D cy none sz9 sh9 d9 H locs cu su 0 ls [] := by
  have hx := C.1
  have hb := C.2.1
  intro x0 sz ns sh d hf cu su hcm hsm H locs ls hw hS hl
  have hm0 := mX5_init_b0 (st 1) (st 2) x0 sz ns sh d hf
  unfold fX5_init_b0 at hf
  refine lv_aload_n hx hb dX5_init_0 rfl (lv_at hl 0 rfl) ?_
  refine W.objInit hx hb C.2.2.2.2.2.1 (C.2.2.2.2.1 _ kw_61) (C.2.2.2.2.1 _ kw_24) (C.2.2.2.2.1 _ kw_25) rfl (hl.1.trans C.2.2.2.1.symm) rfl dX5_init_1 (Nat.le_of_ble_eq_true rfl) (Nat.le_of_ble_eq_true rfl) ?_
  refine W.eq (g2 := F0 m 4 ls []) rfl ?_
  refine lv_aload_n hx hb dX5_init_4 rfl (lv_at hl 0 rfl) ?_
  refine lv_bipush (v := 64) hx hb dX5_init_5 (by decide) ?_
  obtain ⟨szq1, nsq1, shq1, dq1, hq1, hf⟩ := bw_s hf
  have hm := mX5_init_b9 (st 1) (st 2) x0 sz szq1 nsq1 shq1 dq1 hf
  have hq := nwA_s hq1
  refine w_newJ C hw hS kw_71 hq1 (by show _ ≤ mc; omega) (by show _ ≤ ms; omega) dX5_init_7 (fun H hw hS => ?_)
  exact wX5_init_b9 C x0 sz szq1 nsq1 shq1 dq1 hf (by omega) (by omega) hw hS (lv_sub hl [] rfl)

set_option maxRecDepth 100000 in
set_option maxHeartbeats 4000000 in
theorem tX5_init (l : Launch) (A : Nat → Prop) (D : va_G) (cy : Nat → ClassId) (st : Nat → Nat) (x0 : Nat) (sz ns : Nat) (sh : Sh) (d : Dt) {sz9 ns9 : Nat} {sh9 : Sh} {d9 : Dt} (hf : fX5_init (st 1) (st 2) x0 sz ns sh d = some (sz9, ns9, sh9, d9)) : Ct l yX5_init cX5_init 1 none 1 20 (sz9 - sz) (ns9 - ns) A D cy st [.ref x0] sz sh d none sz9 sh9 d9 := by
  have hm := gX5_init (st 1) (st 2) x0 sz ns sh d hf
  exact ct_of (by decide) (Nat.le_of_ble_eq_true rfl) (fun p e s m args below meth c C hw hS ls hl => wX5_init_b0 C x0 sz ns sh d hf (by omega) (by omega) hw hS hl)
theorem dX4_init_0 : decode cX4_init 0 = .ok (.aload_n 0, 1) := by decide +kernel
theorem dX4_init_1 : decode cX4_init 1 = .ok (.invokespecial 3, 3) := by decide +kernel
theorem dX4_init_4 : decode cX4_init 4 = .ok (.aload_n 0, 1) := by decide +kernel
theorem dX4_init_5 : decode cX4_init 5 = .ok (.bipush 6, 2) := by decide +kernel
theorem dX4_init_7 : decode cX4_init 7 = .ok (.newarray .int, 2) := by decide +kernel
theorem dX4_init_9 : decode cX4_init 9 = .ok (.putfield 9, 3) := by decide +kernel
theorem dX4_init_12 : decode cX4_init 12 = .ok (.return_, 1) := by decide +kernel
theorem ckX4_init : CK yX4_init cX4_init 1 0 := ⟨rfl, kw_119, kw_8, kw_120, by decide +kernel, by decide +kernel, by decide +kernel⟩
def fX4_init_b9 (em mi : Nat) (t0 : Nat) (t1 : Nat) (sz : Nat) (ns : Nat) (sh : Sh) (d : Dt) : Option (Wl) := bd (pR sh d 6 192 t0 (some t1)) fun d1 => some (sz, ns, sh, d1)

def fX4_init_b0 (em mi : Nat) (x0 : Nat) (sz : Nat) (ns : Nat) (sh : Sh) (d : Dt) : Option (Wl) := bw (nwA sz ns sh d 20 (6 : Int32)) fun szq1 nsq1 shq1 dq1 => fX4_init_b9 em mi x0 sz szq1 nsq1 shq1 dq1

def fX4_init (em mi : Nat) (x0 : Nat) (sz ns : Nat) (sh : Sh) (d : Dt) : Option (Wl) := fX4_init_b0 em mi x0 sz ns sh d

set_option maxRecDepth 100000 in
set_option maxHeartbeats 4000000 in
theorem mX4_init_b9 (em mi : Nat) {sz9 ns9 : Nat} {sh9 : Sh} {d9 : Dt} : ∀ (t0 : Nat) (t1 : Nat) (sz : Nat) (ns : Nat) (sh : Sh) (d : Dt), fX4_init_b9 em mi t0 t1 sz ns sh d = some (sz9, ns9, sh9, d9) → sz ≤ sz9 ∧ ns ≤ ns9 := by
  intro t0 t1 sz ns sh d hf
  unfold fX4_init_b9 at hf
  obtain ⟨d1, hd1, hf⟩ := bd_s hf
  cases hf
  exact ⟨Nat.le_refl _, Nat.le_refl _⟩

set_option maxRecDepth 100000 in
set_option maxHeartbeats 4000000 in
theorem mX4_init_b0 (em mi : Nat) {sz9 ns9 : Nat} {sh9 : Sh} {d9 : Dt} : ∀ (x0 : Nat) (sz : Nat) (ns : Nat) (sh : Sh) (d : Dt), fX4_init_b0 em mi x0 sz ns sh d = some (sz9, ns9, sh9, d9) → sz ≤ sz9 ∧ ns ≤ ns9 := by
  intro x0 sz ns sh d hf
  unfold fX4_init_b0 at hf
  obtain ⟨szq1, nsq1, shq1, dq1, hq1, hf⟩ := bw_s hf
  have hq := nwA_s hq1
  have hm := mX4_init_b9 em mi x0 sz szq1 nsq1 shq1 dq1 hf
  omega

theorem gX4_init (em mi : Nat) (x0 : Nat) (sz ns : Nat) (sh : Sh) (d : Dt) {sz9 ns9 : Nat} {sh9 : Sh} {d9 : Dt} (hf : fX4_init em mi x0 sz ns sh d = some (sz9, ns9, sh9, d9)) : sz ≤ sz9 ∧ ns ≤ ns9 := mX4_init_b0 em mi x0 sz ns sh d hf

set_option maxRecDepth 100000 in
set_option maxHeartbeats 4000000 in
theorem wX4_init_b9 (C : mx p s m args meth c yX4_init cX4_init 1 none A D cy st) {sz9 ns9 : Nat} {sh9 : Sh} {d9 : Dt} {mc ms : Nat} : ∀ (t0 : Nat) (t1 : Nat) (sz : Nat) (ns : Nat) (sh : Sh) (d : Dt), fX4_init_b9 (st 1) (st 2) t0 t1 sz ns sh d = some (sz9, ns9, sh9, d9) → ∀ {cu su : Nat}, sz9 + cu = sz + mc → ns9 + su = ns + ms → ∀ {H : Heap} {locs : List Loc} {ls : Array Slot}, HW A D cy sz sh d H → va_S A s.heap H locs → lv_has ls 1 [] → GA p l e s m args below meth c 1 20 mc ms A D cy none sz9 sh9 d9 H locs cu su 9 ls [.ref t1, .ref t0] := by
  have hx := C.1
  have hb := C.2.1
  intro t0 t1 sz ns sh d hf cu su hcm hsm H locs ls hw hS hl
  have hm0 := mX4_init_b9 (st 1) (st 2) t0 t1 sz ns sh d hf
  unfold fX4_init_b9 at hf
  obtain ⟨d1, hd1, hf⟩ := bd_s hf
  refine pt_192 C hw hS rfl rfl hd1 kw_122 dX4_init_9 (fun H locs hw hS => ?_)
  cases hf
  obtain rfl : mc = cu := by omega
  obtain rfl : ms = su := by omega
  exact rt_v C hw hS dX4_init_12

set_option maxRecDepth 100000 in
set_option maxHeartbeats 4000000 in
theorem wX4_init_b0 (C : mx p s m args meth c yX4_init cX4_init 1 none A D cy st) {sz9 ns9 : Nat} {sh9 : Sh} {d9 : Dt} {mc ms : Nat} : ∀ (x0 : Nat) (sz : Nat) (ns : Nat) (sh : Sh) (d : Dt), fX4_init_b0 (st 1) (st 2) x0 sz ns sh d = some (sz9, ns9, sh9, d9) → ∀ {cu su : Nat}, sz9 + cu = sz + mc → ns9 + su = ns + ms → ∀ {H : Heap} {locs : List Loc} {ls : Array Slot}, HW A D cy sz sh d H → va_S A s.heap H locs → lv_has ls 1 [(0, .ref x0)] → GA p l e s m args below meth c 1 20 mc ms A D cy none sz9 sh9 d9 H locs cu su 0 ls [] := by
  have hx := C.1
  have hb := C.2.1
  intro x0 sz ns sh d hf cu su hcm hsm H locs ls hw hS hl
  have hm0 := mX4_init_b0 (st 1) (st 2) x0 sz ns sh d hf
  unfold fX4_init_b0 at hf
  refine lv_aload_n hx hb dX4_init_0 rfl (lv_at hl 0 rfl) ?_
  refine W.objInit hx hb C.2.2.2.2.2.1 (C.2.2.2.2.1 _ kw_121) (C.2.2.2.2.1 _ kw_24) (C.2.2.2.2.1 _ kw_25) rfl (hl.1.trans C.2.2.2.1.symm) rfl dX4_init_1 (Nat.le_of_ble_eq_true rfl) (Nat.le_of_ble_eq_true rfl) ?_
  refine W.eq (g2 := F0 m 4 ls []) rfl ?_
  refine lv_aload_n hx hb dX4_init_4 rfl (lv_at hl 0 rfl) ?_
  refine lv_bipush (v := 6) hx hb dX4_init_5 (by decide) ?_
  obtain ⟨szq1, nsq1, shq1, dq1, hq1, hf⟩ := bw_s hf
  have hm := mX4_init_b9 (st 1) (st 2) x0 sz szq1 nsq1 shq1 dq1 hf
  have hq := nwA_s hq1
  refine w_newI C hw hS kw_70 hq1 (by show _ ≤ mc; omega) (by show _ ≤ ms; omega) dX4_init_7 (fun H hw hS => ?_)
  exact wX4_init_b9 C x0 sz szq1 nsq1 shq1 dq1 hf (by omega) (by omega) hw hS (lv_sub hl [] rfl)

set_option maxRecDepth 100000 in
set_option maxHeartbeats 4000000 in
theorem tX4_init (l : Launch) (A : Nat → Prop) (D : va_G) (cy : Nat → ClassId) (st : Nat → Nat) (x0 : Nat) (sz ns : Nat) (sh : Sh) (d : Dt) {sz9 ns9 : Nat} {sh9 : Sh} {d9 : Dt} (hf : fX4_init (st 1) (st 2) x0 sz ns sh d = some (sz9, ns9, sh9, d9)) : Ct l yX4_init cX4_init 1 none 1 20 (sz9 - sz) (ns9 - ns) A D cy st [.ref x0] sz sh d none sz9 sh9 d9 := by
  have hm := gX4_init (st 1) (st 2) x0 sz ns sh d hf
  exact ct_of (by decide) (Nat.le_of_ble_eq_true rfl) (fun p e s m args below meth c C hw hS ls hl => wX4_init_b0 C x0 sz ns sh d hf (by omega) (by omega) hw hS hl)
theorem dX2_init_0 : decode cX2_init 0 = .ok (.aload_n 0, 1) := by decide +kernel
theorem dX2_init_1 : decode cX2_init 1 = .ok (.invokespecial 3, 3) := by decide +kernel
theorem dX2_init_4 : decode cX2_init 4 = .ok (.aload_n 0, 1) := by decide +kernel
theorem dX2_init_5 : decode cX2_init 5 = .ok (.bipush 16, 2) := by decide +kernel
theorem dX2_init_7 : decode cX2_init 7 = .ok (.newarray .long, 2) := by decide +kernel
theorem dX2_init_9 : decode cX2_init 9 = .ok (.putfield 9, 3) := by decide +kernel
theorem dX2_init_12 : decode cX2_init 12 = .ok (.aload_n 0, 1) := by decide +kernel
theorem dX2_init_13 : decode cX2_init 13 = .ok (.bipush 16, 2) := by decide +kernel
theorem dX2_init_15 : decode cX2_init 15 = .ok (.newarray .int, 2) := by decide +kernel
theorem dX2_init_17 : decode cX2_init 17 = .ok (.putfield 15, 3) := by decide +kernel
theorem dX2_init_20 : decode cX2_init 20 = .ok (.return_, 1) := by decide +kernel
theorem ckX2_init : CK yX2_init cX2_init 1 0 := ⟨rfl, kw_133, kw_9, kw_134, by decide +kernel, by decide +kernel, by decide +kernel⟩
def fX2_init_b17 (em mi : Nat) (t0 : Nat) (t1 : Nat) (sz : Nat) (ns : Nat) (sh : Sh) (d : Dt) : Option (Wl) := bd (pR sh d 4 129 t0 (some t1)) fun d1 => some (sz, ns, sh, d1)

def fX2_init_b9 (em mi : Nat) (x0 : Nat) (t0 : Nat) (t1 : Nat) (sz : Nat) (ns : Nat) (sh : Sh) (d : Dt) : Option (Wl) := bd (pR sh d 4 128 t0 (some t1)) fun d1 => bw (nwA sz ns sh d1 20 (16 : Int32)) fun szq2 nsq2 shq2 dq2 => fX2_init_b17 em mi x0 sz szq2 nsq2 shq2 dq2

def fX2_init_b0 (em mi : Nat) (x0 : Nat) (sz : Nat) (ns : Nat) (sh : Sh) (d : Dt) : Option (Wl) := bw (nwA sz ns sh d 21 (16 : Int32)) fun szq1 nsq1 shq1 dq1 => fX2_init_b9 em mi x0 x0 sz szq1 nsq1 shq1 dq1

def fX2_init (em mi : Nat) (x0 : Nat) (sz ns : Nat) (sh : Sh) (d : Dt) : Option (Wl) := fX2_init_b0 em mi x0 sz ns sh d

set_option maxRecDepth 100000 in
set_option maxHeartbeats 4000000 in
theorem mX2_init_b17 (em mi : Nat) {sz9 ns9 : Nat} {sh9 : Sh} {d9 : Dt} : ∀ (t0 : Nat) (t1 : Nat) (sz : Nat) (ns : Nat) (sh : Sh) (d : Dt), fX2_init_b17 em mi t0 t1 sz ns sh d = some (sz9, ns9, sh9, d9) → sz ≤ sz9 ∧ ns ≤ ns9 := by
  intro t0 t1 sz ns sh d hf
  unfold fX2_init_b17 at hf
  obtain ⟨d1, hd1, hf⟩ := bd_s hf
  cases hf
  exact ⟨Nat.le_refl _, Nat.le_refl _⟩

set_option maxRecDepth 100000 in
set_option maxHeartbeats 4000000 in
theorem mX2_init_b9 (em mi : Nat) {sz9 ns9 : Nat} {sh9 : Sh} {d9 : Dt} : ∀ (x0 : Nat) (t0 : Nat) (t1 : Nat) (sz : Nat) (ns : Nat) (sh : Sh) (d : Dt), fX2_init_b9 em mi x0 t0 t1 sz ns sh d = some (sz9, ns9, sh9, d9) → sz ≤ sz9 ∧ ns ≤ ns9 := by
  intro x0 t0 t1 sz ns sh d hf
  unfold fX2_init_b9 at hf
  obtain ⟨d1, hd1, hf⟩ := bd_s hf
  obtain ⟨szq2, nsq2, shq2, dq2, hq2, hf⟩ := bw_s hf
  have hq := nwA_s hq2
  have hm := mX2_init_b17 em mi x0 sz szq2 nsq2 shq2 dq2 hf
  omega

set_option maxRecDepth 100000 in
set_option maxHeartbeats 4000000 in
theorem mX2_init_b0 (em mi : Nat) {sz9 ns9 : Nat} {sh9 : Sh} {d9 : Dt} : ∀ (x0 : Nat) (sz : Nat) (ns : Nat) (sh : Sh) (d : Dt), fX2_init_b0 em mi x0 sz ns sh d = some (sz9, ns9, sh9, d9) → sz ≤ sz9 ∧ ns ≤ ns9 := by
  intro x0 sz ns sh d hf
  unfold fX2_init_b0 at hf
  obtain ⟨szq1, nsq1, shq1, dq1, hq1, hf⟩ := bw_s hf
  have hq := nwA_s hq1
  have hm := mX2_init_b9 em mi x0 x0 sz szq1 nsq1 shq1 dq1 hf
  omega

theorem gX2_init (em mi : Nat) (x0 : Nat) (sz ns : Nat) (sh : Sh) (d : Dt) {sz9 ns9 : Nat} {sh9 : Sh} {d9 : Dt} (hf : fX2_init em mi x0 sz ns sh d = some (sz9, ns9, sh9, d9)) : sz ≤ sz9 ∧ ns ≤ ns9 := mX2_init_b0 em mi x0 sz ns sh d hf

set_option maxRecDepth 100000 in
set_option maxHeartbeats 4000000 in
theorem wX2_init_b17 (C : mx p s m args meth c yX2_init cX2_init 1 none A D cy st) {sz9 ns9 : Nat} {sh9 : Sh} {d9 : Dt} {mc ms : Nat} : ∀ (t0 : Nat) (t1 : Nat) (sz : Nat) (ns : Nat) (sh : Sh) (d : Dt), fX2_init_b17 (st 1) (st 2) t0 t1 sz ns sh d = some (sz9, ns9, sh9, d9) → ∀ {cu su : Nat}, sz9 + cu = sz + mc → ns9 + su = ns + ms → ∀ {H : Heap} {locs : List Loc} {ls : Array Slot}, HW A D cy sz sh d H → va_S A s.heap H locs → lv_has ls 1 [] → GA p l e s m args below meth c 1 20 mc ms A D cy none sz9 sh9 d9 H locs cu su 17 ls [.ref t1, .ref t0] := by
  have hx := C.1
  have hb := C.2.1
  intro t0 t1 sz ns sh d hf cu su hcm hsm H locs ls hw hS hl
  have hm0 := mX2_init_b17 (st 1) (st 2) t0 t1 sz ns sh d hf
  unfold fX2_init_b17 at hf
  obtain ⟨d1, hd1, hf⟩ := bd_s hf
  refine pt_129 C hw hS rfl rfl hd1 kw_138 dX2_init_17 (fun H locs hw hS => ?_)
  cases hf
  obtain rfl : mc = cu := by omega
  obtain rfl : ms = su := by omega
  exact rt_v C hw hS dX2_init_20

set_option maxRecDepth 100000 in
set_option maxHeartbeats 4000000 in
theorem wX2_init_b9 (C : mx p s m args meth c yX2_init cX2_init 1 none A D cy st) {sz9 ns9 : Nat} {sh9 : Sh} {d9 : Dt} {mc ms : Nat} : ∀ (x0 : Nat) (t0 : Nat) (t1 : Nat) (sz : Nat) (ns : Nat) (sh : Sh) (d : Dt), fX2_init_b9 (st 1) (st 2) x0 t0 t1 sz ns sh d = some (sz9, ns9, sh9, d9) → ∀ {cu su : Nat}, sz9 + cu = sz + mc → ns9 + su = ns + ms → ∀ {H : Heap} {locs : List Loc} {ls : Array Slot}, HW A D cy sz sh d H → va_S A s.heap H locs → lv_has ls 1 [(0, .ref x0)] → GA p l e s m args below meth c 1 20 mc ms A D cy none sz9 sh9 d9 H locs cu su 9 ls [.ref t1, .ref t0] := by
  have hx := C.1
  have hb := C.2.1
  intro x0 t0 t1 sz ns sh d hf cu su hcm hsm H locs ls hw hS hl
  have hm0 := mX2_init_b9 (st 1) (st 2) x0 t0 t1 sz ns sh d hf
  unfold fX2_init_b9 at hf
  obtain ⟨d1, hd1, hf⟩ := bd_s hf
  refine pt_128 C hw hS rfl rfl hd1 kw_136 dX2_init_9 (fun H locs hw hS => ?_)
  refine lv_aload_n hx hb dX2_init_12 rfl (lv_at hl 0 rfl) ?_
  refine lv_bipush (v := 16) hx hb dX2_init_13 (by decide) ?_
  obtain ⟨szq2, nsq2, shq2, dq2, hq2, hf⟩ := bw_s hf
  have hm := mX2_init_b17 (st 1) (st 2) x0 sz szq2 nsq2 shq2 dq2 hf
  have hq := nwA_s hq2
  refine w_newI C hw hS kw_70 hq2 (by show _ ≤ mc; omega) (by show _ ≤ ms; omega) dX2_init_15 (fun H hw hS => ?_)
  exact wX2_init_b17 C x0 sz szq2 nsq2 shq2 dq2 hf (by omega) (by omega) hw hS (lv_sub hl [] rfl)

set_option maxRecDepth 100000 in
set_option maxHeartbeats 4000000 in
theorem wX2_init_b0 (C : mx p s m args meth c yX2_init cX2_init 1 none A D cy st) {sz9 ns9 : Nat} {sh9 : Sh} {d9 : Dt} {mc ms : Nat} : ∀ (x0 : Nat) (sz : Nat) (ns : Nat) (sh : Sh) (d : Dt), fX2_init_b0 (st 1) (st 2) x0 sz ns sh d = some (sz9, ns9, sh9, d9) → ∀ {cu su : Nat}, sz9 + cu = sz + mc → ns9 + su = ns + ms → ∀ {H : Heap} {locs : List Loc} {ls : Array Slot}, HW A D cy sz sh d H → va_S A s.heap H locs → lv_has ls 1 [(0, .ref x0)] → GA p l e s m args below meth c 1 20 mc ms A D cy none sz9 sh9 d9 H locs cu su 0 ls [] := by
  have hx := C.1
  have hb := C.2.1
  intro x0 sz ns sh d hf cu su hcm hsm H locs ls hw hS hl
  have hm0 := mX2_init_b0 (st 1) (st 2) x0 sz ns sh d hf
  unfold fX2_init_b0 at hf
  refine lv_aload_n hx hb dX2_init_0 rfl (lv_at hl 0 rfl) ?_
  refine W.objInit hx hb C.2.2.2.2.2.1 (C.2.2.2.2.1 _ kw_135) (C.2.2.2.2.1 _ kw_24) (C.2.2.2.2.1 _ kw_25) rfl (hl.1.trans C.2.2.2.1.symm) rfl dX2_init_1 (Nat.le_of_ble_eq_true rfl) (Nat.le_of_ble_eq_true rfl) ?_
  refine W.eq (g2 := F0 m 4 ls []) rfl ?_
  refine lv_aload_n hx hb dX2_init_4 rfl (lv_at hl 0 rfl) ?_
  refine lv_bipush (v := 16) hx hb dX2_init_5 (by decide) ?_
  obtain ⟨szq1, nsq1, shq1, dq1, hq1, hf⟩ := bw_s hf
  have hm := mX2_init_b9 (st 1) (st 2) x0 x0 sz szq1 nsq1 shq1 dq1 hf
  have hq := nwA_s hq1
  refine w_newJ C hw hS kw_71 hq1 (by show _ ≤ mc; omega) (by show _ ≤ ms; omega) dX2_init_7 (fun H hw hS => ?_)
  exact wX2_init_b9 C x0 x0 sz szq1 nsq1 shq1 dq1 hf (by omega) (by omega) hw hS (lv_sub hl [0] rfl)

set_option maxRecDepth 100000 in
set_option maxHeartbeats 4000000 in
theorem tX2_init (l : Launch) (A : Nat → Prop) (D : va_G) (cy : Nat → ClassId) (st : Nat → Nat) (x0 : Nat) (sz ns : Nat) (sh : Sh) (d : Dt) {sz9 ns9 : Nat} {sh9 : Sh} {d9 : Dt} (hf : fX2_init (st 1) (st 2) x0 sz ns sh d = some (sz9, ns9, sh9, d9)) : Ct l yX2_init cX2_init 1 none 1 20 (sz9 - sz) (ns9 - ns) A D cy st [.ref x0] sz sh d none sz9 sh9 d9 := by
  have hm := gX2_init (st 1) (st 2) x0 sz ns sh d hf
  exact ct_of (by decide) (Nat.le_of_ble_eq_true rfl) (fun p e s m args below meth c C hw hS ls hl => wX2_init_b0 C x0 sz ns sh d hf (by omega) (by omega) hw hS hl)
theorem dX1_init_0 : decode cX1_init 0 = .ok (.aload_n 0, 1) := by decide +kernel
theorem dX1_init_1 : decode cX1_init 1 = .ok (.invokespecial 3, 3) := by decide +kernel
theorem dX1_init_4 : decode cX1_init 4 = .ok (.aload_n 0, 1) := by decide +kernel
theorem dX1_init_5 : decode cX1_init 5 = .ok (.new 9, 3) := by decide +kernel
theorem dX1_init_8 : decode cX1_init 8 = .ok (.dup, 1) := by decide +kernel
theorem dX1_init_9 : decode cX1_init 9 = .ok (.invokespecial 11, 3) := by decide +kernel
theorem dX1_init_12 : decode cX1_init 12 = .ok (.putfield 12, 3) := by decide +kernel
theorem dX1_init_15 : decode cX1_init 15 = .ok (.aload_n 0, 1) := by decide +kernel
theorem dX1_init_16 : decode cX1_init 16 = .ok (.new 18, 3) := by decide +kernel
theorem dX1_init_19 : decode cX1_init 19 = .ok (.dup, 1) := by decide +kernel
theorem dX1_init_20 : decode cX1_init 20 = .ok (.invokespecial 20, 3) := by decide +kernel
theorem dX1_init_23 : decode cX1_init 23 = .ok (.putfield 21, 3) := by decide +kernel
theorem dX1_init_26 : decode cX1_init 26 = .ok (.aload_n 0, 1) := by decide +kernel
theorem dX1_init_27 : decode cX1_init 27 = .ok (.new 18, 3) := by decide +kernel
theorem dX1_init_30 : decode cX1_init 30 = .ok (.dup, 1) := by decide +kernel
theorem dX1_init_31 : decode cX1_init 31 = .ok (.invokespecial 20, 3) := by decide +kernel
theorem dX1_init_34 : decode cX1_init 34 = .ok (.putfield 25, 3) := by decide +kernel
theorem dX1_init_37 : decode cX1_init 37 = .ok (.aload_n 0, 1) := by decide +kernel
theorem dX1_init_38 : decode cX1_init 38 = .ok (.bipush 10, 2) := by decide +kernel
theorem dX1_init_40 : decode cX1_init 40 = .ok (.newarray .boolean, 2) := by decide +kernel
theorem dX1_init_42 : decode cX1_init 42 = .ok (.putfield 28, 3) := by decide +kernel
theorem dX1_init_45 : decode cX1_init 45 = .ok (.aload_n 0, 1) := by decide +kernel
theorem dX1_init_46 : decode cX1_init 46 = .ok (.new 32, 3) := by decide +kernel
theorem dX1_init_49 : decode cX1_init 49 = .ok (.dup, 1) := by decide +kernel
theorem dX1_init_50 : decode cX1_init 50 = .ok (.invokespecial 34, 3) := by decide +kernel
theorem dX1_init_53 : decode cX1_init 53 = .ok (.putfield 35, 3) := by decide +kernel
theorem dX1_init_56 : decode cX1_init 56 = .ok (.aload_n 0, 1) := by decide +kernel
theorem dX1_init_57 : decode cX1_init 57 = .ok (.iload_n 1, 1) := by decide +kernel
theorem dX1_init_58 : decode cX1_init 58 = .ok (.putfield 39, 3) := by decide +kernel
theorem dX1_init_61 : decode cX1_init 61 = .ok (.return_, 1) := by decide +kernel
theorem ckX1_init : CK yX1_init cX1_init 2 1 := ⟨rfl, kw_113, kw_7, kw_114, by decide +kernel, by decide +kernel, by decide +kernel⟩
def fX1_init_b53 (em mi : Nat) (x0 : Nat) (x1 : Int32) (t0 : Nat) (t1 : Nat) (sz : Nat) (ns : Nat) (sh : Sh) (d : Dt) : Option (Wl) := bd (pR sh d 3 101 t0 (some t1)) fun d1 => bd (pI sh d1 3 96 x0 x1) fun d2 => some (sz, ns, sh, d2)

def fX1_init_b49 (em mi : Nat) (x0 : Nat) (x1 : Int32) (t0 : Nat) (t1 : Nat) (sz : Nat) (ns : Nat) (sh : Sh) (d : Dt) : Option (Wl) := bw (fX2_init em mi t1 sz ns sh d) fun szq3 nsq3 shq3 dq3 => fX1_init_b53 em mi x0 x1 t0 t1 szq3 nsq3 shq3 dq3

def fX1_init_b42 (em mi : Nat) (x0 : Nat) (x1 : Int32) (t0 : Nat) (t1 : Nat) (sz : Nat) (ns : Nat) (sh : Sh) (d : Dt) : Option (Wl) := bd (pR sh d 3 100 t0 (some t1)) fun d1 => bw (nwO sz ns sh d1 4 3) fun szq2 nsq2 shq2 dq2 => fX1_init_b49 em mi x0 x1 x0 sz szq2 nsq2 shq2 dq2

def fX1_init_b34 (em mi : Nat) (x0 : Nat) (x1 : Int32) (t0 : Nat) (t1 : Nat) (sz : Nat) (ns : Nat) (sh : Sh) (d : Dt) : Option (Wl) := bd (pR sh d 3 99 t0 (some t1)) fun d1 => bw (nwA sz ns sh d1 22 (10 : Int32)) fun szq2 nsq2 shq2 dq2 => fX1_init_b42 em mi x0 x1 x0 sz szq2 nsq2 shq2 dq2

def fX1_init_b30 (em mi : Nat) (x0 : Nat) (x1 : Int32) (t0 : Nat) (t1 : Nat) (sz : Nat) (ns : Nat) (sh : Sh) (d : Dt) : Option (Wl) := bw (fJx4a65c_init_da8c8 em mi t1 sz ns sh d) fun szq3 nsq3 shq3 dq3 => fX1_init_b34 em mi x0 x1 t0 t1 szq3 nsq3 shq3 dq3

def fX1_init_b23 (em mi : Nat) (x0 : Nat) (x1 : Int32) (t0 : Nat) (t1 : Nat) (sz : Nat) (ns : Nat) (sh : Sh) (d : Dt) : Option (Wl) := bd (pR sh d 3 98 t0 (some t1)) fun d1 => bw (nwO sz ns sh d1 1 3) fun szq2 nsq2 shq2 dq2 => fX1_init_b30 em mi x0 x1 x0 sz szq2 nsq2 shq2 dq2

def fX1_init_b19 (em mi : Nat) (x0 : Nat) (x1 : Int32) (t0 : Nat) (t1 : Nat) (sz : Nat) (ns : Nat) (sh : Sh) (d : Dt) : Option (Wl) := bw (fJx4a65c_init_da8c8 em mi t1 sz ns sh d) fun szq3 nsq3 shq3 dq3 => fX1_init_b23 em mi x0 x1 t0 t1 szq3 nsq3 shq3 dq3

def fX1_init_b12 (em mi : Nat) (x0 : Nat) (x1 : Int32) (t0 : Nat) (t1 : Nat) (sz : Nat) (ns : Nat) (sh : Sh) (d : Dt) : Option (Wl) := bd (pR sh d 3 97 t0 (some t1)) fun d1 => bw (nwO sz ns sh d1 1 3) fun szq2 nsq2 shq2 dq2 => fX1_init_b19 em mi x0 x1 x0 sz szq2 nsq2 shq2 dq2

def fX1_init_b8 (em mi : Nat) (x0 : Nat) (x1 : Int32) (t0 : Nat) (t1 : Nat) (sz : Nat) (ns : Nat) (sh : Sh) (d : Dt) : Option (Wl) := bw (fX4_init em mi t1 sz ns sh d) fun szq3 nsq3 shq3 dq3 => fX1_init_b12 em mi x0 x1 t0 t1 szq3 nsq3 shq3 dq3

def fX1_init_b0 (em mi : Nat) (x0 : Nat) (x1 : Int32) (sz : Nat) (ns : Nat) (sh : Sh) (d : Dt) : Option (Wl) := bw (nwO sz ns sh d 6 1) fun szq1 nsq1 shq1 dq1 => fX1_init_b8 em mi x0 x1 x0 sz szq1 nsq1 shq1 dq1

def fX1_init (em mi : Nat) (x0 : Nat) (x1 : Int32) (sz ns : Nat) (sh : Sh) (d : Dt) : Option (Wl) := fX1_init_b0 em mi x0 x1 sz ns sh d

set_option maxRecDepth 100000 in
set_option maxHeartbeats 4000000 in
theorem mX1_init_b53 (em mi : Nat) {sz9 ns9 : Nat} {sh9 : Sh} {d9 : Dt} : ∀ (x0 : Nat) (x1 : Int32) (t0 : Nat) (t1 : Nat) (sz : Nat) (ns : Nat) (sh : Sh) (d : Dt), fX1_init_b53 em mi x0 x1 t0 t1 sz ns sh d = some (sz9, ns9, sh9, d9) → sz ≤ sz9 ∧ ns ≤ ns9 := by
  intro x0 x1 t0 t1 sz ns sh d hf
  unfold fX1_init_b53 at hf
  obtain ⟨d1, hd1, hf⟩ := bd_s hf
  obtain ⟨d2, hd2, hf⟩ := bd_s hf
  cases hf
  exact ⟨Nat.le_refl _, Nat.le_refl _⟩

set_option maxRecDepth 100000 in
set_option maxHeartbeats 4000000 in
theorem mX1_init_b49 (em mi : Nat) {sz9 ns9 : Nat} {sh9 : Sh} {d9 : Dt} : ∀ (x0 : Nat) (x1 : Int32) (t0 : Nat) (t1 : Nat) (sz : Nat) (ns : Nat) (sh : Sh) (d : Dt), fX1_init_b49 em mi x0 x1 t0 t1 sz ns sh d = some (sz9, ns9, sh9, d9) → sz ≤ sz9 ∧ ns ≤ ns9 := by
  intro x0 x1 t0 t1 sz ns sh d hf
  unfold fX1_init_b49 at hf
  obtain ⟨szq3, nsq3, shq3, dq3, h1, hf⟩ := bw_s hf
  have hq := gX2_init em mi t1 sz ns sh d h1
  have hm := mX1_init_b53 em mi x0 x1 t0 t1 szq3 nsq3 shq3 dq3 hf
  omega

set_option maxRecDepth 100000 in
set_option maxHeartbeats 4000000 in
theorem mX1_init_b42 (em mi : Nat) {sz9 ns9 : Nat} {sh9 : Sh} {d9 : Dt} : ∀ (x0 : Nat) (x1 : Int32) (t0 : Nat) (t1 : Nat) (sz : Nat) (ns : Nat) (sh : Sh) (d : Dt), fX1_init_b42 em mi x0 x1 t0 t1 sz ns sh d = some (sz9, ns9, sh9, d9) → sz ≤ sz9 ∧ ns ≤ ns9 := by
  intro x0 x1 t0 t1 sz ns sh d hf
  unfold fX1_init_b42 at hf
  obtain ⟨d1, hd1, hf⟩ := bd_s hf
  obtain ⟨szq2, nsq2, shq2, dq2, hq2, hf⟩ := bw_s hf
  have hq := nwO_s hq2
  have hm := mX1_init_b49 em mi x0 x1 x0 sz szq2 nsq2 shq2 dq2 hf
  omega

set_option maxRecDepth 100000 in
set_option maxHeartbeats 4000000 in
theorem mX1_init_b34 (em mi : Nat) {sz9 ns9 : Nat} {sh9 : Sh} {d9 : Dt} : ∀ (x0 : Nat) (x1 : Int32) (t0 : Nat) (t1 : Nat) (sz : Nat) (ns : Nat) (sh : Sh) (d : Dt), fX1_init_b34 em mi x0 x1 t0 t1 sz ns sh d = some (sz9, ns9, sh9, d9) → sz ≤ sz9 ∧ ns ≤ ns9 := by
  intro x0 x1 t0 t1 sz ns sh d hf
  unfold fX1_init_b34 at hf
  obtain ⟨d1, hd1, hf⟩ := bd_s hf
  obtain ⟨szq2, nsq2, shq2, dq2, hq2, hf⟩ := bw_s hf
  have hq := nwA_s hq2
  have hm := mX1_init_b42 em mi x0 x1 x0 sz szq2 nsq2 shq2 dq2 hf
  omega

set_option maxRecDepth 100000 in
set_option maxHeartbeats 4000000 in
theorem mX1_init_b30 (em mi : Nat) {sz9 ns9 : Nat} {sh9 : Sh} {d9 : Dt} : ∀ (x0 : Nat) (x1 : Int32) (t0 : Nat) (t1 : Nat) (sz : Nat) (ns : Nat) (sh : Sh) (d : Dt), fX1_init_b30 em mi x0 x1 t0 t1 sz ns sh d = some (sz9, ns9, sh9, d9) → sz ≤ sz9 ∧ ns ≤ ns9 := by
  intro x0 x1 t0 t1 sz ns sh d hf
  unfold fX1_init_b30 at hf
  obtain ⟨szq3, nsq3, shq3, dq3, h1, hf⟩ := bw_s hf
  have hq := gJx4a65c_init_da8c8 em mi t1 sz ns sh d h1
  have hm := mX1_init_b34 em mi x0 x1 t0 t1 szq3 nsq3 shq3 dq3 hf
  omega

set_option maxRecDepth 100000 in
set_option maxHeartbeats 4000000 in
theorem mX1_init_b23 (em mi : Nat) {sz9 ns9 : Nat} {sh9 : Sh} {d9 : Dt} : ∀ (x0 : Nat) (x1 : Int32) (t0 : Nat) (t1 : Nat) (sz : Nat) (ns : Nat) (sh : Sh) (d : Dt), fX1_init_b23 em mi x0 x1 t0 t1 sz ns sh d = some (sz9, ns9, sh9, d9) → sz ≤ sz9 ∧ ns ≤ ns9 := by
  intro x0 x1 t0 t1 sz ns sh d hf
  unfold fX1_init_b23 at hf
  obtain ⟨d1, hd1, hf⟩ := bd_s hf
  obtain ⟨szq2, nsq2, shq2, dq2, hq2, hf⟩ := bw_s hf
  have hq := nwO_s hq2
  have hm := mX1_init_b30 em mi x0 x1 x0 sz szq2 nsq2 shq2 dq2 hf
  omega

set_option maxRecDepth 100000 in
set_option maxHeartbeats 4000000 in
theorem mX1_init_b19 (em mi : Nat) {sz9 ns9 : Nat} {sh9 : Sh} {d9 : Dt} : ∀ (x0 : Nat) (x1 : Int32) (t0 : Nat) (t1 : Nat) (sz : Nat) (ns : Nat) (sh : Sh) (d : Dt), fX1_init_b19 em mi x0 x1 t0 t1 sz ns sh d = some (sz9, ns9, sh9, d9) → sz ≤ sz9 ∧ ns ≤ ns9 := by
  intro x0 x1 t0 t1 sz ns sh d hf
  unfold fX1_init_b19 at hf
  obtain ⟨szq3, nsq3, shq3, dq3, h1, hf⟩ := bw_s hf
  have hq := gJx4a65c_init_da8c8 em mi t1 sz ns sh d h1
  have hm := mX1_init_b23 em mi x0 x1 t0 t1 szq3 nsq3 shq3 dq3 hf
  omega

set_option maxRecDepth 100000 in
set_option maxHeartbeats 4000000 in
theorem mX1_init_b12 (em mi : Nat) {sz9 ns9 : Nat} {sh9 : Sh} {d9 : Dt} : ∀ (x0 : Nat) (x1 : Int32) (t0 : Nat) (t1 : Nat) (sz : Nat) (ns : Nat) (sh : Sh) (d : Dt), fX1_init_b12 em mi x0 x1 t0 t1 sz ns sh d = some (sz9, ns9, sh9, d9) → sz ≤ sz9 ∧ ns ≤ ns9 := by
  intro x0 x1 t0 t1 sz ns sh d hf
  unfold fX1_init_b12 at hf
  obtain ⟨d1, hd1, hf⟩ := bd_s hf
  obtain ⟨szq2, nsq2, shq2, dq2, hq2, hf⟩ := bw_s hf
  have hq := nwO_s hq2
  have hm := mX1_init_b19 em mi x0 x1 x0 sz szq2 nsq2 shq2 dq2 hf
  omega

set_option maxRecDepth 100000 in
set_option maxHeartbeats 4000000 in
theorem mX1_init_b8 (em mi : Nat) {sz9 ns9 : Nat} {sh9 : Sh} {d9 : Dt} : ∀ (x0 : Nat) (x1 : Int32) (t0 : Nat) (t1 : Nat) (sz : Nat) (ns : Nat) (sh : Sh) (d : Dt), fX1_init_b8 em mi x0 x1 t0 t1 sz ns sh d = some (sz9, ns9, sh9, d9) → sz ≤ sz9 ∧ ns ≤ ns9 := by
  intro x0 x1 t0 t1 sz ns sh d hf
  unfold fX1_init_b8 at hf
  obtain ⟨szq3, nsq3, shq3, dq3, h1, hf⟩ := bw_s hf
  have hq := gX4_init em mi t1 sz ns sh d h1
  have hm := mX1_init_b12 em mi x0 x1 t0 t1 szq3 nsq3 shq3 dq3 hf
  omega

set_option maxRecDepth 100000 in
set_option maxHeartbeats 4000000 in
theorem mX1_init_b0 (em mi : Nat) {sz9 ns9 : Nat} {sh9 : Sh} {d9 : Dt} : ∀ (x0 : Nat) (x1 : Int32) (sz : Nat) (ns : Nat) (sh : Sh) (d : Dt), fX1_init_b0 em mi x0 x1 sz ns sh d = some (sz9, ns9, sh9, d9) → sz ≤ sz9 ∧ ns ≤ ns9 := by
  intro x0 x1 sz ns sh d hf
  unfold fX1_init_b0 at hf
  obtain ⟨szq1, nsq1, shq1, dq1, hq1, hf⟩ := bw_s hf
  have hq := nwO_s hq1
  have hm := mX1_init_b8 em mi x0 x1 x0 sz szq1 nsq1 shq1 dq1 hf
  omega

theorem gX1_init (em mi : Nat) (x0 : Nat) (x1 : Int32) (sz ns : Nat) (sh : Sh) (d : Dt) {sz9 ns9 : Nat} {sh9 : Sh} {d9 : Dt} (hf : fX1_init em mi x0 x1 sz ns sh d = some (sz9, ns9, sh9, d9)) : sz ≤ sz9 ∧ ns ≤ ns9 := mX1_init_b0 em mi x0 x1 sz ns sh d hf

set_option maxRecDepth 100000 in
set_option maxHeartbeats 4000000 in
theorem wX1_init_b53 (C : mx p s m args meth c yX1_init cX1_init 2 none A D cy st) {sz9 ns9 : Nat} {sh9 : Sh} {d9 : Dt} {mc ms : Nat} : ∀ (x0 : Nat) (x1 : Int32) (t0 : Nat) (t1 : Nat) (sz : Nat) (ns : Nat) (sh : Sh) (d : Dt), fX1_init_b53 (st 1) (st 2) x0 x1 t0 t1 sz ns sh d = some (sz9, ns9, sh9, d9) → ∀ {cu su : Nat}, sz9 + cu = sz + mc → ns9 + su = ns + ms → ∀ {H : Heap} {locs : List Loc} {ls : Array Slot}, HW A D cy sz sh d H → va_S A s.heap H locs → lv_has ls 2 [(0, .ref x0), (1, .int x1)] → GA p l e s m args below meth c 4 80 mc ms A D cy none sz9 sh9 d9 H locs cu su 53 ls [.ref t1, .ref t0] := by
  have hx := C.1
  have hb := C.2.1
  intro x0 x1 t0 t1 sz ns sh d hf cu su hcm hsm H locs ls hw hS hl
  have hm0 := mX1_init_b53 (st 1) (st 2) x0 x1 t0 t1 sz ns sh d hf
  unfold fX1_init_b53 at hf
  obtain ⟨d1, hd1, hf⟩ := bd_s hf
  refine pt_101 C hw hS rfl rfl hd1 kw_160 dX1_init_53 (fun H locs hw hS => ?_)
  refine lv_aload_n hx hb dX1_init_56 rfl (lv_at hl 0 rfl) ?_
  refine lv_iload_n hx hb dX1_init_57 rfl (lv_at hl 1 rfl) ?_
  obtain ⟨d2, hd2, hf⟩ := bd_s hf
  refine pt_96 C hw hS rfl rfl hd2 kw_149 dX1_init_58 (fun H locs hw hS => ?_)
  cases hf
  obtain rfl : mc = cu := by omega
  obtain rfl : ms = su := by omega
  exact rt_v C hw hS dX1_init_61

set_option maxRecDepth 100000 in
set_option maxHeartbeats 4000000 in
theorem wX1_init_b49 (C : mx p s m args meth c yX1_init cX1_init 2 none A D cy st) {sz9 ns9 : Nat} {sh9 : Sh} {d9 : Dt} {mc ms : Nat} : ∀ (x0 : Nat) (x1 : Int32) (t0 : Nat) (t1 : Nat) (sz : Nat) (ns : Nat) (sh : Sh) (d : Dt), fX1_init_b49 (st 1) (st 2) x0 x1 t0 t1 sz ns sh d = some (sz9, ns9, sh9, d9) → ∀ {cu su : Nat}, sz9 + cu = sz + mc → ns9 + su = ns + ms → ∀ {H : Heap} {locs : List Loc} {ls : Array Slot}, HW A D cy sz sh d H → va_S A s.heap H locs → lv_has ls 2 [(0, .ref x0), (1, .int x1)] → GA p l e s m args below meth c 4 80 mc ms A D cy none sz9 sh9 d9 H locs cu su 49 ls [.ref t1, .ref t0] := by
  have hx := C.1
  have hb := C.2.1
  intro x0 x1 t0 t1 sz ns sh d hf cu su hcm hsm H locs ls hw hS hl
  have hm0 := mX1_init_b49 (st 1) (st 2) x0 x1 t0 t1 sz ns sh d hf
  unfold fX1_init_b49 at hf
  refine lv_dup hx hb dX1_init_49 rfl ?_
  obtain ⟨szq3, nsq3, shq3, dq3, h1, hf⟩ := bw_s hf
  have hm := mX1_init_b53 (st 1) (st 2) x0 x1 t0 t1 szq3 nsq3 shq3 dq3 hf
  have hq := gX2_init (st 1) (st 2) t1 sz ns sh d h1
  refine cl_IN (host := "ManyHands") C hw hS (tX2_init l A D cy st t1 sz ns sh d h1) ckX2_init (by decide +kernel) ⟨(Nat.le_of_ble_eq_true rfl), (Nat.le_of_ble_eq_true rfl)⟩ hl.1 rfl (Nat.le_of_ble_eq_true rfl) dX1_init_50 ⟨by show _ ≤ mc; omega, by show _ ≤ ms; omega⟩ (fun H locs hw hS => ?_)
  exact wX1_init_b53 C x0 x1 t0 t1 szq3 nsq3 shq3 dq3 hf (by omega) (by omega) hw hS (lv_sub hl [0, 1] rfl)

set_option maxRecDepth 100000 in
set_option maxHeartbeats 4000000 in
theorem wX1_init_b42 (C : mx p s m args meth c yX1_init cX1_init 2 none A D cy st) {sz9 ns9 : Nat} {sh9 : Sh} {d9 : Dt} {mc ms : Nat} : ∀ (x0 : Nat) (x1 : Int32) (t0 : Nat) (t1 : Nat) (sz : Nat) (ns : Nat) (sh : Sh) (d : Dt), fX1_init_b42 (st 1) (st 2) x0 x1 t0 t1 sz ns sh d = some (sz9, ns9, sh9, d9) → ∀ {cu su : Nat}, sz9 + cu = sz + mc → ns9 + su = ns + ms → ∀ {H : Heap} {locs : List Loc} {ls : Array Slot}, HW A D cy sz sh d H → va_S A s.heap H locs → lv_has ls 2 [(0, .ref x0), (1, .int x1)] → GA p l e s m args below meth c 4 80 mc ms A D cy none sz9 sh9 d9 H locs cu su 42 ls [.ref t1, .ref t0] := by
  have hx := C.1
  have hb := C.2.1
  intro x0 x1 t0 t1 sz ns sh d hf cu su hcm hsm H locs ls hw hS hl
  have hm0 := mX1_init_b42 (st 1) (st 2) x0 x1 t0 t1 sz ns sh d hf
  unfold fX1_init_b42 at hf
  obtain ⟨d1, hd1, hf⟩ := bd_s hf
  refine pt_100 C hw hS rfl rfl hd1 kw_158 dX1_init_42 (fun H locs hw hS => ?_)
  refine lv_aload_n hx hb dX1_init_45 rfl (lv_at hl 0 rfl) ?_
  obtain ⟨szq2, nsq2, shq2, dq2, hq2, hf⟩ := bw_s hf
  have hm := mX1_init_b49 (st 1) (st 2) x0 x1 x0 sz szq2 nsq2 shq2 dq2 hf
  have hq := nwO_s hq2
  refine w_new (ci := 3) C hw hS inX2 tyX2 tyX2_ok rfl (by decide) dfX2 kw_130 kw_131 kw_9 hq2 (by show _ ≤ mc; omega) (by show _ ≤ ms; omega) dX1_init_46 (fun H hw hS => ?_)
  exact wX1_init_b49 C x0 x1 x0 sz szq2 nsq2 shq2 dq2 hf (by omega) (by omega) hw hS (lv_sub hl [0, 1] rfl)

set_option maxRecDepth 100000 in
set_option maxHeartbeats 4000000 in
theorem wX1_init_b34 (C : mx p s m args meth c yX1_init cX1_init 2 none A D cy st) {sz9 ns9 : Nat} {sh9 : Sh} {d9 : Dt} {mc ms : Nat} : ∀ (x0 : Nat) (x1 : Int32) (t0 : Nat) (t1 : Nat) (sz : Nat) (ns : Nat) (sh : Sh) (d : Dt), fX1_init_b34 (st 1) (st 2) x0 x1 t0 t1 sz ns sh d = some (sz9, ns9, sh9, d9) → ∀ {cu su : Nat}, sz9 + cu = sz + mc → ns9 + su = ns + ms → ∀ {H : Heap} {locs : List Loc} {ls : Array Slot}, HW A D cy sz sh d H → va_S A s.heap H locs → lv_has ls 2 [(0, .ref x0), (1, .int x1)] → GA p l e s m args below meth c 4 80 mc ms A D cy none sz9 sh9 d9 H locs cu su 34 ls [.ref t1, .ref t0] := by
  have hx := C.1
  have hb := C.2.1
  intro x0 x1 t0 t1 sz ns sh d hf cu su hcm hsm H locs ls hw hS hl
  have hm0 := mX1_init_b34 (st 1) (st 2) x0 x1 t0 t1 sz ns sh d hf
  unfold fX1_init_b34 at hf
  obtain ⟨d1, hd1, hf⟩ := bd_s hf
  refine pt_99 C hw hS rfl rfl hd1 kw_157 dX1_init_34 (fun H locs hw hS => ?_)
  refine lv_aload_n hx hb dX1_init_37 rfl (lv_at hl 0 rfl) ?_
  refine lv_bipush (v := 10) hx hb dX1_init_38 (by decide) ?_
  obtain ⟨szq2, nsq2, shq2, dq2, hq2, hf⟩ := bw_s hf
  have hm := mX1_init_b42 (st 1) (st 2) x0 x1 x0 sz szq2 nsq2 shq2 dq2 hf
  have hq := nwA_s hq2
  refine w_newZ C hw hS kw_147 hq2 (by show _ ≤ mc; omega) (by show _ ≤ ms; omega) dX1_init_40 (fun H hw hS => ?_)
  exact wX1_init_b42 C x0 x1 x0 sz szq2 nsq2 shq2 dq2 hf (by omega) (by omega) hw hS (lv_sub hl [0, 1] rfl)

set_option maxRecDepth 100000 in
set_option maxHeartbeats 4000000 in
theorem wX1_init_b30 (C : mx p s m args meth c yX1_init cX1_init 2 none A D cy st) {sz9 ns9 : Nat} {sh9 : Sh} {d9 : Dt} {mc ms : Nat} : ∀ (x0 : Nat) (x1 : Int32) (t0 : Nat) (t1 : Nat) (sz : Nat) (ns : Nat) (sh : Sh) (d : Dt), fX1_init_b30 (st 1) (st 2) x0 x1 t0 t1 sz ns sh d = some (sz9, ns9, sh9, d9) → ∀ {cu su : Nat}, sz9 + cu = sz + mc → ns9 + su = ns + ms → ∀ {H : Heap} {locs : List Loc} {ls : Array Slot}, HW A D cy sz sh d H → va_S A s.heap H locs → lv_has ls 2 [(0, .ref x0), (1, .int x1)] → GA p l e s m args below meth c 4 80 mc ms A D cy none sz9 sh9 d9 H locs cu su 30 ls [.ref t1, .ref t0] := by
  have hx := C.1
  have hb := C.2.1
  intro x0 x1 t0 t1 sz ns sh d hf cu su hcm hsm H locs ls hw hS hl
  have hm0 := mX1_init_b30 (st 1) (st 2) x0 x1 t0 t1 sz ns sh d hf
  unfold fX1_init_b30 at hf
  refine lv_dup hx hb dX1_init_30 rfl ?_
  obtain ⟨szq3, nsq3, shq3, dq3, h1, hf⟩ := bw_s hf
  have hm := mX1_init_b34 (st 1) (st 2) x0 x1 t0 t1 szq3 nsq3 shq3 dq3 hf
  have hq := gJx4a65c_init_da8c8 (st 1) (st 2) t1 sz ns sh d h1
  refine cl_I C hw hS (tJx4a65c_init_da8c8 l A D cy st t1 sz ns sh d h1) ckJx4a65c_init_da8c8 kw_129 ⟨(Nat.le_of_ble_eq_true rfl), (Nat.le_of_ble_eq_true rfl)⟩ hl.1 rfl (Nat.le_of_ble_eq_true rfl) dX1_init_31 ⟨by show _ ≤ mc; omega, by show _ ≤ ms; omega⟩ (fun H locs hw hS => ?_)
  exact wX1_init_b34 C x0 x1 t0 t1 szq3 nsq3 shq3 dq3 hf (by omega) (by omega) hw hS (lv_sub hl [0, 1] rfl)

set_option maxRecDepth 100000 in
set_option maxHeartbeats 4000000 in
theorem wX1_init_b23 (C : mx p s m args meth c yX1_init cX1_init 2 none A D cy st) {sz9 ns9 : Nat} {sh9 : Sh} {d9 : Dt} {mc ms : Nat} : ∀ (x0 : Nat) (x1 : Int32) (t0 : Nat) (t1 : Nat) (sz : Nat) (ns : Nat) (sh : Sh) (d : Dt), fX1_init_b23 (st 1) (st 2) x0 x1 t0 t1 sz ns sh d = some (sz9, ns9, sh9, d9) → ∀ {cu su : Nat}, sz9 + cu = sz + mc → ns9 + su = ns + ms → ∀ {H : Heap} {locs : List Loc} {ls : Array Slot}, HW A D cy sz sh d H → va_S A s.heap H locs → lv_has ls 2 [(0, .ref x0), (1, .int x1)] → GA p l e s m args below meth c 4 80 mc ms A D cy none sz9 sh9 d9 H locs cu su 23 ls [.ref t1, .ref t0] := by
  have hx := C.1
  have hb := C.2.1
  intro x0 x1 t0 t1 sz ns sh d hf cu su hcm hsm H locs ls hw hS hl
  have hm0 := mX1_init_b23 (st 1) (st 2) x0 x1 t0 t1 sz ns sh d hf
  unfold fX1_init_b23 at hf
  obtain ⟨d1, hd1, hf⟩ := bd_s hf
  refine pt_98 C hw hS rfl rfl hd1 kw_154 dX1_init_23 (fun H locs hw hS => ?_)
  refine lv_aload_n hx hb dX1_init_26 rfl (lv_at hl 0 rfl) ?_
  obtain ⟨szq2, nsq2, shq2, dq2, hq2, hf⟩ := bw_s hf
  have hm := mX1_init_b30 (st 1) (st 2) x0 x1 x0 sz szq2 nsq2 shq2 dq2 hf
  have hq := nwO_s hq2
  refine w_new (ci := 0) C hw hS inJx4a65c tyJx4a65c tyJx4a65c_ok rfl (by decide) dfJx4a65c kw_128 kw_31 kw_4 hq2 (by show _ ≤ mc; omega) (by show _ ≤ ms; omega) dX1_init_27 (fun H hw hS => ?_)
  exact wX1_init_b30 C x0 x1 x0 sz szq2 nsq2 shq2 dq2 hf (by omega) (by omega) hw hS (lv_sub hl [0, 1] rfl)

set_option maxRecDepth 100000 in
set_option maxHeartbeats 4000000 in
theorem wX1_init_b19 (C : mx p s m args meth c yX1_init cX1_init 2 none A D cy st) {sz9 ns9 : Nat} {sh9 : Sh} {d9 : Dt} {mc ms : Nat} : ∀ (x0 : Nat) (x1 : Int32) (t0 : Nat) (t1 : Nat) (sz : Nat) (ns : Nat) (sh : Sh) (d : Dt), fX1_init_b19 (st 1) (st 2) x0 x1 t0 t1 sz ns sh d = some (sz9, ns9, sh9, d9) → ∀ {cu su : Nat}, sz9 + cu = sz + mc → ns9 + su = ns + ms → ∀ {H : Heap} {locs : List Loc} {ls : Array Slot}, HW A D cy sz sh d H → va_S A s.heap H locs → lv_has ls 2 [(0, .ref x0), (1, .int x1)] → GA p l e s m args below meth c 4 80 mc ms A D cy none sz9 sh9 d9 H locs cu su 19 ls [.ref t1, .ref t0] := by
  have hx := C.1
  have hb := C.2.1
  intro x0 x1 t0 t1 sz ns sh d hf cu su hcm hsm H locs ls hw hS hl
  have hm0 := mX1_init_b19 (st 1) (st 2) x0 x1 t0 t1 sz ns sh d hf
  unfold fX1_init_b19 at hf
  refine lv_dup hx hb dX1_init_19 rfl ?_
  obtain ⟨szq3, nsq3, shq3, dq3, h1, hf⟩ := bw_s hf
  have hm := mX1_init_b23 (st 1) (st 2) x0 x1 t0 t1 szq3 nsq3 shq3 dq3 hf
  have hq := gJx4a65c_init_da8c8 (st 1) (st 2) t1 sz ns sh d h1
  refine cl_I C hw hS (tJx4a65c_init_da8c8 l A D cy st t1 sz ns sh d h1) ckJx4a65c_init_da8c8 kw_129 ⟨(Nat.le_of_ble_eq_true rfl), (Nat.le_of_ble_eq_true rfl)⟩ hl.1 rfl (Nat.le_of_ble_eq_true rfl) dX1_init_20 ⟨by show _ ≤ mc; omega, by show _ ≤ ms; omega⟩ (fun H locs hw hS => ?_)
  exact wX1_init_b23 C x0 x1 t0 t1 szq3 nsq3 shq3 dq3 hf (by omega) (by omega) hw hS (lv_sub hl [0, 1] rfl)

set_option maxRecDepth 100000 in
set_option maxHeartbeats 4000000 in
theorem wX1_init_b12 (C : mx p s m args meth c yX1_init cX1_init 2 none A D cy st) {sz9 ns9 : Nat} {sh9 : Sh} {d9 : Dt} {mc ms : Nat} : ∀ (x0 : Nat) (x1 : Int32) (t0 : Nat) (t1 : Nat) (sz : Nat) (ns : Nat) (sh : Sh) (d : Dt), fX1_init_b12 (st 1) (st 2) x0 x1 t0 t1 sz ns sh d = some (sz9, ns9, sh9, d9) → ∀ {cu su : Nat}, sz9 + cu = sz + mc → ns9 + su = ns + ms → ∀ {H : Heap} {locs : List Loc} {ls : Array Slot}, HW A D cy sz sh d H → va_S A s.heap H locs → lv_has ls 2 [(0, .ref x0), (1, .int x1)] → GA p l e s m args below meth c 4 80 mc ms A D cy none sz9 sh9 d9 H locs cu su 12 ls [.ref t1, .ref t0] := by
  have hx := C.1
  have hb := C.2.1
  intro x0 x1 t0 t1 sz ns sh d hf cu su hcm hsm H locs ls hw hS hl
  have hm0 := mX1_init_b12 (st 1) (st 2) x0 x1 t0 t1 sz ns sh d hf
  unfold fX1_init_b12 at hf
  obtain ⟨d1, hd1, hf⟩ := bd_s hf
  refine pt_97 C hw hS rfl rfl hd1 kw_151 dX1_init_12 (fun H locs hw hS => ?_)
  refine lv_aload_n hx hb dX1_init_15 rfl (lv_at hl 0 rfl) ?_
  obtain ⟨szq2, nsq2, shq2, dq2, hq2, hf⟩ := bw_s hf
  have hm := mX1_init_b19 (st 1) (st 2) x0 x1 x0 sz szq2 nsq2 shq2 dq2 hf
  have hq := nwO_s hq2
  refine w_new (ci := 0) C hw hS inJx4a65c tyJx4a65c tyJx4a65c_ok rfl (by decide) dfJx4a65c kw_128 kw_31 kw_4 hq2 (by show _ ≤ mc; omega) (by show _ ≤ ms; omega) dX1_init_16 (fun H hw hS => ?_)
  exact wX1_init_b19 C x0 x1 x0 sz szq2 nsq2 shq2 dq2 hf (by omega) (by omega) hw hS (lv_sub hl [0, 1] rfl)

set_option maxRecDepth 100000 in
set_option maxHeartbeats 4000000 in
theorem wX1_init_b8 (C : mx p s m args meth c yX1_init cX1_init 2 none A D cy st) {sz9 ns9 : Nat} {sh9 : Sh} {d9 : Dt} {mc ms : Nat} : ∀ (x0 : Nat) (x1 : Int32) (t0 : Nat) (t1 : Nat) (sz : Nat) (ns : Nat) (sh : Sh) (d : Dt), fX1_init_b8 (st 1) (st 2) x0 x1 t0 t1 sz ns sh d = some (sz9, ns9, sh9, d9) → ∀ {cu su : Nat}, sz9 + cu = sz + mc → ns9 + su = ns + ms → ∀ {H : Heap} {locs : List Loc} {ls : Array Slot}, HW A D cy sz sh d H → va_S A s.heap H locs → lv_has ls 2 [(0, .ref x0), (1, .int x1)] → GA p l e s m args below meth c 4 80 mc ms A D cy none sz9 sh9 d9 H locs cu su 8 ls [.ref t1, .ref t0] := by
  have hx := C.1
  have hb := C.2.1
  intro x0 x1 t0 t1 sz ns sh d hf cu su hcm hsm H locs ls hw hS hl
  have hm0 := mX1_init_b8 (st 1) (st 2) x0 x1 t0 t1 sz ns sh d hf
  unfold fX1_init_b8 at hf
  refine lv_dup hx hb dX1_init_8 rfl ?_
  obtain ⟨szq3, nsq3, shq3, dq3, h1, hf⟩ := bw_s hf
  have hm := mX1_init_b12 (st 1) (st 2) x0 x1 t0 t1 szq3 nsq3 shq3 dq3 hf
  have hq := gX4_init (st 1) (st 2) t1 sz ns sh d h1
  refine cl_IN (host := "ManyHands") C hw hS (tX4_init l A D cy st t1 sz ns sh d h1) ckX4_init (by decide +kernel) ⟨(Nat.le_of_ble_eq_true rfl), (Nat.le_of_ble_eq_true rfl)⟩ hl.1 rfl (Nat.le_of_ble_eq_true rfl) dX1_init_9 ⟨by show _ ≤ mc; omega, by show _ ≤ ms; omega⟩ (fun H locs hw hS => ?_)
  exact wX1_init_b12 C x0 x1 t0 t1 szq3 nsq3 shq3 dq3 hf (by omega) (by omega) hw hS (lv_sub hl [0, 1] rfl)

set_option maxRecDepth 100000 in
set_option maxHeartbeats 4000000 in
theorem wX1_init_b0 (C : mx p s m args meth c yX1_init cX1_init 2 none A D cy st) {sz9 ns9 : Nat} {sh9 : Sh} {d9 : Dt} {mc ms : Nat} : ∀ (x0 : Nat) (x1 : Int32) (sz : Nat) (ns : Nat) (sh : Sh) (d : Dt), fX1_init_b0 (st 1) (st 2) x0 x1 sz ns sh d = some (sz9, ns9, sh9, d9) → ∀ {cu su : Nat}, sz9 + cu = sz + mc → ns9 + su = ns + ms → ∀ {H : Heap} {locs : List Loc} {ls : Array Slot}, HW A D cy sz sh d H → va_S A s.heap H locs → lv_has ls 2 [(0, .ref x0), (1, .int x1)] → GA p l e s m args below meth c 4 80 mc ms A D cy none sz9 sh9 d9 H locs cu su 0 ls [] := by
  have hx := C.1
  have hb := C.2.1
  intro x0 x1 sz ns sh d hf cu su hcm hsm H locs ls hw hS hl
  have hm0 := mX1_init_b0 (st 1) (st 2) x0 x1 sz ns sh d hf
  unfold fX1_init_b0 at hf
  refine lv_aload_n hx hb dX1_init_0 rfl (lv_at hl 0 rfl) ?_
  refine W.objInit hx hb C.2.2.2.2.2.1 (C.2.2.2.2.1 _ kw_115) (C.2.2.2.2.1 _ kw_24) (C.2.2.2.2.1 _ kw_25) rfl (hl.1.trans C.2.2.2.1.symm) rfl dX1_init_1 (Nat.le_of_ble_eq_true rfl) (Nat.le_of_ble_eq_true rfl) ?_
  refine W.eq (g2 := F0 m 4 ls []) rfl ?_
  refine lv_aload_n hx hb dX1_init_4 rfl (lv_at hl 0 rfl) ?_
  obtain ⟨szq1, nsq1, shq1, dq1, hq1, hf⟩ := bw_s hf
  have hm := mX1_init_b8 (st 1) (st 2) x0 x1 x0 sz szq1 nsq1 shq1 dq1 hf
  have hq := nwO_s hq1
  refine w_new (ci := 5) C hw hS inX4 tyX4 tyX4_ok rfl (by decide) dfX4 kw_116 kw_117 kw_8 hq1 (by show _ ≤ mc; omega) (by show _ ≤ ms; omega) dX1_init_5 (fun H hw hS => ?_)
  exact wX1_init_b8 C x0 x1 x0 sz szq1 nsq1 shq1 dq1 hf (by omega) (by omega) hw hS (lv_sub hl [0, 1] rfl)

set_option maxRecDepth 100000 in
set_option maxHeartbeats 4000000 in
theorem tX1_init (l : Launch) (A : Nat → Prop) (D : va_G) (cy : Nat → ClassId) (st : Nat → Nat) (x0 : Nat) (x1 : Int32) (sz ns : Nat) (sh : Sh) (d : Dt) {sz9 ns9 : Nat} {sh9 : Sh} {d9 : Dt} (hf : fX1_init (st 1) (st 2) x0 x1 sz ns sh d = some (sz9, ns9, sh9, d9)) : Ct l yX1_init cX1_init 2 none 4 80 (sz9 - sz) (ns9 - ns) A D cy st [.ref x0, .int x1] sz sh d none sz9 sh9 d9 := by
  have hm := gX1_init (st 1) (st 2) x0 x1 sz ns sh d hf
  exact ct_of (by decide) (Nat.le_of_ble_eq_true rfl) (fun p e s m args below meth c C hw hS ls hl => wX1_init_b0 C x0 x1 sz ns sh d hf (by omega) (by omega) hw hS hl)
theorem dX3_init_0 : decode cX3_init 0 = .ok (.aload_n 0, 1) := by decide +kernel
theorem dX3_init_1 : decode cX3_init 1 = .ok (.invokespecial 3, 3) := by decide +kernel
theorem dX3_init_4 : decode cX3_init 4 = .ok (.aload_n 0, 1) := by decide +kernel
theorem dX3_init_5 : decode cX3_init 5 = .ok (.new 9, 3) := by decide +kernel
theorem dX3_init_8 : decode cX3_init 8 = .ok (.dup, 1) := by decide +kernel
theorem dX3_init_9 : decode cX3_init 9 = .ok (.invokespecial 11, 3) := by decide +kernel
theorem dX3_init_12 : decode cX3_init 12 = .ok (.putfield 12, 3) := by decide +kernel
theorem dX3_init_15 : decode cX3_init 15 = .ok (.aload_n 0, 1) := by decide +kernel
theorem dX3_init_16 : decode cX3_init 16 = .ok (.iload_n 1, 1) := by decide +kernel
theorem dX3_init_17 : decode cX3_init 17 = .ok (.putfield 18, 3) := by decide +kernel
theorem dX3_init_20 : decode cX3_init 20 = .ok (.aload_n 0, 1) := by decide +kernel
theorem dX3_init_21 : decode cX3_init 21 = .ok (.iload_n 2, 1) := by decide +kernel
theorem dX3_init_22 : decode cX3_init 22 = .ok (.putfield 22, 3) := by decide +kernel
theorem dX3_init_25 : decode cX3_init 25 = .ok (.aload_n 0, 1) := by decide +kernel
theorem dX3_init_26 : decode cX3_init 26 = .ok (.iload_n 2, 1) := by decide +kernel
theorem dX3_init_27 : decode cX3_init 27 = .ok (.iconst 3, 1) := by decide +kernel
theorem dX3_init_28 : decode cX3_init 28 = .ok (.if_icmp .ne 8, 3) := by decide +kernel
theorem dX3_init_31 : decode cX3_init 31 = .ok (.bipush 64, 2) := by decide +kernel
theorem dX3_init_33 : decode cX3_init 33 = .ok (.goto 4, 3) := by decide +kernel
theorem dX3_init_36 : decode cX3_init 36 = .ok (.iconst 1, 1) := by decide +kernel
theorem dX3_init_37 : decode cX3_init 37 = .ok (.anewarray 25, 3) := by decide +kernel
theorem dX3_init_40 : decode cX3_init 40 = .ok (.putfield 27, 3) := by decide +kernel
theorem dX3_init_43 : decode cX3_init 43 = .ok (.return_, 1) := by decide +kernel
theorem ckX3_init : CK yX3_init cX3_init 3 2 := ⟨rfl, kw_188, kw_10, kw_189, by decide +kernel, by decide +kernel, by decide +kernel⟩
def fX3_init_b40 (em mi : Nat) (t0 : Nat) (t1 : Nat) (sz : Nat) (ns : Nat) (sh : Sh) (d : Dt) : Option (Wl) := bd (pR sh d 5 162 t0 (some t1)) fun d1 => some (sz, ns, sh, d1)

def fX3_init_b37 (em mi : Nat) (t0 : Nat) (t1 : Int32) (sz : Nat) (ns : Nat) (sh : Sh) (d : Dt) : Option (Wl) := bw (nwA sz ns sh d 23 t1) fun szq1 nsq1 shq1 dq1 => fX3_init_b40 em mi t0 sz szq1 nsq1 shq1 dq1

def fX3_init_b12 (em mi : Nat) (x0 : Nat) (x1 : Int32) (x2 : Int32) (t0 : Nat) (t1 : Nat) (sz : Nat) (ns : Nat) (sh : Sh) (d : Dt) : Option (Wl) := bd (pR sh d 5 163 t0 (some t1)) fun d1 => bd (pI sh d1 5 160 x0 x1) fun d2 => bd (pI sh d2 5 161 x0 x2) fun d3 => if x2 = (3 : Int32) then (fX3_init_b37 em mi x0 (64 : Int32) sz ns sh d3) else (fX3_init_b37 em mi x0 (1 : Int32) sz ns sh d3)

def fX3_init_b8 (em mi : Nat) (x0 : Nat) (x1 : Int32) (x2 : Int32) (t0 : Nat) (t1 : Nat) (sz : Nat) (ns : Nat) (sh : Sh) (d : Dt) : Option (Wl) := bw (fX4_init em mi t1 sz ns sh d) fun szq3 nsq3 shq3 dq3 => fX3_init_b12 em mi x0 x1 x2 t0 t1 szq3 nsq3 shq3 dq3

def fX3_init_b0 (em mi : Nat) (x0 : Nat) (x1 : Int32) (x2 : Int32) (sz : Nat) (ns : Nat) (sh : Sh) (d : Dt) : Option (Wl) := bw (nwO sz ns sh d 6 1) fun szq1 nsq1 shq1 dq1 => fX3_init_b8 em mi x0 x1 x2 x0 sz szq1 nsq1 shq1 dq1

def fX3_init (em mi : Nat) (x0 : Nat) (x1 : Int32) (x2 : Int32) (sz ns : Nat) (sh : Sh) (d : Dt) : Option (Wl) := fX3_init_b0 em mi x0 x1 x2 sz ns sh d

set_option maxRecDepth 100000 in
set_option maxHeartbeats 4000000 in
theorem mX3_init_b40 (em mi : Nat) {sz9 ns9 : Nat} {sh9 : Sh} {d9 : Dt} : ∀ (t0 : Nat) (t1 : Nat) (sz : Nat) (ns : Nat) (sh : Sh) (d : Dt), fX3_init_b40 em mi t0 t1 sz ns sh d = some (sz9, ns9, sh9, d9) → sz ≤ sz9 ∧ ns ≤ ns9 := by
  intro t0 t1 sz ns sh d hf
  unfold fX3_init_b40 at hf
  obtain ⟨d1, hd1, hf⟩ := bd_s hf
  cases hf
  exact ⟨Nat.le_refl _, Nat.le_refl _⟩

set_option maxRecDepth 100000 in
set_option maxHeartbeats 4000000 in
theorem mX3_init_b37 (em mi : Nat) {sz9 ns9 : Nat} {sh9 : Sh} {d9 : Dt} : ∀ (t0 : Nat) (t1 : Int32) (sz : Nat) (ns : Nat) (sh : Sh) (d : Dt), fX3_init_b37 em mi t0 t1 sz ns sh d = some (sz9, ns9, sh9, d9) → sz ≤ sz9 ∧ ns ≤ ns9 := by
  intro t0 t1 sz ns sh d hf
  unfold fX3_init_b37 at hf
  obtain ⟨szq1, nsq1, shq1, dq1, hq1, hf⟩ := bw_s hf
  have hq := nwA_s hq1
  have hm := mX3_init_b40 em mi t0 sz szq1 nsq1 shq1 dq1 hf
  omega

set_option maxRecDepth 100000 in
set_option maxHeartbeats 4000000 in
theorem mX3_init_b12 (em mi : Nat) {sz9 ns9 : Nat} {sh9 : Sh} {d9 : Dt} : ∀ (x0 : Nat) (x1 : Int32) (x2 : Int32) (t0 : Nat) (t1 : Nat) (sz : Nat) (ns : Nat) (sh : Sh) (d : Dt), fX3_init_b12 em mi x0 x1 x2 t0 t1 sz ns sh d = some (sz9, ns9, sh9, d9) → sz ≤ sz9 ∧ ns ≤ ns9 := by
  intro x0 x1 x2 t0 t1 sz ns sh d hf
  unfold fX3_init_b12 at hf
  obtain ⟨d1, hd1, hf⟩ := bd_s hf
  obtain ⟨d2, hd2, hf⟩ := bd_s hf
  obtain ⟨d3, hd3, hf⟩ := bd_s hf
  by_cases c_4 : x2 = (3 : Int32)
  · have hf := if_t c_4 hf
    have hm := mX3_init_b37 em mi x0 (64 : Int32) sz ns sh d3 hf
    omega
  · have hf := if_f c_4 hf
    have hm := mX3_init_b37 em mi x0 (1 : Int32) sz ns sh d3 hf
    omega

set_option maxRecDepth 100000 in
set_option maxHeartbeats 4000000 in
theorem mX3_init_b8 (em mi : Nat) {sz9 ns9 : Nat} {sh9 : Sh} {d9 : Dt} : ∀ (x0 : Nat) (x1 : Int32) (x2 : Int32) (t0 : Nat) (t1 : Nat) (sz : Nat) (ns : Nat) (sh : Sh) (d : Dt), fX3_init_b8 em mi x0 x1 x2 t0 t1 sz ns sh d = some (sz9, ns9, sh9, d9) → sz ≤ sz9 ∧ ns ≤ ns9 := by
  intro x0 x1 x2 t0 t1 sz ns sh d hf
  unfold fX3_init_b8 at hf
  obtain ⟨szq3, nsq3, shq3, dq3, h1, hf⟩ := bw_s hf
  have hq := gX4_init em mi t1 sz ns sh d h1
  have hm := mX3_init_b12 em mi x0 x1 x2 t0 t1 szq3 nsq3 shq3 dq3 hf
  omega

set_option maxRecDepth 100000 in
set_option maxHeartbeats 4000000 in
theorem mX3_init_b0 (em mi : Nat) {sz9 ns9 : Nat} {sh9 : Sh} {d9 : Dt} : ∀ (x0 : Nat) (x1 : Int32) (x2 : Int32) (sz : Nat) (ns : Nat) (sh : Sh) (d : Dt), fX3_init_b0 em mi x0 x1 x2 sz ns sh d = some (sz9, ns9, sh9, d9) → sz ≤ sz9 ∧ ns ≤ ns9 := by
  intro x0 x1 x2 sz ns sh d hf
  unfold fX3_init_b0 at hf
  obtain ⟨szq1, nsq1, shq1, dq1, hq1, hf⟩ := bw_s hf
  have hq := nwO_s hq1
  have hm := mX3_init_b8 em mi x0 x1 x2 x0 sz szq1 nsq1 shq1 dq1 hf
  omega

theorem gX3_init (em mi : Nat) (x0 : Nat) (x1 : Int32) (x2 : Int32) (sz ns : Nat) (sh : Sh) (d : Dt) {sz9 ns9 : Nat} {sh9 : Sh} {d9 : Dt} (hf : fX3_init em mi x0 x1 x2 sz ns sh d = some (sz9, ns9, sh9, d9)) : sz ≤ sz9 ∧ ns ≤ ns9 := mX3_init_b0 em mi x0 x1 x2 sz ns sh d hf

set_option maxRecDepth 100000 in
set_option maxHeartbeats 4000000 in
theorem wX3_init_b40 (C : mx p s m args meth c yX3_init cX3_init 3 none A D cy st) {sz9 ns9 : Nat} {sh9 : Sh} {d9 : Dt} {mc ms : Nat} : ∀ (t0 : Nat) (t1 : Nat) (sz : Nat) (ns : Nat) (sh : Sh) (d : Dt), fX3_init_b40 (st 1) (st 2) t0 t1 sz ns sh d = some (sz9, ns9, sh9, d9) → ∀ {cu su : Nat}, sz9 + cu = sz + mc → ns9 + su = ns + ms → ∀ {H : Heap} {locs : List Loc} {ls : Array Slot}, HW A D cy sz sh d H → va_S A s.heap H locs → lv_has ls 3 [] → GA p l e s m args below meth c 2 40 mc ms A D cy none sz9 sh9 d9 H locs cu su 40 ls [.ref t1, .ref t0] := by
  have hx := C.1
  have hb := C.2.1
  intro t0 t1 sz ns sh d hf cu su hcm hsm H locs ls hw hS hl
  have hm0 := mX3_init_b40 (st 1) (st 2) t0 t1 sz ns sh d hf
  unfold fX3_init_b40 at hf
  obtain ⟨d1, hd1, hf⟩ := bd_s hf
  refine pt_162 C hw hS rfl rfl hd1 kw_200 dX3_init_40 (fun H locs hw hS => ?_)
  cases hf
  obtain rfl : mc = cu := by omega
  obtain rfl : ms = su := by omega
  exact rt_v C hw hS dX3_init_43

set_option maxRecDepth 100000 in
set_option maxHeartbeats 4000000 in
theorem wX3_init_b37 (C : mx p s m args meth c yX3_init cX3_init 3 none A D cy st) {sz9 ns9 : Nat} {sh9 : Sh} {d9 : Dt} {mc ms : Nat} : ∀ (t0 : Nat) (t1 : Int32) (sz : Nat) (ns : Nat) (sh : Sh) (d : Dt), fX3_init_b37 (st 1) (st 2) t0 t1 sz ns sh d = some (sz9, ns9, sh9, d9) → ∀ {cu su : Nat}, sz9 + cu = sz + mc → ns9 + su = ns + ms → ∀ {H : Heap} {locs : List Loc} {ls : Array Slot}, HW A D cy sz sh d H → va_S A s.heap H locs → lv_has ls 3 [] → GA p l e s m args below meth c 2 40 mc ms A D cy none sz9 sh9 d9 H locs cu su 37 ls [.int t1, .ref t0] := by
  have hx := C.1
  have hb := C.2.1
  intro t0 t1 sz ns sh d hf cu su hcm hsm H locs ls hw hS hl
  have hm0 := mX3_init_b37 (st 1) (st 2) t0 t1 sz ns sh d hf
  unfold fX3_init_b37 at hf
  obtain ⟨szq1, nsq1, shq1, dq1, hq1, hf⟩ := bw_s hf
  have hm := mX3_init_b40 (st 1) (st 2) t0 sz szq1 nsq1 shq1 dq1 hf
  have hq := nwA_s hq1
  refine w_newq C hw hS 3 rfl (by decide) kw_193 C.2.2.2.2.2.2.2.1.2.2.1.1 rfl hq1 (by show _ ≤ mc; omega) (by show _ ≤ ms; omega) dX3_init_37 (fun H hw hS => ?_)
  exact wX3_init_b40 C t0 sz szq1 nsq1 shq1 dq1 hf (by omega) (by omega) hw hS (lv_sub hl [] rfl)

set_option maxRecDepth 100000 in
set_option maxHeartbeats 4000000 in
theorem wX3_init_b12 (C : mx p s m args meth c yX3_init cX3_init 3 none A D cy st) {sz9 ns9 : Nat} {sh9 : Sh} {d9 : Dt} {mc ms : Nat} : ∀ (x0 : Nat) (x1 : Int32) (x2 : Int32) (t0 : Nat) (t1 : Nat) (sz : Nat) (ns : Nat) (sh : Sh) (d : Dt), fX3_init_b12 (st 1) (st 2) x0 x1 x2 t0 t1 sz ns sh d = some (sz9, ns9, sh9, d9) → ∀ {cu su : Nat}, sz9 + cu = sz + mc → ns9 + su = ns + ms → ∀ {H : Heap} {locs : List Loc} {ls : Array Slot}, HW A D cy sz sh d H → va_S A s.heap H locs → lv_has ls 3 [(0, .ref x0), (1, .int x1), (2, .int x2)] → GA p l e s m args below meth c 2 40 mc ms A D cy none sz9 sh9 d9 H locs cu su 12 ls [.ref t1, .ref t0] := by
  have hx := C.1
  have hb := C.2.1
  intro x0 x1 x2 t0 t1 sz ns sh d hf cu su hcm hsm H locs ls hw hS hl
  have hm0 := mX3_init_b12 (st 1) (st 2) x0 x1 x2 t0 t1 sz ns sh d hf
  unfold fX3_init_b12 at hf
  obtain ⟨d1, hd1, hf⟩ := bd_s hf
  refine pt_163 C hw hS rfl rfl hd1 kw_202 dX3_init_12 (fun H locs hw hS => ?_)
  refine lv_aload_n hx hb dX3_init_15 rfl (lv_at hl 0 rfl) ?_
  refine lv_iload_n hx hb dX3_init_16 rfl (lv_at hl 1 rfl) ?_
  obtain ⟨d2, hd2, hf⟩ := bd_s hf
  refine pt_160 C hw hS rfl rfl hd2 kw_195 dX3_init_17 (fun H locs hw hS => ?_)
  refine lv_aload_n hx hb dX3_init_20 rfl (lv_at hl 0 rfl) ?_
  refine lv_iload_n hx hb dX3_init_21 rfl (lv_at hl 2 rfl) ?_
  obtain ⟨d3, hd3, hf⟩ := bd_s hf
  refine pt_161 C hw hS rfl rfl hd3 kw_198 dX3_init_22 (fun H locs hw hS => ?_)
  refine lv_aload_n hx hb dX3_init_25 rfl (lv_at hl 0 rfl) ?_
  refine lv_iload_n hx hb dX3_init_26 rfl (lv_at hl 2 rfl) ?_
  refine lv_iconst (v := 3) hx hb dX3_init_27 (by decide) ?_
  refine lv_icmp_ne (tgt := 36) hx hb dX3_init_28 (by decide) (fun c_4 => ?_) (fun c_4 => ?_)
  · have hf := if_f c_4 hf
    refine lv_iconst (v := 1) hx hb dX3_init_36 (by decide) ?_
    exact wX3_init_b37 C x0 (1 : Int32) sz ns sh d3 hf (by omega) (by omega) hw hS (lv_sub hl [] rfl)
  · have hf := if_t c_4 hf
    refine lv_bipush (v := 64) hx hb dX3_init_31 (by decide) ?_
    refine lv_goto (tgt := 37) hx hb dX3_init_33 (by decide) ?_
    exact wX3_init_b37 C x0 (64 : Int32) sz ns sh d3 hf (by omega) (by omega) hw hS (lv_sub hl [] rfl)

set_option maxRecDepth 100000 in
set_option maxHeartbeats 4000000 in
theorem wX3_init_b8 (C : mx p s m args meth c yX3_init cX3_init 3 none A D cy st) {sz9 ns9 : Nat} {sh9 : Sh} {d9 : Dt} {mc ms : Nat} : ∀ (x0 : Nat) (x1 : Int32) (x2 : Int32) (t0 : Nat) (t1 : Nat) (sz : Nat) (ns : Nat) (sh : Sh) (d : Dt), fX3_init_b8 (st 1) (st 2) x0 x1 x2 t0 t1 sz ns sh d = some (sz9, ns9, sh9, d9) → ∀ {cu su : Nat}, sz9 + cu = sz + mc → ns9 + su = ns + ms → ∀ {H : Heap} {locs : List Loc} {ls : Array Slot}, HW A D cy sz sh d H → va_S A s.heap H locs → lv_has ls 3 [(0, .ref x0), (1, .int x1), (2, .int x2)] → GA p l e s m args below meth c 2 40 mc ms A D cy none sz9 sh9 d9 H locs cu su 8 ls [.ref t1, .ref t0] := by
  have hx := C.1
  have hb := C.2.1
  intro x0 x1 x2 t0 t1 sz ns sh d hf cu su hcm hsm H locs ls hw hS hl
  have hm0 := mX3_init_b8 (st 1) (st 2) x0 x1 x2 t0 t1 sz ns sh d hf
  unfold fX3_init_b8 at hf
  refine lv_dup hx hb dX3_init_8 rfl ?_
  obtain ⟨szq3, nsq3, shq3, dq3, h1, hf⟩ := bw_s hf
  have hm := mX3_init_b12 (st 1) (st 2) x0 x1 x2 t0 t1 szq3 nsq3 shq3 dq3 hf
  have hq := gX4_init (st 1) (st 2) t1 sz ns sh d h1
  refine cl_IN (host := "ManyHands") C hw hS (tX4_init l A D cy st t1 sz ns sh d h1) ckX4_init (by decide +kernel) ⟨(Nat.le_of_ble_eq_true rfl), (Nat.le_of_ble_eq_true rfl)⟩ hl.1 rfl (Nat.le_of_ble_eq_true rfl) dX3_init_9 ⟨by show _ ≤ mc; omega, by show _ ≤ ms; omega⟩ (fun H locs hw hS => ?_)
  exact wX3_init_b12 C x0 x1 x2 t0 t1 szq3 nsq3 shq3 dq3 hf (by omega) (by omega) hw hS (lv_sub hl [0, 1, 2] rfl)

set_option maxRecDepth 100000 in
set_option maxHeartbeats 4000000 in
theorem wX3_init_b0 (C : mx p s m args meth c yX3_init cX3_init 3 none A D cy st) {sz9 ns9 : Nat} {sh9 : Sh} {d9 : Dt} {mc ms : Nat} : ∀ (x0 : Nat) (x1 : Int32) (x2 : Int32) (sz : Nat) (ns : Nat) (sh : Sh) (d : Dt), fX3_init_b0 (st 1) (st 2) x0 x1 x2 sz ns sh d = some (sz9, ns9, sh9, d9) → ∀ {cu su : Nat}, sz9 + cu = sz + mc → ns9 + su = ns + ms → ∀ {H : Heap} {locs : List Loc} {ls : Array Slot}, HW A D cy sz sh d H → va_S A s.heap H locs → lv_has ls 3 [(0, .ref x0), (1, .int x1), (2, .int x2)] → GA p l e s m args below meth c 2 40 mc ms A D cy none sz9 sh9 d9 H locs cu su 0 ls [] := by
  have hx := C.1
  have hb := C.2.1
  intro x0 x1 x2 sz ns sh d hf cu su hcm hsm H locs ls hw hS hl
  have hm0 := mX3_init_b0 (st 1) (st 2) x0 x1 x2 sz ns sh d hf
  unfold fX3_init_b0 at hf
  refine lv_aload_n hx hb dX3_init_0 rfl (lv_at hl 0 rfl) ?_
  refine W.objInit hx hb C.2.2.2.2.2.1 (C.2.2.2.2.1 _ kw_190) (C.2.2.2.2.1 _ kw_24) (C.2.2.2.2.1 _ kw_25) rfl (hl.1.trans C.2.2.2.1.symm) rfl dX3_init_1 (Nat.le_of_ble_eq_true rfl) (Nat.le_of_ble_eq_true rfl) ?_
  refine W.eq (g2 := F0 m 4 ls []) rfl ?_
  refine lv_aload_n hx hb dX3_init_4 rfl (lv_at hl 0 rfl) ?_
  obtain ⟨szq1, nsq1, shq1, dq1, hq1, hf⟩ := bw_s hf
  have hm := mX3_init_b8 (st 1) (st 2) x0 x1 x2 x0 sz szq1 nsq1 shq1 dq1 hf
  have hq := nwO_s hq1
  refine w_new (ci := 5) C hw hS inX4 tyX4 tyX4_ok rfl (by decide) dfX4 kw_191 kw_117 kw_8 hq1 (by show _ ≤ mc; omega) (by show _ ≤ ms; omega) dX3_init_5 (fun H hw hS => ?_)
  exact wX3_init_b8 C x0 x1 x2 x0 sz szq1 nsq1 shq1 dq1 hf (by omega) (by omega) hw hS (lv_sub hl [0, 1, 2] rfl)

set_option maxRecDepth 100000 in
set_option maxHeartbeats 4000000 in
theorem tX3_init (l : Launch) (A : Nat → Prop) (D : va_G) (cy : Nat → ClassId) (st : Nat → Nat) (x0 : Nat) (x1 : Int32) (x2 : Int32) (sz ns : Nat) (sh : Sh) (d : Dt) {sz9 ns9 : Nat} {sh9 : Sh} {d9 : Dt} (hf : fX3_init (st 1) (st 2) x0 x1 x2 sz ns sh d = some (sz9, ns9, sh9, d9)) : Ct l yX3_init cX3_init 3 none 2 40 (sz9 - sz) (ns9 - ns) A D cy st [.ref x0, .int x1, .int x2] sz sh d none sz9 sh9 d9 := by
  have hm := gX3_init (st 1) (st 2) x0 x1 x2 sz ns sh d hf
  exact ct_of (by decide) (Nat.le_of_ble_eq_true rfl) (fun p e s m args below meth c C hw hS ls hl => wX3_init_b0 C x0 x1 x2 sz ns sh d hf (by omega) (by omega) hw hS hl)
theorem dX3_isUnder_0 : decode cX3_isUnder 0 = .ok (.aload_n 0, 1) := by decide +kernel
theorem dX3_isUnder_1 : decode cX3_isUnder 1 = .ok (.getfield 22, 3) := by decide +kernel
theorem dX3_isUnder_4 : decode cX3_isUnder 4 = .ok (.iload_n 1, 1) := by decide +kernel
theorem dX3_isUnder_5 : decode cX3_isUnder 5 = .ok (.if_icmp .eq 15, 3) := by decide +kernel
theorem dX3_isUnder_8 : decode cX3_isUnder 8 = .ok (.getstatic 31, 3) := by decide +kernel
theorem dX3_isUnder_11 : decode cX3_isUnder 11 = .ok (.aload_n 0, 1) := by decide +kernel
theorem dX3_isUnder_12 : decode cX3_isUnder 12 = .ok (.getfield 22, 3) := by decide +kernel
theorem dX3_isUnder_15 : decode cX3_isUnder 15 = .ok (.iaload, 1) := by decide +kernel
theorem dX3_isUnder_16 : decode cX3_isUnder 16 = .ok (.iload_n 1, 1) := by decide +kernel
theorem dX3_isUnder_17 : decode cX3_isUnder 17 = .ok (.if_icmp .ne 7, 3) := by decide +kernel
theorem dX3_isUnder_20 : decode cX3_isUnder 20 = .ok (.iconst 1, 1) := by decide +kernel
theorem dX3_isUnder_21 : decode cX3_isUnder 21 = .ok (.goto 4, 3) := by decide +kernel
theorem dX3_isUnder_24 : decode cX3_isUnder 24 = .ok (.iconst 0, 1) := by decide +kernel
theorem dX3_isUnder_25 : decode cX3_isUnder 25 = .ok (.ireturn, 1) := by decide +kernel
theorem cvX3_isUnder : CV yX3_isUnder cX3_isUnder 2 (some .boolean) 4 1 := ⟨kw_221, kw_222, kw_10, kw_223, ⟨_, _, rfl⟩, by decide, by decide +kernel, by decide +kernel, by decide +kernel⟩
def fX3_isUnder_b0 (sh : Sh) (d : Dt) (x0 : Nat) (x1 : Int32) : Option (Bool) := bd (gI sh d 5 161 x0) fun v1 => if v1 = x1 then (some true) else (bd (gI sh d 5 161 x0) fun v3 => bd (abv v3) fun v4 => if v4 = x1 then (some true) else (some false))

def fX3_isUnder (sh : Sh) (d : Dt) (x0 : Nat) (x1 : Int32) : Option (Bool) := fX3_isUnder_b0 sh d x0 x1

set_option maxRecDepth 100000 in
set_option maxHeartbeats 4000000 in
theorem wX3_isUnder_b0 (C : mx p s m args meth c yX3_isUnder cX3_isUnder 2 (some .boolean) A D cy st) {r : Bool} {d : Dt} : ∀ (x0 : Nat) (x1 : Int32), fX3_isUnder_b0 sh d x0 x1 = some r → ∀ {H : Heap} {locs : List Loc} {ls : Array Slot}, HW A D cy sz sh d H → va_S A s.heap H locs → lv_has ls 2 [(0, .ref x0), (1, .int x1)] → GL p l e s m args below meth c 0 0 A D cy (some (.int (bI r))) sz sh d H locs 0 ls [] := by
  have hx := C.1
  have hb := C.2.1
  intro x0 x1 hf H locs ls hw hS hl
  unfold fX3_isUnder_b0 at hf
  refine lv_aload_n hx hb dX3_isUnder_0 rfl (lv_at hl 0 rfl) ?_
  obtain ⟨v1, hv1, hf⟩ := bd_s hf
  refine gt_161 C hw hv1 kw_198 dX3_isUnder_1 ?_
  refine lv_iload_n hx hb dX3_isUnder_4 rfl (lv_at hl 1 rfl) ?_
  refine lv_icmp_eq (tgt := 20) hx hb dX3_isUnder_5 (by decide) (fun c_2 => ?_) (fun c_2 => ?_)
  · have hf := if_t c_2 hf
    refine lv_iconst (v := 1) hx hb dX3_isUnder_20 (by decide) ?_
    refine lv_goto (tgt := 25) hx hb dX3_isUnder_21 (by decide) ?_
    cases hf
    exact rt_z C hw hS _ rfl dX3_isUnder_25
  · have hf := if_f c_2 hf
    refine va_getsN (host := "ManyHands") hx hb C.2.2.2.2.2.2.2.1.2.2.2.2.2.1 hS C.2.2.2.2.2.1 (va_Nw.use rfl (C.2.2.2.2.2.2.2.1.2.1 _ (by decide +kernel))) (fun _ h => h) dX3_isUnder_8 ?_
    refine lv_aload_n hx hb dX3_isUnder_11 rfl (lv_at hl 0 rfl) ?_
    obtain ⟨v3, hv3, hf⟩ := bd_s hf
    refine gt_161 C hw hv3 kw_198 dX3_isUnder_12 ?_
    obtain ⟨v4, hv4, hf⟩ := bd_s hf
    refine w_abv C hS hv4 dX3_isUnder_15 ?_
    refine lv_iload_n hx hb dX3_isUnder_16 rfl (lv_at hl 1 rfl) ?_
    refine lv_icmp_ne (tgt := 24) hx hb dX3_isUnder_17 (by decide) (fun c_5 => ?_) (fun c_5 => ?_)
    · have hf := if_f c_5 hf
      refine lv_iconst (v := 0) hx hb dX3_isUnder_24 (by decide) ?_
      cases hf
      exact rt_z C hw hS _ rfl dX3_isUnder_25
    · have hf := if_t c_5 hf
      refine lv_iconst (v := 1) hx hb dX3_isUnder_20 (by decide) ?_
      refine lv_goto (tgt := 25) hx hb dX3_isUnder_21 (by decide) ?_
      cases hf
      exact rt_z C hw hS _ rfl dX3_isUnder_25

set_option maxRecDepth 100000 in
set_option maxHeartbeats 4000000 in
theorem tX3_isUnder (l : Launch) (A : Nat → Prop) (D : va_G) (cy : Nat → ClassId) (st : Nat → Nat) (sz : Nat) (sh : Sh) (d : Dt) (x0 : Nat) (x1 : Int32) {r : Bool} (hf : fX3_isUnder sh d x0 x1 = some r) : Ct l yX3_isUnder cX3_isUnder 2 (some .boolean) 0 0 0 0 A D cy st [.ref x0, .int x1] sz sh d (some (.int (bI r))) sz sh d := ct_of (by decide) (Nat.le_of_ble_eq_true rfl) (fun p e s m args below meth c C hw hS ls hl => wX3_isUnder_b0 C x0 x1 hf hw hS hl)
theorem dX6_oneIf_0 : decode cX6_oneIf 0 = .ok (.iload_n 0, 1) := by decide +kernel
theorem dX6_oneIf_1 : decode cX6_oneIf 1 = .ok (.ifCond .eq 7, 3) := by decide +kernel
theorem dX6_oneIf_4 : decode cX6_oneIf 4 = .ok (.iconst 1, 1) := by decide +kernel
theorem dX6_oneIf_5 : decode cX6_oneIf 5 = .ok (.goto 4, 3) := by decide +kernel
theorem dX6_oneIf_8 : decode cX6_oneIf 8 = .ok (.iconst 0, 1) := by decide +kernel
theorem dX6_oneIf_9 : decode cX6_oneIf 9 = .ok (.ireturn, 1) := by decide +kernel
theorem csX6_oneIf : CS yX6_oneIf cX6_oneIf 1 (some .int) 1 := ⟨kw_227, kw_1, kw_228, by decide +kernel, by decide +kernel, by decide +kernel⟩
def fX6_oneIf_b0 (sh : Sh) (d : Dt) (x0 : Int32) : Option (Int32) := if x0 = 0 then (some (0 : Int32)) else (some (1 : Int32))

def fX6_oneIf (sh : Sh) (d : Dt) (x0 : Int32) : Option (Int32) := fX6_oneIf_b0 sh d x0

set_option maxRecDepth 100000 in
set_option maxHeartbeats 4000000 in
theorem wX6_oneIf_b0 (C : mx p s m args meth c yX6_oneIf cX6_oneIf 1 (some .int) A D cy st) {r : Int32} {d : Dt} : ∀ (x0 : Int32), fX6_oneIf_b0 sh d x0 = some r → ∀ {H : Heap} {locs : List Loc} {ls : Array Slot}, HW A D cy sz sh d H → va_S A s.heap H locs → lv_has ls 1 [(0, .int x0)] → GL p l e s m args below meth c 0 0 A D cy (some (.int r)) sz sh d H locs 0 ls [] := by
  have hx := C.1
  have hb := C.2.1
  intro x0 hf H locs ls hw hS hl
  unfold fX6_oneIf_b0 at hf
  refine lv_iload_n hx hb dX6_oneIf_0 rfl (lv_at hl 0 rfl) ?_
  refine lv_if_eq (tgt := 8) hx hb dX6_oneIf_1 (by decide) (fun c_1 => ?_) (fun c_1 => ?_)
  · have hf := if_t c_1 hf
    refine lv_iconst (v := 0) hx hb dX6_oneIf_8 (by decide) ?_
    cases hf
    exact rt_i C hw hS dX6_oneIf_9
  · have hf := if_f c_1 hf
    refine lv_iconst (v := 1) hx hb dX6_oneIf_4 (by decide) ?_
    refine lv_goto (tgt := 9) hx hb dX6_oneIf_5 (by decide) ?_
    cases hf
    exact rt_i C hw hS dX6_oneIf_9

set_option maxRecDepth 100000 in
set_option maxHeartbeats 4000000 in
theorem tX6_oneIf (l : Launch) (A : Nat → Prop) (D : va_G) (cy : Nat → ClassId) (st : Nat → Nat) (sz : Nat) (sh : Sh) (d : Dt) (x0 : Int32) {r : Int32} (hf : fX6_oneIf sh d x0 = some r) : Ct l yX6_oneIf cX6_oneIf 1 (some .int) 0 0 0 0 A D cy st [.int x0] sz sh d (some (.int r)) sz sh d := ct_of (by decide) (Nat.le_of_ble_eq_true rfl) (fun p e s m args below meth c C hw hS ls hl => wX6_oneIf_b0 C x0 hf hw hS hl)
theorem dX1_hasAllOwn_0 : decode cX1_hasAllOwn 0 = .ok (.aload_n 0, 1) := by decide +kernel
theorem dX1_hasAllOwn_1 : decode cX1_hasAllOwn 1 = .ok (.getfield 12, 3) := by decide +kernel
theorem dX1_hasAllOwn_4 : decode cX1_hasAllOwn 4 = .ok (.getfield 43, 3) := by decide +kernel
theorem dX1_hasAllOwn_7 : decode cX1_hasAllOwn 7 = .ok (.aload_n 0, 1) := by decide +kernel
theorem dX1_hasAllOwn_8 : decode cX1_hasAllOwn 8 = .ok (.getfield 39, 3) := by decide +kernel
theorem dX1_hasAllOwn_11 : decode cX1_hasAllOwn 11 = .ok (.iaload, 1) := by decide +kernel
theorem dX1_hasAllOwn_12 : decode cX1_hasAllOwn 12 = .ok (.aload_n 0, 1) := by decide +kernel
theorem dX1_hasAllOwn_13 : decode cX1_hasAllOwn 13 = .ok (.getfield 21, 3) := by decide +kernel
theorem dX1_hasAllOwn_16 : decode cX1_hasAllOwn 16 = .ok (.invokevirtual 47, 3) := by decide +kernel
theorem dX1_hasAllOwn_19 : decode cX1_hasAllOwn 19 = .ok (.if_icmp .ne 7, 3) := by decide +kernel
theorem dX1_hasAllOwn_22 : decode cX1_hasAllOwn 22 = .ok (.iconst 1, 1) := by decide +kernel
theorem dX1_hasAllOwn_23 : decode cX1_hasAllOwn 23 = .ok (.goto 4, 3) := by decide +kernel
theorem dX1_hasAllOwn_26 : decode cX1_hasAllOwn 26 = .ok (.iconst 0, 1) := by decide +kernel
theorem dX1_hasAllOwn_27 : decode cX1_hasAllOwn 27 = .ok (.ireturn, 1) := by decide +kernel
theorem cvX1_hasAllOwn : CV yX1_hasAllOwn cX1_hasAllOwn 1 (some .boolean) 2 0 := ⟨kw_250, kw_251, kw_7, kw_252, ⟨_, _, rfl⟩, by decide, by decide +kernel, by decide +kernel, by decide +kernel⟩
def fX1_hasAllOwn_b0 (sh : Sh) (d : Dt) (x0 : Nat) : Option (Bool) := bd (gR sh d 3 97 x0) fun v1 => bd v1 fun a2 => bd (gR sh d 6 192 a2) fun v3 => bd (gI sh d 3 96 x0) fun v4 => bd v3 fun a5 => bd (aI sh d 20 a5 v4) fun v6 => bd (gR sh d 3 98 x0) fun v7 => bd v7 fun a8 => bd (kc sh 1 a8) fun _ => bd (fJx4a65c_size_8abf5 sh d a8) fun r11 => if v6 = r11 then (some true) else (some false)

def fX1_hasAllOwn (sh : Sh) (d : Dt) (x0 : Nat) : Option (Bool) := fX1_hasAllOwn_b0 sh d x0

set_option maxRecDepth 100000 in
set_option maxHeartbeats 4000000 in
theorem wX1_hasAllOwn_b0 (C : mx p s m args meth c yX1_hasAllOwn cX1_hasAllOwn 1 (some .boolean) A D cy st) {r : Bool} {d : Dt} : ∀ (x0 : Nat), fX1_hasAllOwn_b0 sh d x0 = some r → ∀ {H : Heap} {locs : List Loc} {ls : Array Slot}, HW A D cy sz sh d H → va_S A s.heap H locs → lv_has ls 1 [(0, .ref x0)] → GL p l e s m args below meth c 1 20 A D cy (some (.int (bI r))) sz sh d H locs 0 ls [] := by
  have hx := C.1
  have hb := C.2.1
  intro x0 hf H locs ls hw hS hl
  unfold fX1_hasAllOwn_b0 at hf
  refine lv_aload_n hx hb dX1_hasAllOwn_0 rfl (lv_at hl 0 rfl) ?_
  obtain ⟨v1, hv1, hf⟩ := bd_s hf
  refine gt_97 C hw hv1 kw_151 dX1_hasAllOwn_1 ?_
  obtain ⟨a2, ea2, hg⟩ := bd_s hf
  clear hf
  subst ea2
  have hf := hg
  clear hg
  obtain ⟨v3, hv3, hf⟩ := bd_s hf
  refine gt_192 C hw hv3 kw_123 dX1_hasAllOwn_4 ?_
  refine lv_aload_n hx hb dX1_hasAllOwn_7 rfl (lv_at hl 0 rfl) ?_
  obtain ⟨v4, hv4, hf⟩ := bd_s hf
  refine gt_96 C hw hv4 kw_149 dX1_hasAllOwn_8 ?_
  obtain ⟨a5, ea5, hg⟩ := bd_s hf
  clear hf
  subst ea5
  have hf := hg
  clear hg
  obtain ⟨v6, hv6, hf⟩ := bd_s hf
  refine w_iald C hw hv6 dX1_hasAllOwn_11 ?_
  refine lv_aload_n hx hb dX1_hasAllOwn_12 rfl (lv_at hl 0 rfl) ?_
  obtain ⟨v7, hv7, hf⟩ := bd_s hf
  refine gt_98 C hw hv7 kw_154 dX1_hasAllOwn_13 ?_
  obtain ⟨a8, ea8, hg⟩ := bd_s hf
  clear hf
  subst ea8
  have hf := hg
  clear hg
  obtain ⟨_, h9, hf⟩ := bd_s hf
  obtain ⟨r11, h10, hf⟩ := bd_s hf
  refine cl_V0 C hw hS (tJx4a65c_size_8abf5 l A D cy st sz sh d a8 h10) cvJx4a65c_size_8abf5 kw_253 (kc_k h9) ⟨(Nat.le_of_ble_eq_true rfl), (Nat.le_of_ble_eq_true rfl)⟩ hl.1 rfl (Nat.le_of_ble_eq_true rfl) dX1_hasAllOwn_16 ⟨Nat.zero_le _, Nat.zero_le _⟩ (fun H locs hw hS => ?_)
  refine lv_icmp_ne (tgt := 26) hx hb dX1_hasAllOwn_19 (by decide) (fun c_12 => ?_) (fun c_12 => ?_)
  · have hf := if_f c_12 hf
    refine lv_iconst (v := 0) hx hb dX1_hasAllOwn_26 (by decide) ?_
    cases hf
    exact rt_z C hw hS _ rfl dX1_hasAllOwn_27
  · have hf := if_t c_12 hf
    refine lv_iconst (v := 1) hx hb dX1_hasAllOwn_22 (by decide) ?_
    refine lv_goto (tgt := 27) hx hb dX1_hasAllOwn_23 (by decide) ?_
    cases hf
    exact rt_z C hw hS _ rfl dX1_hasAllOwn_27

set_option maxRecDepth 100000 in
set_option maxHeartbeats 4000000 in
theorem tX1_hasAllOwn (l : Launch) (A : Nat → Prop) (D : va_G) (cy : Nat → ClassId) (st : Nat → Nat) (sz : Nat) (sh : Sh) (d : Dt) (x0 : Nat) {r : Bool} (hf : fX1_hasAllOwn sh d x0 = some r) : Ct l yX1_hasAllOwn cX1_hasAllOwn 1 (some .boolean) 1 20 0 0 A D cy st [.ref x0] sz sh d (some (.int (bI r))) sz sh d := ct_of (by decide) (Nat.le_of_ble_eq_true rfl) (fun p e s m args below meth c C hw hS ls hl => wX1_hasAllOwn_b0 C x0 hf hw hS hl)
theorem dX4_widen_0 : decode cX4_widen 0 = .ok (.iconst 0, 1) := by decide +kernel
theorem dX4_widen_1 : decode cX4_widen 1 = .ok (.istore_n 2, 1) := by decide +kernel
theorem dX4_widen_2 : decode cX4_widen 2 = .ok (.iload_n 2, 1) := by decide +kernel
theorem dX4_widen_3 : decode cX4_widen 3 = .ok (.bipush 6, 2) := by decide +kernel
theorem dX4_widen_5 : decode cX4_widen 5 = .ok (.if_icmp .ge 36, 3) := by decide +kernel
theorem dX4_widen_8 : decode cX4_widen 8 = .ok (.aload_n 1, 1) := by decide +kernel
theorem dX4_widen_9 : decode cX4_widen 9 = .ok (.getfield 9, 3) := by decide +kernel
theorem dX4_widen_12 : decode cX4_widen 12 = .ok (.iload_n 2, 1) := by decide +kernel
theorem dX4_widen_13 : decode cX4_widen 13 = .ok (.iaload, 1) := by decide +kernel
theorem dX4_widen_14 : decode cX4_widen 14 = .ok (.aload_n 0, 1) := by decide +kernel
theorem dX4_widen_15 : decode cX4_widen 15 = .ok (.getfield 9, 3) := by decide +kernel
theorem dX4_widen_18 : decode cX4_widen 18 = .ok (.iload_n 2, 1) := by decide +kernel
theorem dX4_widen_19 : decode cX4_widen 19 = .ok (.iaload, 1) := by decide +kernel
theorem dX4_widen_20 : decode cX4_widen 20 = .ok (.if_icmp .le 15, 3) := by decide +kernel
theorem dX4_widen_23 : decode cX4_widen 23 = .ok (.aload_n 0, 1) := by decide +kernel
theorem dX4_widen_24 : decode cX4_widen 24 = .ok (.getfield 9, 3) := by decide +kernel
theorem dX4_widen_27 : decode cX4_widen 27 = .ok (.iload_n 2, 1) := by decide +kernel
theorem dX4_widen_28 : decode cX4_widen 28 = .ok (.aload_n 1, 1) := by decide +kernel
theorem dX4_widen_29 : decode cX4_widen 29 = .ok (.getfield 9, 3) := by decide +kernel
theorem dX4_widen_32 : decode cX4_widen 32 = .ok (.iload_n 2, 1) := by decide +kernel
theorem dX4_widen_33 : decode cX4_widen 33 = .ok (.iaload, 1) := by decide +kernel
theorem dX4_widen_34 : decode cX4_widen 34 = .ok (.iastore, 1) := by decide +kernel
theorem dX4_widen_35 : decode cX4_widen 35 = .ok (.iinc 2 1, 3) := by decide +kernel
theorem dX4_widen_38 : decode cX4_widen 38 = .ok (.goto (-36), 3) := by decide +kernel
theorem dX4_widen_41 : decode cX4_widen 41 = .ok (.return_, 1) := by decide +kernel
theorem cvX4_widen : CV yX4_widen cX4_widen 3 none 5 1 := ⟨kw_276, kw_277, kw_8, kw_278, ⟨_, _, rfl⟩, by decide, by decide +kernel, by decide +kernel, by decide +kernel⟩
def fX4_widen_b2 (sh : Sh) : Nat → Nat → Option Nat → Int32 → Dt → Option (Dt)
  | 0, _, _, _, _ => none
  | n + 1, x0, x1, x2, d => if (6 : Int32) ≤ x2 then (some (d)) else (bd x1 fun a2 => bd (gR sh d 6 192 a2) fun v3 => bd v3 fun a4 => bd (aI sh d 20 a4 x2) fun v5 => bd (gR sh d 6 192 x0) fun v6 => bd v6 fun a7 => bd (aI sh d 20 a7 x2) fun v8 => if v5 ≤ v8 then (fX4_widen_b2 sh n x0 (some a2) (x2 + 1) d) else (bd (gR sh d 6 192 x0) fun v10 => bd (gR sh d 6 192 a2) fun v11 => bd v11 fun a12 => bd (aI sh d 20 a12 x2) fun v13 => bd v10 fun a14 => bd (sI sh d 20 a14 x2 v13) fun d15 => fX4_widen_b2 sh n x0 (some a2) (x2 + 1) d15))

def fX4_widen_b0 (sh : Sh) (x0 : Nat) (x1 : Option Nat) (d : Dt) : Option (Dt) := fX4_widen_b2 sh fu x0 x1 (0 : Int32) d

def fX4_widen (sh : Sh) (d : Dt) (x0 : Nat) (x1 : Option Nat) : Option (Dt) := fX4_widen_b0 sh x0 x1 d

set_option maxRecDepth 100000 in
set_option maxHeartbeats 4000000 in
theorem wX4_widen_b2 (C : mx p s m args meth c yX4_widen cX4_widen 3 none A D cy st) {d9 : Dt} : ∀ (n : Nat) (x0 : Nat) (x1 : Option Nat) (x2 : Int32) (d : Dt), fX4_widen_b2 sh n x0 x1 x2 d = some d9 → ∀ {H : Heap} {locs : List Loc} {ls : Array Slot}, HW A D cy sz sh d H → va_S A s.heap H locs → lv_has ls 3 [(0, .ref x0), (1, va_rf x1), (2, .int x2)] → GL p l e s m args below meth c 0 0 A D cy none sz sh d9 H locs 2 ls [] := by
  have hx := C.1
  have hb := C.2.1
  intro n
  induction n with
  | zero => intro x0 x1 x2 d hf; cases hf
  | succ n ih =>
    intro x0 x1 x2 d hf H locs ls hw hS hl
    rw [fX4_widen_b2] at hf
    refine lv_iload_n hx hb dX4_widen_2 rfl (lv_at hl 2 rfl) ?_
    refine lv_bipush (v := 6) hx hb dX4_widen_3 (by decide) ?_
    refine lv_icmp_ge (tgt := 41) hx hb dX4_widen_5 (by decide) (fun c_1 => ?_) (fun c_1 => ?_)
    · have hf := if_t c_1 hf
      cases hf
      exact rt_v C hw hS dX4_widen_41
    · have hf := if_f c_1 hf
      refine lq_aload_n hx hb dX4_widen_8 rfl (lv_at hl 1 rfl) ?_
      obtain ⟨a2, ea2, hg⟩ := bd_s hf
      clear hf
      subst ea2
      have hf := hg
      clear hg
      obtain ⟨v3, hv3, hf⟩ := bd_s hf
      refine gt_192 C hw hv3 kw_122 dX4_widen_9 ?_
      refine lv_iload_n hx hb dX4_widen_12 rfl (lv_at hl 2 rfl) ?_
      obtain ⟨a4, ea4, hg⟩ := bd_s hf
      clear hf
      subst ea4
      have hf := hg
      clear hg
      obtain ⟨v5, hv5, hf⟩ := bd_s hf
      refine w_iald C hw hv5 dX4_widen_13 ?_
      refine lv_aload_n hx hb dX4_widen_14 rfl (lv_at hl 0 rfl) ?_
      obtain ⟨v6, hv6, hf⟩ := bd_s hf
      refine gt_192 C hw hv6 kw_122 dX4_widen_15 ?_
      refine lv_iload_n hx hb dX4_widen_18 rfl (lv_at hl 2 rfl) ?_
      obtain ⟨a7, ea7, hg⟩ := bd_s hf
      clear hf
      subst ea7
      have hf := hg
      clear hg
      obtain ⟨v8, hv8, hf⟩ := bd_s hf
      refine w_iald C hw hv8 dX4_widen_19 ?_
      refine lv_icmp_le (tgt := 35) hx hb dX4_widen_20 (by decide) (fun c_9 => ?_) (fun c_9 => ?_)
      · have hf := if_t c_9 hf
        refine lv_iinc (v := (x2 + 1)) (lv' := [(2, .int (x2 + 1)), (0, .ref x0), (1, va_rf (some a2))]) hx hb dX4_widen_35 hl (k := 2) rfl rfl (by decide) (by simp [va_rf_c, cat_i, cat_l, cat_r]) (fun ls hl => ?_)
        refine lv_goto (tgt := 2) hx hb dX4_widen_38 (by decide) ?_
        exact ih x0 (some a2) (x2 + 1) d hf hw hS (lv_sub hl [1, 2, 0] rfl)
      · have hf := if_f c_9 hf
        refine lv_aload_n hx hb dX4_widen_23 rfl (lv_at hl 0 rfl) ?_
        obtain ⟨v10, hv10, hf⟩ := bd_s hf
        refine gt_192 C hw hv10 kw_122 dX4_widen_24 ?_
        refine lv_iload_n hx hb dX4_widen_27 rfl (lv_at hl 2 rfl) ?_
        refine lq_aload_n hx hb dX4_widen_28 rfl (lv_at hl 1 rfl) ?_
        obtain ⟨v11, hv11, hf⟩ := bd_s hf
        refine gt_192 C hw hv11 kw_122 dX4_widen_29 ?_
        refine lv_iload_n hx hb dX4_widen_32 rfl (lv_at hl 2 rfl) ?_
        obtain ⟨a12, ea12, hg⟩ := bd_s hf
        clear hf
        subst ea12
        have hf := hg
        clear hg
        obtain ⟨v13, hv13, hf⟩ := bd_s hf
        refine w_iald C hw hv13 dX4_widen_33 ?_
        obtain ⟨a14, ea14, hg⟩ := bd_s hf
        clear hf
        subst ea14
        have hf := hg
        clear hg
        obtain ⟨d15, hd15, hf⟩ := bd_s hf
        refine w_iast C hw hS hd15 dX4_widen_34 (fun H locs hw hS => ?_)
        refine lv_iinc (v := (x2 + 1)) (lv' := [(2, .int (x2 + 1)), (0, .ref x0), (1, va_rf (some a2))]) hx hb dX4_widen_35 hl (k := 2) rfl rfl (by decide) (by simp [va_rf_c, cat_i, cat_l, cat_r]) (fun ls hl => ?_)
        refine lv_goto (tgt := 2) hx hb dX4_widen_38 (by decide) ?_
        exact ih x0 (some a2) (x2 + 1) d15 hf hw hS (lv_sub hl [1, 2, 0] rfl)

set_option maxRecDepth 100000 in
set_option maxHeartbeats 4000000 in
theorem wX4_widen_b0 (C : mx p s m args meth c yX4_widen cX4_widen 3 none A D cy st) {d9 : Dt} : ∀ (x0 : Nat) (x1 : Option Nat) (d : Dt), fX4_widen_b0 sh x0 x1 d = some d9 → ∀ {H : Heap} {locs : List Loc} {ls : Array Slot}, HW A D cy sz sh d H → va_S A s.heap H locs → lv_has ls 3 [(0, .ref x0), (1, va_rf x1)] → GL p l e s m args below meth c 0 0 A D cy none sz sh d9 H locs 0 ls [] := by
  have hx := C.1
  have hb := C.2.1
  intro x0 x1 d hf H locs ls hw hS hl
  unfold fX4_widen_b0 at hf
  refine lv_iconst (v := 0) hx hb dX4_widen_0 (by decide) ?_
  refine lv_istore_n (i := 2) (lv' := [(2, .int (0 : Int32)), (0, .ref x0), (1, va_rf x1)]) hx hb dX4_widen_1 rfl hl (by decide) (by simp [va_rf_c, cat_i, cat_l, cat_r]) (fun ls hl => ?_)
  exact wX4_widen_b2 C fu x0 x1 (0 : Int32) d hf hw hS (lv_sub hl [1, 2, 0] rfl)

set_option maxRecDepth 100000 in
set_option maxHeartbeats 4000000 in
theorem tX4_widen (l : Launch) (A : Nat → Prop) (D : va_G) (cy : Nat → ClassId) (st : Nat → Nat) (sz : Nat) (sh : Sh) (d : Dt) (x0 : Nat) (x1 : Option Nat) {d9 : Dt} (hf : fX4_widen sh d x0 x1 = some d9) : Ct l yX4_widen cX4_widen 3 none 0 0 0 0 A D cy st [.ref x0, va_rf x1] sz sh d none sz sh d9 := ct_of (by decide) (by simp [lg_sl, va_rf_c, cat_i, cat_l, cat_r]) (fun p e s m args below meth c C hw hS ls hl => wX4_widen_b0 C x0 x1 d hf hw hS (by simpa [lv_args, va_rf_c, cat_i, cat_l, cat_r] using hl))
theorem dX3_shelfOf_0 : decode cX3_shelfOf 0 = .ok (.aload_n 0, 1) := by decide +kernel
theorem dX3_shelfOf_1 : decode cX3_shelfOf 1 = .ok (.getfield 22, 3) := by decide +kernel
theorem dX3_shelfOf_4 : decode cX3_shelfOf 4 = .ok (.iconst 3, 1) := by decide +kernel
theorem dX3_shelfOf_5 : decode cX3_shelfOf 5 = .ok (.if_icmp .ne 7, 3) := by decide +kernel
theorem dX3_shelfOf_8 : decode cX3_shelfOf 8 = .ok (.iload_n 1, 1) := by decide +kernel
theorem dX3_shelfOf_9 : decode cX3_shelfOf 9 = .ok (.goto 4, 3) := by decide +kernel
theorem dX3_shelfOf_12 : decode cX3_shelfOf 12 = .ok (.iconst 0, 1) := by decide +kernel
theorem dX3_shelfOf_13 : decode cX3_shelfOf 13 = .ok (.ireturn, 1) := by decide +kernel
theorem cvX3_shelfOf : CV yX3_shelfOf cX3_shelfOf 2 (some .int) 4 1 := ⟨kw_280, kw_281, kw_10, kw_282, ⟨_, _, rfl⟩, by decide, by decide +kernel, by decide +kernel, by decide +kernel⟩
def fX3_shelfOf_b0 (sh : Sh) (d : Dt) (x0 : Nat) (x1 : Int32) : Option (Int32) := bd (gI sh d 5 161 x0) fun v1 => if v1 = (3 : Int32) then (some x1) else (some (0 : Int32))

def fX3_shelfOf (sh : Sh) (d : Dt) (x0 : Nat) (x1 : Int32) : Option (Int32) := fX3_shelfOf_b0 sh d x0 x1

set_option maxRecDepth 100000 in
set_option maxHeartbeats 4000000 in
theorem wX3_shelfOf_b0 (C : mx p s m args meth c yX3_shelfOf cX3_shelfOf 2 (some .int) A D cy st) {r : Int32} {d : Dt} : ∀ (x0 : Nat) (x1 : Int32), fX3_shelfOf_b0 sh d x0 x1 = some r → ∀ {H : Heap} {locs : List Loc} {ls : Array Slot}, HW A D cy sz sh d H → va_S A s.heap H locs → lv_has ls 2 [(0, .ref x0), (1, .int x1)] → GL p l e s m args below meth c 0 0 A D cy (some (.int r)) sz sh d H locs 0 ls [] := by
  have hx := C.1
  have hb := C.2.1
  intro x0 x1 hf H locs ls hw hS hl
  unfold fX3_shelfOf_b0 at hf
  refine lv_aload_n hx hb dX3_shelfOf_0 rfl (lv_at hl 0 rfl) ?_
  obtain ⟨v1, hv1, hf⟩ := bd_s hf
  refine gt_161 C hw hv1 kw_198 dX3_shelfOf_1 ?_
  refine lv_iconst (v := 3) hx hb dX3_shelfOf_4 (by decide) ?_
  refine lv_icmp_ne (tgt := 12) hx hb dX3_shelfOf_5 (by decide) (fun c_2 => ?_) (fun c_2 => ?_)
  · have hf := if_f c_2 hf
    refine lv_iconst (v := 0) hx hb dX3_shelfOf_12 (by decide) ?_
    cases hf
    exact rt_i C hw hS dX3_shelfOf_13
  · have hf := if_t c_2 hf
    refine lv_iload_n hx hb dX3_shelfOf_8 rfl (lv_at hl 1 rfl) ?_
    refine lv_goto (tgt := 13) hx hb dX3_shelfOf_9 (by decide) ?_
    cases hf
    exact rt_i C hw hS dX3_shelfOf_13

set_option maxRecDepth 100000 in
set_option maxHeartbeats 4000000 in
theorem tX3_shelfOf (l : Launch) (A : Nat → Prop) (D : va_G) (cy : Nat → ClassId) (st : Nat → Nat) (sz : Nat) (sh : Sh) (d : Dt) (x0 : Nat) (x1 : Int32) {r : Int32} (hf : fX3_shelfOf sh d x0 x1 = some r) : Ct l yX3_shelfOf cX3_shelfOf 2 (some .int) 0 0 0 0 A D cy st [.ref x0, .int x1] sz sh d (some (.int r)) sz sh d := ct_of (by decide) (Nat.le_of_ble_eq_true rfl) (fun p e s m args below meth c C hw hS ls hl => wX3_shelfOf_b0 C x0 x1 hf hw hS hl)
theorem dX0_init_0 : decode cX0_init 0 = .ok (.aload_n 0, 1) := by decide +kernel
theorem dX0_init_1 : decode cX0_init 1 = .ok (.invokespecial 3, 3) := by decide +kernel
theorem dX0_init_4 : decode cX0_init 4 = .ok (.aload_n 0, 1) := by decide +kernel
theorem dX0_init_5 : decode cX0_init 5 = .ok (.new 9, 3) := by decide +kernel
theorem dX0_init_8 : decode cX0_init 8 = .ok (.dup, 1) := by decide +kernel
theorem dX0_init_9 : decode cX0_init 9 = .ok (.invokespecial 11, 3) := by decide +kernel
theorem dX0_init_12 : decode cX0_init 12 = .ok (.putfield 12, 3) := by decide +kernel
theorem dX0_init_15 : decode cX0_init 15 = .ok (.aload_n 0, 1) := by decide +kernel
theorem dX0_init_16 : decode cX0_init 16 = .ok (.iload_n 1, 1) := by decide +kernel
theorem dX0_init_17 : decode cX0_init 17 = .ok (.putfield 18, 3) := by decide +kernel
theorem dX0_init_20 : decode cX0_init 20 = .ok (.aload_n 0, 1) := by decide +kernel
theorem dX0_init_21 : decode cX0_init 21 = .ok (.aload_n 2, 1) := by decide +kernel
theorem dX0_init_22 : decode cX0_init 22 = .ok (.getfield 22, 3) := by decide +kernel
theorem dX0_init_25 : decode cX0_init 25 = .ok (.putfield 25, 3) := by decide +kernel
theorem dX0_init_28 : decode cX0_init 28 = .ok (.aload_n 0, 1) := by decide +kernel
theorem dX0_init_29 : decode cX0_init 29 = .ok (.aload_n 3, 1) := by decide +kernel
theorem dX0_init_30 : decode cX0_init 30 = .ok (.getfield 28, 3) := by decide +kernel
theorem dX0_init_33 : decode cX0_init 33 = .ok (.putfield 31, 3) := by decide +kernel
theorem dX0_init_36 : decode cX0_init 36 = .ok (.aload_n 0, 1) := by decide +kernel
theorem dX0_init_37 : decode cX0_init 37 = .ok (.iload 4, 2) := by decide +kernel
theorem dX0_init_39 : decode cX0_init 39 = .ok (.putfield 34, 3) := by decide +kernel
theorem dX0_init_42 : decode cX0_init 42 = .ok (.aload_n 0, 1) := by decide +kernel
theorem dX0_init_43 : decode cX0_init 43 = .ok (.iload 5, 2) := by decide +kernel
theorem dX0_init_45 : decode cX0_init 45 = .ok (.putfield 37, 3) := by decide +kernel
theorem dX0_init_48 : decode cX0_init 48 = .ok (.aload_n 0, 1) := by decide +kernel
theorem dX0_init_49 : decode cX0_init 49 = .ok (.lload 6, 2) := by decide +kernel
theorem dX0_init_51 : decode cX0_init 51 = .ok (.putfield 40, 3) := by decide +kernel
theorem dX0_init_54 : decode cX0_init 54 = .ok (.aload_n 0, 1) := by decide +kernel
theorem dX0_init_55 : decode cX0_init 55 = .ok (.aload_n 2, 1) := by decide +kernel
theorem dX0_init_56 : decode cX0_init 56 = .ok (.getfield 44, 3) := by decide +kernel
theorem dX0_init_59 : decode cX0_init 59 = .ok (.iconst 1, 1) := by decide +kernel
theorem dX0_init_60 : decode cX0_init 60 = .ok (.iadd, 1) := by decide +kernel
theorem dX0_init_61 : decode cX0_init 61 = .ok (.putfield 47, 3) := by decide +kernel
theorem dX0_init_64 : decode cX0_init 64 = .ok (.aload_n 0, 1) := by decide +kernel
theorem dX0_init_65 : decode cX0_init 65 = .ok (.aload_n 2, 1) := by decide +kernel
theorem dX0_init_66 : decode cX0_init 66 = .ok (.getfield 50, 3) := by decide +kernel
theorem dX0_init_69 : decode cX0_init 69 = .ok (.invokevirtual 54, 3) := by decide +kernel
theorem dX0_init_72 : decode cX0_init 72 = .ok (.iconst 1, 1) := by decide +kernel
theorem dX0_init_73 : decode cX0_init 73 = .ok (.iadd, 1) := by decide +kernel
theorem dX0_init_74 : decode cX0_init 74 = .ok (.putfield 60, 3) := by decide +kernel
theorem dX0_init_77 : decode cX0_init 77 = .ok (.aload_n 0, 1) := by decide +kernel
theorem dX0_init_78 : decode cX0_init 78 = .ok (.getfield 12, 3) := by decide +kernel
theorem dX0_init_81 : decode cX0_init 81 = .ok (.aload_n 2, 1) := by decide +kernel
theorem dX0_init_82 : decode cX0_init 82 = .ok (.getfield 63, 3) := by decide +kernel
theorem dX0_init_85 : decode cX0_init 85 = .ok (.invokevirtual 66, 3) := by decide +kernel
theorem dX0_init_88 : decode cX0_init 88 = .ok (.aload_n 0, 1) := by decide +kernel
theorem dX0_init_89 : decode cX0_init 89 = .ok (.aload_n 3, 1) := by decide +kernel
theorem dX0_init_90 : decode cX0_init 90 = .ok (.getfield 70, 3) := by decide +kernel
theorem dX0_init_93 : decode cX0_init 93 = .ok (.aload_n 3, 1) := by decide +kernel
theorem dX0_init_94 : decode cX0_init 94 = .ok (.iload 5, 2) := by decide +kernel
theorem dX0_init_96 : decode cX0_init 96 = .ok (.invokevirtual 74, 3) := by decide +kernel
theorem dX0_init_99 : decode cX0_init 99 = .ok (.aaload, 1) := by decide +kernel
theorem dX0_init_100 : decode cX0_init 100 = .ok (.putfield 78, 3) := by decide +kernel
theorem dX0_init_103 : decode cX0_init 103 = .ok (.return_, 1) := by decide +kernel
theorem ckX0_init : CK yX0_init cX0_init 8 6 := ⟨rfl, kw_269, kw_11, kw_270, by decide +kernel, by decide +kernel, by decide +kernel⟩
def fX0_init_b12 (em mi : Nat) (x0 : Nat) (x1 : Int32) (x2 : Option Nat) (x3 : Option Nat) (x4 : Int32) (x5 : Int32) (x6 : Int64) (t0 : Nat) (t1 : Nat) (sz : Nat) (ns : Nat) (sh : Sh) (d : Dt) : Option (Wl) := bd (pR sh d 2 72 t0 (some t1)) fun d1 => bd (pI sh d1 2 64 x0 x1) fun d2 => bd x2 fun a3 => bd (gI sh d2 3 96 a3) fun v4 => bd (pI sh d2 2 65 x0 v4) fun d5 => bd x3 fun a6 => bd (gI sh d5 5 160 a6) fun v7 => bd (pI sh d5 2 66 x0 v7) fun d8 => bd (pI sh d8 2 67 x0 x4) fun d9 => bd (pI sh d9 2 68 x0 x5) fun d10 => bd (pL sh d10 2 69 x0 x6) fun d11 => bd (gI sh d11 3 102 a3) fun v12 => bd (pI sh d11 2 70 x0 (v12 + (1 : Int32))) fun d13 => bd (gR sh d13 3 98 a3) fun v14 => bd v14 fun a15 => bd (kc sh 1 a15) fun _ => bd (fJx4a65c_size_8abf5 sh d13 a15) fun r18 => bd (pI sh d13 2 71 x0 (r18 + (1 : Int32))) fun d19 => bd (gR sh d19 2 72 x0) fun v20 => bd (gR sh d19 3 97 a3) fun v21 => bd v20 fun a22 => bd (kc sh 6 a22) fun _ => bd (fX4_widen sh d19 a22 v21) fun d26 => bd (gR sh d26 5 162 a6) fun v27 => bd (fX3_shelfOf sh d26 a6 x5) fun r29 => bd v27 fun a30 => bd (aR sh d26 23 a30 r29) fun v31 => bd (pR sh d26 2 73 x0 v31) fun d32 => some (sz, ns, sh, d32)

def fX0_init_b8 (em mi : Nat) (x0 : Nat) (x1 : Int32) (x2 : Option Nat) (x3 : Option Nat) (x4 : Int32) (x5 : Int32) (x6 : Int64) (t0 : Nat) (t1 : Nat) (sz : Nat) (ns : Nat) (sh : Sh) (d : Dt) : Option (Wl) := bw (fX4_init em mi t1 sz ns sh d) fun szq3 nsq3 shq3 dq3 => fX0_init_b12 em mi x0 x1 x2 x3 x4 x5 x6 t0 t1 szq3 nsq3 shq3 dq3

def fX0_init_b0 (em mi : Nat) (x0 : Nat) (x1 : Int32) (x2 : Option Nat) (x3 : Option Nat) (x4 : Int32) (x5 : Int32) (x6 : Int64) (sz : Nat) (ns : Nat) (sh : Sh) (d : Dt) : Option (Wl) := bw (nwO sz ns sh d 6 1) fun szq1 nsq1 shq1 dq1 => fX0_init_b8 em mi x0 x1 x2 x3 x4 x5 x6 x0 sz szq1 nsq1 shq1 dq1

def fX0_init (em mi : Nat) (x0 : Nat) (x1 : Int32) (x2 : Option Nat) (x3 : Option Nat) (x4 : Int32) (x5 : Int32) (x6 : Int64) (sz ns : Nat) (sh : Sh) (d : Dt) : Option (Wl) := fX0_init_b0 em mi x0 x1 x2 x3 x4 x5 x6 sz ns sh d

set_option maxRecDepth 100000 in
set_option maxHeartbeats 4000000 in
theorem mX0_init_b12 (em mi : Nat) {sz9 ns9 : Nat} {sh9 : Sh} {d9 : Dt} : ∀ (x0 : Nat) (x1 : Int32) (x2 : Option Nat) (x3 : Option Nat) (x4 : Int32) (x5 : Int32) (x6 : Int64) (t0 : Nat) (t1 : Nat) (sz : Nat) (ns : Nat) (sh : Sh) (d : Dt), fX0_init_b12 em mi x0 x1 x2 x3 x4 x5 x6 t0 t1 sz ns sh d = some (sz9, ns9, sh9, d9) → sz ≤ sz9 ∧ ns ≤ ns9 := by
  intro x0 x1 x2 x3 x4 x5 x6 t0 t1 sz ns sh d hf
  unfold fX0_init_b12 at hf
  obtain ⟨d1, hd1, hf⟩ := bd_s hf
  obtain ⟨d2, hd2, hf⟩ := bd_s hf
  obtain ⟨a3, ea3, hg⟩ := bd_s hf
  clear hf
  subst ea3
  have hf := hg
  clear hg
  obtain ⟨v4, hv4, hf⟩ := bd_s hf
  obtain ⟨d5, hd5, hf⟩ := bd_s hf
  obtain ⟨a6, ea6, hg⟩ := bd_s hf
  clear hf
  subst ea6
  have hf := hg
  clear hg
  obtain ⟨v7, hv7, hf⟩ := bd_s hf
  obtain ⟨d8, hd8, hf⟩ := bd_s hf
  obtain ⟨d9, hd9, hf⟩ := bd_s hf
  obtain ⟨d10, hd10, hf⟩ := bd_s hf
  obtain ⟨d11, hd11, hf⟩ := bd_s hf
  obtain ⟨v12, hv12, hf⟩ := bd_s hf
  obtain ⟨d13, hd13, hf⟩ := bd_s hf
  obtain ⟨v14, hv14, hf⟩ := bd_s hf
  obtain ⟨a15, ea15, hg⟩ := bd_s hf
  clear hf
  subst ea15
  have hf := hg
  clear hg
  obtain ⟨_, h16, hf⟩ := bd_s hf
  obtain ⟨r18, h17, hf⟩ := bd_s hf
  obtain ⟨d19, hd19, hf⟩ := bd_s hf
  obtain ⟨v20, hv20, hf⟩ := bd_s hf
  obtain ⟨v21, hv21, hf⟩ := bd_s hf
  obtain ⟨a22, ea22, hg⟩ := bd_s hf
  clear hf
  subst ea22
  have hf := hg
  clear hg
  obtain ⟨_, h23, hf⟩ := bd_s hf
  obtain ⟨d26, h24, hf⟩ := bd_s hf
  obtain ⟨v27, hv27, hf⟩ := bd_s hf
  obtain ⟨r29, h28, hf⟩ := bd_s hf
  obtain ⟨a30, ea30, hg⟩ := bd_s hf
  clear hf
  subst ea30
  have hf := hg
  clear hg
  obtain ⟨v31, hv31, hf⟩ := bd_s hf
  obtain ⟨d32, hd32, hf⟩ := bd_s hf
  cases hf
  exact ⟨Nat.le_refl _, Nat.le_refl _⟩

set_option maxRecDepth 100000 in
set_option maxHeartbeats 4000000 in
theorem mX0_init_b8 (em mi : Nat) {sz9 ns9 : Nat} {sh9 : Sh} {d9 : Dt} : ∀ (x0 : Nat) (x1 : Int32) (x2 : Option Nat) (x3 : Option Nat) (x4 : Int32) (x5 : Int32) (x6 : Int64) (t0 : Nat) (t1 : Nat) (sz : Nat) (ns : Nat) (sh : Sh) (d : Dt), fX0_init_b8 em mi x0 x1 x2 x3 x4 x5 x6 t0 t1 sz ns sh d = some (sz9, ns9, sh9, d9) → sz ≤ sz9 ∧ ns ≤ ns9 := by
  intro x0 x1 x2 x3 x4 x5 x6 t0 t1 sz ns sh d hf
  unfold fX0_init_b8 at hf
  obtain ⟨szq3, nsq3, shq3, dq3, h1, hf⟩ := bw_s hf
  have hq := gX4_init em mi t1 sz ns sh d h1
  have hm := mX0_init_b12 em mi x0 x1 x2 x3 x4 x5 x6 t0 t1 szq3 nsq3 shq3 dq3 hf
  omega

set_option maxRecDepth 100000 in
set_option maxHeartbeats 4000000 in
theorem mX0_init_b0 (em mi : Nat) {sz9 ns9 : Nat} {sh9 : Sh} {d9 : Dt} : ∀ (x0 : Nat) (x1 : Int32) (x2 : Option Nat) (x3 : Option Nat) (x4 : Int32) (x5 : Int32) (x6 : Int64) (sz : Nat) (ns : Nat) (sh : Sh) (d : Dt), fX0_init_b0 em mi x0 x1 x2 x3 x4 x5 x6 sz ns sh d = some (sz9, ns9, sh9, d9) → sz ≤ sz9 ∧ ns ≤ ns9 := by
  intro x0 x1 x2 x3 x4 x5 x6 sz ns sh d hf
  unfold fX0_init_b0 at hf
  obtain ⟨szq1, nsq1, shq1, dq1, hq1, hf⟩ := bw_s hf
  have hq := nwO_s hq1
  have hm := mX0_init_b8 em mi x0 x1 x2 x3 x4 x5 x6 x0 sz szq1 nsq1 shq1 dq1 hf
  omega

theorem gX0_init (em mi : Nat) (x0 : Nat) (x1 : Int32) (x2 : Option Nat) (x3 : Option Nat) (x4 : Int32) (x5 : Int32) (x6 : Int64) (sz ns : Nat) (sh : Sh) (d : Dt) {sz9 ns9 : Nat} {sh9 : Sh} {d9 : Dt} (hf : fX0_init em mi x0 x1 x2 x3 x4 x5 x6 sz ns sh d = some (sz9, ns9, sh9, d9)) : sz ≤ sz9 ∧ ns ≤ ns9 := mX0_init_b0 em mi x0 x1 x2 x3 x4 x5 x6 sz ns sh d hf

set_option maxRecDepth 100000 in
set_option maxHeartbeats 4000000 in
theorem wX0_init_b12 (C : mx p s m args meth c yX0_init cX0_init 8 none A D cy st) {sz9 ns9 : Nat} {sh9 : Sh} {d9 : Dt} {mc ms : Nat} : ∀ (x0 : Nat) (x1 : Int32) (x2 : Option Nat) (x3 : Option Nat) (x4 : Int32) (x5 : Int32) (x6 : Int64) (t0 : Nat) (t1 : Nat) (sz : Nat) (ns : Nat) (sh : Sh) (d : Dt), fX0_init_b12 (st 1) (st 2) x0 x1 x2 x3 x4 x5 x6 t0 t1 sz ns sh d = some (sz9, ns9, sh9, d9) → ∀ {cu su : Nat}, sz9 + cu = sz + mc → ns9 + su = ns + ms → ∀ {H : Heap} {locs : List Loc} {ls : Array Slot}, HW A D cy sz sh d H → va_S A s.heap H locs → lv_has ls 8 [(0, .ref x0), (1, .int x1), (2, va_rf x2), (3, va_rf x3), (4, .int x4), (5, .int x5), (6, .long x6)] → GA p l e s m args below meth c 2 40 mc ms A D cy none sz9 sh9 d9 H locs cu su 12 ls [.ref t1, .ref t0] := by
  have hx := C.1
  have hb := C.2.1
  intro x0 x1 x2 x3 x4 x5 x6 t0 t1 sz ns sh d hf cu su hcm hsm H locs ls hw hS hl
  have hm0 := mX0_init_b12 (st 1) (st 2) x0 x1 x2 x3 x4 x5 x6 t0 t1 sz ns sh d hf
  unfold fX0_init_b12 at hf
  obtain ⟨d1, hd1, hf⟩ := bd_s hf
  refine pt_72 C hw hS rfl rfl hd1 kw_306 dX0_init_12 (fun H locs hw hS => ?_)
  refine lv_aload_n hx hb dX0_init_15 rfl (lv_at hl 0 rfl) ?_
  refine lv_iload_n hx hb dX0_init_16 rfl (lv_at hl 1 rfl) ?_
  obtain ⟨d2, hd2, hf⟩ := bd_s hf
  refine pt_64 C hw hS rfl rfl hd2 kw_283 dX0_init_17 (fun H locs hw hS => ?_)
  refine lv_aload_n hx hb dX0_init_20 rfl (lv_at hl 0 rfl) ?_
  refine lq_aload_n hx hb dX0_init_21 rfl (lv_at hl 2 rfl) ?_
  obtain ⟨a3, ea3, hg⟩ := bd_s hf
  clear hf
  subst ea3
  have hf := hg
  clear hg
  obtain ⟨v4, hv4, hf⟩ := bd_s hf
  refine gt_96 C hw hv4 kw_148 dX0_init_22 ?_
  obtain ⟨d5, hd5, hf⟩ := bd_s hf
  refine pt_65 C hw hS rfl rfl hd5 kw_287 dX0_init_25 (fun H locs hw hS => ?_)
  refine lv_aload_n hx hb dX0_init_28 rfl (lv_at hl 0 rfl) ?_
  refine lq_aload_n hx hb dX0_init_29 rfl (lv_at hl 3 rfl) ?_
  obtain ⟨a6, ea6, hg⟩ := bd_s hf
  clear hf
  subst ea6
  have hf := hg
  clear hg
  obtain ⟨v7, hv7, hf⟩ := bd_s hf
  refine gt_160 C hw hv7 kw_196 dX0_init_30 ?_
  obtain ⟨d8, hd8, hf⟩ := bd_s hf
  refine pt_66 C hw hS rfl rfl hd8 kw_291 dX0_init_33 (fun H locs hw hS => ?_)
  refine lv_aload_n hx hb dX0_init_36 rfl (lv_at hl 0 rfl) ?_
  refine lv_iload hx hb dX0_init_37 (lv_at hl 4 rfl) ?_
  obtain ⟨d9, hd9, hf⟩ := bd_s hf
  refine pt_67 C hw hS rfl rfl hd9 kw_293 dX0_init_39 (fun H locs hw hS => ?_)
  refine lv_aload_n hx hb dX0_init_42 rfl (lv_at hl 0 rfl) ?_
  refine lv_iload hx hb dX0_init_43 (lv_at hl 5 rfl) ?_
  obtain ⟨d10, hd10, hf⟩ := bd_s hf
  refine pt_68 C hw hS rfl rfl hd10 kw_295 dX0_init_45 (fun H locs hw hS => ?_)
  refine lv_aload_n hx hb dX0_init_48 rfl (lv_at hl 0 rfl) ?_
  refine lv_lload hx hb dX0_init_49 (lv_at hl 6 rfl) ?_
  obtain ⟨d11, hd11, hf⟩ := bd_s hf
  refine pt_69 C hw hS rfl rfl hd11 kw_297 dX0_init_51 (fun H locs hw hS => ?_)
  refine lv_aload_n hx hb dX0_init_54 rfl (lv_at hl 0 rfl) ?_
  refine lq_aload_n hx hb dX0_init_55 rfl (lv_at hl 2 rfl) ?_
  obtain ⟨v12, hv12, hf⟩ := bd_s hf
  refine gt_102 C hw hv12 kw_162 dX0_init_56 ?_
  refine lv_iconst (v := 1) hx hb dX0_init_59 (by decide) ?_
  refine lv_iadd hx hb dX0_init_60 ?_
  obtain ⟨d13, hd13, hf⟩ := bd_s hf
  refine pt_70 C hw hS rfl rfl hd13 kw_300 dX0_init_61 (fun H locs hw hS => ?_)
  refine lv_aload_n hx hb dX0_init_64 rfl (lv_at hl 0 rfl) ?_
  refine lq_aload_n hx hb dX0_init_65 rfl (lv_at hl 2 rfl) ?_
  obtain ⟨v14, hv14, hf⟩ := bd_s hf
  refine gt_98 C hw hv14 kw_155 dX0_init_66 ?_
  obtain ⟨a15, ea15, hg⟩ := bd_s hf
  clear hf
  subst ea15
  have hf := hg
  clear hg
  obtain ⟨_, h16, hf⟩ := bd_s hf
  obtain ⟨r18, h17, hf⟩ := bd_s hf
  refine cl_V0 C hw hS (tJx4a65c_size_8abf5 l A D cy st sz sh d13 a15 h17) cvJx4a65c_size_8abf5 kw_274 (kc_k h16) ⟨(Nat.le_of_ble_eq_true rfl), (Nat.le_of_ble_eq_true rfl)⟩ hl.1 rfl (Nat.le_of_ble_eq_true rfl) dX0_init_69 ⟨by show _ ≤ mc; omega, by show _ ≤ ms; omega⟩ (fun H locs hw hS => ?_)
  refine lv_iconst (v := 1) hx hb dX0_init_72 (by decide) ?_
  refine lv_iadd hx hb dX0_init_73 ?_
  obtain ⟨d19, hd19, hf⟩ := bd_s hf
  refine pt_71 C hw hS rfl rfl hd19 kw_303 dX0_init_74 (fun H locs hw hS => ?_)
  refine lv_aload_n hx hb dX0_init_77 rfl (lv_at hl 0 rfl) ?_
  obtain ⟨v20, hv20, hf⟩ := bd_s hf
  refine gt_72 C hw hv20 kw_306 dX0_init_78 ?_
  refine lq_aload_n hx hb dX0_init_81 rfl (lv_at hl 2 rfl) ?_
  obtain ⟨v21, hv21, hf⟩ := bd_s hf
  refine gt_97 C hw hv21 kw_152 dX0_init_82 ?_
  obtain ⟨a22, ea22, hg⟩ := bd_s hf
  clear hf
  subst ea22
  have hf := hg
  clear hg
  obtain ⟨_, h23, hf⟩ := bd_s hf
  obtain ⟨d26, h24, hf⟩ := bd_s hf
  refine cl_V0 C hw hS (tX4_widen l A D cy st sz sh d19 a22 v21 h24) cvX4_widen kw_275 (kc_k h23) ⟨(Nat.le_of_ble_eq_true rfl), (Nat.le_of_ble_eq_true rfl)⟩ hl.1 rfl (Nat.le_of_ble_eq_true rfl) dX0_init_85 ⟨by show _ ≤ mc; omega, by show _ ≤ ms; omega⟩ (fun H locs hw hS => ?_)
  refine lv_aload_n hx hb dX0_init_88 rfl (lv_at hl 0 rfl) ?_
  refine lq_aload_n hx hb dX0_init_89 rfl (lv_at hl 3 rfl) ?_
  obtain ⟨v27, hv27, hf⟩ := bd_s hf
  refine gt_162 C hw hv27 kw_201 dX0_init_90 ?_
  refine lq_aload_n hx hb dX0_init_93 rfl (lv_at hl 3 rfl) ?_
  refine lv_iload hx hb dX0_init_94 (lv_at hl 5 rfl) ?_
  obtain ⟨r29, h28, hf⟩ := bd_s hf
  refine cl_V0 C hw hS (tX3_shelfOf l A D cy st sz sh d26 a6 x5 h28) cvX3_shelfOf kw_279 (gR_s hv27).1 ⟨(Nat.le_of_ble_eq_true rfl), (Nat.le_of_ble_eq_true rfl)⟩ hl.1 rfl (by simp [va_rf_c, cat_i, cat_l, cat_r]) dX0_init_96 ⟨by show _ ≤ mc; omega, by show _ ≤ ms; omega⟩ (fun H locs hw hS => ?_)
  obtain ⟨a30, ea30, hg⟩ := bd_s hf
  clear hf
  subst ea30
  have hf := hg
  clear hg
  obtain ⟨v31, hv31, hf⟩ := bd_s hf
  refine w_aald C hw 3 rfl (by decide) rfl hv31 dX0_init_99 ?_
  obtain ⟨d32, hd32, hf⟩ := bd_s hf
  refine pt_73 C hw hS rfl rfl hd32 kw_310 dX0_init_100 (fun H locs hw hS => ?_)
  cases hf
  obtain rfl : mc = cu := by omega
  obtain rfl : ms = su := by omega
  exact rt_v C hw hS dX0_init_103

set_option maxRecDepth 100000 in
set_option maxHeartbeats 4000000 in
theorem wX0_init_b8 (C : mx p s m args meth c yX0_init cX0_init 8 none A D cy st) {sz9 ns9 : Nat} {sh9 : Sh} {d9 : Dt} {mc ms : Nat} : ∀ (x0 : Nat) (x1 : Int32) (x2 : Option Nat) (x3 : Option Nat) (x4 : Int32) (x5 : Int32) (x6 : Int64) (t0 : Nat) (t1 : Nat) (sz : Nat) (ns : Nat) (sh : Sh) (d : Dt), fX0_init_b8 (st 1) (st 2) x0 x1 x2 x3 x4 x5 x6 t0 t1 sz ns sh d = some (sz9, ns9, sh9, d9) → ∀ {cu su : Nat}, sz9 + cu = sz + mc → ns9 + su = ns + ms → ∀ {H : Heap} {locs : List Loc} {ls : Array Slot}, HW A D cy sz sh d H → va_S A s.heap H locs → lv_has ls 8 [(0, .ref x0), (1, .int x1), (2, va_rf x2), (3, va_rf x3), (4, .int x4), (5, .int x5), (6, .long x6)] → GA p l e s m args below meth c 2 40 mc ms A D cy none sz9 sh9 d9 H locs cu su 8 ls [.ref t1, .ref t0] := by
  have hx := C.1
  have hb := C.2.1
  intro x0 x1 x2 x3 x4 x5 x6 t0 t1 sz ns sh d hf cu su hcm hsm H locs ls hw hS hl
  have hm0 := mX0_init_b8 (st 1) (st 2) x0 x1 x2 x3 x4 x5 x6 t0 t1 sz ns sh d hf
  unfold fX0_init_b8 at hf
  refine lv_dup hx hb dX0_init_8 rfl ?_
  obtain ⟨szq3, nsq3, shq3, dq3, h1, hf⟩ := bw_s hf
  have hm := mX0_init_b12 (st 1) (st 2) x0 x1 x2 x3 x4 x5 x6 t0 t1 szq3 nsq3 shq3 dq3 hf
  have hq := gX4_init (st 1) (st 2) t1 sz ns sh d h1
  refine cl_IN (host := "ManyHands") C hw hS (tX4_init l A D cy st t1 sz ns sh d h1) ckX4_init (by decide +kernel) ⟨(Nat.le_of_ble_eq_true rfl), (Nat.le_of_ble_eq_true rfl)⟩ hl.1 rfl (Nat.le_of_ble_eq_true rfl) dX0_init_9 ⟨by show _ ≤ mc; omega, by show _ ≤ ms; omega⟩ (fun H locs hw hS => ?_)
  exact wX0_init_b12 C x0 x1 x2 x3 x4 x5 x6 t0 t1 szq3 nsq3 shq3 dq3 hf (by omega) (by omega) hw hS (lv_sub hl [0, 1, 2, 3, 4, 5, 6] rfl)

set_option maxRecDepth 100000 in
set_option maxHeartbeats 4000000 in
theorem wX0_init_b0 (C : mx p s m args meth c yX0_init cX0_init 8 none A D cy st) {sz9 ns9 : Nat} {sh9 : Sh} {d9 : Dt} {mc ms : Nat} : ∀ (x0 : Nat) (x1 : Int32) (x2 : Option Nat) (x3 : Option Nat) (x4 : Int32) (x5 : Int32) (x6 : Int64) (sz : Nat) (ns : Nat) (sh : Sh) (d : Dt), fX0_init_b0 (st 1) (st 2) x0 x1 x2 x3 x4 x5 x6 sz ns sh d = some (sz9, ns9, sh9, d9) → ∀ {cu su : Nat}, sz9 + cu = sz + mc → ns9 + su = ns + ms → ∀ {H : Heap} {locs : List Loc} {ls : Array Slot}, HW A D cy sz sh d H → va_S A s.heap H locs → lv_has ls 8 [(0, .ref x0), (1, .int x1), (2, va_rf x2), (3, va_rf x3), (4, .int x4), (5, .int x5), (6, .long x6)] → GA p l e s m args below meth c 2 40 mc ms A D cy none sz9 sh9 d9 H locs cu su 0 ls [] := by
  have hx := C.1
  have hb := C.2.1
  intro x0 x1 x2 x3 x4 x5 x6 sz ns sh d hf cu su hcm hsm H locs ls hw hS hl
  have hm0 := mX0_init_b0 (st 1) (st 2) x0 x1 x2 x3 x4 x5 x6 sz ns sh d hf
  unfold fX0_init_b0 at hf
  refine lv_aload_n hx hb dX0_init_0 rfl (lv_at hl 0 rfl) ?_
  refine W.objInit hx hb C.2.2.2.2.2.1 (C.2.2.2.2.1 _ kw_271) (C.2.2.2.2.1 _ kw_24) (C.2.2.2.2.1 _ kw_25) rfl (hl.1.trans C.2.2.2.1.symm) rfl dX0_init_1 (Nat.le_of_ble_eq_true rfl) (Nat.le_of_ble_eq_true rfl) ?_
  refine W.eq (g2 := F0 m 4 ls []) rfl ?_
  refine lv_aload_n hx hb dX0_init_4 rfl (lv_at hl 0 rfl) ?_
  obtain ⟨szq1, nsq1, shq1, dq1, hq1, hf⟩ := bw_s hf
  have hm := mX0_init_b8 (st 1) (st 2) x0 x1 x2 x3 x4 x5 x6 x0 sz szq1 nsq1 shq1 dq1 hf
  have hq := nwO_s hq1
  refine w_new (ci := 5) C hw hS inX4 tyX4 tyX4_ok rfl (by decide) dfX4 kw_272 kw_117 kw_8 hq1 (by show _ ≤ mc; omega) (by show _ ≤ ms; omega) dX0_init_5 (fun H hw hS => ?_)
  exact wX0_init_b8 C x0 x1 x2 x3 x4 x5 x6 x0 sz szq1 nsq1 shq1 dq1 hf (by omega) (by omega) hw hS (lv_sub hl [0, 1, 2, 3, 4, 5, 6] rfl)

set_option maxRecDepth 100000 in
set_option maxHeartbeats 4000000 in
theorem tX0_init (l : Launch) (A : Nat → Prop) (D : va_G) (cy : Nat → ClassId) (st : Nat → Nat) (x0 : Nat) (x1 : Int32) (x2 : Option Nat) (x3 : Option Nat) (x4 : Int32) (x5 : Int32) (x6 : Int64) (sz ns : Nat) (sh : Sh) (d : Dt) {sz9 ns9 : Nat} {sh9 : Sh} {d9 : Dt} (hf : fX0_init (st 1) (st 2) x0 x1 x2 x3 x4 x5 x6 sz ns sh d = some (sz9, ns9, sh9, d9)) : Ct l yX0_init cX0_init 8 none 2 40 (sz9 - sz) (ns9 - ns) A D cy st [.ref x0, .int x1, va_rf x2, va_rf x3, .int x4, .int x5, .long x6] sz sh d none sz9 sh9 d9 := by
  have hm := gX0_init (st 1) (st 2) x0 x1 x2 x3 x4 x5 x6 sz ns sh d hf
  exact ct_of (by decide) (by simp [lg_sl, va_rf_c, cat_i, cat_l, cat_r]) (fun p e s m args below meth c C hw hS ls hl => wX0_init_b0 C x0 x1 x2 x3 x4 x5 x6 sz ns sh d hf (by omega) (by omega) hw hS (by simpa [lv_args, va_rf_c, cat_i, cat_l, cat_r] using hl))
theorem dX3_append_0 : decode cX3_append 0 = .ok (.aload_n 0, 1) := by decide +kernel
theorem dX3_append_1 : decode cX3_append 1 = .ok (.getfield 27, 3) := by decide +kernel
theorem dX3_append_4 : decode cX3_append 4 = .ok (.aload_n 0, 1) := by decide +kernel
theorem dX3_append_5 : decode cX3_append 5 = .ok (.aload_n 1, 1) := by decide +kernel
theorem dX3_append_6 : decode cX3_append 6 = .ok (.getfield 35, 3) := by decide +kernel
theorem dX3_append_9 : decode cX3_append 9 = .ok (.invokevirtual 38, 3) := by decide +kernel
theorem dX3_append_12 : decode cX3_append 12 = .ok (.aload_n 1, 1) := by decide +kernel
theorem dX3_append_13 : decode cX3_append 13 = .ok (.aastore, 1) := by decide +kernel
theorem dX3_append_14 : decode cX3_append 14 = .ok (.return_, 1) := by decide +kernel
theorem cvX3_append : CV yX3_append cX3_append 2 none 4 1 := ⟨kw_390, kw_391, kw_10, kw_392, ⟨_, _, rfl⟩, by decide, by decide +kernel, by decide +kernel, by decide +kernel⟩
def fX3_append_b0 (sh : Sh) (x0 : Nat) (x1 : Option Nat) (d : Dt) : Option (Dt) := bd (gR sh d 5 162 x0) fun v1 => bd x1 fun a2 => bd (gI sh d 2 68 a2) fun v3 => bd (fX3_shelfOf sh d x0 v3) fun r5 => bd v1 fun a6 => bd (cst sh 2 (some a2)) fun _ => bd (sR sh d 23 a6 r5 (some a2)) fun d7 => some (d7)

def fX3_append (sh : Sh) (d : Dt) (x0 : Nat) (x1 : Option Nat) : Option (Dt) := fX3_append_b0 sh x0 x1 d

set_option maxRecDepth 100000 in
set_option maxHeartbeats 4000000 in
theorem wX3_append_b0 (C : mx p s m args meth c yX3_append cX3_append 2 none A D cy st) {d9 : Dt} : ∀ (x0 : Nat) (x1 : Option Nat) (d : Dt), fX3_append_b0 sh x0 x1 d = some d9 → ∀ {H : Heap} {locs : List Loc} {ls : Array Slot}, HW A D cy sz sh d H → va_S A s.heap H locs → lv_has ls 2 [(0, .ref x0), (1, va_rf x1)] → GL p l e s m args below meth c 1 21 A D cy none sz sh d9 H locs 0 ls [] := by
  have hx := C.1
  have hb := C.2.1
  intro x0 x1 d hf H locs ls hw hS hl
  unfold fX3_append_b0 at hf
  refine lv_aload_n hx hb dX3_append_0 rfl (lv_at hl 0 rfl) ?_
  obtain ⟨v1, hv1, hf⟩ := bd_s hf
  refine gt_162 C hw hv1 kw_200 dX3_append_1 ?_
  refine lv_aload_n hx hb dX3_append_4 rfl (lv_at hl 0 rfl) ?_
  refine lq_aload_n hx hb dX3_append_5 rfl (lv_at hl 1 rfl) ?_
  obtain ⟨a2, ea2, hg⟩ := bd_s hf
  clear hf
  subst ea2
  have hf := hg
  clear hg
  obtain ⟨v3, hv3, hf⟩ := bd_s hf
  refine gt_68 C hw hv3 kw_296 dX3_append_6 ?_
  obtain ⟨r5, h4, hf⟩ := bd_s hf
  refine cl_V0 C hw hS (tX3_shelfOf l A D cy st sz sh d x0 v3 h4) cvX3_shelfOf kw_393 (gR_s hv1).1 ⟨(Nat.le_of_ble_eq_true rfl), (Nat.le_of_ble_eq_true rfl)⟩ hl.1 rfl (by simp [va_rf_c, cat_i, cat_l, cat_r]) dX3_append_9 ⟨Nat.zero_le _, Nat.zero_le _⟩ (fun H locs hw hS => ?_)
  refine lq_aload_n hx hb dX3_append_12 rfl (lv_at hl 1 rfl) ?_
  obtain ⟨a6, ea6, hg⟩ := bd_s hf
  clear hf
  subst ea6
  have hf := hg
  clear hg
  obtain ⟨ud7, hud7, hf⟩ := bd_s hf
  obtain ⟨d7, hd7, hf⟩ := bd_s hf
  refine w_aast (ci := 1) (v := (some a2)) C hw hS 3 rfl (by decide) rfl rfl (by decide) hud7 (fun a b h1 h2 => vb_asgS a b h1 h2) hd7 dX3_append_13 (fun H locs hw hS => ?_)
  cases hf
  exact rt_v C hw hS dX3_append_14

set_option maxRecDepth 100000 in
set_option maxHeartbeats 4000000 in
theorem tX3_append (l : Launch) (A : Nat → Prop) (D : va_G) (cy : Nat → ClassId) (st : Nat → Nat) (sz : Nat) (sh : Sh) (d : Dt) (x0 : Nat) (x1 : Option Nat) {d9 : Dt} (hf : fX3_append sh d x0 x1 = some d9) : Ct l yX3_append cX3_append 2 none 1 21 0 0 A D cy st [.ref x0, va_rf x1] sz sh d none sz sh d9 := ct_of (by decide) (by simp [lg_sl, va_rf_c, cat_i, cat_l, cat_r]) (fun p e s m args below meth c C hw hS ls hl => wX3_append_b0 C x0 x1 d hf hw hS (by simpa [lv_args, va_rf_c, cat_i, cat_l, cat_r] using hl))
theorem dX1_include_0 : decode cX1_include 0 = .ok (.aload_n 0, 1) := by decide +kernel
theorem dX1_include_1 : decode cX1_include 1 = .ok (.getfield 12, 3) := by decide +kernel
theorem dX1_include_4 : decode cX1_include 4 = .ok (.getfield 43, 3) := by decide +kernel
theorem dX1_include_7 : decode cX1_include 7 = .ok (.aload_n 1, 1) := by decide +kernel
theorem dX1_include_8 : decode cX1_include 8 = .ok (.getfield 57, 3) := by decide +kernel
theorem dX1_include_11 : decode cX1_include 11 = .ok (.aload_n 1, 1) := by decide +kernel
theorem dX1_include_12 : decode cX1_include 12 = .ok (.getfield 60, 3) := by decide +kernel
theorem dX1_include_15 : decode cX1_include 15 = .ok (.iastore, 1) := by decide +kernel
theorem dX1_include_16 : decode cX1_include 16 = .ok (.aload_n 0, 1) := by decide +kernel
theorem dX1_include_17 : decode cX1_include 17 = .ok (.aload_n 0, 1) := by decide +kernel
theorem dX1_include_18 : decode cX1_include 18 = .ok (.getfield 63, 3) := by decide +kernel
theorem dX1_include_21 : decode cX1_include 21 = .ok (.aload_n 1, 1) := by decide +kernel
theorem dX1_include_22 : decode cX1_include 22 = .ok (.getfield 66, 3) := by decide +kernel
theorem dX1_include_25 : decode cX1_include 25 = .ok (.invokestatic 69, 3) := by decide +kernel
theorem dX1_include_28 : decode cX1_include 28 = .ok (.putfield 63, 3) := by decide +kernel
theorem dX1_include_31 : decode cX1_include 31 = .ok (.return_, 1) := by decide +kernel
theorem cvX1_include : CV yX1_include cX1_include 2 none 2 1 := ⟨kw_395, kw_396, kw_7, kw_397, ⟨_, _, rfl⟩, by decide, by decide +kernel, by decide +kernel, by decide +kernel⟩
def fX1_include_b0 (sh : Sh) (x0 : Nat) (x1 : Option Nat) (d : Dt) : Option (Dt) := bd (gR sh d 3 97 x0) fun v1 => bd v1 fun a2 => bd (gR sh d 6 192 a2) fun v3 => bd x1 fun a4 => bd (gI sh d 2 65 a4) fun v5 => bd (gI sh d 2 71 a4) fun v6 => bd v3 fun a7 => bd (sI sh d 20 a7 v5 v6) fun d8 => bd (gI sh d8 3 102 x0) fun v9 => bd (gI sh d8 2 70 a4) fun v10 => bd (pI sh d8 3 102 x0 (if v9 < v10 then v10 else v9)) fun d11 => some (d11)

def fX1_include (sh : Sh) (d : Dt) (x0 : Nat) (x1 : Option Nat) : Option (Dt) := fX1_include_b0 sh x0 x1 d

set_option maxRecDepth 100000 in
set_option maxHeartbeats 4000000 in
theorem wX1_include_b0 (C : mx p s m args meth c yX1_include cX1_include 2 none A D cy st) {d9 : Dt} : ∀ (x0 : Nat) (x1 : Option Nat) (d : Dt), fX1_include_b0 sh x0 x1 d = some d9 → ∀ {H : Heap} {locs : List Loc} {ls : Array Slot}, HW A D cy sz sh d H → va_S A s.heap H locs → lv_has ls 2 [(0, .ref x0), (1, va_rf x1)] → GL p l e s m args below meth c 1 21 A D cy none sz sh d9 H locs 0 ls [] := by
  have hx := C.1
  have hb := C.2.1
  intro x0 x1 d hf H locs ls hw hS hl
  unfold fX1_include_b0 at hf
  refine lv_aload_n hx hb dX1_include_0 rfl (lv_at hl 0 rfl) ?_
  obtain ⟨v1, hv1, hf⟩ := bd_s hf
  refine gt_97 C hw hv1 kw_151 dX1_include_1 ?_
  obtain ⟨a2, ea2, hg⟩ := bd_s hf
  clear hf
  subst ea2
  have hf := hg
  clear hg
  obtain ⟨v3, hv3, hf⟩ := bd_s hf
  refine gt_192 C hw hv3 kw_123 dX1_include_4 ?_
  refine lq_aload_n hx hb dX1_include_7 rfl (lv_at hl 1 rfl) ?_
  obtain ⟨a4, ea4, hg⟩ := bd_s hf
  clear hf
  subst ea4
  have hf := hg
  clear hg
  obtain ⟨v5, hv5, hf⟩ := bd_s hf
  refine gt_65 C hw hv5 kw_289 dX1_include_8 ?_
  refine lq_aload_n hx hb dX1_include_11 rfl (lv_at hl 1 rfl) ?_
  obtain ⟨v6, hv6, hf⟩ := bd_s hf
  refine gt_71 C hw hv6 kw_305 dX1_include_12 ?_
  obtain ⟨a7, ea7, hg⟩ := bd_s hf
  clear hf
  subst ea7
  have hf := hg
  clear hg
  obtain ⟨d8, hd8, hf⟩ := bd_s hf
  refine w_iast C hw hS hd8 dX1_include_15 (fun H locs hw hS => ?_)
  refine lv_aload_n hx hb dX1_include_16 rfl (lv_at hl 0 rfl) ?_
  refine lv_aload_n hx hb dX1_include_17 rfl (lv_at hl 0 rfl) ?_
  obtain ⟨v9, hv9, hf⟩ := bd_s hf
  refine gt_102 C hw hv9 kw_163 dX1_include_18 ?_
  refine lq_aload_n hx hb dX1_include_21 rfl (lv_at hl 1 rfl) ?_
  obtain ⟨v10, hv10, hf⟩ := bd_s hf
  refine gt_70 C hw hv10 kw_301 dX1_include_22 ?_
  refine va_mmax hx hb (C.2.2.2.1.trans hl.1.symm) C.2.2.2.2.2.1 (C.2.2.2.2.1 _ kw_398) (C.2.2.2.2.1 _ kw_353) (C.2.2.2.2.1 _ kw_13) (C.2.2.2.2.1 _ kw_354) (Nat.le_of_ble_eq_true rfl) (Nat.le_of_ble_eq_true rfl) (Nat.zero_le _) (Nat.zero_le _) dX1_include_25 ?_
  obtain ⟨d11, hd11, hf⟩ := bd_s hf
  refine pt_102 C hw hS hd11 kw_163 dX1_include_28 (fun H locs hw hS => ?_)
  cases hf
  exact rt_v C hw hS dX1_include_31

set_option maxRecDepth 100000 in
set_option maxHeartbeats 4000000 in
theorem tX1_include (l : Launch) (A : Nat → Prop) (D : va_G) (cy : Nat → ClassId) (st : Nat → Nat) (sz : Nat) (sh : Sh) (d : Dt) (x0 : Nat) (x1 : Option Nat) {d9 : Dt} (hf : fX1_include sh d x0 x1 = some d9) : Ct l yX1_include cX1_include 2 none 1 21 0 0 A D cy st [.ref x0, va_rf x1] sz sh d none sz sh d9 := ct_of (by decide) (by simp [lg_sl, va_rf_c, cat_i, cat_l, cat_r]) (fun p e s m args below meth c C hw hS ls hl => wX1_include_b0 C x0 x1 d hf hw hS (by simpa [lv_args, va_rf_c, cat_i, cat_l, cat_r] using hl))
theorem dX4_empty_0 : decode cX4_empty 0 = .ok (.iconst 0, 1) := by decide +kernel
theorem dX4_empty_1 : decode cX4_empty 1 = .ok (.istore_n 1, 1) := by decide +kernel
theorem dX4_empty_2 : decode cX4_empty 2 = .ok (.iload_n 1, 1) := by decide +kernel
theorem dX4_empty_3 : decode cX4_empty 3 = .ok (.bipush 6, 2) := by decide +kernel
theorem dX4_empty_5 : decode cX4_empty 5 = .ok (.if_icmp .ge 16, 3) := by decide +kernel
theorem dX4_empty_8 : decode cX4_empty 8 = .ok (.aload_n 0, 1) := by decide +kernel
theorem dX4_empty_9 : decode cX4_empty 9 = .ok (.getfield 9, 3) := by decide +kernel
theorem dX4_empty_12 : decode cX4_empty 12 = .ok (.iload_n 1, 1) := by decide +kernel
theorem dX4_empty_13 : decode cX4_empty 13 = .ok (.iconst 0, 1) := by decide +kernel
theorem dX4_empty_14 : decode cX4_empty 14 = .ok (.iastore, 1) := by decide +kernel
theorem dX4_empty_15 : decode cX4_empty 15 = .ok (.iinc 1 1, 3) := by decide +kernel
theorem dX4_empty_18 : decode cX4_empty 18 = .ok (.goto (-16), 3) := by decide +kernel
theorem dX4_empty_21 : decode cX4_empty 21 = .ok (.return_, 1) := by decide +kernel
theorem cvX4_empty : CV yX4_empty cX4_empty 2 none 5 0 := ⟨kw_431, kw_432, kw_8, kw_433, ⟨_, _, rfl⟩, by decide, by decide +kernel, by decide +kernel, by decide +kernel⟩
def fX4_empty_b2 (sh : Sh) : Nat → Nat → Int32 → Dt → Option (Dt)
  | 0, _, _, _ => none
  | n + 1, x0, x1, d => if (6 : Int32) ≤ x1 then (some (d)) else (bd (gR sh d 6 192 x0) fun v2 => bd v2 fun a3 => bd (sI sh d 20 a3 x1 (0 : Int32)) fun d4 => fX4_empty_b2 sh n x0 (x1 + 1) d4)

def fX4_empty_b0 (sh : Sh) (x0 : Nat) (d : Dt) : Option (Dt) := fX4_empty_b2 sh fu x0 (0 : Int32) d

def fX4_empty (sh : Sh) (d : Dt) (x0 : Nat) : Option (Dt) := fX4_empty_b0 sh x0 d

set_option maxRecDepth 100000 in
set_option maxHeartbeats 4000000 in
theorem wX4_empty_b2 (C : mx p s m args meth c yX4_empty cX4_empty 2 none A D cy st) {d9 : Dt} : ∀ (n : Nat) (x0 : Nat) (x1 : Int32) (d : Dt), fX4_empty_b2 sh n x0 x1 d = some d9 → ∀ {H : Heap} {locs : List Loc} {ls : Array Slot}, HW A D cy sz sh d H → va_S A s.heap H locs → lv_has ls 2 [(0, .ref x0), (1, .int x1)] → GL p l e s m args below meth c 0 0 A D cy none sz sh d9 H locs 2 ls [] := by
  have hx := C.1
  have hb := C.2.1
  intro n
  induction n with
  | zero => intro x0 x1 d hf; cases hf
  | succ n ih =>
    intro x0 x1 d hf H locs ls hw hS hl
    rw [fX4_empty_b2] at hf
    refine lv_iload_n hx hb dX4_empty_2 rfl (lv_at hl 1 rfl) ?_
    refine lv_bipush (v := 6) hx hb dX4_empty_3 (by decide) ?_
    refine lv_icmp_ge (tgt := 21) hx hb dX4_empty_5 (by decide) (fun c_1 => ?_) (fun c_1 => ?_)
    · have hf := if_t c_1 hf
      cases hf
      exact rt_v C hw hS dX4_empty_21
    · have hf := if_f c_1 hf
      refine lv_aload_n hx hb dX4_empty_8 rfl (lv_at hl 0 rfl) ?_
      obtain ⟨v2, hv2, hf⟩ := bd_s hf
      refine gt_192 C hw hv2 kw_122 dX4_empty_9 ?_
      refine lv_iload_n hx hb dX4_empty_12 rfl (lv_at hl 1 rfl) ?_
      refine lv_iconst (v := 0) hx hb dX4_empty_13 (by decide) ?_
      obtain ⟨a3, ea3, hg⟩ := bd_s hf
      clear hf
      subst ea3
      have hf := hg
      clear hg
      obtain ⟨d4, hd4, hf⟩ := bd_s hf
      refine w_iast C hw hS hd4 dX4_empty_14 (fun H locs hw hS => ?_)
      refine lv_iinc (v := (x1 + 1)) (lv' := [(1, .int (x1 + 1)), (0, .ref x0)]) hx hb dX4_empty_15 hl (k := 1) rfl rfl (by decide) rfl (fun ls hl => ?_)
      refine lv_goto (tgt := 2) hx hb dX4_empty_18 (by decide) ?_
      exact ih x0 (x1 + 1) d4 hf hw hS (lv_sub hl [1, 0] rfl)

set_option maxRecDepth 100000 in
set_option maxHeartbeats 4000000 in
theorem wX4_empty_b0 (C : mx p s m args meth c yX4_empty cX4_empty 2 none A D cy st) {d9 : Dt} : ∀ (x0 : Nat) (d : Dt), fX4_empty_b0 sh x0 d = some d9 → ∀ {H : Heap} {locs : List Loc} {ls : Array Slot}, HW A D cy sz sh d H → va_S A s.heap H locs → lv_has ls 2 [(0, .ref x0)] → GL p l e s m args below meth c 0 0 A D cy none sz sh d9 H locs 0 ls [] := by
  have hx := C.1
  have hb := C.2.1
  intro x0 d hf H locs ls hw hS hl
  unfold fX4_empty_b0 at hf
  refine lv_iconst (v := 0) hx hb dX4_empty_0 (by decide) ?_
  refine lv_istore_n (lv' := [(1, .int (0 : Int32)), (0, .ref x0)]) hx hb dX4_empty_1 rfl hl (by decide) rfl (fun ls hl => ?_)
  exact wX4_empty_b2 C fu x0 (0 : Int32) d hf hw hS (lv_sub hl [1, 0] rfl)

set_option maxRecDepth 100000 in
set_option maxHeartbeats 4000000 in
theorem tX4_empty (l : Launch) (A : Nat → Prop) (D : va_G) (cy : Nat → ClassId) (st : Nat → Nat) (sz : Nat) (sh : Sh) (d : Dt) (x0 : Nat) {d9 : Dt} (hf : fX4_empty sh d x0 = some d9) : Ct l yX4_empty cX4_empty 2 none 0 0 0 0 A D cy st [.ref x0] sz sh d none sz sh d9 := ct_of (by decide) (Nat.le_of_ble_eq_true rfl) (fun p e s m args below meth c C hw hS ls hl => wX4_empty_b0 C x0 d hf hw hS hl)
theorem dX4_holds_0 : decode cX4_holds 0 = .ok (.aload_n 1, 1) := by decide +kernel
theorem dX4_holds_1 : decode cX4_holds 1 = .ok (.getfield 15, 3) := by decide +kernel
theorem dX4_holds_4 : decode cX4_holds 4 = .ok (.aload_n 0, 1) := by decide +kernel
theorem dX4_holds_5 : decode cX4_holds 5 = .ok (.getfield 9, 3) := by decide +kernel
theorem dX4_holds_8 : decode cX4_holds 8 = .ok (.aload_n 1, 1) := by decide +kernel
theorem dX4_holds_9 : decode cX4_holds 9 = .ok (.getfield 21, 3) := by decide +kernel
theorem dX4_holds_12 : decode cX4_holds 12 = .ok (.iaload, 1) := by decide +kernel
theorem dX4_holds_13 : decode cX4_holds 13 = .ok (.if_icmp .gt 7, 3) := by decide +kernel
theorem dX4_holds_16 : decode cX4_holds 16 = .ok (.iconst 1, 1) := by decide +kernel
theorem dX4_holds_17 : decode cX4_holds 17 = .ok (.goto 4, 3) := by decide +kernel
theorem dX4_holds_20 : decode cX4_holds 20 = .ok (.iconst 0, 1) := by decide +kernel
theorem dX4_holds_21 : decode cX4_holds 21 = .ok (.ireturn, 1) := by decide +kernel
theorem cvX4_holds : CV yX4_holds cX4_holds 2 (some .boolean) 5 1 := ⟨kw_435, kw_436, kw_8, kw_437, ⟨_, _, rfl⟩, by decide, by decide +kernel, by decide +kernel, by decide +kernel⟩
def fX4_holds_b0 (sh : Sh) (d : Dt) (x0 : Nat) (x1 : Option Nat) : Option (Bool) := bd x1 fun a1 => bd (gI sh d 2 71 a1) fun v2 => bd (gR sh d 6 192 x0) fun v3 => bd (gI sh d 2 65 a1) fun v4 => bd v3 fun a5 => bd (aI sh d 20 a5 v4) fun v6 => if v6 < v2 then (some false) else (some true)

def fX4_holds (sh : Sh) (d : Dt) (x0 : Nat) (x1 : Option Nat) : Option (Bool) := fX4_holds_b0 sh d x0 x1

set_option maxRecDepth 100000 in
set_option maxHeartbeats 4000000 in
theorem wX4_holds_b0 (C : mx p s m args meth c yX4_holds cX4_holds 2 (some .boolean) A D cy st) {r : Bool} {d : Dt} : ∀ (x0 : Nat) (x1 : Option Nat), fX4_holds_b0 sh d x0 x1 = some r → ∀ {H : Heap} {locs : List Loc} {ls : Array Slot}, HW A D cy sz sh d H → va_S A s.heap H locs → lv_has ls 2 [(0, .ref x0), (1, va_rf x1)] → GL p l e s m args below meth c 0 0 A D cy (some (.int (bI r))) sz sh d H locs 0 ls [] := by
  have hx := C.1
  have hb := C.2.1
  intro x0 x1 hf H locs ls hw hS hl
  unfold fX4_holds_b0 at hf
  refine lq_aload_n hx hb dX4_holds_0 rfl (lv_at hl 1 rfl) ?_
  obtain ⟨a1, ea1, hg⟩ := bd_s hf
  clear hf
  subst ea1
  have hf := hg
  clear hg
  obtain ⟨v2, hv2, hf⟩ := bd_s hf
  refine gt_71 C hw hv2 kw_304 dX4_holds_1 ?_
  refine lv_aload_n hx hb dX4_holds_4 rfl (lv_at hl 0 rfl) ?_
  obtain ⟨v3, hv3, hf⟩ := bd_s hf
  refine gt_192 C hw hv3 kw_122 dX4_holds_5 ?_
  refine lq_aload_n hx hb dX4_holds_8 rfl (lv_at hl 1 rfl) ?_
  obtain ⟨v4, hv4, hf⟩ := bd_s hf
  refine gt_65 C hw hv4 kw_288 dX4_holds_9 ?_
  obtain ⟨a5, ea5, hg⟩ := bd_s hf
  clear hf
  subst ea5
  have hf := hg
  clear hg
  obtain ⟨v6, hv6, hf⟩ := bd_s hf
  refine w_iald C hw hv6 dX4_holds_12 ?_
  refine lv_icmp_gt (tgt := 20) hx hb dX4_holds_13 (by decide) (fun c_7 => ?_) (fun c_7 => ?_)
  · have hf := if_t c_7 hf
    refine lv_iconst (v := 0) hx hb dX4_holds_20 (by decide) ?_
    cases hf
    exact rt_z C hw hS _ rfl dX4_holds_21
  · have hf := if_f c_7 hf
    refine lv_iconst (v := 1) hx hb dX4_holds_16 (by decide) ?_
    refine lv_goto (tgt := 21) hx hb dX4_holds_17 (by decide) ?_
    cases hf
    exact rt_z C hw hS _ rfl dX4_holds_21

set_option maxRecDepth 100000 in
set_option maxHeartbeats 4000000 in
theorem tX4_holds (l : Launch) (A : Nat → Prop) (D : va_G) (cy : Nat → ClassId) (st : Nat → Nat) (sz : Nat) (sh : Sh) (d : Dt) (x0 : Nat) (x1 : Option Nat) {r : Bool} (hf : fX4_holds sh d x0 x1 = some r) : Ct l yX4_holds cX4_holds 2 (some .boolean) 0 0 0 0 A D cy st [.ref x0, va_rf x1] sz sh d (some (.int (bI r))) sz sh d := ct_of (by decide) (by simp [lg_sl, va_rf_c, cat_i, cat_l, cat_r]) (fun p e s m args below meth c C hw hS ls hl => wX4_holds_b0 C x0 x1 hf hw hS (by simpa [lv_args, va_rf_c, cat_i, cat_l, cat_r] using hl))
theorem dX3_gatherKnown_0 : decode cX3_gatherKnown 0 = .ok (.aload_n 0, 1) := by decide +kernel
theorem dX3_gatherKnown_1 : decode cX3_gatherKnown 1 = .ok (.getfield 12, 3) := by decide +kernel
theorem dX3_gatherKnown_4 : decode cX3_gatherKnown 4 = .ok (.invokevirtual 64, 3) := by decide +kernel
theorem dX3_gatherKnown_7 : decode cX3_gatherKnown 7 = .ok (.aload_n 0, 1) := by decide +kernel
theorem dX3_gatherKnown_8 : decode cX3_gatherKnown 8 = .ok (.getfield 27, 3) := by decide +kernel
theorem dX3_gatherKnown_11 : decode cX3_gatherKnown 11 = .ok (.iload_n 2, 1) := by decide +kernel
theorem dX3_gatherKnown_12 : decode cX3_gatherKnown 12 = .ok (.aaload, 1) := by decide +kernel
theorem dX3_gatherKnown_13 : decode cX3_gatherKnown 13 = .ok (.astore 4, 2) := by decide +kernel
theorem dX3_gatherKnown_15 : decode cX3_gatherKnown 15 = .ok (.aload 4, 2) := by decide +kernel
theorem dX3_gatherKnown_17 : decode cX3_gatherKnown 17 = .ok (.ifnull 43, 3) := by decide +kernel
theorem dX3_gatherKnown_20 : decode cX3_gatherKnown 20 = .ok (.aload 4, 2) := by decide +kernel
theorem dX3_gatherKnown_22 : decode cX3_gatherKnown 22 = .ok (.getfield 53, 3) := by decide +kernel
theorem dX3_gatherKnown_25 : decode cX3_gatherKnown 25 = .ok (.iload_n 3, 1) := by decide +kernel
theorem dX3_gatherKnown_26 : decode cX3_gatherKnown 26 = .ok (.if_icmp .ne 24, 3) := by decide +kernel
theorem dX3_gatherKnown_29 : decode cX3_gatherKnown 29 = .ok (.aload_n 1, 1) := by decide +kernel
theorem dX3_gatherKnown_30 : decode cX3_gatherKnown 30 = .ok (.aload 4, 2) := by decide +kernel
theorem dX3_gatherKnown_32 : decode cX3_gatherKnown 32 = .ok (.invokevirtual 42, 3) := by decide +kernel
theorem dX3_gatherKnown_35 : decode cX3_gatherKnown 35 = .ok (.ifCond .eq 15, 3) := by decide +kernel
theorem dX3_gatherKnown_38 : decode cX3_gatherKnown 38 = .ok (.aload_n 0, 1) := by decide +kernel
theorem dX3_gatherKnown_39 : decode cX3_gatherKnown 39 = .ok (.getfield 12, 3) := by decide +kernel
theorem dX3_gatherKnown_42 : decode cX3_gatherKnown 42 = .ok (.aload 4, 2) := by decide +kernel
theorem dX3_gatherKnown_44 : decode cX3_gatherKnown 44 = .ok (.getfield 67, 3) := by decide +kernel
theorem dX3_gatherKnown_47 : decode cX3_gatherKnown 47 = .ok (.invokevirtual 68, 3) := by decide +kernel
theorem dX3_gatherKnown_50 : decode cX3_gatherKnown 50 = .ok (.aload 4, 2) := by decide +kernel
theorem dX3_gatherKnown_52 : decode cX3_gatherKnown 52 = .ok (.getfield 49, 3) := by decide +kernel
theorem dX3_gatherKnown_55 : decode cX3_gatherKnown 55 = .ok (.astore 4, 2) := by decide +kernel
theorem dX3_gatherKnown_57 : decode cX3_gatherKnown 57 = .ok (.goto (-42), 3) := by decide +kernel
theorem dX3_gatherKnown_60 : decode cX3_gatherKnown 60 = .ok (.return_, 1) := by decide +kernel
theorem cvX3_gatherKnown : CV yX3_gatherKnown cX3_gatherKnown 5 none 4 3 := ⟨kw_428, ks_10, kw_10, kw_429, ⟨_, _, rfl⟩, by decide, by decide +kernel, by decide +kernel, by decide +kernel⟩
def fX3_gatherKnown_b15 (sh : Sh) : Nat → Nat → Option Nat → Int32 → Option Nat → Dt → Option (Dt)
  | 0, _, _, _, _, _ => none
  | n + 1, x0, x1, x3, x4, d => on x4 (some (d)) (fun a1 => bd (gI sh d 2 67 a1) fun v2 => if v2 = x3 then (bd x1 fun a5 => bd (kc sh 6 a5) fun _ => bd (fX4_holds sh d a5 (some a1)) fun r8 => if (bI r8) = 0 then (bd (gR sh d 2 73 a1) fun v10 => fX3_gatherKnown_b15 sh n x0 (some a5) x3 v10 d) else (bd (gR sh d 5 163 x0) fun v11 => bd (gR sh d 2 72 a1) fun v12 => bd v11 fun a13 => bd (kc sh 6 a13) fun _ => bd (fX4_widen sh d a13 v12) fun d17 => bd (gR sh d17 2 73 a1) fun v18 => fX3_gatherKnown_b15 sh n x0 (some a5) x3 v18 d17)) else (bd (gR sh d 2 73 a1) fun v4 => fX3_gatherKnown_b15 sh n x0 x1 x3 v4 d))

def fX3_gatherKnown_b0 (sh : Sh) (x0 : Nat) (x1 : Option Nat) (x2 : Int32) (x3 : Int32) (d : Dt) : Option (Dt) := bd (gR sh d 5 163 x0) fun v1 => bd v1 fun a2 => bd (kc sh 6 a2) fun _ => bd (fX4_empty sh d a2) fun d6 => bd (gR sh d6 5 162 x0) fun v7 => bd v7 fun a8 => bd (aR sh d6 23 a8 x2) fun v9 => fX3_gatherKnown_b15 sh fu x0 x1 x3 v9 d6

def fX3_gatherKnown (sh : Sh) (d : Dt) (x0 : Nat) (x1 : Option Nat) (x2 : Int32) (x3 : Int32) : Option (Dt) := fX3_gatherKnown_b0 sh x0 x1 x2 x3 d

set_option maxRecDepth 100000 in
set_option maxHeartbeats 4000000 in
theorem wX3_gatherKnown_b15 (C : mx p s m args meth c yX3_gatherKnown cX3_gatherKnown 5 none A D cy st) {d9 : Dt} : ∀ (n : Nat) (x0 : Nat) (x1 : Option Nat) (x3 : Int32) (x4 : Option Nat) (d : Dt), fX3_gatherKnown_b15 sh n x0 x1 x3 x4 d = some d9 → ∀ {H : Heap} {locs : List Loc} {ls : Array Slot}, HW A D cy sz sh d H → va_S A s.heap H locs → lv_has ls 5 [(0, .ref x0), (1, va_rf x1), (3, .int x3), (4, va_rf x4)] → GL p l e s m args below meth c 1 22 A D cy none sz sh d9 H locs 15 ls [] := by
  have hx := C.1
  have hb := C.2.1
  intro n
  induction n with
  | zero => intro x0 x1 x3 x4 d hf; cases hf
  | succ n ih =>
    intro x0 x1 x3 x4 d hf H locs ls hw hS hl
    rw [fX3_gatherKnown_b15] at hf
    refine lq_aload hx hb dX3_gatherKnown_15 (lv_at hl 3 rfl) ?_
    cases x4 with
    | none =>
      have hf := on_n hf
      refine lv_ifnullN (tgt := 60) hx hb dX3_gatherKnown_17 (by decide) ?_
      cases hf
      exact rt_v C hw hS dX3_gatherKnown_60
    | some a1 =>
      have hf := on_s hf
      refine lv_ifnull hx hb dX3_gatherKnown_17 ?_
      refine lq_aload hx hb dX3_gatherKnown_20 (lv_at hl 3 rfl) ?_
      obtain ⟨v2, hv2, hf⟩ := bd_s hf
      refine gt_67 C hw hv2 kw_294 dX3_gatherKnown_22 ?_
      refine lv_iload_n hx hb dX3_gatherKnown_25 rfl (lv_at hl 2 rfl) ?_
      refine lv_icmp_ne (tgt := 50) hx hb dX3_gatherKnown_26 (by decide) (fun c_3 => ?_) (fun c_3 => ?_)
      · have hf := if_f c_3 hf
        refine lq_aload hx hb dX3_gatherKnown_50 (lv_at hl 3 rfl) ?_
        obtain ⟨v4, hv4, hf⟩ := bd_s hf
        refine gt_73 C hw hv4 kw_311 dX3_gatherKnown_52 ?_
        refine lq_astore (x := v4) (lv' := [(4, va_rf v4), (0, .ref x0), (1, va_rf x1), (3, .int x3)]) hx hb dX3_gatherKnown_55 hl (by decide) rfl (fun ls hl => ?_)
        refine lv_goto (tgt := 15) hx hb dX3_gatherKnown_57 (by decide) ?_
        exact ih x0 x1 x3 v4 d hf hw hS (lv_sub hl [1, 2, 3, 0] rfl)
      · have hf := if_t c_3 hf
        refine lq_aload_n hx hb dX3_gatherKnown_29 rfl (lv_at hl 1 rfl) ?_
        refine lq_aload hx hb dX3_gatherKnown_30 (lv_at hl 3 rfl) ?_
        obtain ⟨a5, ea5, hg⟩ := bd_s hf
        clear hf
        subst ea5
        have hf := hg
        clear hg
        obtain ⟨_, h6, hf⟩ := bd_s hf
        obtain ⟨r8, h7, hf⟩ := bd_s hf
        refine cl_V0 C hw hS (tX4_holds l A D cy st sz sh d a5 (some a1) h7) cvX4_holds kw_434 (kc_k h6) ⟨(Nat.le_of_ble_eq_true rfl), (Nat.le_of_ble_eq_true rfl)⟩ hl.1 rfl (Nat.le_of_ble_eq_true rfl) dX3_gatherKnown_32 ⟨Nat.zero_le _, Nat.zero_le _⟩ (fun H locs hw hS => ?_)
        refine lv_if_eq (tgt := 50) hx hb dX3_gatherKnown_35 (by decide) (fun c_9 => ?_) (fun c_9 => ?_)
        · have hf := if_t c_9 hf
          refine lq_aload hx hb dX3_gatherKnown_50 (lv_at hl 3 rfl) ?_
          obtain ⟨v10, hv10, hf⟩ := bd_s hf
          refine gt_73 C hw hv10 kw_311 dX3_gatherKnown_52 ?_
          refine lq_astore (x := v10) (lv' := [(4, va_rf v10), (0, .ref x0), (1, va_rf (some a5)), (3, .int x3)]) hx hb dX3_gatherKnown_55 hl (by decide) rfl (fun ls hl => ?_)
          refine lv_goto (tgt := 15) hx hb dX3_gatherKnown_57 (by decide) ?_
          exact ih x0 (some a5) x3 v10 d hf hw hS (lv_sub hl [1, 2, 3, 0] rfl)
        · have hf := if_f c_9 hf
          refine lv_aload_n hx hb dX3_gatherKnown_38 rfl (lv_at hl 0 rfl) ?_
          obtain ⟨v11, hv11, hf⟩ := bd_s hf
          refine gt_163 C hw hv11 kw_202 dX3_gatherKnown_39 ?_
          refine lq_aload hx hb dX3_gatherKnown_42 (lv_at hl 3 rfl) ?_
          obtain ⟨v12, hv12, hf⟩ := bd_s hf
          refine gt_72 C hw hv12 kw_308 dX3_gatherKnown_44 ?_
          obtain ⟨a13, ea13, hg⟩ := bd_s hf
          clear hf
          subst ea13
          have hf := hg
          clear hg
          obtain ⟨_, h14, hf⟩ := bd_s hf
          obtain ⟨d17, h15, hf⟩ := bd_s hf
          refine cl_V0 C hw hS (tX4_widen l A D cy st sz sh d a13 v12 h15) cvX4_widen kw_438 (kc_k h14) ⟨(Nat.le_of_ble_eq_true rfl), (Nat.le_of_ble_eq_true rfl)⟩ hl.1 rfl (Nat.le_of_ble_eq_true rfl) dX3_gatherKnown_47 ⟨Nat.zero_le _, Nat.zero_le _⟩ (fun H locs hw hS => ?_)
          refine lq_aload hx hb dX3_gatherKnown_50 (lv_at hl 3 rfl) ?_
          obtain ⟨v18, hv18, hf⟩ := bd_s hf
          refine gt_73 C hw hv18 kw_311 dX3_gatherKnown_52 ?_
          refine lq_astore (x := v18) (lv' := [(4, va_rf v18), (0, .ref x0), (1, va_rf (some a5)), (3, .int x3)]) hx hb dX3_gatherKnown_55 hl (by decide) rfl (fun ls hl => ?_)
          refine lv_goto (tgt := 15) hx hb dX3_gatherKnown_57 (by decide) ?_
          exact ih x0 (some a5) x3 v18 d17 hf hw hS (lv_sub hl [1, 2, 3, 0] rfl)

set_option maxRecDepth 100000 in
set_option maxHeartbeats 4000000 in
theorem wX3_gatherKnown_b0 (C : mx p s m args meth c yX3_gatherKnown cX3_gatherKnown 5 none A D cy st) {d9 : Dt} : ∀ (x0 : Nat) (x1 : Option Nat) (x2 : Int32) (x3 : Int32) (d : Dt), fX3_gatherKnown_b0 sh x0 x1 x2 x3 d = some d9 → ∀ {H : Heap} {locs : List Loc} {ls : Array Slot}, HW A D cy sz sh d H → va_S A s.heap H locs → lv_has ls 5 [(0, .ref x0), (1, va_rf x1), (2, .int x2), (3, .int x3)] → GL p l e s m args below meth c 1 22 A D cy none sz sh d9 H locs 0 ls [] := by
  have hx := C.1
  have hb := C.2.1
  intro x0 x1 x2 x3 d hf H locs ls hw hS hl
  unfold fX3_gatherKnown_b0 at hf
  refine lv_aload_n hx hb dX3_gatherKnown_0 rfl (lv_at hl 0 rfl) ?_
  obtain ⟨v1, hv1, hf⟩ := bd_s hf
  refine gt_163 C hw hv1 kw_202 dX3_gatherKnown_1 ?_
  obtain ⟨a2, ea2, hg⟩ := bd_s hf
  clear hf
  subst ea2
  have hf := hg
  clear hg
  obtain ⟨_, h3, hf⟩ := bd_s hf
  obtain ⟨d6, h4, hf⟩ := bd_s hf
  refine cl_V0 C hw hS (tX4_empty l A D cy st sz sh d a2 h4) cvX4_empty kw_430 (kc_k h3) ⟨(Nat.le_of_ble_eq_true rfl), (Nat.le_of_ble_eq_true rfl)⟩ hl.1 rfl (Nat.le_of_ble_eq_true rfl) dX3_gatherKnown_4 ⟨Nat.zero_le _, Nat.zero_le _⟩ (fun H locs hw hS => ?_)
  refine lv_aload_n hx hb dX3_gatherKnown_7 rfl (lv_at hl 0 rfl) ?_
  obtain ⟨v7, hv7, hf⟩ := bd_s hf
  refine gt_162 C hw hv7 kw_200 dX3_gatherKnown_8 ?_
  refine lv_iload_n hx hb dX3_gatherKnown_11 rfl (lv_at hl 2 rfl) ?_
  obtain ⟨a8, ea8, hg⟩ := bd_s hf
  clear hf
  subst ea8
  have hf := hg
  clear hg
  obtain ⟨v9, hv9, hf⟩ := bd_s hf
  refine w_aald C hw 3 rfl (by decide) rfl hv9 dX3_gatherKnown_12 ?_
  refine lq_astore (x := v9) (lv' := [(4, va_rf v9), (0, .ref x0), (1, va_rf x1), (2, .int x2), (3, .int x3)]) hx hb dX3_gatherKnown_13 hl (by decide) rfl (fun ls hl => ?_)
  exact wX3_gatherKnown_b15 C fu x0 x1 x3 v9 d6 hf hw hS (lv_sub hl [1, 2, 4, 0] rfl)

set_option maxRecDepth 100000 in
set_option maxHeartbeats 4000000 in
theorem tX3_gatherKnown (l : Launch) (A : Nat → Prop) (D : va_G) (cy : Nat → ClassId) (st : Nat → Nat) (sz : Nat) (sh : Sh) (d : Dt) (x0 : Nat) (x1 : Option Nat) (x2 : Int32) (x3 : Int32) {d9 : Dt} (hf : fX3_gatherKnown sh d x0 x1 x2 x3 = some d9) : Ct l yX3_gatherKnown cX3_gatherKnown 5 none 1 22 0 0 A D cy st [.ref x0, va_rf x1, .int x2, .int x3] sz sh d none sz sh d9 := ct_of (by decide) (by simp [lg_sl, va_rf_c, cat_i, cat_l, cat_r]) (fun p e s m args below meth c C hw hS ls hl => wX3_gatherKnown_b0 C x0 x1 x2 x3 d hf hw hS (by simpa [lv_args, va_rf_c, cat_i, cat_l, cat_r] using hl))
theorem dX3_unknownTo_0 : decode cX3_unknownTo 0 = .ok (.aload_n 0, 1) := by decide +kernel
theorem dX3_unknownTo_1 : decode cX3_unknownTo 1 = .ok (.aload_n 1, 1) := by decide +kernel
theorem dX3_unknownTo_2 : decode cX3_unknownTo 2 = .ok (.iload_n 2, 1) := by decide +kernel
theorem dX3_unknownTo_3 : decode cX3_unknownTo 3 = .ok (.iload 4, 2) := by decide +kernel
theorem dX3_unknownTo_5 : decode cX3_unknownTo 5 = .ok (.invokevirtual 72, 3) := by decide +kernel
theorem dX3_unknownTo_8 : decode cX3_unknownTo 8 = .ok (.iconst 0, 1) := by decide +kernel
theorem dX3_unknownTo_9 : decode cX3_unknownTo 9 = .ok (.istore 5, 2) := by decide +kernel
theorem dX3_unknownTo_11 : decode cX3_unknownTo 11 = .ok (.aload_n 0, 1) := by decide +kernel
theorem dX3_unknownTo_12 : decode cX3_unknownTo 12 = .ok (.getfield 27, 3) := by decide +kernel
theorem dX3_unknownTo_15 : decode cX3_unknownTo 15 = .ok (.iload_n 2, 1) := by decide +kernel
theorem dX3_unknownTo_16 : decode cX3_unknownTo 16 = .ok (.aaload, 1) := by decide +kernel
theorem dX3_unknownTo_17 : decode cX3_unknownTo 17 = .ok (.astore 6, 2) := by decide +kernel
theorem dX3_unknownTo_19 : decode cX3_unknownTo 19 = .ok (.aload 6, 2) := by decide +kernel
theorem dX3_unknownTo_21 : decode cX3_unknownTo 21 = .ok (.ifnull 46, 3) := by decide +kernel
theorem dX3_unknownTo_24 : decode cX3_unknownTo 24 = .ok (.aload 6, 2) := by decide +kernel
theorem dX3_unknownTo_26 : decode cX3_unknownTo 26 = .ok (.getfield 53, 3) := by decide +kernel
theorem dX3_unknownTo_29 : decode cX3_unknownTo 29 = .ok (.iload_n 3, 1) := by decide +kernel
theorem dX3_unknownTo_30 : decode cX3_unknownTo 30 = .ok (.if_icmp .ne 27, 3) := by decide +kernel
theorem dX3_unknownTo_33 : decode cX3_unknownTo 33 = .ok (.aload_n 1, 1) := by decide +kernel
theorem dX3_unknownTo_34 : decode cX3_unknownTo 34 = .ok (.aload 6, 2) := by decide +kernel
theorem dX3_unknownTo_36 : decode cX3_unknownTo 36 = .ok (.invokevirtual 42, 3) := by decide +kernel
theorem dX3_unknownTo_39 : decode cX3_unknownTo 39 = .ok (.ifCond .eq 18, 3) := by decide +kernel
theorem dX3_unknownTo_42 : decode cX3_unknownTo 42 = .ok (.aload_n 0, 1) := by decide +kernel
theorem dX3_unknownTo_43 : decode cX3_unknownTo 43 = .ok (.getfield 12, 3) := by decide +kernel
theorem dX3_unknownTo_46 : decode cX3_unknownTo 46 = .ok (.aload 6, 2) := by decide +kernel
theorem dX3_unknownTo_48 : decode cX3_unknownTo 48 = .ok (.invokevirtual 42, 3) := by decide +kernel
theorem dX3_unknownTo_51 : decode cX3_unknownTo 51 = .ok (.ifCond .ne 6, 3) := by decide +kernel
theorem dX3_unknownTo_54 : decode cX3_unknownTo 54 = .ok (.iinc 5 1, 3) := by decide +kernel
theorem dX3_unknownTo_57 : decode cX3_unknownTo 57 = .ok (.aload 6, 2) := by decide +kernel
theorem dX3_unknownTo_59 : decode cX3_unknownTo 59 = .ok (.getfield 49, 3) := by decide +kernel
theorem dX3_unknownTo_62 : decode cX3_unknownTo 62 = .ok (.astore 6, 2) := by decide +kernel
theorem dX3_unknownTo_64 : decode cX3_unknownTo 64 = .ok (.goto (-45), 3) := by decide +kernel
theorem dX3_unknownTo_67 : decode cX3_unknownTo 67 = .ok (.iload 5, 2) := by decide +kernel
theorem dX3_unknownTo_69 : decode cX3_unknownTo 69 = .ok (.ireturn, 1) := by decide +kernel
theorem cvX3_unknownTo : CV yX3_unknownTo cX3_unknownTo 7 (some .int) 4 4 := ⟨kw_424, ks_9, kw_10, kw_425, ⟨_, _, rfl⟩, by decide, by decide +kernel, by decide +kernel, by decide +kernel⟩
def fX3_unknownTo_b19 (sh : Sh) : Nat → Nat → Option Nat → Int32 → Int32 → Option Nat → Dt → Option (Int32 × Dt)
  | 0, _, _, _, _, _, _ => none
  | n + 1, x0, x1, x3, x5, x6, d => on x6 (some (x5, d)) (fun a1 => bd (gI sh d 2 67 a1) fun v2 => if v2 = x3 then (bd x1 fun a5 => bd (kc sh 6 a5) fun _ => bd (fX4_holds sh d a5 (some a1)) fun r8 => if (bI r8) = 0 then (bd (gR sh d 2 73 a1) fun v10 => fX3_unknownTo_b19 sh n x0 (some a5) x3 x5 v10 d) else (bd (gR sh d 5 163 x0) fun v11 => bd v11 fun a12 => bd (kc sh 6 a12) fun _ => bd (fX4_holds sh d a12 (some a1)) fun r15 => if (bI r15) = 0 then (bd (gR sh d 2 73 a1) fun v18 => fX3_unknownTo_b19 sh n x0 (some a5) x3 (x5 + 1) v18 d) else (bd (gR sh d 2 73 a1) fun v17 => fX3_unknownTo_b19 sh n x0 (some a5) x3 x5 v17 d))) else (bd (gR sh d 2 73 a1) fun v4 => fX3_unknownTo_b19 sh n x0 x1 x3 x5 v4 d))

def fX3_unknownTo_b0 (sh : Sh) (x0 : Nat) (x1 : Option Nat) (x2 : Int32) (x3 : Int32) (x4 : Int32) (d : Dt) : Option (Int32 × Dt) := bd (kc sh 5 x0) fun _ => bd (fX3_gatherKnown sh d x0 x1 x2 x4) fun d4 => bd (gR sh d4 5 162 x0) fun v5 => bd v5 fun a6 => bd (aR sh d4 23 a6 x2) fun v7 => fX3_unknownTo_b19 sh fu x0 x1 x3 (0 : Int32) v7 d4

def fX3_unknownTo (sh : Sh) (d : Dt) (x0 : Nat) (x1 : Option Nat) (x2 : Int32) (x3 : Int32) (x4 : Int32) : Option (Int32 × Dt) := fX3_unknownTo_b0 sh x0 x1 x2 x3 x4 d

set_option maxRecDepth 100000 in
set_option maxHeartbeats 4000000 in
theorem wX3_unknownTo_b19 (C : mx p s m args meth c yX3_unknownTo cX3_unknownTo 7 (some .int) A D cy st) {r : Int32} {d9 : Dt} : ∀ (n : Nat) (x0 : Nat) (x1 : Option Nat) (x3 : Int32) (x5 : Int32) (x6 : Option Nat) (d : Dt), fX3_unknownTo_b19 sh n x0 x1 x3 x5 x6 d = some (r, d9) → ∀ {H : Heap} {locs : List Loc} {ls : Array Slot}, HW A D cy sz sh d H → va_S A s.heap H locs → lv_has ls 7 [(0, .ref x0), (1, va_rf x1), (3, .int x3), (5, .int x5), (6, va_rf x6)] → GL p l e s m args below meth c 2 46 A D cy (some (.int r)) sz sh d9 H locs 19 ls [] := by
  have hx := C.1
  have hb := C.2.1
  intro n
  induction n with
  | zero => intro x0 x1 x3 x5 x6 d hf; cases hf
  | succ n ih =>
    intro x0 x1 x3 x5 x6 d hf H locs ls hw hS hl
    rw [fX3_unknownTo_b19] at hf
    refine lq_aload hx hb dX3_unknownTo_19 (lv_at hl 4 rfl) ?_
    cases x6 with
    | none =>
      have hf := on_n hf
      refine lv_ifnullN (tgt := 67) hx hb dX3_unknownTo_21 (by decide) ?_
      refine lv_iload hx hb dX3_unknownTo_67 (lv_at hl 3 rfl) ?_
      cases hf
      exact rt_i C hw hS dX3_unknownTo_69
    | some a1 =>
      have hf := on_s hf
      refine lv_ifnull hx hb dX3_unknownTo_21 ?_
      refine lq_aload hx hb dX3_unknownTo_24 (lv_at hl 4 rfl) ?_
      obtain ⟨v2, hv2, hf⟩ := bd_s hf
      refine gt_67 C hw hv2 kw_294 dX3_unknownTo_26 ?_
      refine lv_iload_n hx hb dX3_unknownTo_29 rfl (lv_at hl 2 rfl) ?_
      refine lv_icmp_ne (tgt := 57) hx hb dX3_unknownTo_30 (by decide) (fun c_3 => ?_) (fun c_3 => ?_)
      · have hf := if_f c_3 hf
        refine lq_aload hx hb dX3_unknownTo_57 (lv_at hl 4 rfl) ?_
        obtain ⟨v4, hv4, hf⟩ := bd_s hf
        refine gt_73 C hw hv4 kw_311 dX3_unknownTo_59 ?_
        refine lq_astore (x := v4) (lv' := [(6, va_rf v4), (0, .ref x0), (1, va_rf x1), (3, .int x3), (5, .int x5)]) hx hb dX3_unknownTo_62 hl (by decide) rfl (fun ls hl => ?_)
        refine lv_goto (tgt := 19) hx hb dX3_unknownTo_64 (by decide) ?_
        exact ih x0 x1 x3 x5 v4 d hf hw hS (lv_sub hl [1, 2, 3, 4, 0] rfl)
      · have hf := if_t c_3 hf
        refine lq_aload_n hx hb dX3_unknownTo_33 rfl (lv_at hl 1 rfl) ?_
        refine lq_aload hx hb dX3_unknownTo_34 (lv_at hl 4 rfl) ?_
        obtain ⟨a5, ea5, hg⟩ := bd_s hf
        clear hf
        subst ea5
        have hf := hg
        clear hg
        obtain ⟨_, h6, hf⟩ := bd_s hf
        obtain ⟨r8, h7, hf⟩ := bd_s hf
        refine cl_V0 C hw hS (tX4_holds l A D cy st sz sh d a5 (some a1) h7) cvX4_holds kw_434 (kc_k h6) ⟨(Nat.le_of_ble_eq_true rfl), (Nat.le_of_ble_eq_true rfl)⟩ hl.1 rfl (Nat.le_of_ble_eq_true rfl) dX3_unknownTo_36 ⟨Nat.zero_le _, Nat.zero_le _⟩ (fun H locs hw hS => ?_)
        refine lv_if_eq (tgt := 57) hx hb dX3_unknownTo_39 (by decide) (fun c_9 => ?_) (fun c_9 => ?_)
        · have hf := if_t c_9 hf
          refine lq_aload hx hb dX3_unknownTo_57 (lv_at hl 4 rfl) ?_
          obtain ⟨v10, hv10, hf⟩ := bd_s hf
          refine gt_73 C hw hv10 kw_311 dX3_unknownTo_59 ?_
          refine lq_astore (x := v10) (lv' := [(6, va_rf v10), (0, .ref x0), (1, va_rf (some a5)), (3, .int x3), (5, .int x5)]) hx hb dX3_unknownTo_62 hl (by decide) rfl (fun ls hl => ?_)
          refine lv_goto (tgt := 19) hx hb dX3_unknownTo_64 (by decide) ?_
          exact ih x0 (some a5) x3 x5 v10 d hf hw hS (lv_sub hl [1, 2, 3, 4, 0] rfl)
        · have hf := if_f c_9 hf
          refine lv_aload_n hx hb dX3_unknownTo_42 rfl (lv_at hl 0 rfl) ?_
          obtain ⟨v11, hv11, hf⟩ := bd_s hf
          refine gt_163 C hw hv11 kw_202 dX3_unknownTo_43 ?_
          refine lq_aload hx hb dX3_unknownTo_46 (lv_at hl 4 rfl) ?_
          obtain ⟨a12, ea12, hg⟩ := bd_s hf
          clear hf
          subst ea12
          have hf := hg
          clear hg
          obtain ⟨_, h13, hf⟩ := bd_s hf
          obtain ⟨r15, h14, hf⟩ := bd_s hf
          refine cl_V0 C hw hS (tX4_holds l A D cy st sz sh d a12 (some a1) h14) cvX4_holds kw_434 (kc_k h13) ⟨(Nat.le_of_ble_eq_true rfl), (Nat.le_of_ble_eq_true rfl)⟩ hl.1 rfl (Nat.le_of_ble_eq_true rfl) dX3_unknownTo_48 ⟨Nat.zero_le _, Nat.zero_le _⟩ (fun H locs hw hS => ?_)
          refine lv_if_ne (tgt := 57) hx hb dX3_unknownTo_51 (by decide) (fun c_16 => ?_) (fun c_16 => ?_)
          · have hf := if_f c_16 hf
            refine lq_aload hx hb dX3_unknownTo_57 (lv_at hl 4 rfl) ?_
            obtain ⟨v17, hv17, hf⟩ := bd_s hf
            refine gt_73 C hw hv17 kw_311 dX3_unknownTo_59 ?_
            refine lq_astore (x := v17) (lv' := [(6, va_rf v17), (0, .ref x0), (1, va_rf (some a5)), (3, .int x3), (5, .int x5)]) hx hb dX3_unknownTo_62 hl (by decide) rfl (fun ls hl => ?_)
            refine lv_goto (tgt := 19) hx hb dX3_unknownTo_64 (by decide) ?_
            exact ih x0 (some a5) x3 x5 v17 d hf hw hS (lv_sub hl [1, 2, 3, 4, 0] rfl)
          · have hf := if_t c_16 hf
            refine lv_iinc (v := (x5 + 1)) (lv' := [(5, .int (x5 + 1)), (0, .ref x0), (1, va_rf (some a5)), (3, .int x3), (6, va_rf (some a1))]) hx hb dX3_unknownTo_54 hl (k := 3) rfl rfl (by decide) rfl (fun ls hl => ?_)
            refine lq_aload hx hb dX3_unknownTo_57 (lv_at hl 4 rfl) ?_
            obtain ⟨v18, hv18, hf⟩ := bd_s hf
            refine gt_73 C hw hv18 kw_311 dX3_unknownTo_59 ?_
            refine lq_astore (x := v18) (lv' := [(6, va_rf v18), (5, .int (x5 + 1)), (0, .ref x0), (1, va_rf (some a5)), (3, .int x3)]) hx hb dX3_unknownTo_62 hl (by decide) rfl (fun ls hl => ?_)
            refine lv_goto (tgt := 19) hx hb dX3_unknownTo_64 (by decide) ?_
            exact ih x0 (some a5) x3 (x5 + 1) v18 d hf hw hS (lv_sub hl [2, 3, 4, 1, 0] rfl)

set_option maxRecDepth 100000 in
set_option maxHeartbeats 4000000 in
theorem wX3_unknownTo_b0 (C : mx p s m args meth c yX3_unknownTo cX3_unknownTo 7 (some .int) A D cy st) {r : Int32} {d9 : Dt} : ∀ (x0 : Nat) (x1 : Option Nat) (x2 : Int32) (x3 : Int32) (x4 : Int32) (d : Dt), fX3_unknownTo_b0 sh x0 x1 x2 x3 x4 d = some (r, d9) → ∀ {H : Heap} {locs : List Loc} {ls : Array Slot}, HW A D cy sz sh d H → va_S A s.heap H locs → lv_has ls 7 [(0, .ref x0), (1, va_rf x1), (2, .int x2), (3, .int x3), (4, .int x4)] → GL p l e s m args below meth c 2 46 A D cy (some (.int r)) sz sh d9 H locs 0 ls [] := by
  have hx := C.1
  have hb := C.2.1
  intro x0 x1 x2 x3 x4 d hf H locs ls hw hS hl
  unfold fX3_unknownTo_b0 at hf
  refine lv_aload_n hx hb dX3_unknownTo_0 rfl (lv_at hl 0 rfl) ?_
  refine lq_aload_n hx hb dX3_unknownTo_1 rfl (lv_at hl 1 rfl) ?_
  refine lv_iload_n hx hb dX3_unknownTo_2 rfl (lv_at hl 2 rfl) ?_
  refine lv_iload hx hb dX3_unknownTo_3 (lv_at hl 4 rfl) ?_
  obtain ⟨_, h1, hf⟩ := bd_s hf
  obtain ⟨d4, h2, hf⟩ := bd_s hf
  refine cl_V0 C hw hS (tX3_gatherKnown l A D cy st sz sh d x0 x1 x2 x4 h2) cvX3_gatherKnown kw_426 (kc_k h1) ⟨(Nat.le_of_ble_eq_true rfl), (Nat.le_of_ble_eq_true rfl)⟩ hl.1 rfl (Nat.le_of_ble_eq_true rfl) dX3_unknownTo_5 ⟨Nat.zero_le _, Nat.zero_le _⟩ (fun H locs hw hS => ?_)
  refine lv_iconst (v := 0) hx hb dX3_unknownTo_8 (by decide) ?_
  refine lv_istore (lv' := [(5, .int (0 : Int32)), (0, .ref x0), (1, va_rf x1), (2, .int x2), (3, .int x3), (4, .int x4)]) hx hb dX3_unknownTo_9 hl (by decide) rfl (fun ls hl => ?_)
  refine lv_aload_n hx hb dX3_unknownTo_11 rfl (lv_at hl 1 rfl) ?_
  obtain ⟨v5, hv5, hf⟩ := bd_s hf
  refine gt_162 C hw hv5 kw_200 dX3_unknownTo_12 ?_
  refine lv_iload_n hx hb dX3_unknownTo_15 rfl (lv_at hl 3 rfl) ?_
  obtain ⟨a6, ea6, hg⟩ := bd_s hf
  clear hf
  subst ea6
  have hf := hg
  clear hg
  obtain ⟨v7, hv7, hf⟩ := bd_s hf
  refine w_aald C hw 3 rfl (by decide) rfl hv7 dX3_unknownTo_16 ?_
  refine lq_astore (x := v7) (lv' := [(6, va_rf v7), (5, .int (0 : Int32)), (0, .ref x0), (1, va_rf x1), (2, .int x2), (3, .int x3), (4, .int x4)]) hx hb dX3_unknownTo_17 hl (by decide) rfl (fun ls hl => ?_)
  exact wX3_unknownTo_b19 C fu x0 x1 x3 (0 : Int32) v7 d4 hf hw hS (lv_sub hl [2, 3, 5, 1, 0] rfl)

set_option maxRecDepth 100000 in
set_option maxHeartbeats 4000000 in
theorem tX3_unknownTo (l : Launch) (A : Nat → Prop) (D : va_G) (cy : Nat → ClassId) (st : Nat → Nat) (sz : Nat) (sh : Sh) (d : Dt) (x0 : Nat) (x1 : Option Nat) (x2 : Int32) (x3 : Int32) (x4 : Int32) {r : Int32} {d9 : Dt} (hf : fX3_unknownTo sh d x0 x1 x2 x3 x4 = some (r, d9)) : Ct l yX3_unknownTo cX3_unknownTo 7 (some .int) 2 46 0 0 A D cy st [.ref x0, va_rf x1, .int x2, .int x3, .int x4] sz sh d (some (.int r)) sz sh d9 := ct_of (by decide) (by simp [lg_sl, va_rf_c, cat_i, cat_l, cat_r]) (fun p e s m args below meth c C hw hS ls hl => wX3_unknownTo_b0 C x0 x1 x2 x3 x4 d hf hw hS (by simpa [lv_args, va_rf_c, cat_i, cat_l, cat_r] using hl))
theorem dX3_timesIn_0 : decode cX3_timesIn 0 = .ok (.aload_n 0, 1) := by decide +kernel
theorem dX3_timesIn_1 : decode cX3_timesIn 1 = .ok (.aload_n 1, 1) := by decide +kernel
theorem dX3_timesIn_2 : decode cX3_timesIn 2 = .ok (.aload_n 0, 1) := by decide +kernel
theorem dX3_timesIn_3 : decode cX3_timesIn 3 = .ok (.iload_n 2, 1) := by decide +kernel
theorem dX3_timesIn_4 : decode cX3_timesIn 4 = .ok (.invokevirtual 38, 3) := by decide +kernel
theorem dX3_timesIn_7 : decode cX3_timesIn 7 = .ok (.iconst 4, 1) := by decide +kernel
theorem dX3_timesIn_8 : decode cX3_timesIn 8 = .ok (.iconst 5, 1) := by decide +kernel
theorem dX3_timesIn_9 : decode cX3_timesIn 9 = .ok (.invokevirtual 76, 3) := by decide +kernel
theorem dX3_timesIn_12 : decode cX3_timesIn 12 = .ok (.ireturn, 1) := by decide +kernel
theorem cvX3_timesIn : CV yX3_timesIn cX3_timesIn 3 (some .int) 4 2 := ⟨kw_419, kw_420, kw_10, kw_421, ⟨_, _, rfl⟩, by decide, by decide +kernel, by decide +kernel, by decide +kernel⟩
def fX3_timesIn_b0 (sh : Sh) (x0 : Nat) (x1 : Option Nat) (x2 : Int32) (d : Dt) : Option (Int32 × Dt) := bd (kc sh 5 x0) fun _ => bd (fX3_shelfOf sh d x0 x2) fun r3 => bd2 (fX3_unknownTo sh d x0 x1 r3 (4 : Int32) (5 : Int32)) fun r5 d6 => some (r5, d6)

def fX3_timesIn (sh : Sh) (d : Dt) (x0 : Nat) (x1 : Option Nat) (x2 : Int32) : Option (Int32 × Dt) := fX3_timesIn_b0 sh x0 x1 x2 d

set_option maxRecDepth 100000 in
set_option maxHeartbeats 4000000 in
theorem wX3_timesIn_b0 (C : mx p s m args meth c yX3_timesIn cX3_timesIn 3 (some .int) A D cy st) {r : Int32} {d9 : Dt} : ∀ (x0 : Nat) (x1 : Option Nat) (x2 : Int32) (d : Dt), fX3_timesIn_b0 sh x0 x1 x2 d = some (r, d9) → ∀ {H : Heap} {locs : List Loc} {ls : Array Slot}, HW A D cy sz sh d H → va_S A s.heap H locs → lv_has ls 3 [(0, .ref x0), (1, va_rf x1), (2, .int x2)] → GL p l e s m args below meth c 3 72 A D cy (some (.int r)) sz sh d9 H locs 0 ls [] := by
  have hx := C.1
  have hb := C.2.1
  intro x0 x1 x2 d hf H locs ls hw hS hl
  unfold fX3_timesIn_b0 at hf
  refine lv_aload_n hx hb dX3_timesIn_0 rfl (lv_at hl 0 rfl) ?_
  refine lq_aload_n hx hb dX3_timesIn_1 rfl (lv_at hl 1 rfl) ?_
  refine lv_aload_n hx hb dX3_timesIn_2 rfl (lv_at hl 0 rfl) ?_
  refine lv_iload_n hx hb dX3_timesIn_3 rfl (lv_at hl 2 rfl) ?_
  obtain ⟨_, h1, hf⟩ := bd_s hf
  obtain ⟨r3, h2, hf⟩ := bd_s hf
  refine cl_V0 C hw hS (tX3_shelfOf l A D cy st sz sh d x0 x2 h2) cvX3_shelfOf kw_393 (kc_k h1) ⟨(Nat.le_of_ble_eq_true rfl), (Nat.le_of_ble_eq_true rfl)⟩ hl.1 rfl (by simp [va_rf_c, cat_i, cat_l, cat_r]) dX3_timesIn_4 ⟨Nat.zero_le _, Nat.zero_le _⟩ (fun H locs hw hS => ?_)
  refine lv_iconst (v := 4) hx hb dX3_timesIn_7 (by decide) ?_
  refine lv_iconst (v := 5) hx hb dX3_timesIn_8 (by decide) ?_
  obtain ⟨r5, d6, h4, hf⟩ := bd2_s hf
  refine cl_V0 C hw hS (tX3_unknownTo l A D cy st sz sh d x0 x1 r3 (4 : Int32) (5 : Int32) h4) cvX3_unknownTo kw_422 (kc_k h1) ⟨(Nat.le_of_ble_eq_true rfl), (Nat.le_of_ble_eq_true rfl)⟩ hl.1 rfl (Nat.le_of_ble_eq_true rfl) dX3_timesIn_9 ⟨Nat.zero_le _, Nat.zero_le _⟩ (fun H locs hw hS => ?_)
  cases hf
  exact rt_i C hw hS dX3_timesIn_12

set_option maxRecDepth 100000 in
set_option maxHeartbeats 4000000 in
theorem tX3_timesIn (l : Launch) (A : Nat → Prop) (D : va_G) (cy : Nat → ClassId) (st : Nat → Nat) (sz : Nat) (sh : Sh) (d : Dt) (x0 : Nat) (x1 : Option Nat) (x2 : Int32) {r : Int32} {d9 : Dt} (hf : fX3_timesIn sh d x0 x1 x2 = some (r, d9)) : Ct l yX3_timesIn cX3_timesIn 3 (some .int) 3 72 0 0 A D cy st [.ref x0, va_rf x1, .int x2] sz sh d (some (.int r)) sz sh d9 := ct_of (by decide) (by simp [lg_sl, va_rf_c, cat_i, cat_l, cat_r]) (fun p e s m args below meth c C hw hS ls hl => wX3_timesIn_b0 C x0 x1 x2 d hf hw hS (by simpa [lv_args, va_rf_c, cat_i, cat_l, cat_r] using hl))
theorem dX0_rightsFor_0 : decode cX0_rightsFor 0 = .ok (.aload_n 0, 1) := by decide +kernel
theorem dX0_rightsFor_1 : decode cX0_rightsFor 1 = .ok (.getfield 34, 3) := by decide +kernel
theorem dX0_rightsFor_4 : decode cX0_rightsFor 4 = .ok (.iconst 2, 1) := by decide +kernel
theorem dX0_rightsFor_5 : decode cX0_rightsFor 5 = .ok (.if_icmp .ne 18, 3) := by decide +kernel
theorem dX0_rightsFor_8 : decode cX0_rightsFor 8 = .ok (.aload_n 0, 1) := by decide +kernel
theorem dX0_rightsFor_9 : decode cX0_rightsFor 9 = .ok (.getfield 37, 3) := by decide +kernel
theorem dX0_rightsFor_12 : decode cX0_rightsFor 12 = .ok (.iload_n 1, 1) := by decide +kernel
theorem dX0_rightsFor_13 : decode cX0_rightsFor 13 = .ok (.if_icmp .ne 10, 3) := by decide +kernel
theorem dX0_rightsFor_16 : decode cX0_rightsFor 16 = .ok (.aload_n 0, 1) := by decide +kernel
theorem dX0_rightsFor_17 : decode cX0_rightsFor 17 = .ok (.getfield 40, 3) := by decide +kernel
theorem dX0_rightsFor_20 : decode cX0_rightsFor 20 = .ok (.goto 4, 3) := by decide +kernel
theorem dX0_rightsFor_23 : decode cX0_rightsFor 23 = .ok (.lconst 0, 1) := by decide +kernel
theorem dX0_rightsFor_24 : decode cX0_rightsFor 24 = .ok (.lstore_n 2, 1) := by decide +kernel
theorem dX0_rightsFor_25 : decode cX0_rightsFor 25 = .ok (.aload_n 0, 1) := by decide +kernel
theorem dX0_rightsFor_26 : decode cX0_rightsFor 26 = .ok (.getfield 25, 3) := by decide +kernel
theorem dX0_rightsFor_29 : decode cX0_rightsFor 29 = .ok (.iload_n 1, 1) := by decide +kernel
theorem dX0_rightsFor_30 : decode cX0_rightsFor 30 = .ok (.if_icmp .ne 26, 3) := by decide +kernel
theorem dX0_rightsFor_33 : decode cX0_rightsFor 33 = .ok (.lload_n 2, 1) := by decide +kernel
theorem dX0_rightsFor_34 : decode cX0_rightsFor 34 = .ok (.aload_n 0, 1) := by decide +kernel
theorem dX0_rightsFor_35 : decode cX0_rightsFor 35 = .ok (.getfield 34, 3) := by decide +kernel
theorem dX0_rightsFor_38 : decode cX0_rightsFor 38 = .ok (.iconst 1, 1) := by decide +kernel
theorem dX0_rightsFor_39 : decode cX0_rightsFor 39 = .ok (.if_icmp .ne 10, 3) := by decide +kernel
theorem dX0_rightsFor_42 : decode cX0_rightsFor 42 = .ok (.aload_n 0, 1) := by decide +kernel
theorem dX0_rightsFor_43 : decode cX0_rightsFor 43 = .ok (.getfield 40, 3) := by decide +kernel
theorem dX0_rightsFor_46 : decode cX0_rightsFor 46 = .ok (.goto 8, 3) := by decide +kernel
theorem dX0_rightsFor_49 : decode cX0_rightsFor 49 = .ok (.aload_n 0, 1) := by decide +kernel
theorem dX0_rightsFor_50 : decode cX0_rightsFor 50 = .ok (.getfield 40, 3) := by decide +kernel
theorem dX0_rightsFor_53 : decode cX0_rightsFor 53 = .ok (.lneg, 1) := by decide +kernel
theorem dX0_rightsFor_54 : decode cX0_rightsFor 54 = .ok (.ladd, 1) := by decide +kernel
theorem dX0_rightsFor_55 : decode cX0_rightsFor 55 = .ok (.lstore_n 2, 1) := by decide +kernel
theorem dX0_rightsFor_56 : decode cX0_rightsFor 56 = .ok (.lload_n 2, 1) := by decide +kernel
theorem dX0_rightsFor_57 : decode cX0_rightsFor 57 = .ok (.lreturn, 1) := by decide +kernel
theorem cvX0_rightsFor : CV yX0_rightsFor cX0_rightsFor 4 (some .long) 1 1 := ⟨kw_452, kw_453, kw_11, kw_454, ⟨_, _, rfl⟩, by decide, by decide +kernel, by decide +kernel, by decide +kernel⟩
def fX0_rightsFor_b24 (sh : Sh) (d : Dt) (x0 : Nat) (x1 : Int32) (t0 : Int64) : Option (Int64) := bd (gI sh d 2 65 x0) fun v1 => if v1 = x1 then (bd (gI sh d 2 67 x0) fun v3 => if v3 = (1 : Int32) then (bd (gL sh d 2 69 x0) fun v6 => some (t0 + v6)) else (bd (gL sh d 2 69 x0) fun v5 => some (t0 + (-v5)))) else (some t0)

def fX0_rightsFor_b0 (sh : Sh) (d : Dt) (x0 : Nat) (x1 : Int32) : Option (Int64) := bd (gI sh d 2 67 x0) fun v1 => if v1 = (2 : Int32) then (bd (gI sh d 2 68 x0) fun v3 => if v3 = x1 then (bd (gL sh d 2 69 x0) fun v5 => fX0_rightsFor_b24 sh d x0 x1 v5) else (fX0_rightsFor_b24 sh d x0 x1 (0 : Int64))) else (fX0_rightsFor_b24 sh d x0 x1 (0 : Int64))

def fX0_rightsFor (sh : Sh) (d : Dt) (x0 : Nat) (x1 : Int32) : Option (Int64) := fX0_rightsFor_b0 sh d x0 x1

set_option maxRecDepth 100000 in
set_option maxHeartbeats 4000000 in
theorem wX0_rightsFor_b24 (C : mx p s m args meth c yX0_rightsFor cX0_rightsFor 4 (some .long) A D cy st) {r : Int64} {d : Dt} : ∀ (x0 : Nat) (x1 : Int32) (t0 : Int64), fX0_rightsFor_b24 sh d x0 x1 t0 = some r → ∀ {H : Heap} {locs : List Loc} {ls : Array Slot}, HW A D cy sz sh d H → va_S A s.heap H locs → lv_has ls 4 [(0, .ref x0), (1, .int x1)] → GL p l e s m args below meth c 0 0 A D cy (some (.long r)) sz sh d H locs 24 ls [.long t0] := by
  have hx := C.1
  have hb := C.2.1
  intro x0 x1 t0 hf H locs ls hw hS hl
  unfold fX0_rightsFor_b24 at hf
  refine lv_lstore_n (lv' := [(2, .long t0), (0, .ref x0), (1, .int x1)]) hx hb dX0_rightsFor_24 rfl hl (by decide) rfl (fun ls hl => ?_)
  refine lv_aload_n hx hb dX0_rightsFor_25 rfl (lv_at hl 1 rfl) ?_
  obtain ⟨v1, hv1, hf⟩ := bd_s hf
  refine gt_65 C hw hv1 kw_287 dX0_rightsFor_26 ?_
  refine lv_iload_n hx hb dX0_rightsFor_29 rfl (lv_at hl 2 rfl) ?_
  refine lv_icmp_ne (tgt := 56) hx hb dX0_rightsFor_30 (by decide) (fun c_2 => ?_) (fun c_2 => ?_)
  · have hf := if_f c_2 hf
    refine lv_lload_n hx hb dX0_rightsFor_56 rfl (lv_at hl 0 rfl) ?_
    cases hf
    exact rt_l C hw hS dX0_rightsFor_57
  · have hf := if_t c_2 hf
    refine lv_lload_n hx hb dX0_rightsFor_33 rfl (lv_at hl 0 rfl) ?_
    refine lv_aload_n hx hb dX0_rightsFor_34 rfl (lv_at hl 1 rfl) ?_
    obtain ⟨v3, hv3, hf⟩ := bd_s hf
    refine gt_67 C hw hv3 kw_293 dX0_rightsFor_35 ?_
    refine lv_iconst (v := 1) hx hb dX0_rightsFor_38 (by decide) ?_
    refine lv_icmp_ne (tgt := 49) hx hb dX0_rightsFor_39 (by decide) (fun c_4 => ?_) (fun c_4 => ?_)
    · have hf := if_f c_4 hf
      refine lv_aload_n hx hb dX0_rightsFor_49 rfl (lv_at hl 1 rfl) ?_
      obtain ⟨v5, hv5, hf⟩ := bd_s hf
      refine gt_69 C hw hv5 kw_297 dX0_rightsFor_50 ?_
      refine lv_lneg hx hb dX0_rightsFor_53 ?_
      refine lv_ladd hx hb dX0_rightsFor_54 ?_
      refine lv_lstore_n (lv' := [(2, .long (t0 + (-v5))), (0, .ref x0), (1, .int x1)]) hx hb dX0_rightsFor_55 rfl hl (by decide) rfl (fun ls hl => ?_)
      refine lv_lload_n hx hb dX0_rightsFor_56 rfl (lv_at hl 0 rfl) ?_
      cases hf
      exact rt_l C hw hS dX0_rightsFor_57
    · have hf := if_t c_4 hf
      refine lv_aload_n hx hb dX0_rightsFor_42 rfl (lv_at hl 1 rfl) ?_
      obtain ⟨v6, hv6, hf⟩ := bd_s hf
      refine gt_69 C hw hv6 kw_297 dX0_rightsFor_43 ?_
      refine lv_goto (tgt := 54) hx hb dX0_rightsFor_46 (by decide) ?_
      refine lv_ladd hx hb dX0_rightsFor_54 ?_
      refine lv_lstore_n (lv' := [(2, .long (t0 + v6)), (0, .ref x0), (1, .int x1)]) hx hb dX0_rightsFor_55 rfl hl (by decide) rfl (fun ls hl => ?_)
      refine lv_lload_n hx hb dX0_rightsFor_56 rfl (lv_at hl 0 rfl) ?_
      cases hf
      exact rt_l C hw hS dX0_rightsFor_57

set_option maxRecDepth 100000 in
set_option maxHeartbeats 4000000 in
theorem wX0_rightsFor_b0 (C : mx p s m args meth c yX0_rightsFor cX0_rightsFor 4 (some .long) A D cy st) {r : Int64} {d : Dt} : ∀ (x0 : Nat) (x1 : Int32), fX0_rightsFor_b0 sh d x0 x1 = some r → ∀ {H : Heap} {locs : List Loc} {ls : Array Slot}, HW A D cy sz sh d H → va_S A s.heap H locs → lv_has ls 4 [(0, .ref x0), (1, .int x1)] → GL p l e s m args below meth c 0 0 A D cy (some (.long r)) sz sh d H locs 0 ls [] := by
  have hx := C.1
  have hb := C.2.1
  intro x0 x1 hf H locs ls hw hS hl
  unfold fX0_rightsFor_b0 at hf
  refine lv_aload_n hx hb dX0_rightsFor_0 rfl (lv_at hl 0 rfl) ?_
  obtain ⟨v1, hv1, hf⟩ := bd_s hf
  refine gt_67 C hw hv1 kw_293 dX0_rightsFor_1 ?_
  refine lv_iconst (v := 2) hx hb dX0_rightsFor_4 (by decide) ?_
  refine lv_icmp_ne (tgt := 23) hx hb dX0_rightsFor_5 (by decide) (fun c_2 => ?_) (fun c_2 => ?_)
  · have hf := if_f c_2 hf
    refine lv_lconst (v := 0) hx hb dX0_rightsFor_23 (by decide) ?_
    exact wX0_rightsFor_b24 C x0 x1 (0 : Int64) hf hw hS (lv_sub hl [0, 1] rfl)
  · have hf := if_t c_2 hf
    refine lv_aload_n hx hb dX0_rightsFor_8 rfl (lv_at hl 0 rfl) ?_
    obtain ⟨v3, hv3, hf⟩ := bd_s hf
    refine gt_68 C hw hv3 kw_295 dX0_rightsFor_9 ?_
    refine lv_iload_n hx hb dX0_rightsFor_12 rfl (lv_at hl 1 rfl) ?_
    refine lv_icmp_ne (tgt := 23) hx hb dX0_rightsFor_13 (by decide) (fun c_4 => ?_) (fun c_4 => ?_)
    · have hf := if_f c_4 hf
      refine lv_lconst (v := 0) hx hb dX0_rightsFor_23 (by decide) ?_
      exact wX0_rightsFor_b24 C x0 x1 (0 : Int64) hf hw hS (lv_sub hl [0, 1] rfl)
    · have hf := if_t c_4 hf
      refine lv_aload_n hx hb dX0_rightsFor_16 rfl (lv_at hl 0 rfl) ?_
      obtain ⟨v5, hv5, hf⟩ := bd_s hf
      refine gt_69 C hw hv5 kw_297 dX0_rightsFor_17 ?_
      refine lv_goto (tgt := 24) hx hb dX0_rightsFor_20 (by decide) ?_
      exact wX0_rightsFor_b24 C x0 x1 v5 hf hw hS (lv_sub hl [0, 1] rfl)

set_option maxRecDepth 100000 in
set_option maxHeartbeats 4000000 in
theorem tX0_rightsFor (l : Launch) (A : Nat → Prop) (D : va_G) (cy : Nat → ClassId) (st : Nat → Nat) (sz : Nat) (sh : Sh) (d : Dt) (x0 : Nat) (x1 : Int32) {r : Int64} (hf : fX0_rightsFor sh d x0 x1 = some r) : Ct l yX0_rightsFor cX0_rightsFor 4 (some .long) 0 0 0 0 A D cy st [.ref x0, .int x1] sz sh d (some (.long r)) sz sh d := ct_of (by decide) (Nat.le_of_ble_eq_true rfl) (fun p e s m args below meth c C hw hS ls hl => wX0_rightsFor_b0 C x0 x1 hf hw hS hl)
theorem dX3_rightsOf_0 : decode cX3_rightsOf 0 = .ok (.lconst 0, 1) := by decide +kernel
theorem dX3_rightsOf_1 : decode cX3_rightsOf 1 = .ok (.lstore_n 3, 1) := by decide +kernel
theorem dX3_rightsOf_2 : decode cX3_rightsOf 2 = .ok (.aload_n 0, 1) := by decide +kernel
theorem dX3_rightsOf_3 : decode cX3_rightsOf 3 = .ok (.getfield 27, 3) := by decide +kernel
theorem dX3_rightsOf_6 : decode cX3_rightsOf 6 = .ok (.iconst 0, 1) := by decide +kernel
theorem dX3_rightsOf_7 : decode cX3_rightsOf 7 = .ok (.aaload, 1) := by decide +kernel
theorem dX3_rightsOf_8 : decode cX3_rightsOf 8 = .ok (.astore 5, 2) := by decide +kernel
theorem dX3_rightsOf_10 : decode cX3_rightsOf 10 = .ok (.aload 5, 2) := by decide +kernel
theorem dX3_rightsOf_12 : decode cX3_rightsOf 12 = .ok (.ifnull 31, 3) := by decide +kernel
theorem dX3_rightsOf_15 : decode cX3_rightsOf 15 = .ok (.aload_n 1, 1) := by decide +kernel
theorem dX3_rightsOf_16 : decode cX3_rightsOf 16 = .ok (.aload 5, 2) := by decide +kernel
theorem dX3_rightsOf_18 : decode cX3_rightsOf 18 = .ok (.invokevirtual 42, 3) := by decide +kernel
theorem dX3_rightsOf_21 : decode cX3_rightsOf 21 = .ok (.ifCond .eq 12, 3) := by decide +kernel
theorem dX3_rightsOf_24 : decode cX3_rightsOf 24 = .ok (.lload_n 3, 1) := by decide +kernel
theorem dX3_rightsOf_25 : decode cX3_rightsOf 25 = .ok (.aload 5, 2) := by decide +kernel
theorem dX3_rightsOf_27 : decode cX3_rightsOf 27 = .ok (.iload_n 2, 1) := by decide +kernel
theorem dX3_rightsOf_28 : decode cX3_rightsOf 28 = .ok (.invokevirtual 60, 3) := by decide +kernel
theorem dX3_rightsOf_31 : decode cX3_rightsOf 31 = .ok (.ladd, 1) := by decide +kernel
theorem dX3_rightsOf_32 : decode cX3_rightsOf 32 = .ok (.lstore_n 3, 1) := by decide +kernel
theorem dX3_rightsOf_33 : decode cX3_rightsOf 33 = .ok (.aload 5, 2) := by decide +kernel
theorem dX3_rightsOf_35 : decode cX3_rightsOf 35 = .ok (.getfield 49, 3) := by decide +kernel
theorem dX3_rightsOf_38 : decode cX3_rightsOf 38 = .ok (.astore 5, 2) := by decide +kernel
theorem dX3_rightsOf_40 : decode cX3_rightsOf 40 = .ok (.goto (-30), 3) := by decide +kernel
theorem dX3_rightsOf_43 : decode cX3_rightsOf 43 = .ok (.lload_n 3, 1) := by decide +kernel
theorem dX3_rightsOf_44 : decode cX3_rightsOf 44 = .ok (.lreturn, 1) := by decide +kernel
theorem cvX3_rightsOf : CV yX3_rightsOf cX3_rightsOf 6 (some .long) 4 2 := ⟨kw_448, kw_449, kw_10, kw_450, ⟨_, _, rfl⟩, by decide, by decide +kernel, by decide +kernel, by decide +kernel⟩
def fX3_rightsOf_b10 (sh : Sh) (d : Dt) : Nat → Option Nat → Int32 → Int64 → Option Nat → Option (Int64)
  | 0, _, _, _, _ => none
  | n + 1, x1, x2, x3, x5 => on x5 (some x3) (fun a1 => bd x1 fun a2 => bd (kc sh 6 a2) fun _ => bd (fX4_holds sh d a2 (some a1)) fun r5 => if (bI r5) = 0 then (bd (gR sh d 2 73 a1) fun v7 => fX3_rightsOf_b10 sh d n (some a2) x2 x3 v7) else (bd (kc sh 2 a1) fun _ => bd (fX0_rightsFor sh d a1 x2) fun r10 => bd (gR sh d 2 73 a1) fun v11 => fX3_rightsOf_b10 sh d n (some a2) x2 (x3 + r10) v11))

def fX3_rightsOf_b0 (sh : Sh) (d : Dt) (x0 : Nat) (x1 : Option Nat) (x2 : Int32) : Option (Int64) := bd (gR sh d 5 162 x0) fun v1 => bd v1 fun a2 => bd (aR sh d 23 a2 (0 : Int32)) fun v3 => fX3_rightsOf_b10 sh d fu x1 x2 (0 : Int64) v3

def fX3_rightsOf (sh : Sh) (d : Dt) (x0 : Nat) (x1 : Option Nat) (x2 : Int32) : Option (Int64) := fX3_rightsOf_b0 sh d x0 x1 x2

set_option maxRecDepth 100000 in
set_option maxHeartbeats 4000000 in
theorem wX3_rightsOf_b10 (C : mx p s m args meth c yX3_rightsOf cX3_rightsOf 6 (some .long) A D cy st) {r : Int64} {d : Dt} : ∀ (n : Nat) (x1 : Option Nat) (x2 : Int32) (x3 : Int64) (x5 : Option Nat), fX3_rightsOf_b10 sh d n x1 x2 x3 x5 = some r → ∀ {H : Heap} {locs : List Loc} {ls : Array Slot}, HW A D cy sz sh d H → va_S A s.heap H locs → lv_has ls 6 [(1, va_rf x1), (2, .int x2), (3, .long x3), (5, va_rf x5)] → GL p l e s m args below meth c 1 23 A D cy (some (.long r)) sz sh d H locs 10 ls [] := by
  have hx := C.1
  have hb := C.2.1
  intro n
  induction n with
  | zero => intro x1 x2 x3 x5 hf; cases hf
  | succ n ih =>
    intro x1 x2 x3 x5 hf H locs ls hw hS hl
    rw [fX3_rightsOf_b10] at hf
    refine lq_aload hx hb dX3_rightsOf_10 (lv_at hl 3 rfl) ?_
    cases x5 with
    | none =>
      have hf := on_n hf
      refine lv_ifnullN (tgt := 43) hx hb dX3_rightsOf_12 (by decide) ?_
      refine lv_lload_n hx hb dX3_rightsOf_43 rfl (lv_at hl 2 rfl) ?_
      cases hf
      exact rt_l C hw hS dX3_rightsOf_44
    | some a1 =>
      have hf := on_s hf
      refine lv_ifnull hx hb dX3_rightsOf_12 ?_
      refine lq_aload_n hx hb dX3_rightsOf_15 rfl (lv_at hl 0 rfl) ?_
      refine lq_aload hx hb dX3_rightsOf_16 (lv_at hl 3 rfl) ?_
      obtain ⟨a2, ea2, hg⟩ := bd_s hf
      clear hf
      subst ea2
      have hf := hg
      clear hg
      obtain ⟨_, h3, hf⟩ := bd_s hf
      obtain ⟨r5, h4, hf⟩ := bd_s hf
      refine cl_V0 C hw hS (tX4_holds l A D cy st sz sh d a2 (some a1) h4) cvX4_holds kw_434 (kc_k h3) ⟨(Nat.le_of_ble_eq_true rfl), (Nat.le_of_ble_eq_true rfl)⟩ hl.1 rfl (Nat.le_of_ble_eq_true rfl) dX3_rightsOf_18 ⟨Nat.zero_le _, Nat.zero_le _⟩ (fun H locs hw hS => ?_)
      refine lv_if_eq (tgt := 33) hx hb dX3_rightsOf_21 (by decide) (fun c_6 => ?_) (fun c_6 => ?_)
      · have hf := if_t c_6 hf
        refine lq_aload hx hb dX3_rightsOf_33 (lv_at hl 3 rfl) ?_
        obtain ⟨v7, hv7, hf⟩ := bd_s hf
        refine gt_73 C hw hv7 kw_311 dX3_rightsOf_35 ?_
        refine lq_astore (x := v7) (lv' := [(5, va_rf v7), (1, va_rf (some a2)), (2, .int x2), (3, .long x3)]) hx hb dX3_rightsOf_38 hl (by decide) rfl (fun ls hl => ?_)
        refine lv_goto (tgt := 10) hx hb dX3_rightsOf_40 (by decide) ?_
        exact ih (some a2) x2 x3 v7 hf hw hS (lv_sub hl [1, 2, 3, 0] rfl)
      · have hf := if_f c_6 hf
        refine lv_lload_n hx hb dX3_rightsOf_24 rfl (lv_at hl 2 rfl) ?_
        refine lq_aload hx hb dX3_rightsOf_25 (lv_at hl 3 rfl) ?_
        refine lv_iload_n hx hb dX3_rightsOf_27 rfl (lv_at hl 1 rfl) ?_
        obtain ⟨_, h8, hf⟩ := bd_s hf
        obtain ⟨r10, h9, hf⟩ := bd_s hf
        refine cl_V0 C hw hS (tX0_rightsFor l A D cy st sz sh d a1 x2 h9) cvX0_rightsFor kw_451 (kc_k h8) ⟨(Nat.le_of_ble_eq_true rfl), (Nat.le_of_ble_eq_true rfl)⟩ hl.1 rfl (Nat.le_of_ble_eq_true rfl) dX3_rightsOf_28 ⟨Nat.zero_le _, Nat.zero_le _⟩ (fun H locs hw hS => ?_)
        refine lv_ladd hx hb dX3_rightsOf_31 ?_
        refine lv_lstore_n (lv' := [(3, .long (x3 + r10)), (1, va_rf (some a2)), (2, .int x2), (5, va_rf (some a1))]) hx hb dX3_rightsOf_32 rfl hl (by decide) rfl (fun ls hl => ?_)
        refine lq_aload hx hb dX3_rightsOf_33 (lv_at hl 3 rfl) ?_
        obtain ⟨v11, hv11, hf⟩ := bd_s hf
        refine gt_73 C hw hv11 kw_311 dX3_rightsOf_35 ?_
        refine lq_astore (x := v11) (lv' := [(5, va_rf v11), (3, .long (x3 + r10)), (1, va_rf (some a2)), (2, .int x2)]) hx hb dX3_rightsOf_38 hl (by decide) rfl (fun ls hl => ?_)
        refine lv_goto (tgt := 10) hx hb dX3_rightsOf_40 (by decide) ?_
        exact ih (some a2) x2 (x3 + r10) v11 hf hw hS (lv_sub hl [2, 3, 1, 0] rfl)

set_option maxRecDepth 100000 in
set_option maxHeartbeats 4000000 in
theorem wX3_rightsOf_b0 (C : mx p s m args meth c yX3_rightsOf cX3_rightsOf 6 (some .long) A D cy st) {r : Int64} {d : Dt} : ∀ (x0 : Nat) (x1 : Option Nat) (x2 : Int32), fX3_rightsOf_b0 sh d x0 x1 x2 = some r → ∀ {H : Heap} {locs : List Loc} {ls : Array Slot}, HW A D cy sz sh d H → va_S A s.heap H locs → lv_has ls 6 [(0, .ref x0), (1, va_rf x1), (2, .int x2)] → GL p l e s m args below meth c 1 23 A D cy (some (.long r)) sz sh d H locs 0 ls [] := by
  have hx := C.1
  have hb := C.2.1
  intro x0 x1 x2 hf H locs ls hw hS hl
  unfold fX3_rightsOf_b0 at hf
  refine lv_lconst (v := 0) hx hb dX3_rightsOf_0 (by decide) ?_
  refine lv_lstore_n (lv' := [(3, .long (0 : Int64)), (0, .ref x0), (1, va_rf x1), (2, .int x2)]) hx hb dX3_rightsOf_1 rfl hl (by decide) rfl (fun ls hl => ?_)
  refine lv_aload_n hx hb dX3_rightsOf_2 rfl (lv_at hl 1 rfl) ?_
  obtain ⟨v1, hv1, hf⟩ := bd_s hf
  refine gt_162 C hw hv1 kw_200 dX3_rightsOf_3 ?_
  refine lv_iconst (v := 0) hx hb dX3_rightsOf_6 (by decide) ?_
  obtain ⟨a2, ea2, hg⟩ := bd_s hf
  clear hf
  subst ea2
  have hf := hg
  clear hg
  obtain ⟨v3, hv3, hf⟩ := bd_s hf
  refine w_aald C hw 3 rfl (by decide) rfl hv3 dX3_rightsOf_7 ?_
  refine lq_astore (x := v3) (lv' := [(5, va_rf v3), (3, .long (0 : Int64)), (0, .ref x0), (1, va_rf x1), (2, .int x2)]) hx hb dX3_rightsOf_8 hl (by decide) rfl (fun ls hl => ?_)
  exact wX3_rightsOf_b10 C fu x1 x2 (0 : Int64) v3 hf hw hS (lv_sub hl [3, 4, 1, 0] rfl)

set_option maxRecDepth 100000 in
set_option maxHeartbeats 4000000 in
theorem tX3_rightsOf (l : Launch) (A : Nat → Prop) (D : va_G) (cy : Nat → ClassId) (st : Nat → Nat) (sz : Nat) (sh : Sh) (d : Dt) (x0 : Nat) (x1 : Option Nat) (x2 : Int32) {r : Int64} (hf : fX3_rightsOf sh d x0 x1 x2 = some r) : Ct l yX3_rightsOf cX3_rightsOf 6 (some .long) 1 23 0 0 A D cy st [.ref x0, va_rf x1, .int x2] sz sh d (some (.long r)) sz sh d := ct_of (by decide) (by simp [lg_sl, va_rf_c, cat_i, cat_l, cat_r]) (fun p e s m args below meth c C hw hS ls hl => wX3_rightsOf_b0 C x0 x1 x2 hf hw hS (by simpa [lv_args, va_rf_c, cat_i, cat_l, cat_r] using hl))
theorem dX4_size_0 : decode cX4_size 0 = .ok (.iconst 0, 1) := by decide +kernel
theorem dX4_size_1 : decode cX4_size 1 = .ok (.istore_n 1, 1) := by decide +kernel
theorem dX4_size_2 : decode cX4_size 2 = .ok (.iconst 0, 1) := by decide +kernel
theorem dX4_size_3 : decode cX4_size 3 = .ok (.istore_n 2, 1) := by decide +kernel
theorem dX4_size_4 : decode cX4_size 4 = .ok (.iload_n 2, 1) := by decide +kernel
theorem dX4_size_5 : decode cX4_size 5 = .ok (.bipush 6, 2) := by decide +kernel
theorem dX4_size_7 : decode cX4_size 7 = .ok (.if_icmp .ge 18, 3) := by decide +kernel
theorem dX4_size_10 : decode cX4_size 10 = .ok (.iload_n 1, 1) := by decide +kernel
theorem dX4_size_11 : decode cX4_size 11 = .ok (.aload_n 0, 1) := by decide +kernel
theorem dX4_size_12 : decode cX4_size 12 = .ok (.getfield 9, 3) := by decide +kernel
theorem dX4_size_15 : decode cX4_size 15 = .ok (.iload_n 2, 1) := by decide +kernel
theorem dX4_size_16 : decode cX4_size 16 = .ok (.iaload, 1) := by decide +kernel
theorem dX4_size_17 : decode cX4_size 17 = .ok (.iadd, 1) := by decide +kernel
theorem dX4_size_18 : decode cX4_size 18 = .ok (.istore_n 1, 1) := by decide +kernel
theorem dX4_size_19 : decode cX4_size 19 = .ok (.iinc 2 1, 3) := by decide +kernel
theorem dX4_size_22 : decode cX4_size 22 = .ok (.goto (-18), 3) := by decide +kernel
theorem dX4_size_25 : decode cX4_size 25 = .ok (.iload_n 1, 1) := by decide +kernel
theorem dX4_size_26 : decode cX4_size 26 = .ok (.ireturn, 1) := by decide +kernel
theorem cvX4_size : CV yX4_size cX4_size 3 (some .int) 5 0 := ⟨kw_486, kw_487, kw_8, kw_488, ⟨_, _, rfl⟩, by decide, by decide +kernel, by decide +kernel, by decide +kernel⟩
def fX4_size_b4 (sh : Sh) (d : Dt) : Nat → Nat → Int32 → Int32 → Option (Int32)
  | 0, _, _, _ => none
  | n + 1, x0, x1, x2 => if (6 : Int32) ≤ x2 then (some x1) else (bd (gR sh d 6 192 x0) fun v2 => bd v2 fun a3 => bd (aI sh d 20 a3 x2) fun v4 => fX4_size_b4 sh d n x0 (x1 + v4) (x2 + 1))

def fX4_size_b0 (sh : Sh) (d : Dt) (x0 : Nat) : Option (Int32) := fX4_size_b4 sh d fu x0 (0 : Int32) (0 : Int32)

def fX4_size (sh : Sh) (d : Dt) (x0 : Nat) : Option (Int32) := fX4_size_b0 sh d x0

set_option maxRecDepth 100000 in
set_option maxHeartbeats 4000000 in
theorem wX4_size_b4 (C : mx p s m args meth c yX4_size cX4_size 3 (some .int) A D cy st) {r : Int32} {d : Dt} : ∀ (n : Nat) (x0 : Nat) (x1 : Int32) (x2 : Int32), fX4_size_b4 sh d n x0 x1 x2 = some r → ∀ {H : Heap} {locs : List Loc} {ls : Array Slot}, HW A D cy sz sh d H → va_S A s.heap H locs → lv_has ls 3 [(0, .ref x0), (1, .int x1), (2, .int x2)] → GL p l e s m args below meth c 0 0 A D cy (some (.int r)) sz sh d H locs 4 ls [] := by
  have hx := C.1
  have hb := C.2.1
  intro n
  induction n with
  | zero => intro x0 x1 x2 hf; cases hf
  | succ n ih =>
    intro x0 x1 x2 hf H locs ls hw hS hl
    rw [fX4_size_b4] at hf
    refine lv_iload_n hx hb dX4_size_4 rfl (lv_at hl 2 rfl) ?_
    refine lv_bipush (v := 6) hx hb dX4_size_5 (by decide) ?_
    refine lv_icmp_ge (tgt := 25) hx hb dX4_size_7 (by decide) (fun c_1 => ?_) (fun c_1 => ?_)
    · have hf := if_t c_1 hf
      refine lv_iload_n hx hb dX4_size_25 rfl (lv_at hl 1 rfl) ?_
      cases hf
      exact rt_i C hw hS dX4_size_26
    · have hf := if_f c_1 hf
      refine lv_iload_n hx hb dX4_size_10 rfl (lv_at hl 1 rfl) ?_
      refine lv_aload_n hx hb dX4_size_11 rfl (lv_at hl 0 rfl) ?_
      obtain ⟨v2, hv2, hf⟩ := bd_s hf
      refine gt_192 C hw hv2 kw_122 dX4_size_12 ?_
      refine lv_iload_n hx hb dX4_size_15 rfl (lv_at hl 2 rfl) ?_
      obtain ⟨a3, ea3, hg⟩ := bd_s hf
      clear hf
      subst ea3
      have hf := hg
      clear hg
      obtain ⟨v4, hv4, hf⟩ := bd_s hf
      refine w_iald C hw hv4 dX4_size_16 ?_
      refine lv_iadd hx hb dX4_size_17 ?_
      refine lv_istore_n (lv' := [(1, .int (x1 + v4)), (0, .ref x0), (2, .int x2)]) hx hb dX4_size_18 rfl hl (by decide) rfl (fun ls hl => ?_)
      refine lv_iinc (v := (x2 + 1)) (lv' := [(2, .int (x2 + 1)), (1, .int (x1 + v4)), (0, .ref x0)]) hx hb dX4_size_19 hl (k := 2) rfl rfl (by decide) rfl (fun ls hl => ?_)
      refine lv_goto (tgt := 4) hx hb dX4_size_22 (by decide) ?_
      exact ih x0 (x1 + v4) (x2 + 1) hf hw hS (lv_sub hl [2, 1, 0] rfl)

set_option maxRecDepth 100000 in
set_option maxHeartbeats 4000000 in
theorem wX4_size_b0 (C : mx p s m args meth c yX4_size cX4_size 3 (some .int) A D cy st) {r : Int32} {d : Dt} : ∀ (x0 : Nat), fX4_size_b0 sh d x0 = some r → ∀ {H : Heap} {locs : List Loc} {ls : Array Slot}, HW A D cy sz sh d H → va_S A s.heap H locs → lv_has ls 3 [(0, .ref x0)] → GL p l e s m args below meth c 0 0 A D cy (some (.int r)) sz sh d H locs 0 ls [] := by
  have hx := C.1
  have hb := C.2.1
  intro x0 hf H locs ls hw hS hl
  unfold fX4_size_b0 at hf
  refine lv_iconst (v := 0) hx hb dX4_size_0 (by decide) ?_
  refine lv_istore_n (lv' := [(1, .int (0 : Int32)), (0, .ref x0)]) hx hb dX4_size_1 rfl hl (by decide) rfl (fun ls hl => ?_)
  refine lv_iconst (v := 0) hx hb dX4_size_2 (by decide) ?_
  refine lv_istore_n (lv' := [(2, .int (0 : Int32)), (1, .int (0 : Int32)), (0, .ref x0)]) hx hb dX4_size_3 rfl hl (by decide) rfl (fun ls hl => ?_)
  exact wX4_size_b4 C fu x0 (0 : Int32) (0 : Int32) hf hw hS (lv_sub hl [2, 1, 0] rfl)

set_option maxRecDepth 100000 in
set_option maxHeartbeats 4000000 in
theorem tX4_size (l : Launch) (A : Nat → Prop) (D : va_G) (cy : Nat → ClassId) (st : Nat → Nat) (sz : Nat) (sh : Sh) (d : Dt) (x0 : Nat) {r : Int32} (hf : fX4_size sh d x0 = some r) : Ct l yX4_size cX4_size 3 (some .int) 0 0 0 0 A D cy st [.ref x0] sz sh d (some (.int r)) sz sh d := ct_of (by decide) (Nat.le_of_ble_eq_true rfl) (fun p e s m args below meth c C hw hS ls hl => wX4_size_b0 C x0 hf hw hS hl)
theorem dX1_awaits_0 : decode cX1_awaits 0 = .ok (.iconst 0, 1) := by decide +kernel
theorem dX1_awaits_1 : decode cX1_awaits 1 = .ok (.istore_n 2, 1) := by decide +kernel
theorem dX1_awaits_2 : decode cX1_awaits 2 = .ok (.iload_n 2, 1) := by decide +kernel
theorem dX1_awaits_3 : decode cX1_awaits 3 = .ok (.aload_n 0, 1) := by decide +kernel
theorem dX1_awaits_4 : decode cX1_awaits 4 = .ok (.getfield 25, 3) := by decide +kernel
theorem dX1_awaits_7 : decode cX1_awaits 7 = .ok (.invokevirtual 47, 3) := by decide +kernel
theorem dX1_awaits_10 : decode cX1_awaits 10 = .ok (.if_icmp .ge 32, 3) := by decide +kernel
theorem dX1_awaits_13 : decode cX1_awaits 13 = .ok (.aload_n 0, 1) := by decide +kernel
theorem dX1_awaits_14 : decode cX1_awaits 14 = .ok (.getfield 25, 3) := by decide +kernel
theorem dX1_awaits_17 : decode cX1_awaits 17 = .ok (.iload_n 2, 1) := by decide +kernel
theorem dX1_awaits_18 : decode cX1_awaits 18 = .ok (.invokevirtual 51, 3) := by decide +kernel
theorem dX1_awaits_21 : decode cX1_awaits 21 = .ok (.checkcast 55, 3) := by decide +kernel
theorem dX1_awaits_24 : decode cX1_awaits 24 = .ok (.getfield 75, 3) := by decide +kernel
theorem dX1_awaits_27 : decode cX1_awaits 27 = .ok (.aload_n 1, 1) := by decide +kernel
theorem dX1_awaits_28 : decode cX1_awaits 28 = .ok (.getfield 75, 3) := by decide +kernel
theorem dX1_awaits_31 : decode cX1_awaits 31 = .ok (.if_icmp .ne 5, 3) := by decide +kernel
theorem dX1_awaits_34 : decode cX1_awaits 34 = .ok (.iconst 1, 1) := by decide +kernel
theorem dX1_awaits_35 : decode cX1_awaits 35 = .ok (.ireturn, 1) := by decide +kernel
theorem dX1_awaits_36 : decode cX1_awaits 36 = .ok (.iinc 2 1, 3) := by decide +kernel
theorem dX1_awaits_39 : decode cX1_awaits 39 = .ok (.goto (-37), 3) := by decide +kernel
theorem dX1_awaits_42 : decode cX1_awaits 42 = .ok (.iconst 0, 1) := by decide +kernel
theorem dX1_awaits_43 : decode cX1_awaits 43 = .ok (.ireturn, 1) := by decide +kernel
theorem cvX1_awaits : CV yX1_awaits cX1_awaits 3 (some .boolean) 2 1 := ⟨kw_507, kw_508, kw_7, kw_509, ⟨_, _, rfl⟩, by decide, by decide +kernel, by decide +kernel, by decide +kernel⟩
def fX1_awaits_b2 (sh : Sh) (d : Dt) : Nat → Nat → Option Nat → Int32 → Option (Bool)
  | 0, _, _, _ => none
  | n + 1, x0, x1, x2 => bd (gR sh d 3 99 x0) fun v1 => bd v1 fun a2 => bd (kc sh 1 a2) fun _ => bd (fJx4a65c_size_8abf5 sh d a2) fun r5 => if r5 ≤ x2 then (some false) else (bd (gR sh d 3 99 x0) fun v7 => bd v7 fun a8 => bd (kc sh 1 a8) fun _ => bd (fJx4a65c_get_915e3 sh d a8 x2) fun r11 => bd (cst sh 2 r11) fun _ => bd r11 fun a13 => bd (gI sh d 2 64 a13) fun v14 => bd x1 fun a15 => bd (gI sh d 2 64 a15) fun v16 => if v14 = v16 then (some true) else (fX1_awaits_b2 sh d n x0 (some a15) (x2 + 1)))

def fX1_awaits_b0 (sh : Sh) (d : Dt) (x0 : Nat) (x1 : Option Nat) : Option (Bool) := fX1_awaits_b2 sh d fu x0 x1 (0 : Int32)

def fX1_awaits (sh : Sh) (d : Dt) (x0 : Nat) (x1 : Option Nat) : Option (Bool) := fX1_awaits_b0 sh d x0 x1

set_option maxRecDepth 100000 in
set_option maxHeartbeats 4000000 in
theorem wX1_awaits_b2 (C : mx p s m args meth c yX1_awaits cX1_awaits 3 (some .boolean) A D cy st) {r : Bool} {d : Dt} : ∀ (n : Nat) (x0 : Nat) (x1 : Option Nat) (x2 : Int32), fX1_awaits_b2 sh d n x0 x1 x2 = some r → ∀ {H : Heap} {locs : List Loc} {ls : Array Slot}, HW A D cy sz sh d H → va_S A s.heap H locs → lv_has ls 3 [(0, .ref x0), (1, va_rf x1), (2, .int x2)] → GL p l e s m args below meth c 3 64 A D cy (some (.int (bI r))) sz sh d H locs 2 ls [] := by
  have hx := C.1
  have hb := C.2.1
  intro n
  induction n with
  | zero => intro x0 x1 x2 hf; cases hf
  | succ n ih =>
    intro x0 x1 x2 hf H locs ls hw hS hl
    rw [fX1_awaits_b2] at hf
    refine lv_iload_n hx hb dX1_awaits_2 rfl (lv_at hl 2 rfl) ?_
    refine lv_aload_n hx hb dX1_awaits_3 rfl (lv_at hl 0 rfl) ?_
    obtain ⟨v1, hv1, hf⟩ := bd_s hf
    refine gt_99 C hw hv1 kw_157 dX1_awaits_4 ?_
    obtain ⟨a2, ea2, hg⟩ := bd_s hf
    clear hf
    subst ea2
    have hf := hg
    clear hg
    obtain ⟨_, h3, hf⟩ := bd_s hf
    obtain ⟨r5, h4, hf⟩ := bd_s hf
    refine cl_V0 C hw hS (tJx4a65c_size_8abf5 l A D cy st sz sh d a2 h4) cvJx4a65c_size_8abf5 kw_253 (kc_k h3) ⟨(Nat.le_of_ble_eq_true rfl), (Nat.le_of_ble_eq_true rfl)⟩ hl.1 rfl (Nat.le_of_ble_eq_true rfl) dX1_awaits_7 ⟨Nat.zero_le _, Nat.zero_le _⟩ (fun H locs hw hS => ?_)
    refine lv_icmp_ge (tgt := 42) hx hb dX1_awaits_10 (by decide) (fun c_6 => ?_) (fun c_6 => ?_)
    · have hf := if_t c_6 hf
      refine lv_iconst (v := 0) hx hb dX1_awaits_42 (by decide) ?_
      cases hf
      exact rt_z C hw hS _ rfl dX1_awaits_43
    · have hf := if_f c_6 hf
      refine lv_aload_n hx hb dX1_awaits_13 rfl (lv_at hl 0 rfl) ?_
      obtain ⟨v7, hv7, hf⟩ := bd_s hf
      refine gt_99 C hw hv7 kw_157 dX1_awaits_14 ?_
      refine lv_iload_n hx hb dX1_awaits_17 rfl (lv_at hl 2 rfl) ?_
      obtain ⟨a8, ea8, hg⟩ := bd_s hf
      clear hf
      subst ea8
      have hf := hg
      clear hg
      obtain ⟨_, h9, hf⟩ := bd_s hf
      obtain ⟨r11, h10, hf⟩ := bd_s hf
      refine cl_V0 C hw hS (tJx4a65c_get_915e3 l A D cy st sz sh d a8 x2 h10) cvJx4a65c_get_915e3 kw_510 (kc_k h9) ⟨(Nat.le_of_ble_eq_true rfl), (Nat.le_of_ble_eq_true rfl)⟩ hl.1 rfl (Nat.le_of_ble_eq_true rfl) dX1_awaits_18 ⟨Nat.zero_le _, Nat.zero_le _⟩ (fun H locs hw hS => ?_)
      obtain ⟨uh12, h12, hf⟩ := bd_s hf
      refine w_cast (ci := 1) (v := r11) C hw rfl (by decide) h12 kw_511 (by decide +kernel) dX1_awaits_21 ?_
      obtain ⟨a13, ea13, hg⟩ := bd_s hf
      clear hf
      subst ea13
      have hf := hg
      clear hg
      obtain ⟨v14, hv14, hf⟩ := bd_s hf
      refine gt_64 C hw hv14 kw_284 dX1_awaits_24 ?_
      refine lq_aload_n hx hb dX1_awaits_27 rfl (lv_at hl 1 rfl) ?_
      obtain ⟨a15, ea15, hg⟩ := bd_s hf
      clear hf
      subst ea15
      have hf := hg
      clear hg
      obtain ⟨v16, hv16, hf⟩ := bd_s hf
      refine gt_64 C hw hv16 kw_284 dX1_awaits_28 ?_
      refine lv_icmp_ne (tgt := 36) hx hb dX1_awaits_31 (by decide) (fun c_17 => ?_) (fun c_17 => ?_)
      · have hf := if_f c_17 hf
        refine lv_iinc (v := (x2 + 1)) (lv' := [(2, .int (x2 + 1)), (0, .ref x0), (1, va_rf (some a15))]) hx hb dX1_awaits_36 hl (k := 2) rfl rfl (by decide) (by simp [va_rf_c, cat_i, cat_l, cat_r]) (fun ls hl => ?_)
        refine lv_goto (tgt := 2) hx hb dX1_awaits_39 (by decide) ?_
        exact ih x0 (some a15) (x2 + 1) hf hw hS (lv_sub hl [1, 2, 0] rfl)
      · have hf := if_t c_17 hf
        refine lv_iconst (v := 1) hx hb dX1_awaits_34 (by decide) ?_
        cases hf
        exact rt_z C hw hS _ rfl dX1_awaits_35

set_option maxRecDepth 100000 in
set_option maxHeartbeats 4000000 in
theorem wX1_awaits_b0 (C : mx p s m args meth c yX1_awaits cX1_awaits 3 (some .boolean) A D cy st) {r : Bool} {d : Dt} : ∀ (x0 : Nat) (x1 : Option Nat), fX1_awaits_b0 sh d x0 x1 = some r → ∀ {H : Heap} {locs : List Loc} {ls : Array Slot}, HW A D cy sz sh d H → va_S A s.heap H locs → lv_has ls 3 [(0, .ref x0), (1, va_rf x1)] → GL p l e s m args below meth c 3 64 A D cy (some (.int (bI r))) sz sh d H locs 0 ls [] := by
  have hx := C.1
  have hb := C.2.1
  intro x0 x1 hf H locs ls hw hS hl
  unfold fX1_awaits_b0 at hf
  refine lv_iconst (v := 0) hx hb dX1_awaits_0 (by decide) ?_
  refine lv_istore_n (i := 2) (lv' := [(2, .int (0 : Int32)), (0, .ref x0), (1, va_rf x1)]) hx hb dX1_awaits_1 rfl hl (by decide) (by simp [va_rf_c, cat_i, cat_l, cat_r]) (fun ls hl => ?_)
  exact wX1_awaits_b2 C fu x0 x1 (0 : Int32) hf hw hS (lv_sub hl [1, 2, 0] rfl)

set_option maxRecDepth 100000 in
set_option maxHeartbeats 4000000 in
theorem tX1_awaits (l : Launch) (A : Nat → Prop) (D : va_G) (cy : Nat → ClassId) (st : Nat → Nat) (sz : Nat) (sh : Sh) (d : Dt) (x0 : Nat) (x1 : Option Nat) {r : Bool} (hf : fX1_awaits sh d x0 x1 = some r) : Ct l yX1_awaits cX1_awaits 3 (some .boolean) 3 64 0 0 A D cy st [.ref x0, va_rf x1] sz sh d (some (.int (bI r))) sz sh d := ct_of (by decide) (by simp [lg_sl, va_rf_c, cat_i, cat_l, cat_r]) (fun p e s m args below meth c C hw hS ls hl => wX1_awaits_b0 C x0 x1 hf hw hS (by simpa [lv_args, va_rf_c, cat_i, cat_l, cat_r] using hl))
theorem dX0_isBelow_0 : decode cX0_isBelow 0 = .ok (.aload_n 0, 1) := by decide +kernel
theorem dX0_isBelow_1 : decode cX0_isBelow 1 = .ok (.getfield 47, 3) := by decide +kernel
theorem dX0_isBelow_4 : decode cX0_isBelow 4 = .ok (.aload_n 1, 1) := by decide +kernel
theorem dX0_isBelow_5 : decode cX0_isBelow 5 = .ok (.getfield 47, 3) := by decide +kernel
theorem dX0_isBelow_8 : decode cX0_isBelow 8 = .ok (.if_icmp .lt 25, 3) := by decide +kernel
theorem dX0_isBelow_11 : decode cX0_isBelow 11 = .ok (.aload_n 0, 1) := by decide +kernel
theorem dX0_isBelow_12 : decode cX0_isBelow 12 = .ok (.getfield 47, 3) := by decide +kernel
theorem dX0_isBelow_15 : decode cX0_isBelow 15 = .ok (.aload_n 1, 1) := by decide +kernel
theorem dX0_isBelow_16 : decode cX0_isBelow 16 = .ok (.getfield 47, 3) := by decide +kernel
theorem dX0_isBelow_19 : decode cX0_isBelow 19 = .ok (.if_icmp .ne 18, 3) := by decide +kernel
theorem dX0_isBelow_22 : decode cX0_isBelow 22 = .ok (.aload_n 0, 1) := by decide +kernel
theorem dX0_isBelow_23 : decode cX0_isBelow 23 = .ok (.getfield 25, 3) := by decide +kernel
theorem dX0_isBelow_26 : decode cX0_isBelow 26 = .ok (.aload_n 1, 1) := by decide +kernel
theorem dX0_isBelow_27 : decode cX0_isBelow 27 = .ok (.getfield 25, 3) := by decide +kernel
theorem dX0_isBelow_30 : decode cX0_isBelow 30 = .ok (.if_icmp .ge 7, 3) := by decide +kernel
theorem dX0_isBelow_33 : decode cX0_isBelow 33 = .ok (.iconst 1, 1) := by decide +kernel
theorem dX0_isBelow_34 : decode cX0_isBelow 34 = .ok (.goto 4, 3) := by decide +kernel
theorem dX0_isBelow_37 : decode cX0_isBelow 37 = .ok (.iconst 0, 1) := by decide +kernel
theorem dX0_isBelow_38 : decode cX0_isBelow 38 = .ok (.ireturn, 1) := by decide +kernel
theorem cvX0_isBelow : CV yX0_isBelow cX0_isBelow 2 (some .boolean) 1 1 := ⟨kw_517, kw_518, kw_11, kw_519, ⟨_, _, rfl⟩, by decide, by decide +kernel, by decide +kernel, by decide +kernel⟩
def fX0_isBelow_b0 (sh : Sh) (d : Dt) (x0 : Nat) (x1 : Option Nat) : Option (Bool) := bd (gI sh d 2 70 x0) fun v1 => bd x1 fun a2 => bd (gI sh d 2 70 a2) fun v3 => if v1 < v3 then (some true) else (bd (gI sh d 2 70 x0) fun v5 => bd (gI sh d 2 70 a2) fun v6 => if v5 = v6 then (bd (gI sh d 2 65 x0) fun v8 => bd (gI sh d 2 65 a2) fun v9 => if v9 ≤ v8 then (some false) else (some true)) else (some false))

def fX0_isBelow (sh : Sh) (d : Dt) (x0 : Nat) (x1 : Option Nat) : Option (Bool) := fX0_isBelow_b0 sh d x0 x1

set_option maxRecDepth 100000 in
set_option maxHeartbeats 4000000 in
theorem wX0_isBelow_b0 (C : mx p s m args meth c yX0_isBelow cX0_isBelow 2 (some .boolean) A D cy st) {r : Bool} {d : Dt} : ∀ (x0 : Nat) (x1 : Option Nat), fX0_isBelow_b0 sh d x0 x1 = some r → ∀ {H : Heap} {locs : List Loc} {ls : Array Slot}, HW A D cy sz sh d H → va_S A s.heap H locs → lv_has ls 2 [(0, .ref x0), (1, va_rf x1)] → GL p l e s m args below meth c 0 0 A D cy (some (.int (bI r))) sz sh d H locs 0 ls [] := by
  have hx := C.1
  have hb := C.2.1
  intro x0 x1 hf H locs ls hw hS hl
  unfold fX0_isBelow_b0 at hf
  refine lv_aload_n hx hb dX0_isBelow_0 rfl (lv_at hl 0 rfl) ?_
  obtain ⟨v1, hv1, hf⟩ := bd_s hf
  refine gt_70 C hw hv1 kw_300 dX0_isBelow_1 ?_
  refine lq_aload_n hx hb dX0_isBelow_4 rfl (lv_at hl 1 rfl) ?_
  obtain ⟨a2, ea2, hg⟩ := bd_s hf
  clear hf
  subst ea2
  have hf := hg
  clear hg
  obtain ⟨v3, hv3, hf⟩ := bd_s hf
  refine gt_70 C hw hv3 kw_300 dX0_isBelow_5 ?_
  refine lv_icmp_lt (tgt := 33) hx hb dX0_isBelow_8 (by decide) (fun c_4 => ?_) (fun c_4 => ?_)
  · have hf := if_t c_4 hf
    refine lv_iconst (v := 1) hx hb dX0_isBelow_33 (by decide) ?_
    refine lv_goto (tgt := 38) hx hb dX0_isBelow_34 (by decide) ?_
    cases hf
    exact rt_z C hw hS _ rfl dX0_isBelow_38
  · have hf := if_f c_4 hf
    refine lv_aload_n hx hb dX0_isBelow_11 rfl (lv_at hl 0 rfl) ?_
    obtain ⟨v5, hv5, hf⟩ := bd_s hf
    refine gt_70 C hw hv5 kw_300 dX0_isBelow_12 ?_
    refine lq_aload_n hx hb dX0_isBelow_15 rfl (lv_at hl 1 rfl) ?_
    obtain ⟨v6, hv6, hf⟩ := bd_s hf
    refine gt_70 C hw hv6 kw_300 dX0_isBelow_16 ?_
    refine lv_icmp_ne (tgt := 37) hx hb dX0_isBelow_19 (by decide) (fun c_7 => ?_) (fun c_7 => ?_)
    · have hf := if_f c_7 hf
      refine lv_iconst (v := 0) hx hb dX0_isBelow_37 (by decide) ?_
      cases hf
      exact rt_z C hw hS _ rfl dX0_isBelow_38
    · have hf := if_t c_7 hf
      refine lv_aload_n hx hb dX0_isBelow_22 rfl (lv_at hl 0 rfl) ?_
      obtain ⟨v8, hv8, hf⟩ := bd_s hf
      refine gt_65 C hw hv8 kw_287 dX0_isBelow_23 ?_
      refine lq_aload_n hx hb dX0_isBelow_26 rfl (lv_at hl 1 rfl) ?_
      obtain ⟨v9, hv9, hf⟩ := bd_s hf
      refine gt_65 C hw hv9 kw_287 dX0_isBelow_27 ?_
      refine lv_icmp_ge (tgt := 37) hx hb dX0_isBelow_30 (by decide) (fun c_10 => ?_) (fun c_10 => ?_)
      · have hf := if_t c_10 hf
        refine lv_iconst (v := 0) hx hb dX0_isBelow_37 (by decide) ?_
        cases hf
        exact rt_z C hw hS _ rfl dX0_isBelow_38
      · have hf := if_f c_10 hf
        refine lv_iconst (v := 1) hx hb dX0_isBelow_33 (by decide) ?_
        refine lv_goto (tgt := 38) hx hb dX0_isBelow_34 (by decide) ?_
        cases hf
        exact rt_z C hw hS _ rfl dX0_isBelow_38

set_option maxRecDepth 100000 in
set_option maxHeartbeats 4000000 in
theorem tX0_isBelow (l : Launch) (A : Nat → Prop) (D : va_G) (cy : Nat → ClassId) (st : Nat → Nat) (sz : Nat) (sh : Sh) (d : Dt) (x0 : Nat) (x1 : Option Nat) {r : Bool} (hf : fX0_isBelow sh d x0 x1 = some r) : Ct l yX0_isBelow cX0_isBelow 2 (some .boolean) 0 0 0 0 A D cy st [.ref x0, va_rf x1] sz sh d (some (.int (bI r))) sz sh d := ct_of (by decide) (by simp [lg_sl, va_rf_c, cat_i, cat_l, cat_r]) (fun p e s m args below meth c C hw hS ls hl => wX0_isBelow_b0 C x0 x1 hf hw hS (by simpa [lv_args, va_rf_c, cat_i, cat_l, cat_r] using hl))
theorem dX1_queue_0 : decode cX1_queue 0 = .ok (.iconst 0, 1) := by decide +kernel
theorem dX1_queue_1 : decode cX1_queue 1 = .ok (.istore_n 2, 1) := by decide +kernel
theorem dX1_queue_2 : decode cX1_queue 2 = .ok (.iload_n 2, 1) := by decide +kernel
theorem dX1_queue_3 : decode cX1_queue 3 = .ok (.aload_n 0, 1) := by decide +kernel
theorem dX1_queue_4 : decode cX1_queue 4 = .ok (.getfield 25, 3) := by decide +kernel
theorem dX1_queue_7 : decode cX1_queue 7 = .ok (.invokevirtual 47, 3) := by decide +kernel
theorem dX1_queue_10 : decode cX1_queue 10 = .ok (.if_icmp .ge 27, 3) := by decide +kernel
theorem dX1_queue_13 : decode cX1_queue 13 = .ok (.aload_n 0, 1) := by decide +kernel
theorem dX1_queue_14 : decode cX1_queue 14 = .ok (.getfield 25, 3) := by decide +kernel
theorem dX1_queue_17 : decode cX1_queue 17 = .ok (.iload_n 2, 1) := by decide +kernel
theorem dX1_queue_18 : decode cX1_queue 18 = .ok (.invokevirtual 51, 3) := by decide +kernel
theorem dX1_queue_21 : decode cX1_queue 21 = .ok (.checkcast 55, 3) := by decide +kernel
theorem dX1_queue_24 : decode cX1_queue 24 = .ok (.aload_n 1, 1) := by decide +kernel
theorem dX1_queue_25 : decode cX1_queue 25 = .ok (.invokevirtual 87, 3) := by decide +kernel
theorem dX1_queue_28 : decode cX1_queue 28 = .ok (.ifCond .eq 9, 3) := by decide +kernel
theorem dX1_queue_31 : decode cX1_queue 31 = .ok (.iinc 2 1, 3) := by decide +kernel
theorem dX1_queue_34 : decode cX1_queue 34 = .ok (.goto (-32), 3) := by decide +kernel
theorem dX1_queue_37 : decode cX1_queue 37 = .ok (.aload_n 0, 1) := by decide +kernel
theorem dX1_queue_38 : decode cX1_queue 38 = .ok (.getfield 25, 3) := by decide +kernel
theorem dX1_queue_41 : decode cX1_queue 41 = .ok (.iload_n 2, 1) := by decide +kernel
theorem dX1_queue_42 : decode cX1_queue 42 = .ok (.aload_n 1, 1) := by decide +kernel
theorem dX1_queue_43 : decode cX1_queue 43 = .ok (.invokevirtual 90, 3) := by decide +kernel
theorem dX1_queue_46 : decode cX1_queue 46 = .ok (.return_, 1) := by decide +kernel
theorem cvX1_queue : CV yX1_queue cX1_queue 3 none 2 1 := ⟨kw_513, kw_514, kw_7, kw_515, ⟨_, _, rfl⟩, by decide, by decide +kernel, by decide +kernel, by decide +kernel⟩
def fX1_queue_b46 (em mi : Nat) (sz : Nat) (ns : Nat) (sh : Sh) (d : Dt) : Option (Wl) := some (sz, ns, sh, d)

def fX1_queue_b37 (em mi : Nat) (x0 : Nat) (x1 : Option Nat) (x2 : Int32) (sz : Nat) (ns : Nat) (sh : Sh) (d : Dt) : Option (Wl) := bd (gR sh d 3 99 x0) fun v1 => bd v1 fun a2 => bd (kc sh 1 a2) fun _ => bw (fJx4a65c_add_7a177 em mi a2 x2 x1 sz ns sh d) fun szq6 nsq6 shq6 dq6 => fX1_queue_b46 em mi szq6 nsq6 shq6 dq6

def fX1_queue_b2 (em mi : Nat) : Nat → Nat → Option Nat → Int32 → Nat → Nat → Sh → Dt → Option (Wl)
  | 0, _, _, _, _, _, _, _ => none
  | n + 1, x0, x1, x2, sz, ns, sh, d => bd (gR sh d 3 99 x0) fun v1 => bd v1 fun a2 => bd (kc sh 1 a2) fun _ => bd (fJx4a65c_size_8abf5 sh d a2) fun r5 => if r5 ≤ x2 then (fX1_queue_b37 em mi x0 x1 x2 sz ns sh d) else (bd (gR sh d 3 99 x0) fun v7 => bd v7 fun a8 => bd (kc sh 1 a8) fun _ => bd (fJx4a65c_get_915e3 sh d a8 x2) fun r11 => bd (cst sh 2 r11) fun _ => bd r11 fun a13 => bd (kc sh 2 a13) fun _ => bd (fX0_isBelow sh d a13 x1) fun r16 => if (bI r16) = 0 then (fX1_queue_b37 em mi x0 x1 x2 sz ns sh d) else (fX1_queue_b2 em mi n x0 x1 (x2 + 1) sz ns sh d))

def fX1_queue_b0 (em mi : Nat) (x0 : Nat) (x1 : Option Nat) (sz : Nat) (ns : Nat) (sh : Sh) (d : Dt) : Option (Wl) := fX1_queue_b2 em mi fu x0 x1 (0 : Int32) sz ns sh d

def fX1_queue (em mi : Nat) (x0 : Nat) (x1 : Option Nat) (sz ns : Nat) (sh : Sh) (d : Dt) : Option (Wl) := fX1_queue_b0 em mi x0 x1 sz ns sh d

set_option maxRecDepth 100000 in
set_option maxHeartbeats 4000000 in
theorem mX1_queue_b46 (em mi : Nat) {sz9 ns9 : Nat} {sh9 : Sh} {d9 : Dt} : ∀ (sz : Nat) (ns : Nat) (sh : Sh) (d : Dt), fX1_queue_b46 em mi sz ns sh d = some (sz9, ns9, sh9, d9) → sz ≤ sz9 ∧ ns ≤ ns9 := by
  intro sz ns sh d hf
  unfold fX1_queue_b46 at hf
  cases hf
  exact ⟨Nat.le_refl _, Nat.le_refl _⟩

set_option maxRecDepth 100000 in
set_option maxHeartbeats 4000000 in
theorem mX1_queue_b37 (em mi : Nat) {sz9 ns9 : Nat} {sh9 : Sh} {d9 : Dt} : ∀ (x0 : Nat) (x1 : Option Nat) (x2 : Int32) (sz : Nat) (ns : Nat) (sh : Sh) (d : Dt), fX1_queue_b37 em mi x0 x1 x2 sz ns sh d = some (sz9, ns9, sh9, d9) → sz ≤ sz9 ∧ ns ≤ ns9 := by
  intro x0 x1 x2 sz ns sh d hf
  unfold fX1_queue_b37 at hf
  obtain ⟨v1, hv1, hf⟩ := bd_s hf
  obtain ⟨a2, ea2, hg⟩ := bd_s hf
  clear hf
  subst ea2
  have hf := hg
  clear hg
  obtain ⟨_, h3, hf⟩ := bd_s hf
  obtain ⟨szq6, nsq6, shq6, dq6, h4, hf⟩ := bw_s hf
  have hq := gJx4a65c_add_7a177 em mi a2 x2 x1 sz ns sh d h4
  have hm := mX1_queue_b46 em mi szq6 nsq6 shq6 dq6 hf
  omega

set_option maxRecDepth 100000 in
set_option maxHeartbeats 4000000 in
theorem mX1_queue_b2 (em mi : Nat) {sz9 ns9 : Nat} {sh9 : Sh} {d9 : Dt} : ∀ (n : Nat) (x0 : Nat) (x1 : Option Nat) (x2 : Int32) (sz : Nat) (ns : Nat) (sh : Sh) (d : Dt), fX1_queue_b2 em mi n x0 x1 x2 sz ns sh d = some (sz9, ns9, sh9, d9) → sz ≤ sz9 ∧ ns ≤ ns9 := by
  intro n
  induction n with
  | zero => intro x0 x1 x2 sz ns sh d hf; cases hf
  | succ n ih =>
    intro x0 x1 x2 sz ns sh d hf
    rw [fX1_queue_b2] at hf
    obtain ⟨v1, hv1, hf⟩ := bd_s hf
    obtain ⟨a2, ea2, hg⟩ := bd_s hf
    clear hf
    subst ea2
    have hf := hg
    clear hg
    obtain ⟨_, h3, hf⟩ := bd_s hf
    obtain ⟨r5, h4, hf⟩ := bd_s hf
    by_cases c_6 : r5 ≤ x2
    · have hf := if_t c_6 hf
      have hm := mX1_queue_b37 em mi x0 x1 x2 sz ns sh d hf
      omega
    · have hf := if_f c_6 hf
      obtain ⟨v7, hv7, hf⟩ := bd_s hf
      obtain ⟨a8, ea8, hg⟩ := bd_s hf
      clear hf
      subst ea8
      have hf := hg
      clear hg
      obtain ⟨_, h9, hf⟩ := bd_s hf
      obtain ⟨r11, h10, hf⟩ := bd_s hf
      obtain ⟨uh12, h12, hf⟩ := bd_s hf
      obtain ⟨a13, ea13, hg⟩ := bd_s hf
      clear hf
      subst ea13
      have hf := hg
      clear hg
      obtain ⟨_, h14, hf⟩ := bd_s hf
      obtain ⟨r16, h15, hf⟩ := bd_s hf
      by_cases c_17 : (bI r16) = 0
      · have hf := if_t c_17 hf
        have hm := mX1_queue_b37 em mi x0 x1 x2 sz ns sh d hf
        omega
      · have hf := if_f c_17 hf
        have hm := ih x0 x1 (x2 + 1) sz ns sh d hf
        omega

set_option maxRecDepth 100000 in
set_option maxHeartbeats 4000000 in
theorem mX1_queue_b0 (em mi : Nat) {sz9 ns9 : Nat} {sh9 : Sh} {d9 : Dt} : ∀ (x0 : Nat) (x1 : Option Nat) (sz : Nat) (ns : Nat) (sh : Sh) (d : Dt), fX1_queue_b0 em mi x0 x1 sz ns sh d = some (sz9, ns9, sh9, d9) → sz ≤ sz9 ∧ ns ≤ ns9 := by
  intro x0 x1 sz ns sh d hf
  unfold fX1_queue_b0 at hf
  have hm := mX1_queue_b2 em mi fu x0 x1 (0 : Int32) sz ns sh d hf
  omega

theorem gX1_queue (em mi : Nat) (x0 : Nat) (x1 : Option Nat) (sz ns : Nat) (sh : Sh) (d : Dt) {sz9 ns9 : Nat} {sh9 : Sh} {d9 : Dt} (hf : fX1_queue em mi x0 x1 sz ns sh d = some (sz9, ns9, sh9, d9)) : sz ≤ sz9 ∧ ns ≤ ns9 := mX1_queue_b0 em mi x0 x1 sz ns sh d hf

set_option maxRecDepth 100000 in
set_option maxHeartbeats 4000000 in
theorem wX1_queue_b46 (C : mx p s m args meth c yX1_queue cX1_queue 3 none A D cy st) {sz9 ns9 : Nat} {sh9 : Sh} {d9 : Dt} {mc ms : Nat} : ∀ (sz : Nat) (ns : Nat) (sh : Sh) (d : Dt), fX1_queue_b46 (st 1) (st 2) sz ns sh d = some (sz9, ns9, sh9, d9) → ∀ {cu su : Nat}, sz9 + cu = sz + mc → ns9 + su = ns + ms → ∀ {H : Heap} {locs : List Loc} {ls : Array Slot}, HW A D cy sz sh d H → va_S A s.heap H locs → lv_has ls 3 [] → GA p l e s m args below meth c 6 141 mc ms A D cy none sz9 sh9 d9 H locs cu su 46 ls [] := by
  have hx := C.1
  have hb := C.2.1
  intro sz ns sh d hf cu su hcm hsm H locs ls hw hS hl
  have hm0 := mX1_queue_b46 (st 1) (st 2) sz ns sh d hf
  unfold fX1_queue_b46 at hf
  cases hf
  obtain rfl : mc = cu := by omega
  obtain rfl : ms = su := by omega
  exact rt_v C hw hS dX1_queue_46

set_option maxRecDepth 100000 in
set_option maxHeartbeats 4000000 in
theorem wX1_queue_b37 (C : mx p s m args meth c yX1_queue cX1_queue 3 none A D cy st) {sz9 ns9 : Nat} {sh9 : Sh} {d9 : Dt} {mc ms : Nat} : ∀ (x0 : Nat) (x1 : Option Nat) (x2 : Int32) (sz : Nat) (ns : Nat) (sh : Sh) (d : Dt), fX1_queue_b37 (st 1) (st 2) x0 x1 x2 sz ns sh d = some (sz9, ns9, sh9, d9) → ∀ {cu su : Nat}, sz9 + cu = sz + mc → ns9 + su = ns + ms → ∀ {H : Heap} {locs : List Loc} {ls : Array Slot}, HW A D cy sz sh d H → va_S A s.heap H locs → lv_has ls 3 [(0, .ref x0), (1, va_rf x1), (2, .int x2)] → GA p l e s m args below meth c 6 141 mc ms A D cy none sz9 sh9 d9 H locs cu su 37 ls [] := by
  have hx := C.1
  have hb := C.2.1
  intro x0 x1 x2 sz ns sh d hf cu su hcm hsm H locs ls hw hS hl
  have hm0 := mX1_queue_b37 (st 1) (st 2) x0 x1 x2 sz ns sh d hf
  unfold fX1_queue_b37 at hf
  refine lv_aload_n hx hb dX1_queue_37 rfl (lv_at hl 0 rfl) ?_
  obtain ⟨v1, hv1, hf⟩ := bd_s hf
  refine gt_99 C hw hv1 kw_157 dX1_queue_38 ?_
  refine lv_iload_n hx hb dX1_queue_41 rfl (lv_at hl 2 rfl) ?_
  refine lq_aload_n hx hb dX1_queue_42 rfl (lv_at hl 1 rfl) ?_
  obtain ⟨a2, ea2, hg⟩ := bd_s hf
  clear hf
  subst ea2
  have hf := hg
  clear hg
  obtain ⟨_, h3, hf⟩ := bd_s hf
  obtain ⟨szq6, nsq6, shq6, dq6, h4, hf⟩ := bw_s hf
  have hm := mX1_queue_b46 (st 1) (st 2) szq6 nsq6 shq6 dq6 hf
  have hq := gJx4a65c_add_7a177 (st 1) (st 2) a2 x2 x1 sz ns sh d h4
  refine cl_V C hw hS (tJx4a65c_add_7a177 l A D cy st a2 x2 x1 sz ns sh d h4) cvJx4a65c_add_7a177 kw_520 (kc_k h3) ⟨(Nat.le_of_ble_eq_true rfl), (Nat.le_of_ble_eq_true rfl)⟩ hl.1 rfl (Nat.le_of_ble_eq_true rfl) dX1_queue_43 ⟨by show _ ≤ mc; omega, by show _ ≤ ms; omega⟩ (fun H locs hw hS => ?_)
  exact wX1_queue_b46 C szq6 nsq6 shq6 dq6 hf (by omega) (by omega) hw hS (lv_sub hl [] rfl)

set_option maxRecDepth 100000 in
set_option maxHeartbeats 4000000 in
theorem wX1_queue_b2 (C : mx p s m args meth c yX1_queue cX1_queue 3 none A D cy st) {sz9 ns9 : Nat} {sh9 : Sh} {d9 : Dt} {mc ms : Nat} : ∀ (n : Nat) (x0 : Nat) (x1 : Option Nat) (x2 : Int32) (sz : Nat) (ns : Nat) (sh : Sh) (d : Dt), fX1_queue_b2 (st 1) (st 2) n x0 x1 x2 sz ns sh d = some (sz9, ns9, sh9, d9) → ∀ {cu su : Nat}, sz9 + cu = sz + mc → ns9 + su = ns + ms → ∀ {H : Heap} {locs : List Loc} {ls : Array Slot}, HW A D cy sz sh d H → va_S A s.heap H locs → lv_has ls 3 [(0, .ref x0), (1, va_rf x1), (2, .int x2)] → GA p l e s m args below meth c 6 141 mc ms A D cy none sz9 sh9 d9 H locs cu su 2 ls [] := by
  have hx := C.1
  have hb := C.2.1
  intro n
  induction n with
  | zero => intro x0 x1 x2 sz ns sh d hf; cases hf
  | succ n ih =>
    intro x0 x1 x2 sz ns sh d hf cu su hcm hsm H locs ls hw hS hl
    have hm0 := mX1_queue_b2 (st 1) (st 2) (n + 1) x0 x1 x2 sz ns sh d hf
    rw [fX1_queue_b2] at hf
    refine lv_iload_n hx hb dX1_queue_2 rfl (lv_at hl 2 rfl) ?_
    refine lv_aload_n hx hb dX1_queue_3 rfl (lv_at hl 0 rfl) ?_
    obtain ⟨v1, hv1, hf⟩ := bd_s hf
    refine gt_99 C hw hv1 kw_157 dX1_queue_4 ?_
    obtain ⟨a2, ea2, hg⟩ := bd_s hf
    clear hf
    subst ea2
    have hf := hg
    clear hg
    obtain ⟨_, h3, hf⟩ := bd_s hf
    obtain ⟨r5, h4, hf⟩ := bd_s hf
    refine cl_V0 C hw hS (tJx4a65c_size_8abf5 l A D cy st sz sh d a2 h4) cvJx4a65c_size_8abf5 kw_253 (kc_k h3) ⟨(Nat.le_of_ble_eq_true rfl), (Nat.le_of_ble_eq_true rfl)⟩ hl.1 rfl (Nat.le_of_ble_eq_true rfl) dX1_queue_7 ⟨by show _ ≤ mc; omega, by show _ ≤ ms; omega⟩ (fun H locs hw hS => ?_)
    refine lv_icmp_ge (tgt := 37) hx hb dX1_queue_10 (by decide) (fun c_6 => ?_) (fun c_6 => ?_)
    · have hf := if_t c_6 hf
      exact wX1_queue_b37 C x0 x1 x2 sz ns sh d hf (by omega) (by omega) hw hS (lv_sub hl [0, 1, 2] rfl)
    · have hf := if_f c_6 hf
      refine lv_aload_n hx hb dX1_queue_13 rfl (lv_at hl 0 rfl) ?_
      obtain ⟨v7, hv7, hf⟩ := bd_s hf
      refine gt_99 C hw hv7 kw_157 dX1_queue_14 ?_
      refine lv_iload_n hx hb dX1_queue_17 rfl (lv_at hl 2 rfl) ?_
      obtain ⟨a8, ea8, hg⟩ := bd_s hf
      clear hf
      subst ea8
      have hf := hg
      clear hg
      obtain ⟨_, h9, hf⟩ := bd_s hf
      obtain ⟨r11, h10, hf⟩ := bd_s hf
      refine cl_V0 C hw hS (tJx4a65c_get_915e3 l A D cy st sz sh d a8 x2 h10) cvJx4a65c_get_915e3 kw_510 (kc_k h9) ⟨(Nat.le_of_ble_eq_true rfl), (Nat.le_of_ble_eq_true rfl)⟩ hl.1 rfl (Nat.le_of_ble_eq_true rfl) dX1_queue_18 ⟨by show _ ≤ mc; omega, by show _ ≤ ms; omega⟩ (fun H locs hw hS => ?_)
      obtain ⟨uh12, h12, hf⟩ := bd_s hf
      refine w_cast (ci := 1) (v := r11) C hw rfl (by decide) h12 kw_511 (by decide +kernel) dX1_queue_21 ?_
      refine lq_aload_n hx hb dX1_queue_24 rfl (lv_at hl 1 rfl) ?_
      obtain ⟨a13, ea13, hg⟩ := bd_s hf
      clear hf
      subst ea13
      have hf := hg
      clear hg
      obtain ⟨_, h14, hf⟩ := bd_s hf
      obtain ⟨r16, h15, hf⟩ := bd_s hf
      refine cl_V0 C hw hS (tX0_isBelow l A D cy st sz sh d a13 x1 h15) cvX0_isBelow kw_516 (kc_k h14) ⟨(Nat.le_of_ble_eq_true rfl), (Nat.le_of_ble_eq_true rfl)⟩ hl.1 rfl (Nat.le_of_ble_eq_true rfl) dX1_queue_25 ⟨by show _ ≤ mc; omega, by show _ ≤ ms; omega⟩ (fun H locs hw hS => ?_)
      refine lv_if_eq (tgt := 37) hx hb dX1_queue_28 (by decide) (fun c_17 => ?_) (fun c_17 => ?_)
      · have hf := if_t c_17 hf
        exact wX1_queue_b37 C x0 x1 x2 sz ns sh d hf (by omega) (by omega) hw hS (lv_sub hl [0, 1, 2] rfl)
      · have hf := if_f c_17 hf
        refine lv_iinc (v := (x2 + 1)) (lv' := [(2, .int (x2 + 1)), (0, .ref x0), (1, va_rf x1)]) hx hb dX1_queue_31 hl (k := 2) rfl rfl (by decide) (by simp [va_rf_c, cat_i, cat_l, cat_r]) (fun ls hl => ?_)
        refine lv_goto (tgt := 2) hx hb dX1_queue_34 (by decide) ?_
        exact ih x0 x1 (x2 + 1) sz ns sh d hf (by omega) (by omega) hw hS (lv_sub hl [1, 2, 0] rfl)

set_option maxRecDepth 100000 in
set_option maxHeartbeats 4000000 in
theorem wX1_queue_b0 (C : mx p s m args meth c yX1_queue cX1_queue 3 none A D cy st) {sz9 ns9 : Nat} {sh9 : Sh} {d9 : Dt} {mc ms : Nat} : ∀ (x0 : Nat) (x1 : Option Nat) (sz : Nat) (ns : Nat) (sh : Sh) (d : Dt), fX1_queue_b0 (st 1) (st 2) x0 x1 sz ns sh d = some (sz9, ns9, sh9, d9) → ∀ {cu su : Nat}, sz9 + cu = sz + mc → ns9 + su = ns + ms → ∀ {H : Heap} {locs : List Loc} {ls : Array Slot}, HW A D cy sz sh d H → va_S A s.heap H locs → lv_has ls 3 [(0, .ref x0), (1, va_rf x1)] → GA p l e s m args below meth c 6 141 mc ms A D cy none sz9 sh9 d9 H locs cu su 0 ls [] := by
  have hx := C.1
  have hb := C.2.1
  intro x0 x1 sz ns sh d hf cu su hcm hsm H locs ls hw hS hl
  have hm0 := mX1_queue_b0 (st 1) (st 2) x0 x1 sz ns sh d hf
  unfold fX1_queue_b0 at hf
  refine lv_iconst (v := 0) hx hb dX1_queue_0 (by decide) ?_
  refine lv_istore_n (i := 2) (lv' := [(2, .int (0 : Int32)), (0, .ref x0), (1, va_rf x1)]) hx hb dX1_queue_1 rfl hl (by decide) (by simp [va_rf_c, cat_i, cat_l, cat_r]) (fun ls hl => ?_)
  exact wX1_queue_b2 C fu x0 x1 (0 : Int32) sz ns sh d hf (by omega) (by omega) hw hS (lv_sub hl [1, 2, 0] rfl)

set_option maxRecDepth 100000 in
set_option maxHeartbeats 4000000 in
theorem tX1_queue (l : Launch) (A : Nat → Prop) (D : va_G) (cy : Nat → ClassId) (st : Nat → Nat) (x0 : Nat) (x1 : Option Nat) (sz ns : Nat) (sh : Sh) (d : Dt) {sz9 ns9 : Nat} {sh9 : Sh} {d9 : Dt} (hf : fX1_queue (st 1) (st 2) x0 x1 sz ns sh d = some (sz9, ns9, sh9, d9)) : Ct l yX1_queue cX1_queue 3 none 6 141 (sz9 - sz) (ns9 - ns) A D cy st [.ref x0, va_rf x1] sz sh d none sz9 sh9 d9 := by
  have hm := gX1_queue (st 1) (st 2) x0 x1 sz ns sh d hf
  exact ct_of (by decide) (by simp [lg_sl, va_rf_c, cat_i, cat_l, cat_r]) (fun p e s m args below meth c C hw hS ls hl => wX1_queue_b0 C x0 x1 sz ns sh d hf (by omega) (by omega) hw hS (by simpa [lv_args, va_rf_c, cat_i, cat_l, cat_r] using hl))
theorem dX4_covers_0 : decode cX4_covers 0 = .ok (.iconst 0, 1) := by decide +kernel
theorem dX4_covers_1 : decode cX4_covers 1 = .ok (.istore_n 2, 1) := by decide +kernel
theorem dX4_covers_2 : decode cX4_covers 2 = .ok (.iload_n 2, 1) := by decide +kernel
theorem dX4_covers_3 : decode cX4_covers 3 = .ok (.bipush 6, 2) := by decide +kernel
theorem dX4_covers_5 : decode cX4_covers 5 = .ok (.if_icmp .ge 26, 3) := by decide +kernel
theorem dX4_covers_8 : decode cX4_covers 8 = .ok (.aload_n 1, 1) := by decide +kernel
theorem dX4_covers_9 : decode cX4_covers 9 = .ok (.getfield 9, 3) := by decide +kernel
theorem dX4_covers_12 : decode cX4_covers 12 = .ok (.iload_n 2, 1) := by decide +kernel
theorem dX4_covers_13 : decode cX4_covers 13 = .ok (.iaload, 1) := by decide +kernel
theorem dX4_covers_14 : decode cX4_covers 14 = .ok (.aload_n 0, 1) := by decide +kernel
theorem dX4_covers_15 : decode cX4_covers 15 = .ok (.getfield 9, 3) := by decide +kernel
theorem dX4_covers_18 : decode cX4_covers 18 = .ok (.iload_n 2, 1) := by decide +kernel
theorem dX4_covers_19 : decode cX4_covers 19 = .ok (.iaload, 1) := by decide +kernel
theorem dX4_covers_20 : decode cX4_covers 20 = .ok (.if_icmp .le 5, 3) := by decide +kernel
theorem dX4_covers_23 : decode cX4_covers 23 = .ok (.iconst 0, 1) := by decide +kernel
theorem dX4_covers_24 : decode cX4_covers 24 = .ok (.ireturn, 1) := by decide +kernel
theorem dX4_covers_25 : decode cX4_covers 25 = .ok (.iinc 2 1, 3) := by decide +kernel
theorem dX4_covers_28 : decode cX4_covers 28 = .ok (.goto (-26), 3) := by decide +kernel
theorem dX4_covers_31 : decode cX4_covers 31 = .ok (.iconst 1, 1) := by decide +kernel
theorem dX4_covers_32 : decode cX4_covers 32 = .ok (.ireturn, 1) := by decide +kernel
theorem cvX4_covers : CV yX4_covers cX4_covers 3 (some .boolean) 5 1 := ⟨kw_534, kw_535, kw_8, kw_536, ⟨_, _, rfl⟩, by decide, by decide +kernel, by decide +kernel, by decide +kernel⟩
def fX4_covers_b2 (sh : Sh) (d : Dt) : Nat → Nat → Option Nat → Int32 → Option (Bool)
  | 0, _, _, _ => none
  | n + 1, x0, x1, x2 => if (6 : Int32) ≤ x2 then (some true) else (bd x1 fun a2 => bd (gR sh d 6 192 a2) fun v3 => bd v3 fun a4 => bd (aI sh d 20 a4 x2) fun v5 => bd (gR sh d 6 192 x0) fun v6 => bd v6 fun a7 => bd (aI sh d 20 a7 x2) fun v8 => if v5 ≤ v8 then (fX4_covers_b2 sh d n x0 (some a2) (x2 + 1)) else (some false))

def fX4_covers_b0 (sh : Sh) (d : Dt) (x0 : Nat) (x1 : Option Nat) : Option (Bool) := fX4_covers_b2 sh d fu x0 x1 (0 : Int32)

def fX4_covers (sh : Sh) (d : Dt) (x0 : Nat) (x1 : Option Nat) : Option (Bool) := fX4_covers_b0 sh d x0 x1

set_option maxRecDepth 100000 in
set_option maxHeartbeats 4000000 in
theorem wX4_covers_b2 (C : mx p s m args meth c yX4_covers cX4_covers 3 (some .boolean) A D cy st) {r : Bool} {d : Dt} : ∀ (n : Nat) (x0 : Nat) (x1 : Option Nat) (x2 : Int32), fX4_covers_b2 sh d n x0 x1 x2 = some r → ∀ {H : Heap} {locs : List Loc} {ls : Array Slot}, HW A D cy sz sh d H → va_S A s.heap H locs → lv_has ls 3 [(0, .ref x0), (1, va_rf x1), (2, .int x2)] → GL p l e s m args below meth c 0 0 A D cy (some (.int (bI r))) sz sh d H locs 2 ls [] := by
  have hx := C.1
  have hb := C.2.1
  intro n
  induction n with
  | zero => intro x0 x1 x2 hf; cases hf
  | succ n ih =>
    intro x0 x1 x2 hf H locs ls hw hS hl
    rw [fX4_covers_b2] at hf
    refine lv_iload_n hx hb dX4_covers_2 rfl (lv_at hl 2 rfl) ?_
    refine lv_bipush (v := 6) hx hb dX4_covers_3 (by decide) ?_
    refine lv_icmp_ge (tgt := 31) hx hb dX4_covers_5 (by decide) (fun c_1 => ?_) (fun c_1 => ?_)
    · have hf := if_t c_1 hf
      refine lv_iconst (v := 1) hx hb dX4_covers_31 (by decide) ?_
      cases hf
      exact rt_z C hw hS _ rfl dX4_covers_32
    · have hf := if_f c_1 hf
      refine lq_aload_n hx hb dX4_covers_8 rfl (lv_at hl 1 rfl) ?_
      obtain ⟨a2, ea2, hg⟩ := bd_s hf
      clear hf
      subst ea2
      have hf := hg
      clear hg
      obtain ⟨v3, hv3, hf⟩ := bd_s hf
      refine gt_192 C hw hv3 kw_122 dX4_covers_9 ?_
      refine lv_iload_n hx hb dX4_covers_12 rfl (lv_at hl 2 rfl) ?_
      obtain ⟨a4, ea4, hg⟩ := bd_s hf
      clear hf
      subst ea4
      have hf := hg
      clear hg
      obtain ⟨v5, hv5, hf⟩ := bd_s hf
      refine w_iald C hw hv5 dX4_covers_13 ?_
      refine lv_aload_n hx hb dX4_covers_14 rfl (lv_at hl 0 rfl) ?_
      obtain ⟨v6, hv6, hf⟩ := bd_s hf
      refine gt_192 C hw hv6 kw_122 dX4_covers_15 ?_
      refine lv_iload_n hx hb dX4_covers_18 rfl (lv_at hl 2 rfl) ?_
      obtain ⟨a7, ea7, hg⟩ := bd_s hf
      clear hf
      subst ea7
      have hf := hg
      clear hg
      obtain ⟨v8, hv8, hf⟩ := bd_s hf
      refine w_iald C hw hv8 dX4_covers_19 ?_
      refine lv_icmp_le (tgt := 25) hx hb dX4_covers_20 (by decide) (fun c_9 => ?_) (fun c_9 => ?_)
      · have hf := if_t c_9 hf
        refine lv_iinc (v := (x2 + 1)) (lv' := [(2, .int (x2 + 1)), (0, .ref x0), (1, va_rf (some a2))]) hx hb dX4_covers_25 hl (k := 2) rfl rfl (by decide) (by simp [va_rf_c, cat_i, cat_l, cat_r]) (fun ls hl => ?_)
        refine lv_goto (tgt := 2) hx hb dX4_covers_28 (by decide) ?_
        exact ih x0 (some a2) (x2 + 1) hf hw hS (lv_sub hl [1, 2, 0] rfl)
      · have hf := if_f c_9 hf
        refine lv_iconst (v := 0) hx hb dX4_covers_23 (by decide) ?_
        cases hf
        exact rt_z C hw hS _ rfl dX4_covers_24

set_option maxRecDepth 100000 in
set_option maxHeartbeats 4000000 in
theorem wX4_covers_b0 (C : mx p s m args meth c yX4_covers cX4_covers 3 (some .boolean) A D cy st) {r : Bool} {d : Dt} : ∀ (x0 : Nat) (x1 : Option Nat), fX4_covers_b0 sh d x0 x1 = some r → ∀ {H : Heap} {locs : List Loc} {ls : Array Slot}, HW A D cy sz sh d H → va_S A s.heap H locs → lv_has ls 3 [(0, .ref x0), (1, va_rf x1)] → GL p l e s m args below meth c 0 0 A D cy (some (.int (bI r))) sz sh d H locs 0 ls [] := by
  have hx := C.1
  have hb := C.2.1
  intro x0 x1 hf H locs ls hw hS hl
  unfold fX4_covers_b0 at hf
  refine lv_iconst (v := 0) hx hb dX4_covers_0 (by decide) ?_
  refine lv_istore_n (i := 2) (lv' := [(2, .int (0 : Int32)), (0, .ref x0), (1, va_rf x1)]) hx hb dX4_covers_1 rfl hl (by decide) (by simp [va_rf_c, cat_i, cat_l, cat_r]) (fun ls hl => ?_)
  exact wX4_covers_b2 C fu x0 x1 (0 : Int32) hf hw hS (lv_sub hl [1, 2, 0] rfl)

set_option maxRecDepth 100000 in
set_option maxHeartbeats 4000000 in
theorem tX4_covers (l : Launch) (A : Nat → Prop) (D : va_G) (cy : Nat → ClassId) (st : Nat → Nat) (sz : Nat) (sh : Sh) (d : Dt) (x0 : Nat) (x1 : Option Nat) {r : Bool} (hf : fX4_covers sh d x0 x1 = some r) : Ct l yX4_covers cX4_covers 3 (some .boolean) 0 0 0 0 A D cy st [.ref x0, va_rf x1] sz sh d (some (.int (bI r))) sz sh d := ct_of (by decide) (by simp [lg_sl, va_rf_c, cat_i, cat_l, cat_r]) (fun p e s m args below meth c C hw hS ls hl => wX4_covers_b0 C x0 x1 hf hw hS (by simpa [lv_args, va_rf_c, cat_i, cat_l, cat_r] using hl))
theorem dX1_includeReady_0 : decode cX1_includeReady 0 = .ok (.aload_n 0, 1) := by decide +kernel
theorem dX1_includeReady_1 : decode cX1_includeReady 1 = .ok (.getfield 25, 3) := by decide +kernel
theorem dX1_includeReady_4 : decode cX1_includeReady 4 = .ok (.invokevirtual 47, 3) := by decide +kernel
theorem dX1_includeReady_7 : decode cX1_includeReady 7 = .ok (.istore_n 1, 1) := by decide +kernel
theorem dX1_includeReady_8 : decode cX1_includeReady 8 = .ok (.iconst 0, 1) := by decide +kernel
theorem dX1_includeReady_9 : decode cX1_includeReady 9 = .ok (.istore_n 2, 1) := by decide +kernel
theorem dX1_includeReady_10 : decode cX1_includeReady 10 = .ok (.iconst 0, 1) := by decide +kernel
theorem dX1_includeReady_11 : decode cX1_includeReady 11 = .ok (.istore_n 3, 1) := by decide +kernel
theorem dX1_includeReady_12 : decode cX1_includeReady 12 = .ok (.iload_n 3, 1) := by decide +kernel
theorem dX1_includeReady_13 : decode cX1_includeReady 13 = .ok (.iload_n 1, 1) := by decide +kernel
theorem dX1_includeReady_14 : decode cX1_includeReady 14 = .ok (.if_icmp .ge 69, 3) := by decide +kernel
theorem dX1_includeReady_17 : decode cX1_includeReady 17 = .ok (.iload_n 2, 1) := by decide +kernel
theorem dX1_includeReady_18 : decode cX1_includeReady 18 = .ok (.aload_n 0, 1) := by decide +kernel
theorem dX1_includeReady_19 : decode cX1_includeReady 19 = .ok (.getfield 25, 3) := by decide +kernel
theorem dX1_includeReady_22 : decode cX1_includeReady 22 = .ok (.invokevirtual 47, 3) := by decide +kernel
theorem dX1_includeReady_25 : decode cX1_includeReady 25 = .ok (.if_icmp .ge 58, 3) := by decide +kernel
theorem dX1_includeReady_28 : decode cX1_includeReady 28 = .ok (.aload_n 0, 1) := by decide +kernel
theorem dX1_includeReady_29 : decode cX1_includeReady 29 = .ok (.getfield 25, 3) := by decide +kernel
theorem dX1_includeReady_32 : decode cX1_includeReady 32 = .ok (.iload_n 2, 1) := by decide +kernel
theorem dX1_includeReady_33 : decode cX1_includeReady 33 = .ok (.invokevirtual 51, 3) := by decide +kernel
theorem dX1_includeReady_36 : decode cX1_includeReady 36 = .ok (.checkcast 55, 3) := by decide +kernel
theorem dX1_includeReady_39 : decode cX1_includeReady 39 = .ok (.astore 4, 2) := by decide +kernel
theorem dX1_includeReady_41 : decode cX1_includeReady 41 = .ok (.aload_n 0, 1) := by decide +kernel
theorem dX1_includeReady_42 : decode cX1_includeReady 42 = .ok (.getfield 12, 3) := by decide +kernel
theorem dX1_includeReady_45 : decode cX1_includeReady 45 = .ok (.aload 4, 2) := by decide +kernel
theorem dX1_includeReady_47 : decode cX1_includeReady 47 = .ok (.getfield 94, 3) := by decide +kernel
theorem dX1_includeReady_50 : decode cX1_includeReady 50 = .ok (.invokevirtual 97, 3) := by decide +kernel
theorem dX1_includeReady_53 : decode cX1_includeReady 53 = .ok (.ifCond .eq 21, 3) := by decide +kernel
theorem dX1_includeReady_56 : decode cX1_includeReady 56 = .ok (.aload_n 0, 1) := by decide +kernel
theorem dX1_includeReady_57 : decode cX1_includeReady 57 = .ok (.aload 4, 2) := by decide +kernel
theorem dX1_includeReady_59 : decode cX1_includeReady 59 = .ok (.invokevirtual 101, 3) := by decide +kernel
theorem dX1_includeReady_62 : decode cX1_includeReady 62 = .ok (.aload_n 0, 1) := by decide +kernel
theorem dX1_includeReady_63 : decode cX1_includeReady 63 = .ok (.getfield 25, 3) := by decide +kernel
theorem dX1_includeReady_66 : decode cX1_includeReady 66 = .ok (.iload_n 2, 1) := by decide +kernel
theorem dX1_includeReady_67 : decode cX1_includeReady 67 = .ok (.invokevirtual 104, 3) := by decide +kernel
theorem dX1_includeReady_70 : decode cX1_includeReady 70 = .ok (.pop, 1) := by decide +kernel
theorem dX1_includeReady_71 : decode cX1_includeReady 71 = .ok (.goto 6, 3) := by decide +kernel
theorem dX1_includeReady_74 : decode cX1_includeReady 74 = .ok (.iinc 2 1, 3) := by decide +kernel
theorem dX1_includeReady_77 : decode cX1_includeReady 77 = .ok (.iinc 3 1, 3) := by decide +kernel
theorem dX1_includeReady_80 : decode cX1_includeReady 80 = .ok (.goto (-68), 3) := by decide +kernel
theorem dX1_includeReady_83 : decode cX1_includeReady 83 = .ok (.iload_n 1, 1) := by decide +kernel
theorem dX1_includeReady_84 : decode cX1_includeReady 84 = .ok (.iload_n 2, 1) := by decide +kernel
theorem dX1_includeReady_85 : decode cX1_includeReady 85 = .ok (.isub, 1) := by decide +kernel
theorem dX1_includeReady_86 : decode cX1_includeReady 86 = .ok (.ireturn, 1) := by decide +kernel
theorem cvX1_includeReady : CV yX1_includeReady cX1_includeReady 5 (some .int) 2 0 := ⟨kw_530, kw_531, kw_7, kw_532, ⟨_, _, rfl⟩, by decide, by decide +kernel, by decide +kernel, by decide +kernel⟩
def fX1_includeReady_b12 (sh : Sh) : Nat → Nat → Int32 → Int32 → Int32 → Dt → Option (Int32 × Dt)
  | 0, _, _, _, _, _ => none
  | n + 1, x0, x1, x2, x3, d => if x1 ≤ x3 then (some ((x1 - x2), d)) else (bd (gR sh d 3 99 x0) fun v2 => bd v2 fun a3 => bd (kc sh 1 a3) fun _ => bd (fJx4a65c_size_8abf5 sh d a3) fun r6 => if r6 ≤ x2 then (some ((x1 - x2), d)) else (bd (gR sh d 3 99 x0) fun v8 => bd v8 fun a9 => bd (kc sh 1 a9) fun _ => bd (fJx4a65c_get_915e3 sh d a9 x2) fun r12 => bd (cst sh 2 r12) fun _ => bd (gR sh d 3 97 x0) fun v14 => bd r12 fun a15 => bd (gR sh d 2 72 a15) fun v16 => bd v14 fun a17 => bd (kc sh 6 a17) fun _ => bd (fX4_covers sh d a17 v16) fun r20 => if (bI r20) = 0 then (fX1_includeReady_b12 sh n x0 x1 (x2 + 1) (x3 + 1) d) else (bd (fX1_include sh d x0 (some a15)) fun d24 => bd (gR sh d24 3 99 x0) fun v25 => bd v25 fun a26 => bd (kc sh 1 a26) fun _ => bd2 (fJx4a65c_remove_915e3 sh d24 a26 x2) fun r29 d30 => fX1_includeReady_b12 sh n x0 x1 x2 (x3 + 1) d30)))

def fX1_includeReady_b0 (sh : Sh) (x0 : Nat) (d : Dt) : Option (Int32 × Dt) := bd (gR sh d 3 99 x0) fun v1 => bd v1 fun a2 => bd (kc sh 1 a2) fun _ => bd (fJx4a65c_size_8abf5 sh d a2) fun r5 => fX1_includeReady_b12 sh fu x0 r5 (0 : Int32) (0 : Int32) d

def fX1_includeReady (sh : Sh) (d : Dt) (x0 : Nat) : Option (Int32 × Dt) := fX1_includeReady_b0 sh x0 d

set_option maxRecDepth 100000 in
set_option maxHeartbeats 4000000 in
theorem wX1_includeReady_b12 (C : mx p s m args meth c yX1_includeReady cX1_includeReady 5 (some .int) A D cy st) {r : Int32} {d9 : Dt} : ∀ (n : Nat) (x0 : Nat) (x1 : Int32) (x2 : Int32) (x3 : Int32) (d : Dt), fX1_includeReady_b12 sh n x0 x1 x2 x3 d = some (r, d9) → ∀ {H : Heap} {locs : List Loc} {ls : Array Slot}, HW A D cy sz sh d H → va_S A s.heap H locs → lv_has ls 5 [(0, .ref x0), (1, .int x1), (2, .int x2), (3, .int x3)] → GL p l e s m args below meth c 3 76 A D cy (some (.int r)) sz sh d9 H locs 12 ls [] := by
  have hx := C.1
  have hb := C.2.1
  intro n
  induction n with
  | zero => intro x0 x1 x2 x3 d hf; cases hf
  | succ n ih =>
    intro x0 x1 x2 x3 d hf H locs ls hw hS hl
    rw [fX1_includeReady_b12] at hf
    refine lv_iload_n hx hb dX1_includeReady_12 rfl (lv_at hl 3 rfl) ?_
    refine lv_iload_n hx hb dX1_includeReady_13 rfl (lv_at hl 1 rfl) ?_
    refine lv_icmp_ge (tgt := 83) hx hb dX1_includeReady_14 (by decide) (fun c_1 => ?_) (fun c_1 => ?_)
    · have hf := if_t c_1 hf
      refine lv_iload_n hx hb dX1_includeReady_83 rfl (lv_at hl 1 rfl) ?_
      refine lv_iload_n hx hb dX1_includeReady_84 rfl (lv_at hl 2 rfl) ?_
      refine lv_isub hx hb dX1_includeReady_85 ?_
      cases hf
      exact rt_i C hw hS dX1_includeReady_86
    · have hf := if_f c_1 hf
      refine lv_iload_n hx hb dX1_includeReady_17 rfl (lv_at hl 2 rfl) ?_
      refine lv_aload_n hx hb dX1_includeReady_18 rfl (lv_at hl 0 rfl) ?_
      obtain ⟨v2, hv2, hf⟩ := bd_s hf
      refine gt_99 C hw hv2 kw_157 dX1_includeReady_19 ?_
      obtain ⟨a3, ea3, hg⟩ := bd_s hf
      clear hf
      subst ea3
      have hf := hg
      clear hg
      obtain ⟨_, h4, hf⟩ := bd_s hf
      obtain ⟨r6, h5, hf⟩ := bd_s hf
      refine cl_V0 C hw hS (tJx4a65c_size_8abf5 l A D cy st sz sh d a3 h5) cvJx4a65c_size_8abf5 kw_253 (kc_k h4) ⟨(Nat.le_of_ble_eq_true rfl), (Nat.le_of_ble_eq_true rfl)⟩ hl.1 rfl (Nat.le_of_ble_eq_true rfl) dX1_includeReady_22 ⟨Nat.zero_le _, Nat.zero_le _⟩ (fun H locs hw hS => ?_)
      refine lv_icmp_ge (tgt := 83) hx hb dX1_includeReady_25 (by decide) (fun c_7 => ?_) (fun c_7 => ?_)
      · have hf := if_t c_7 hf
        refine lv_iload_n hx hb dX1_includeReady_83 rfl (lv_at hl 1 rfl) ?_
        refine lv_iload_n hx hb dX1_includeReady_84 rfl (lv_at hl 2 rfl) ?_
        refine lv_isub hx hb dX1_includeReady_85 ?_
        cases hf
        exact rt_i C hw hS dX1_includeReady_86
      · have hf := if_f c_7 hf
        refine lv_aload_n hx hb dX1_includeReady_28 rfl (lv_at hl 0 rfl) ?_
        obtain ⟨v8, hv8, hf⟩ := bd_s hf
        refine gt_99 C hw hv8 kw_157 dX1_includeReady_29 ?_
        refine lv_iload_n hx hb dX1_includeReady_32 rfl (lv_at hl 2 rfl) ?_
        obtain ⟨a9, ea9, hg⟩ := bd_s hf
        clear hf
        subst ea9
        have hf := hg
        clear hg
        obtain ⟨_, h10, hf⟩ := bd_s hf
        obtain ⟨r12, h11, hf⟩ := bd_s hf
        refine cl_V0 C hw hS (tJx4a65c_get_915e3 l A D cy st sz sh d a9 x2 h11) cvJx4a65c_get_915e3 kw_510 (kc_k h10) ⟨(Nat.le_of_ble_eq_true rfl), (Nat.le_of_ble_eq_true rfl)⟩ hl.1 rfl (Nat.le_of_ble_eq_true rfl) dX1_includeReady_33 ⟨Nat.zero_le _, Nat.zero_le _⟩ (fun H locs hw hS => ?_)
        obtain ⟨uh13, h13, hf⟩ := bd_s hf
        refine w_cast (ci := 1) (v := r12) C hw rfl (by decide) h13 kw_511 (by decide +kernel) dX1_includeReady_36 ?_
        refine lq_astore (x := r12) (lv' := [(4, va_rf r12), (0, .ref x0), (1, .int x1), (2, .int x2), (3, .int x3)]) hx hb dX1_includeReady_39 hl (by decide) rfl (fun ls hl => ?_)
        refine lv_aload_n hx hb dX1_includeReady_41 rfl (lv_at hl 1 rfl) ?_
        obtain ⟨v14, hv14, hf⟩ := bd_s hf
        refine gt_97 C hw hv14 kw_151 dX1_includeReady_42 ?_
        refine lq_aload hx hb dX1_includeReady_45 (lv_at hl 0 rfl) ?_
        obtain ⟨a15, ea15, hg⟩ := bd_s hf
        clear hf
        subst ea15
        have hf := hg
        clear hg
        obtain ⟨v16, hv16, hf⟩ := bd_s hf
        refine gt_72 C hw hv16 kw_307 dX1_includeReady_47 ?_
        obtain ⟨a17, ea17, hg⟩ := bd_s hf
        clear hf
        subst ea17
        have hf := hg
        clear hg
        obtain ⟨_, h18, hf⟩ := bd_s hf
        obtain ⟨r20, h19, hf⟩ := bd_s hf
        refine cl_V0 C hw hS (tX4_covers l A D cy st sz sh d a17 v16 h19) cvX4_covers kw_533 (kc_k h18) ⟨(Nat.le_of_ble_eq_true rfl), (Nat.le_of_ble_eq_true rfl)⟩ hl.1 rfl (Nat.le_of_ble_eq_true rfl) dX1_includeReady_50 ⟨Nat.zero_le _, Nat.zero_le _⟩ (fun H locs hw hS => ?_)
        refine lv_if_eq (tgt := 74) hx hb dX1_includeReady_53 (by decide) (fun c_21 => ?_) (fun c_21 => ?_)
        · have hf := if_t c_21 hf
          refine lv_iinc (v := (x2 + 1)) (lv' := [(2, .int (x2 + 1)), (4, va_rf (some a15)), (0, .ref x0), (1, .int x1), (3, .int x3)]) hx hb dX1_includeReady_74 hl (k := 3) rfl rfl (by decide) rfl (fun ls hl => ?_)
          refine lv_iinc (v := (x3 + 1)) (lv' := [(3, .int (x3 + 1)), (2, .int (x2 + 1)), (4, va_rf (some a15)), (0, .ref x0), (1, .int x1)]) hx hb dX1_includeReady_77 hl (k := 4) rfl rfl (by decide) rfl (fun ls hl => ?_)
          refine lv_goto (tgt := 12) hx hb dX1_includeReady_80 (by decide) ?_
          exact ih x0 x1 (x2 + 1) (x3 + 1) d hf hw hS (lv_sub hl [3, 4, 1, 0] rfl)
        · have hf := if_f c_21 hf
          refine lv_aload_n hx hb dX1_includeReady_56 rfl (lv_at hl 1 rfl) ?_
          refine lq_aload hx hb dX1_includeReady_57 (lv_at hl 0 rfl) ?_
          obtain ⟨d24, h22, hf⟩ := bd_s hf
          refine cl_V0 C hw hS (tX1_include l A D cy st sz sh d x0 (some a15) h22) cvX1_include kw_537 (gR_s hv14).1 ⟨(Nat.le_of_ble_eq_true rfl), (Nat.le_of_ble_eq_true rfl)⟩ hl.1 rfl (Nat.le_of_ble_eq_true rfl) dX1_includeReady_59 ⟨Nat.zero_le _, Nat.zero_le _⟩ (fun H locs hw hS => ?_)
          refine lv_aload_n hx hb dX1_includeReady_62 rfl (lv_at hl 1 rfl) ?_
          obtain ⟨v25, hv25, hf⟩ := bd_s hf
          refine gt_99 C hw hv25 kw_157 dX1_includeReady_63 ?_
          refine lv_iload_n hx hb dX1_includeReady_66 rfl (lv_at hl 3 rfl) ?_
          obtain ⟨a26, ea26, hg⟩ := bd_s hf
          clear hf
          subst ea26
          have hf := hg
          clear hg
          obtain ⟨_, h27, hf⟩ := bd_s hf
          obtain ⟨r29, d30, h28, hf⟩ := bd2_s hf
          refine cl_V0 C hw hS (tJx4a65c_remove_915e3 l A D cy st sz sh d24 a26 x2 h28) cvJx4a65c_remove_915e3 kw_538 (kc_k h27) ⟨(Nat.le_of_ble_eq_true rfl), (Nat.le_of_ble_eq_true rfl)⟩ hl.1 rfl (Nat.le_of_ble_eq_true rfl) dX1_includeReady_67 ⟨Nat.zero_le _, Nat.zero_le _⟩ (fun H locs hw hS => ?_)
          refine lv_pop hx hb dX1_includeReady_70 (va_rf_c _) ?_
          refine lv_goto (tgt := 77) hx hb dX1_includeReady_71 (by decide) ?_
          refine lv_iinc (v := (x3 + 1)) (lv' := [(3, .int (x3 + 1)), (4, va_rf (some a15)), (0, .ref x0), (1, .int x1), (2, .int x2)]) hx hb dX1_includeReady_77 hl (k := 4) rfl rfl (by decide) rfl (fun ls hl => ?_)
          refine lv_goto (tgt := 12) hx hb dX1_includeReady_80 (by decide) ?_
          exact ih x0 x1 x2 (x3 + 1) d30 hf hw hS (lv_sub hl [2, 3, 4, 0] rfl)

set_option maxRecDepth 100000 in
set_option maxHeartbeats 4000000 in
theorem wX1_includeReady_b0 (C : mx p s m args meth c yX1_includeReady cX1_includeReady 5 (some .int) A D cy st) {r : Int32} {d9 : Dt} : ∀ (x0 : Nat) (d : Dt), fX1_includeReady_b0 sh x0 d = some (r, d9) → ∀ {H : Heap} {locs : List Loc} {ls : Array Slot}, HW A D cy sz sh d H → va_S A s.heap H locs → lv_has ls 5 [(0, .ref x0)] → GL p l e s m args below meth c 3 76 A D cy (some (.int r)) sz sh d9 H locs 0 ls [] := by
  have hx := C.1
  have hb := C.2.1
  intro x0 d hf H locs ls hw hS hl
  unfold fX1_includeReady_b0 at hf
  refine lv_aload_n hx hb dX1_includeReady_0 rfl (lv_at hl 0 rfl) ?_
  obtain ⟨v1, hv1, hf⟩ := bd_s hf
  refine gt_99 C hw hv1 kw_157 dX1_includeReady_1 ?_
  obtain ⟨a2, ea2, hg⟩ := bd_s hf
  clear hf
  subst ea2
  have hf := hg
  clear hg
  obtain ⟨_, h3, hf⟩ := bd_s hf
  obtain ⟨r5, h4, hf⟩ := bd_s hf
  refine cl_V0 C hw hS (tJx4a65c_size_8abf5 l A D cy st sz sh d a2 h4) cvJx4a65c_size_8abf5 kw_253 (kc_k h3) ⟨(Nat.le_of_ble_eq_true rfl), (Nat.le_of_ble_eq_true rfl)⟩ hl.1 rfl (Nat.le_of_ble_eq_true rfl) dX1_includeReady_4 ⟨Nat.zero_le _, Nat.zero_le _⟩ (fun H locs hw hS => ?_)
  refine lv_istore_n (lv' := [(1, .int r5), (0, .ref x0)]) hx hb dX1_includeReady_7 rfl hl (by decide) rfl (fun ls hl => ?_)
  refine lv_iconst (v := 0) hx hb dX1_includeReady_8 (by decide) ?_
  refine lv_istore_n (lv' := [(2, .int (0 : Int32)), (1, .int r5), (0, .ref x0)]) hx hb dX1_includeReady_9 rfl hl (by decide) rfl (fun ls hl => ?_)
  refine lv_iconst (v := 0) hx hb dX1_includeReady_10 (by decide) ?_
  refine lv_istore_n (lv' := [(3, .int (0 : Int32)), (2, .int (0 : Int32)), (1, .int r5), (0, .ref x0)]) hx hb dX1_includeReady_11 rfl hl (by decide) rfl (fun ls hl => ?_)
  exact wX1_includeReady_b12 C fu x0 r5 (0 : Int32) (0 : Int32) d hf hw hS (lv_sub hl [3, 2, 1, 0] rfl)

set_option maxRecDepth 100000 in
set_option maxHeartbeats 4000000 in
theorem tX1_includeReady (l : Launch) (A : Nat → Prop) (D : va_G) (cy : Nat → ClassId) (st : Nat → Nat) (sz : Nat) (sh : Sh) (d : Dt) (x0 : Nat) {r : Int32} {d9 : Dt} (hf : fX1_includeReady sh d x0 = some (r, d9)) : Ct l yX1_includeReady cX1_includeReady 5 (some .int) 3 76 0 0 A D cy st [.ref x0] sz sh d (some (.int r)) sz sh d9 := ct_of (by decide) (Nat.le_of_ble_eq_true rfl) (fun p e s m args below meth c C hw hS ls hl => wX1_includeReady_b0 C x0 d hf hw hS hl)
theorem dX1_receive_0 : decode cX1_receive 0 = .ok (.aload_n 0, 1) := by decide +kernel
theorem dX1_receive_1 : decode cX1_receive 1 = .ok (.aload_n 1, 1) := by decide +kernel
theorem dX1_receive_2 : decode cX1_receive 2 = .ok (.invokevirtual 76, 3) := by decide +kernel
theorem dX1_receive_5 : decode cX1_receive 5 = .ok (.ifCond .ne 8, 3) := by decide +kernel
theorem dX1_receive_8 : decode cX1_receive 8 = .ok (.aload_n 0, 1) := by decide +kernel
theorem dX1_receive_9 : decode cX1_receive 9 = .ok (.aload_n 1, 1) := by decide +kernel
theorem dX1_receive_10 : decode cX1_receive 10 = .ok (.invokevirtual 80, 3) := by decide +kernel
theorem dX1_receive_13 : decode cX1_receive 13 = .ok (.aload_n 0, 1) := by decide +kernel
theorem dX1_receive_14 : decode cX1_receive 14 = .ok (.invokevirtual 84, 3) := by decide +kernel
theorem dX1_receive_17 : decode cX1_receive 17 = .ok (.ireturn, 1) := by decide +kernel
theorem cvX1_receive : CV yX1_receive cX1_receive 2 (some .int) 2 1 := ⟨kw_503, kw_504, kw_7, kw_505, ⟨_, _, rfl⟩, by decide, by decide +kernel, by decide +kernel, by decide +kernel⟩
def fX1_receive_b13 (em mi : Nat) (x0 : Nat) (sz : Nat) (ns : Nat) (sh : Sh) (d : Dt) : Option (Int32 × Wl) := bd (kc sh 3 x0) fun _ => bd2 (fX1_includeReady sh d x0) fun r3 d4 => some (r3, sz, ns, sh, d4)

def fX1_receive_b0 (em mi : Nat) (x0 : Nat) (x1 : Option Nat) (sz : Nat) (ns : Nat) (sh : Sh) (d : Dt) : Option (Int32 × Wl) := bd (kc sh 3 x0) fun _ => bd (fX1_awaits sh d x0 x1) fun r3 => if (bI r3) = 0 then (bw (fX1_queue em mi x0 x1 sz ns sh d) fun szq7 nsq7 shq7 dq7 => fX1_receive_b13 em mi x0 szq7 nsq7 shq7 dq7) else (fX1_receive_b13 em mi x0 sz ns sh d)

def fX1_receive (em mi : Nat) (x0 : Nat) (x1 : Option Nat) (sz ns : Nat) (sh : Sh) (d : Dt) : Option (Int32 × Wl) := fX1_receive_b0 em mi x0 x1 sz ns sh d

set_option maxRecDepth 100000 in
set_option maxHeartbeats 4000000 in
theorem mX1_receive_b13 (em mi : Nat) {r : Int32} {sz9 ns9 : Nat} {sh9 : Sh} {d9 : Dt} : ∀ (x0 : Nat) (sz : Nat) (ns : Nat) (sh : Sh) (d : Dt), fX1_receive_b13 em mi x0 sz ns sh d = some (r, sz9, ns9, sh9, d9) → sz ≤ sz9 ∧ ns ≤ ns9 := by
  intro x0 sz ns sh d hf
  unfold fX1_receive_b13 at hf
  obtain ⟨_, h1, hf⟩ := bd_s hf
  obtain ⟨r3, d4, h2, hf⟩ := bd2_s hf
  cases hf
  exact ⟨Nat.le_refl _, Nat.le_refl _⟩

set_option maxRecDepth 100000 in
set_option maxHeartbeats 4000000 in
theorem mX1_receive_b0 (em mi : Nat) {r : Int32} {sz9 ns9 : Nat} {sh9 : Sh} {d9 : Dt} : ∀ (x0 : Nat) (x1 : Option Nat) (sz : Nat) (ns : Nat) (sh : Sh) (d : Dt), fX1_receive_b0 em mi x0 x1 sz ns sh d = some (r, sz9, ns9, sh9, d9) → sz ≤ sz9 ∧ ns ≤ ns9 := by
  intro x0 x1 sz ns sh d hf
  unfold fX1_receive_b0 at hf
  obtain ⟨_, h1, hf⟩ := bd_s hf
  obtain ⟨r3, h2, hf⟩ := bd_s hf
  by_cases c_4 : (bI r3) = 0
  · have hf := if_t c_4 hf
    obtain ⟨szq7, nsq7, shq7, dq7, h5, hf⟩ := bw_s hf
    have hq := gX1_queue em mi x0 x1 sz ns sh d h5
    have hm := mX1_receive_b13 em mi x0 szq7 nsq7 shq7 dq7 hf
    omega
  · have hf := if_f c_4 hf
    have hm := mX1_receive_b13 em mi x0 sz ns sh d hf
    omega

theorem gX1_receive (em mi : Nat) (x0 : Nat) (x1 : Option Nat) (sz ns : Nat) (sh : Sh) (d : Dt) {r : Int32} {sz9 ns9 : Nat} {sh9 : Sh} {d9 : Dt} (hf : fX1_receive em mi x0 x1 sz ns sh d = some (r, sz9, ns9, sh9, d9)) : sz ≤ sz9 ∧ ns ≤ ns9 := mX1_receive_b0 em mi x0 x1 sz ns sh d hf

set_option maxRecDepth 100000 in
set_option maxHeartbeats 4000000 in
theorem wX1_receive_b13 (C : mx p s m args meth c yX1_receive cX1_receive 2 (some .int) A D cy st) {r : Int32} {sz9 ns9 : Nat} {sh9 : Sh} {d9 : Dt} {mc ms : Nat} : ∀ (x0 : Nat) (sz : Nat) (ns : Nat) (sh : Sh) (d : Dt), fX1_receive_b13 (st 1) (st 2) x0 sz ns sh d = some (r, sz9, ns9, sh9, d9) → ∀ {cu su : Nat}, sz9 + cu = sz + mc → ns9 + su = ns + ms → ∀ {H : Heap} {locs : List Loc} {ls : Array Slot}, HW A D cy sz sh d H → va_S A s.heap H locs → lv_has ls 2 [(0, .ref x0)] → GA p l e s m args below meth c 7 163 mc ms A D cy (some (.int r)) sz9 sh9 d9 H locs cu su 13 ls [] := by
  have hx := C.1
  have hb := C.2.1
  intro x0 sz ns sh d hf cu su hcm hsm H locs ls hw hS hl
  have hm0 := mX1_receive_b13 (st 1) (st 2) x0 sz ns sh d hf
  unfold fX1_receive_b13 at hf
  refine lv_aload_n hx hb dX1_receive_13 rfl (lv_at hl 0 rfl) ?_
  obtain ⟨_, h1, hf⟩ := bd_s hf
  obtain ⟨r3, d4, h2, hf⟩ := bd2_s hf
  refine cl_V0 C hw hS (tX1_includeReady l A D cy st sz sh d x0 h2) cvX1_includeReady kw_529 (kc_k h1) ⟨(Nat.le_of_ble_eq_true rfl), (Nat.le_of_ble_eq_true rfl)⟩ hl.1 rfl (Nat.le_of_ble_eq_true rfl) dX1_receive_14 ⟨by show _ ≤ mc; omega, by show _ ≤ ms; omega⟩ (fun H locs hw hS => ?_)
  cases hf
  obtain rfl : mc = cu := by omega
  obtain rfl : ms = su := by omega
  exact rt_i C hw hS dX1_receive_17

set_option maxRecDepth 100000 in
set_option maxHeartbeats 4000000 in
theorem wX1_receive_b0 (C : mx p s m args meth c yX1_receive cX1_receive 2 (some .int) A D cy st) {r : Int32} {sz9 ns9 : Nat} {sh9 : Sh} {d9 : Dt} {mc ms : Nat} : ∀ (x0 : Nat) (x1 : Option Nat) (sz : Nat) (ns : Nat) (sh : Sh) (d : Dt), fX1_receive_b0 (st 1) (st 2) x0 x1 sz ns sh d = some (r, sz9, ns9, sh9, d9) → ∀ {cu su : Nat}, sz9 + cu = sz + mc → ns9 + su = ns + ms → ∀ {H : Heap} {locs : List Loc} {ls : Array Slot}, HW A D cy sz sh d H → va_S A s.heap H locs → lv_has ls 2 [(0, .ref x0), (1, va_rf x1)] → GA p l e s m args below meth c 7 163 mc ms A D cy (some (.int r)) sz9 sh9 d9 H locs cu su 0 ls [] := by
  have hx := C.1
  have hb := C.2.1
  intro x0 x1 sz ns sh d hf cu su hcm hsm H locs ls hw hS hl
  have hm0 := mX1_receive_b0 (st 1) (st 2) x0 x1 sz ns sh d hf
  unfold fX1_receive_b0 at hf
  refine lv_aload_n hx hb dX1_receive_0 rfl (lv_at hl 0 rfl) ?_
  refine lq_aload_n hx hb dX1_receive_1 rfl (lv_at hl 1 rfl) ?_
  obtain ⟨_, h1, hf⟩ := bd_s hf
  obtain ⟨r3, h2, hf⟩ := bd_s hf
  refine cl_V0 C hw hS (tX1_awaits l A D cy st sz sh d x0 x1 h2) cvX1_awaits kw_506 (kc_k h1) ⟨(Nat.le_of_ble_eq_true rfl), (Nat.le_of_ble_eq_true rfl)⟩ hl.1 rfl (Nat.le_of_ble_eq_true rfl) dX1_receive_2 ⟨by show _ ≤ mc; omega, by show _ ≤ ms; omega⟩ (fun H locs hw hS => ?_)
  refine lv_if_ne (tgt := 13) hx hb dX1_receive_5 (by decide) (fun c_4 => ?_) (fun c_4 => ?_)
  · have hf := if_f c_4 hf
    exact wX1_receive_b13 C x0 sz ns sh d hf (by omega) (by omega) hw hS (lv_sub hl [0] rfl)
  · have hf := if_t c_4 hf
    refine lv_aload_n hx hb dX1_receive_8 rfl (lv_at hl 0 rfl) ?_
    refine lq_aload_n hx hb dX1_receive_9 rfl (lv_at hl 1 rfl) ?_
    obtain ⟨szq7, nsq7, shq7, dq7, h5, hf⟩ := bw_s hf
    have hm := mX1_receive_b13 (st 1) (st 2) x0 szq7 nsq7 shq7 dq7 hf
    have hq := gX1_queue (st 1) (st 2) x0 x1 sz ns sh d h5
    refine cl_V C hw hS (tX1_queue l A D cy st x0 x1 sz ns sh d h5) cvX1_queue kw_512 (kc_k h1) ⟨(Nat.le_of_ble_eq_true rfl), (Nat.le_of_ble_eq_true rfl)⟩ hl.1 rfl (Nat.le_of_ble_eq_true rfl) dX1_receive_10 ⟨by show _ ≤ mc; omega, by show _ ≤ ms; omega⟩ (fun H locs hw hS => ?_)
    exact wX1_receive_b13 C x0 szq7 nsq7 shq7 dq7 hf (by omega) (by omega) hw hS (lv_sub hl [0] rfl)

set_option maxRecDepth 100000 in
set_option maxHeartbeats 4000000 in
theorem tX1_receive (l : Launch) (A : Nat → Prop) (D : va_G) (cy : Nat → ClassId) (st : Nat → Nat) (x0 : Nat) (x1 : Option Nat) (sz ns : Nat) (sh : Sh) (d : Dt) {r : Int32} {sz9 ns9 : Nat} {sh9 : Sh} {d9 : Dt} (hf : fX1_receive (st 1) (st 2) x0 x1 sz ns sh d = some (r, sz9, ns9, sh9, d9)) : Ct l yX1_receive cX1_receive 2 (some .int) 7 163 (sz9 - sz) (ns9 - ns) A D cy st [.ref x0, va_rf x1] sz sh d (some (.int r)) sz9 sh9 d9 := by
  have hm := gX1_receive (st 1) (st 2) x0 x1 sz ns sh d hf
  exact ct_of (by decide) (by simp [lg_sl, va_rf_c, cat_i, cat_l, cat_r]) (fun p e s m args below meth c C hw hS ls hl => wX1_receive_b0 C x0 x1 sz ns sh d hf (by omega) (by omega) hw hS (by simpa [lv_args, va_rf_c, cat_i, cat_l, cat_r] using hl))
theorem dX1_ownAt_0 : decode cX1_ownAt 0 = .ok (.iload_n 1, 1) := by decide +kernel
theorem dX1_ownAt_1 : decode cX1_ownAt 1 = .ok (.iconst 1, 1) := by decide +kernel
theorem dX1_ownAt_2 : decode cX1_ownAt 2 = .ok (.if_icmp .lt 14, 3) := by decide +kernel
theorem dX1_ownAt_5 : decode cX1_ownAt 5 = .ok (.iload_n 1, 1) := by decide +kernel
theorem dX1_ownAt_6 : decode cX1_ownAt 6 = .ok (.aload_n 0, 1) := by decide +kernel
theorem dX1_ownAt_7 : decode cX1_ownAt 7 = .ok (.getfield 21, 3) := by decide +kernel
theorem dX1_ownAt_10 : decode cX1_ownAt 10 = .ok (.invokevirtual 47, 3) := by decide +kernel
theorem dX1_ownAt_13 : decode cX1_ownAt 13 = .ok (.if_icmp .le 7, 3) := by decide +kernel
theorem dX1_ownAt_16 : decode cX1_ownAt 16 = .ok (.aconst_null, 1) := by decide +kernel
theorem dX1_ownAt_17 : decode cX1_ownAt 17 = .ok (.goto 16, 3) := by decide +kernel
theorem dX1_ownAt_20 : decode cX1_ownAt 20 = .ok (.aload_n 0, 1) := by decide +kernel
theorem dX1_ownAt_21 : decode cX1_ownAt 21 = .ok (.getfield 21, 3) := by decide +kernel
theorem dX1_ownAt_24 : decode cX1_ownAt 24 = .ok (.iload_n 1, 1) := by decide +kernel
theorem dX1_ownAt_25 : decode cX1_ownAt 25 = .ok (.iconst 1, 1) := by decide +kernel
theorem dX1_ownAt_26 : decode cX1_ownAt 26 = .ok (.isub, 1) := by decide +kernel
theorem dX1_ownAt_27 : decode cX1_ownAt 27 = .ok (.invokevirtual 51, 3) := by decide +kernel
theorem dX1_ownAt_30 : decode cX1_ownAt 30 = .ok (.checkcast 55, 3) := by decide +kernel
theorem dX1_ownAt_33 : decode cX1_ownAt 33 = .ok (.areturn, 1) := by decide +kernel
theorem cvX1_ownAt : CV yX1_ownAt cX1_ownAt 2 (some (.object "ManyHands$Entry")) 2 1 := ⟨kw_556, kw_557, kw_7, kw_558, ⟨_, _, rfl⟩, by decide, by decide +kernel, by decide +kernel, by decide +kernel⟩
def fX1_ownAt_b16 (sh : Sh) (d : Dt) : Option (Option Nat) := some none

def fX1_ownAt_b0 (sh : Sh) (d : Dt) (x0 : Nat) (x1 : Int32) : Option (Option Nat) := if x1 < (1 : Int32) then (fX1_ownAt_b16 sh d ) else (bd (gR sh d 3 98 x0) fun v2 => bd v2 fun a3 => bd (kc sh 1 a3) fun _ => bd (fJx4a65c_size_8abf5 sh d a3) fun r6 => if x1 ≤ r6 then (bd (gR sh d 3 98 x0) fun v8 => bd v8 fun a9 => bd (kc sh 1 a9) fun _ => bd (fJx4a65c_get_915e3 sh d a9 (x1 - (1 : Int32))) fun r12 => bd (cst sh 2 r12) fun _ => some r12) else (fX1_ownAt_b16 sh d ))

def fX1_ownAt (sh : Sh) (d : Dt) (x0 : Nat) (x1 : Int32) : Option (Option Nat) := fX1_ownAt_b0 sh d x0 x1

set_option maxRecDepth 100000 in
set_option maxHeartbeats 4000000 in
theorem wX1_ownAt_b16 (C : mx p s m args meth c yX1_ownAt cX1_ownAt 2 (some (.object "ManyHands$Entry")) A D cy st) {r : Option Nat} {d : Dt} : fX1_ownAt_b16 sh d  = some r → ∀ {H : Heap} {locs : List Loc} {ls : Array Slot}, HW A D cy sz sh d H → va_S A s.heap H locs → lv_has ls 2 [] → GL p l e s m args below meth c 3 64 A D cy (some (va_rf r)) sz sh d H locs 16 ls [] := by
  have hx := C.1
  have hb := C.2.1
  intro  hf H locs ls hw hS hl
  unfold fX1_ownAt_b16 at hf
  refine lv_null hx hb dX1_ownAt_16 ?_
  refine lv_goto (tgt := 33) hx hb dX1_ownAt_17 (by decide) ?_
  cases hf
  exact rt_a C hw hS dX1_ownAt_33

set_option maxRecDepth 100000 in
set_option maxHeartbeats 4000000 in
theorem wX1_ownAt_b0 (C : mx p s m args meth c yX1_ownAt cX1_ownAt 2 (some (.object "ManyHands$Entry")) A D cy st) {r : Option Nat} {d : Dt} : ∀ (x0 : Nat) (x1 : Int32), fX1_ownAt_b0 sh d x0 x1 = some r → ∀ {H : Heap} {locs : List Loc} {ls : Array Slot}, HW A D cy sz sh d H → va_S A s.heap H locs → lv_has ls 2 [(0, .ref x0), (1, .int x1)] → GL p l e s m args below meth c 3 64 A D cy (some (va_rf r)) sz sh d H locs 0 ls [] := by
  have hx := C.1
  have hb := C.2.1
  intro x0 x1 hf H locs ls hw hS hl
  unfold fX1_ownAt_b0 at hf
  refine lv_iload_n hx hb dX1_ownAt_0 rfl (lv_at hl 1 rfl) ?_
  refine lv_iconst (v := 1) hx hb dX1_ownAt_1 (by decide) ?_
  refine lv_icmp_lt (tgt := 16) hx hb dX1_ownAt_2 (by decide) (fun c_1 => ?_) (fun c_1 => ?_)
  · have hf := if_t c_1 hf
    exact wX1_ownAt_b16 C  hf hw hS (lv_sub hl [] rfl)
  · have hf := if_f c_1 hf
    refine lv_iload_n hx hb dX1_ownAt_5 rfl (lv_at hl 1 rfl) ?_
    refine lv_aload_n hx hb dX1_ownAt_6 rfl (lv_at hl 0 rfl) ?_
    obtain ⟨v2, hv2, hf⟩ := bd_s hf
    refine gt_98 C hw hv2 kw_154 dX1_ownAt_7 ?_
    obtain ⟨a3, ea3, hg⟩ := bd_s hf
    clear hf
    subst ea3
    have hf := hg
    clear hg
    obtain ⟨_, h4, hf⟩ := bd_s hf
    obtain ⟨r6, h5, hf⟩ := bd_s hf
    refine cl_V0 C hw hS (tJx4a65c_size_8abf5 l A D cy st sz sh d a3 h5) cvJx4a65c_size_8abf5 kw_253 (kc_k h4) ⟨(Nat.le_of_ble_eq_true rfl), (Nat.le_of_ble_eq_true rfl)⟩ hl.1 rfl (Nat.le_of_ble_eq_true rfl) dX1_ownAt_10 ⟨Nat.zero_le _, Nat.zero_le _⟩ (fun H locs hw hS => ?_)
    refine lv_icmp_le (tgt := 20) hx hb dX1_ownAt_13 (by decide) (fun c_7 => ?_) (fun c_7 => ?_)
    · have hf := if_t c_7 hf
      refine lv_aload_n hx hb dX1_ownAt_20 rfl (lv_at hl 0 rfl) ?_
      obtain ⟨v8, hv8, hf⟩ := bd_s hf
      refine gt_98 C hw hv8 kw_154 dX1_ownAt_21 ?_
      refine lv_iload_n hx hb dX1_ownAt_24 rfl (lv_at hl 1 rfl) ?_
      refine lv_iconst (v := 1) hx hb dX1_ownAt_25 (by decide) ?_
      refine lv_isub hx hb dX1_ownAt_26 ?_
      obtain ⟨a9, ea9, hg⟩ := bd_s hf
      clear hf
      subst ea9
      have hf := hg
      clear hg
      obtain ⟨_, h10, hf⟩ := bd_s hf
      obtain ⟨r12, h11, hf⟩ := bd_s hf
      refine cl_V0 C hw hS (tJx4a65c_get_915e3 l A D cy st sz sh d a9 (x1 - (1 : Int32)) h11) cvJx4a65c_get_915e3 kw_510 (kc_k h10) ⟨(Nat.le_of_ble_eq_true rfl), (Nat.le_of_ble_eq_true rfl)⟩ hl.1 rfl (Nat.le_of_ble_eq_true rfl) dX1_ownAt_27 ⟨Nat.zero_le _, Nat.zero_le _⟩ (fun H locs hw hS => ?_)
      obtain ⟨uh13, h13, hf⟩ := bd_s hf
      refine w_cast (ci := 1) (v := r12) C hw rfl (by decide) h13 kw_511 (by decide +kernel) dX1_ownAt_30 ?_
      cases hf
      exact rt_a C hw hS dX1_ownAt_33
    · have hf := if_f c_7 hf
      exact wX1_ownAt_b16 C  hf hw hS (lv_sub hl [] rfl)

set_option maxRecDepth 100000 in
set_option maxHeartbeats 4000000 in
theorem tX1_ownAt (l : Launch) (A : Nat → Prop) (D : va_G) (cy : Nat → ClassId) (st : Nat → Nat) (sz : Nat) (sh : Sh) (d : Dt) (x0 : Nat) (x1 : Int32) {r : Option Nat} (hf : fX1_ownAt sh d x0 x1 = some r) : Ct l yX1_ownAt cX1_ownAt 2 (some (.object "ManyHands$Entry")) 3 64 0 0 A D cy st [.ref x0, .int x1] sz sh d (some (va_rf r)) sz sh d := ct_of (by decide) (Nat.le_of_ble_eq_true rfl) (fun p e s m args below meth c C hw hS ls hl => wX1_ownAt_b0 C x0 x1 hf hw hS hl)
theorem dX1_forget_0 : decode cX1_forget 0 = .ok (.aload_n 0, 1) := by decide +kernel
theorem dX1_forget_1 : decode cX1_forget 1 = .ok (.getfield 12, 3) := by decide +kernel
theorem dX1_forget_4 : decode cX1_forget 4 = .ok (.invokevirtual 107, 3) := by decide +kernel
theorem dX1_forget_7 : decode cX1_forget 7 = .ok (.istore_n 1, 1) := by decide +kernel
theorem dX1_forget_8 : decode cX1_forget 8 = .ok (.aload_n 0, 1) := by decide +kernel
theorem dX1_forget_9 : decode cX1_forget 9 = .ok (.getfield 12, 3) := by decide +kernel
theorem dX1_forget_12 : decode cX1_forget 12 = .ok (.invokevirtual 108, 3) := by decide +kernel
theorem dX1_forget_15 : decode cX1_forget 15 = .ok (.aload_n 0, 1) := by decide +kernel
theorem dX1_forget_16 : decode cX1_forget 16 = .ok (.getfield 25, 3) := by decide +kernel
theorem dX1_forget_19 : decode cX1_forget 19 = .ok (.invokevirtual 111, 3) := by decide +kernel
theorem dX1_forget_22 : decode cX1_forget 22 = .ok (.aload_n 0, 1) := by decide +kernel
theorem dX1_forget_23 : decode cX1_forget 23 = .ok (.iconst 0, 1) := by decide +kernel
theorem dX1_forget_24 : decode cX1_forget 24 = .ok (.putfield 63, 3) := by decide +kernel
theorem dX1_forget_27 : decode cX1_forget 27 = .ok (.iconst 0, 1) := by decide +kernel
theorem dX1_forget_28 : decode cX1_forget 28 = .ok (.istore_n 2, 1) := by decide +kernel
theorem dX1_forget_29 : decode cX1_forget 29 = .ok (.iload_n 2, 1) := by decide +kernel
theorem dX1_forget_30 : decode cX1_forget 30 = .ok (.bipush 10, 2) := by decide +kernel
theorem dX1_forget_32 : decode cX1_forget 32 = .ok (.if_icmp .ge 16, 3) := by decide +kernel
theorem dX1_forget_35 : decode cX1_forget 35 = .ok (.aload_n 0, 1) := by decide +kernel
theorem dX1_forget_36 : decode cX1_forget 36 = .ok (.getfield 28, 3) := by decide +kernel
theorem dX1_forget_39 : decode cX1_forget 39 = .ok (.iload_n 2, 1) := by decide +kernel
theorem dX1_forget_40 : decode cX1_forget 40 = .ok (.iconst 0, 1) := by decide +kernel
theorem dX1_forget_41 : decode cX1_forget 41 = .ok (.bastore, 1) := by decide +kernel
theorem dX1_forget_42 : decode cX1_forget 42 = .ok (.iinc 2 1, 3) := by decide +kernel
theorem dX1_forget_45 : decode cX1_forget 45 = .ok (.goto (-16), 3) := by decide +kernel
theorem dX1_forget_48 : decode cX1_forget 48 = .ok (.iload_n 1, 1) := by decide +kernel
theorem dX1_forget_49 : decode cX1_forget 49 = .ok (.ireturn, 1) := by decide +kernel
theorem cvX1_forget : CV yX1_forget cX1_forget 3 (some .int) 2 0 := ⟨kw_565, kw_566, kw_7, kw_567, ⟨_, _, rfl⟩, by decide, by decide +kernel, by decide +kernel, by decide +kernel⟩
def fX1_forget_b29 (sh : Sh) : Nat → Nat → Int32 → Int32 → Dt → Option (Int32 × Dt)
  | 0, _, _, _, _ => none
  | n + 1, x0, x1, x2, d => if (10 : Int32) ≤ x2 then (some (x1, d)) else (bd (gR sh d 3 100 x0) fun v2 => bd v2 fun a3 => bd (sZ sh d 22 a3 x2 (0 : Int32)) fun d4 => fX1_forget_b29 sh n x0 x1 (x2 + 1) d4)

def fX1_forget_b0 (sh : Sh) (x0 : Nat) (d : Dt) : Option (Int32 × Dt) := bd (gR sh d 3 97 x0) fun v1 => bd v1 fun a2 => bd (kc sh 6 a2) fun _ => bd (fX4_size sh d a2) fun r5 => bd (gR sh d 3 97 x0) fun v6 => bd v6 fun a7 => bd (kc sh 6 a7) fun _ => bd (fX4_empty sh d a7) fun d11 => bd (gR sh d11 3 99 x0) fun v12 => bd v12 fun a13 => bd (kc sh 1 a13) fun _ => bd (fJx4a65c_clear_da8c8 sh d11 a13) fun d17 => bd (pI sh d17 3 102 x0 (0 : Int32)) fun d18 => fX1_forget_b29 sh fu x0 r5 (0 : Int32) d18

def fX1_forget (sh : Sh) (d : Dt) (x0 : Nat) : Option (Int32 × Dt) := fX1_forget_b0 sh x0 d

set_option maxRecDepth 100000 in
set_option maxHeartbeats 4000000 in
theorem wX1_forget_b29 (C : mx p s m args meth c yX1_forget cX1_forget 3 (some .int) A D cy st) {r : Int32} {d9 : Dt} : ∀ (n : Nat) (x0 : Nat) (x1 : Int32) (x2 : Int32) (d : Dt), fX1_forget_b29 sh n x0 x1 x2 d = some (r, d9) → ∀ {H : Heap} {locs : List Loc} {ls : Array Slot}, HW A D cy sz sh d H → va_S A s.heap H locs → lv_has ls 3 [(0, .ref x0), (1, .int x1), (2, .int x2)] → GL p l e s m args below meth c 1 23 A D cy (some (.int r)) sz sh d9 H locs 29 ls [] := by
  have hx := C.1
  have hb := C.2.1
  intro n
  induction n with
  | zero => intro x0 x1 x2 d hf; cases hf
  | succ n ih =>
    intro x0 x1 x2 d hf H locs ls hw hS hl
    rw [fX1_forget_b29] at hf
    refine lv_iload_n hx hb dX1_forget_29 rfl (lv_at hl 2 rfl) ?_
    refine lv_bipush (v := 10) hx hb dX1_forget_30 (by decide) ?_
    refine lv_icmp_ge (tgt := 48) hx hb dX1_forget_32 (by decide) (fun c_1 => ?_) (fun c_1 => ?_)
    · have hf := if_t c_1 hf
      refine lv_iload_n hx hb dX1_forget_48 rfl (lv_at hl 1 rfl) ?_
      cases hf
      exact rt_i C hw hS dX1_forget_49
    · have hf := if_f c_1 hf
      refine lv_aload_n hx hb dX1_forget_35 rfl (lv_at hl 0 rfl) ?_
      obtain ⟨v2, hv2, hf⟩ := bd_s hf
      refine gt_100 C hw hv2 kw_158 dX1_forget_36 ?_
      refine lv_iload_n hx hb dX1_forget_39 rfl (lv_at hl 2 rfl) ?_
      refine lv_iconst (v := 0) hx hb dX1_forget_40 (by decide) ?_
      obtain ⟨a3, ea3, hg⟩ := bd_s hf
      clear hf
      subst ea3
      have hf := hg
      clear hg
      obtain ⟨d4, hd4, hf⟩ := bd_s hf
      refine w_zast C hw hS hd4 dX1_forget_41 (fun H locs hw hS => ?_)
      refine lv_iinc (v := (x2 + 1)) (lv' := [(2, .int (x2 + 1)), (0, .ref x0), (1, .int x1)]) hx hb dX1_forget_42 hl (k := 2) rfl rfl (by decide) rfl (fun ls hl => ?_)
      refine lv_goto (tgt := 29) hx hb dX1_forget_45 (by decide) ?_
      exact ih x0 x1 (x2 + 1) d4 hf hw hS (lv_sub hl [1, 2, 0] rfl)

set_option maxRecDepth 100000 in
set_option maxHeartbeats 4000000 in
theorem wX1_forget_b0 (C : mx p s m args meth c yX1_forget cX1_forget 3 (some .int) A D cy st) {r : Int32} {d9 : Dt} : ∀ (x0 : Nat) (d : Dt), fX1_forget_b0 sh x0 d = some (r, d9) → ∀ {H : Heap} {locs : List Loc} {ls : Array Slot}, HW A D cy sz sh d H → va_S A s.heap H locs → lv_has ls 3 [(0, .ref x0)] → GL p l e s m args below meth c 1 23 A D cy (some (.int r)) sz sh d9 H locs 0 ls [] := by
  have hx := C.1
  have hb := C.2.1
  intro x0 d hf H locs ls hw hS hl
  unfold fX1_forget_b0 at hf
  refine lv_aload_n hx hb dX1_forget_0 rfl (lv_at hl 0 rfl) ?_
  obtain ⟨v1, hv1, hf⟩ := bd_s hf
  refine gt_97 C hw hv1 kw_151 dX1_forget_1 ?_
  obtain ⟨a2, ea2, hg⟩ := bd_s hf
  clear hf
  subst ea2
  have hf := hg
  clear hg
  obtain ⟨_, h3, hf⟩ := bd_s hf
  obtain ⟨r5, h4, hf⟩ := bd_s hf
  refine cl_V0 C hw hS (tX4_size l A D cy st sz sh d a2 h4) cvX4_size kw_568 (kc_k h3) ⟨(Nat.le_of_ble_eq_true rfl), (Nat.le_of_ble_eq_true rfl)⟩ hl.1 rfl (Nat.le_of_ble_eq_true rfl) dX1_forget_4 ⟨Nat.zero_le _, Nat.zero_le _⟩ (fun H locs hw hS => ?_)
  refine lv_istore_n (lv' := [(1, .int r5), (0, .ref x0)]) hx hb dX1_forget_7 rfl hl (by decide) rfl (fun ls hl => ?_)
  refine lv_aload_n hx hb dX1_forget_8 rfl (lv_at hl 1 rfl) ?_
  obtain ⟨v6, hv6, hf⟩ := bd_s hf
  refine gt_97 C hw hv6 kw_151 dX1_forget_9 ?_
  obtain ⟨a7, ea7, hg⟩ := bd_s hf
  clear hf
  subst ea7
  have hf := hg
  clear hg
  obtain ⟨_, h8, hf⟩ := bd_s hf
  obtain ⟨d11, h9, hf⟩ := bd_s hf
  refine cl_V0 C hw hS (tX4_empty l A D cy st sz sh d a7 h9) cvX4_empty kw_569 (kc_k h8) ⟨(Nat.le_of_ble_eq_true rfl), (Nat.le_of_ble_eq_true rfl)⟩ hl.1 rfl (Nat.le_of_ble_eq_true rfl) dX1_forget_12 ⟨Nat.zero_le _, Nat.zero_le _⟩ (fun H locs hw hS => ?_)
  refine lv_aload_n hx hb dX1_forget_15 rfl (lv_at hl 1 rfl) ?_
  obtain ⟨v12, hv12, hf⟩ := bd_s hf
  refine gt_99 C hw hv12 kw_157 dX1_forget_16 ?_
  obtain ⟨a13, ea13, hg⟩ := bd_s hf
  clear hf
  subst ea13
  have hf := hg
  clear hg
  obtain ⟨_, h14, hf⟩ := bd_s hf
  obtain ⟨d17, h15, hf⟩ := bd_s hf
  refine cl_V0 C hw hS (tJx4a65c_clear_da8c8 l A D cy st sz sh d11 a13 h15) cvJx4a65c_clear_da8c8 kw_570 (kc_k h14) ⟨(Nat.le_of_ble_eq_true rfl), (Nat.le_of_ble_eq_true rfl)⟩ hl.1 rfl (Nat.le_of_ble_eq_true rfl) dX1_forget_19 ⟨Nat.zero_le _, Nat.zero_le _⟩ (fun H locs hw hS => ?_)
  refine lv_aload_n hx hb dX1_forget_22 rfl (lv_at hl 1 rfl) ?_
  refine lv_iconst (v := 0) hx hb dX1_forget_23 (by decide) ?_
  obtain ⟨d18, hd18, hf⟩ := bd_s hf
  refine pt_102 C hw hS hd18 kw_163 dX1_forget_24 (fun H locs hw hS => ?_)
  refine lv_iconst (v := 0) hx hb dX1_forget_27 (by decide) ?_
  refine lv_istore_n (lv' := [(2, .int (0 : Int32)), (1, .int r5), (0, .ref x0)]) hx hb dX1_forget_28 rfl hl (by decide) rfl (fun ls hl => ?_)
  exact wX1_forget_b29 C fu x0 r5 (0 : Int32) d18 hf hw hS (lv_sub hl [2, 1, 0] rfl)

set_option maxRecDepth 100000 in
set_option maxHeartbeats 4000000 in
theorem tX1_forget (l : Launch) (A : Nat → Prop) (D : va_G) (cy : Nat → ClassId) (st : Nat → Nat) (sz : Nat) (sh : Sh) (d : Dt) (x0 : Nat) {r : Int32} {d9 : Dt} (hf : fX1_forget sh d x0 = some (r, d9)) : Ct l yX1_forget cX1_forget 3 (some .int) 1 23 0 0 A D cy st [.ref x0] sz sh d (some (.int r)) sz sh d9 := ct_of (by decide) (Nat.le_of_ble_eq_true rfl) (fun p e s m args below meth c C hw hS ls hl => wX1_forget_b0 C x0 d hf hw hS hl)
theorem dX1_report_0 : decode cX1_report 0 = .ok (.iload_n 1, 1) := by decide +kernel
theorem dX1_report_1 : decode cX1_report 1 = .ok (.tableswitch 65 0 3 #[31, 39, 47, 52], 31) := by decide +kernel
theorem dX1_report_32 : decode cX1_report 32 = .ok (.aload_n 0, 1) := by decide +kernel
theorem dX1_report_33 : decode cX1_report 33 = .ok (.getfield 12, 3) := by decide +kernel
theorem dX1_report_36 : decode cX1_report 36 = .ok (.invokevirtual 107, 3) := by decide +kernel
theorem dX1_report_39 : decode cX1_report 39 = .ok (.ireturn, 1) := by decide +kernel
theorem dX1_report_40 : decode cX1_report 40 = .ok (.aload_n 0, 1) := by decide +kernel
theorem dX1_report_41 : decode cX1_report 41 = .ok (.getfield 25, 3) := by decide +kernel
theorem dX1_report_44 : decode cX1_report 44 = .ok (.invokevirtual 47, 3) := by decide +kernel
theorem dX1_report_47 : decode cX1_report 47 = .ok (.ireturn, 1) := by decide +kernel
theorem dX1_report_48 : decode cX1_report 48 = .ok (.aload_n 0, 1) := by decide +kernel
theorem dX1_report_49 : decode cX1_report 49 = .ok (.getfield 63, 3) := by decide +kernel
theorem dX1_report_52 : decode cX1_report 52 = .ok (.ireturn, 1) := by decide +kernel
theorem dX1_report_53 : decode cX1_report 53 = .ok (.aload_n 0, 1) := by decide +kernel
theorem dX1_report_54 : decode cX1_report 54 = .ok (.getfield 12, 3) := by decide +kernel
theorem dX1_report_57 : decode cX1_report 57 = .ok (.getfield 43, 3) := by decide +kernel
theorem dX1_report_60 : decode cX1_report 60 = .ok (.aload_n 0, 1) := by decide +kernel
theorem dX1_report_61 : decode cX1_report 61 = .ok (.getfield 39, 3) := by decide +kernel
theorem dX1_report_64 : decode cX1_report 64 = .ok (.iaload, 1) := by decide +kernel
theorem dX1_report_65 : decode cX1_report 65 = .ok (.ireturn, 1) := by decide +kernel
theorem dX1_report_66 : decode cX1_report 66 = .ok (.aload_n 0, 1) := by decide +kernel
theorem dX1_report_67 : decode cX1_report 67 = .ok (.getfield 21, 3) := by decide +kernel
theorem dX1_report_70 : decode cX1_report 70 = .ok (.invokevirtual 47, 3) := by decide +kernel
theorem dX1_report_73 : decode cX1_report 73 = .ok (.ireturn, 1) := by decide +kernel
theorem cvX1_report : CV yX1_report cX1_report 2 (some .int) 2 1 := ⟨kw_579, kw_580, kw_7, kw_581, ⟨_, _, rfl⟩, by decide, by decide +kernel, by decide +kernel, by decide +kernel⟩
def fX1_report_b0 (sh : Sh) (d : Dt) (x0 : Nat) (x1 : Int32) : Option (Int32) := if x1 = 0 then (bd (gR sh d 3 97 x0) fun v2 => bd v2 fun a3 => bd (kc sh 6 a3) fun _ => bd (fX4_size sh d a3) fun r6 => some r6) else if x1 = 1 then (bd (gR sh d 3 99 x0) fun v8 => bd v8 fun a9 => bd (kc sh 1 a9) fun _ => bd (fJx4a65c_size_8abf5 sh d a9) fun r12 => some r12) else if x1 = 2 then (bd (gI sh d 3 102 x0) fun v14 => some v14) else if x1 = 3 then (bd (gR sh d 3 97 x0) fun v16 => bd v16 fun a17 => bd (gR sh d 6 192 a17) fun v18 => bd (gI sh d 3 96 x0) fun v19 => bd v18 fun a20 => bd (aI sh d 20 a20 v19) fun v21 => some v21) else (bd (gR sh d 3 98 x0) fun v22 => bd v22 fun a23 => bd (kc sh 1 a23) fun _ => bd (fJx4a65c_size_8abf5 sh d a23) fun r26 => some r26)

def fX1_report (sh : Sh) (d : Dt) (x0 : Nat) (x1 : Int32) : Option (Int32) := fX1_report_b0 sh d x0 x1

set_option maxRecDepth 100000 in
set_option maxHeartbeats 4000000 in
theorem wX1_report_b0 (C : mx p s m args meth c yX1_report cX1_report 2 (some .int) A D cy st) {r : Int32} {d : Dt} : ∀ (x0 : Nat) (x1 : Int32), fX1_report_b0 sh d x0 x1 = some r → ∀ {H : Heap} {locs : List Loc} {ls : Array Slot}, HW A D cy sz sh d H → va_S A s.heap H locs → lv_has ls 2 [(0, .ref x0), (1, .int x1)] → GL p l e s m args below meth c 1 22 A D cy (some (.int r)) sz sh d H locs 0 ls [] := by
  have hx := C.1
  have hb := C.2.1
  intro x0 x1 hf H locs ls hw hS hl
  unfold fX1_report_b0 at hf
  refine lv_iload_n hx hb dX1_report_0 rfl (lv_at hl 1 rfl) ?_
  by_cases c_1 : x1 = 0
  · have hf := if_t c_1 hf
    refine lv_tableIn (tgt := 32) hx hb dX1_report_1 (by rw [c_1]; decide) (by rw [c_1]; decide) (by rw [c_1]; rfl) (by decide) ?_
    refine lv_aload_n hx hb dX1_report_32 rfl (lv_at hl 0 rfl) ?_
    obtain ⟨v2, hv2, hf⟩ := bd_s hf
    refine gt_97 C hw hv2 kw_151 dX1_report_33 ?_
    obtain ⟨a3, ea3, hg⟩ := bd_s hf
    clear hf
    subst ea3
    have hf := hg
    clear hg
    obtain ⟨_, h4, hf⟩ := bd_s hf
    obtain ⟨r6, h5, hf⟩ := bd_s hf
    refine cl_V0 C hw hS (tX4_size l A D cy st sz sh d a3 h5) cvX4_size kw_568 (kc_k h4) ⟨(Nat.le_of_ble_eq_true rfl), (Nat.le_of_ble_eq_true rfl)⟩ hl.1 rfl (Nat.le_of_ble_eq_true rfl) dX1_report_36 ⟨Nat.zero_le _, Nat.zero_le _⟩ (fun H locs hw hS => ?_)
    cases hf
    exact rt_i C hw hS dX1_report_39
  have hf := if_f c_1 hf
  by_cases c_7 : x1 = 1
  · have hf := if_t c_7 hf
    refine lv_tableIn (tgt := 40) hx hb dX1_report_1 (by rw [c_7]; decide) (by rw [c_7]; decide) (by rw [c_7]; rfl) (by decide) ?_
    refine lv_aload_n hx hb dX1_report_40 rfl (lv_at hl 0 rfl) ?_
    obtain ⟨v8, hv8, hf⟩ := bd_s hf
    refine gt_99 C hw hv8 kw_157 dX1_report_41 ?_
    obtain ⟨a9, ea9, hg⟩ := bd_s hf
    clear hf
    subst ea9
    have hf := hg
    clear hg
    obtain ⟨_, h10, hf⟩ := bd_s hf
    obtain ⟨r12, h11, hf⟩ := bd_s hf
    refine cl_V0 C hw hS (tJx4a65c_size_8abf5 l A D cy st sz sh d a9 h11) cvJx4a65c_size_8abf5 kw_253 (kc_k h10) ⟨(Nat.le_of_ble_eq_true rfl), (Nat.le_of_ble_eq_true rfl)⟩ hl.1 rfl (Nat.le_of_ble_eq_true rfl) dX1_report_44 ⟨Nat.zero_le _, Nat.zero_le _⟩ (fun H locs hw hS => ?_)
    cases hf
    exact rt_i C hw hS dX1_report_47
  have hf := if_f c_7 hf
  by_cases c_13 : x1 = 2
  · have hf := if_t c_13 hf
    refine lv_tableIn (tgt := 48) hx hb dX1_report_1 (by rw [c_13]; decide) (by rw [c_13]; decide) (by rw [c_13]; rfl) (by decide) ?_
    refine lv_aload_n hx hb dX1_report_48 rfl (lv_at hl 0 rfl) ?_
    obtain ⟨v14, hv14, hf⟩ := bd_s hf
    refine gt_102 C hw hv14 kw_163 dX1_report_49 ?_
    cases hf
    exact rt_i C hw hS dX1_report_52
  have hf := if_f c_13 hf
  by_cases c_15 : x1 = 3
  · have hf := if_t c_15 hf
    refine lv_tableIn (tgt := 53) hx hb dX1_report_1 (by rw [c_15]; decide) (by rw [c_15]; decide) (by rw [c_15]; rfl) (by decide) ?_
    refine lv_aload_n hx hb dX1_report_53 rfl (lv_at hl 0 rfl) ?_
    obtain ⟨v16, hv16, hf⟩ := bd_s hf
    refine gt_97 C hw hv16 kw_151 dX1_report_54 ?_
    obtain ⟨a17, ea17, hg⟩ := bd_s hf
    clear hf
    subst ea17
    have hf := hg
    clear hg
    obtain ⟨v18, hv18, hf⟩ := bd_s hf
    refine gt_192 C hw hv18 kw_123 dX1_report_57 ?_
    refine lv_aload_n hx hb dX1_report_60 rfl (lv_at hl 0 rfl) ?_
    obtain ⟨v19, hv19, hf⟩ := bd_s hf
    refine gt_96 C hw hv19 kw_149 dX1_report_61 ?_
    obtain ⟨a20, ea20, hg⟩ := bd_s hf
    clear hf
    subst ea20
    have hf := hg
    clear hg
    obtain ⟨v21, hv21, hf⟩ := bd_s hf
    refine w_iald C hw hv21 dX1_report_64 ?_
    cases hf
    exact rt_i C hw hS dX1_report_65
  have hf := if_f c_15 hf
  refine lv_tableOut (tgt := 66) hx hb dX1_report_1 (by have z0 := lv_neT (a := 0) c_1 (by decide); have z1 := lv_neT (a := 1) c_7 (by decide); have z2 := lv_neT (a := 2) c_13 (by decide); have z3 := lv_neT (a := 3) c_15 (by decide); omega) (by decide) ?_
  refine lv_aload_n hx hb dX1_report_66 rfl (lv_at hl 0 rfl) ?_
  obtain ⟨v22, hv22, hf⟩ := bd_s hf
  refine gt_98 C hw hv22 kw_154 dX1_report_67 ?_
  obtain ⟨a23, ea23, hg⟩ := bd_s hf
  clear hf
  subst ea23
  have hf := hg
  clear hg
  obtain ⟨_, h24, hf⟩ := bd_s hf
  obtain ⟨r26, h25, hf⟩ := bd_s hf
  refine cl_V0 C hw hS (tJx4a65c_size_8abf5 l A D cy st sz sh d a23 h25) cvJx4a65c_size_8abf5 kw_253 (kc_k h24) ⟨(Nat.le_of_ble_eq_true rfl), (Nat.le_of_ble_eq_true rfl)⟩ hl.1 rfl (Nat.le_of_ble_eq_true rfl) dX1_report_70 ⟨Nat.zero_le _, Nat.zero_le _⟩ (fun H locs hw hS => ?_)
  cases hf
  exact rt_i C hw hS dX1_report_73

set_option maxRecDepth 100000 in
set_option maxHeartbeats 4000000 in
theorem tX1_report (l : Launch) (A : Nat → Prop) (D : va_G) (cy : Nat → ClassId) (st : Nat → Nat) (sz : Nat) (sh : Sh) (d : Dt) (x0 : Nat) (x1 : Int32) {r : Int32} (hf : fX1_report sh d x0 x1 = some r) : Ct l yX1_report cX1_report 2 (some .int) 1 22 0 0 A D cy st [.ref x0, .int x1] sz sh d (some (.int r)) sz sh d := ct_of (by decide) (Nat.le_of_ble_eq_true rfl) (fun p e s m args below meth c C hw hS ls hl => wX1_report_b0 C x0 x1 hf hw hS hl)
theorem dX3_foremost_0 : decode cX3_foremost 0 = .ok (.aconst_null, 1) := by decide +kernel
theorem dX3_foremost_1 : decode cX3_foremost 1 = .ok (.astore_n 2, 1) := by decide +kernel
theorem dX3_foremost_2 : decode cX3_foremost 2 = .ok (.aload_n 0, 1) := by decide +kernel
theorem dX3_foremost_3 : decode cX3_foremost 3 = .ok (.getfield 27, 3) := by decide +kernel
theorem dX3_foremost_6 : decode cX3_foremost 6 = .ok (.iconst 0, 1) := by decide +kernel
theorem dX3_foremost_7 : decode cX3_foremost 7 = .ok (.aaload, 1) := by decide +kernel
theorem dX3_foremost_8 : decode cX3_foremost 8 = .ok (.astore_n 3, 1) := by decide +kernel
theorem dX3_foremost_9 : decode cX3_foremost 9 = .ok (.aload_n 3, 1) := by decide +kernel
theorem dX3_foremost_10 : decode cX3_foremost 10 = .ok (.ifnull 46, 3) := by decide +kernel
theorem dX3_foremost_13 : decode cX3_foremost 13 = .ok (.aload_n 1, 1) := by decide +kernel
theorem dX3_foremost_14 : decode cX3_foremost 14 = .ok (.aload_n 3, 1) := by decide +kernel
theorem dX3_foremost_15 : decode cX3_foremost 15 = .ok (.invokevirtual 42, 3) := by decide +kernel
theorem dX3_foremost_18 : decode cX3_foremost 18 = .ok (.ifCond .eq 30, 3) := by decide +kernel
theorem dX3_foremost_21 : decode cX3_foremost 21 = .ok (.aload_n 2, 1) := by decide +kernel
theorem dX3_foremost_22 : decode cX3_foremost 22 = .ok (.ifnull 24, 3) := by decide +kernel
theorem dX3_foremost_25 : decode cX3_foremost 25 = .ok (.aload_n 2, 1) := by decide +kernel
theorem dX3_foremost_26 : decode cX3_foremost 26 = .ok (.aload_n 3, 1) := by decide +kernel
theorem dX3_foremost_27 : decode cX3_foremost 27 = .ok (.invokevirtual 46, 3) := by decide +kernel
theorem dX3_foremost_30 : decode cX3_foremost 30 = .ok (.aload_n 0, 1) := by decide +kernel
theorem dX3_foremost_31 : decode cX3_foremost 31 = .ok (.getfield 22, 3) := by decide +kernel
theorem dX3_foremost_34 : decode cX3_foremost 34 = .ok (.iconst 1, 1) := by decide +kernel
theorem dX3_foremost_35 : decode cX3_foremost 35 = .ok (.if_icmp .ne 7, 3) := by decide +kernel
theorem dX3_foremost_38 : decode cX3_foremost 38 = .ok (.iconst 1, 1) := by decide +kernel
theorem dX3_foremost_39 : decode cX3_foremost 39 = .ok (.goto 4, 3) := by decide +kernel
theorem dX3_foremost_42 : decode cX3_foremost 42 = .ok (.iconst 0, 1) := by decide +kernel
theorem dX3_foremost_43 : decode cX3_foremost 43 = .ok (.if_icmp .eq 5, 3) := by decide +kernel
theorem dX3_foremost_46 : decode cX3_foremost 46 = .ok (.aload_n 3, 1) := by decide +kernel
theorem dX3_foremost_47 : decode cX3_foremost 47 = .ok (.astore_n 2, 1) := by decide +kernel
theorem dX3_foremost_48 : decode cX3_foremost 48 = .ok (.aload_n 3, 1) := by decide +kernel
theorem dX3_foremost_49 : decode cX3_foremost 49 = .ok (.getfield 49, 3) := by decide +kernel
theorem dX3_foremost_52 : decode cX3_foremost 52 = .ok (.astore_n 3, 1) := by decide +kernel
theorem dX3_foremost_53 : decode cX3_foremost 53 = .ok (.goto (-44), 3) := by decide +kernel
theorem dX3_foremost_56 : decode cX3_foremost 56 = .ok (.aload_n 2, 1) := by decide +kernel
theorem dX3_foremost_57 : decode cX3_foremost 57 = .ok (.areturn, 1) := by decide +kernel
theorem cvX3_foremost : CV yX3_foremost cX3_foremost 4 (some (.object "ManyHands$Entry")) 4 1 := ⟨kw_597, kw_598, kw_10, kw_599, ⟨_, _, rfl⟩, by decide, by decide +kernel, by decide +kernel, by decide +kernel⟩
def fX3_foremost_b43 (sh : Sh) (d : Dt) (k9 : Nat → Option Nat → Option Nat → Option Nat → Option (Option Nat)) (x0 : Nat) (x1 : Option Nat) (x2 : Option Nat) (x3 : Option Nat) (t0 : Int32) (t1 : Int32) : Option (Option Nat) := if t0 = t1 then (bd x3 fun a2 => bd (gR sh d 2 73 a2) fun v3 => k9 x0 x1 x2 v3) else (bd x3 fun a4 => bd (gR sh d 2 73 a4) fun v5 => k9 x0 x1 (some a4) v5)

def fX3_foremost_b9 (sh : Sh) (d : Dt) : Nat → Nat → Option Nat → Option Nat → Option Nat → Option (Option Nat)
  | 0, _, _, _, _ => none
  | n + 1, x0, x1, x2, x3 => on x3 (some x2) (fun a1 => bd x1 fun a2 => bd (kc sh 6 a2) fun _ => bd (fX4_holds sh d a2 (some a1)) fun r5 => if (bI r5) = 0 then (bd (gR sh d 2 73 a1) fun v7 => fX3_foremost_b9 sh d n x0 (some a2) x2 v7) else (on x2 (bd (gR sh d 2 73 a1) fun v9 => fX3_foremost_b9 sh d n x0 (some a2) (some a1) v9) (fun a8 => bd (kc sh 2 a8) fun _ => bd (fX0_isBelow sh d a8 (some a1)) fun r12 => bd (gI sh d 5 161 x0) fun v13 => if v13 = (1 : Int32) then (fX3_foremost_b43 sh d (fX3_foremost_b9 sh d n) x0 (some a2) (some a8) (some a1) (bI r12) (1 : Int32)) else (fX3_foremost_b43 sh d (fX3_foremost_b9 sh d n) x0 (some a2) (some a8) (some a1) (bI r12) (0 : Int32)))))

def fX3_foremost_b0 (sh : Sh) (d : Dt) (x0 : Nat) (x1 : Option Nat) : Option (Option Nat) := bd (gR sh d 5 162 x0) fun v1 => bd v1 fun a2 => bd (aR sh d 23 a2 (0 : Int32)) fun v3 => fX3_foremost_b9 sh d fu x0 x1 none v3

def fX3_foremost (sh : Sh) (d : Dt) (x0 : Nat) (x1 : Option Nat) : Option (Option Nat) := fX3_foremost_b0 sh d x0 x1

set_option maxRecDepth 100000 in
set_option maxHeartbeats 4000000 in
theorem wX3_foremost_b43 (C : mx p s m args meth c yX3_foremost cX3_foremost 4 (some (.object "ManyHands$Entry")) A D cy st) {k9 : Nat → Option Nat → Option Nat → Option Nat → Option (Option Nat)} {r : Option Nat} {d : Dt} (Hk9 : ∀ (x0 : Nat) (x1 : Option Nat) (x2 : Option Nat) (x3 : Option Nat), k9 x0 x1 x2 x3 = some r → ∀ {H : Heap} {locs : List Loc} {ls : Array Slot}, HW A D cy sz sh d H → va_S A s.heap H locs → lv_has ls 4 [(0, .ref x0), (1, va_rf x1), (2, va_rf x2), (3, va_rf x3)] → GL p l e s m args below meth c 1 21 A D cy (some (va_rf r)) sz sh d H locs 9 ls []) : ∀ (x0 : Nat) (x1 : Option Nat) (x2 : Option Nat) (x3 : Option Nat) (t0 : Int32) (t1 : Int32), fX3_foremost_b43 sh d k9 x0 x1 x2 x3 t0 t1 = some r → ∀ {H : Heap} {locs : List Loc} {ls : Array Slot}, HW A D cy sz sh d H → va_S A s.heap H locs → lv_has ls 4 [(0, .ref x0), (1, va_rf x1), (2, va_rf x2), (3, va_rf x3)] → GL p l e s m args below meth c 1 21 A D cy (some (va_rf r)) sz sh d H locs 43 ls [.int t1, .int t0] := by
  have hx := C.1
  have hb := C.2.1
  intro x0 x1 x2 x3 t0 t1 hf H locs ls hw hS hl
  unfold fX3_foremost_b43 at hf
  refine lv_icmp_eq (tgt := 48) hx hb dX3_foremost_43 (by decide) (fun c_1 => ?_) (fun c_1 => ?_)
  · have hf := if_t c_1 hf
    refine lq_aload_n hx hb dX3_foremost_48 rfl (lv_at hl 3 rfl) ?_
    obtain ⟨a2, ea2, hg⟩ := bd_s hf
    clear hf
    subst ea2
    have hf := hg
    clear hg
    obtain ⟨v3, hv3, hf⟩ := bd_s hf
    refine gt_73 C hw hv3 kw_311 dX3_foremost_49 ?_
    refine lq_astore_n (i := 3) (x := v3) (lv' := [(3, va_rf v3), (0, .ref x0), (1, va_rf x1), (2, va_rf x2)]) hx hb dX3_foremost_52 rfl hl (by decide) (by simp [va_rf_c, cat_i, cat_l, cat_r]) (fun ls hl => ?_)
    refine lv_goto (tgt := 9) hx hb dX3_foremost_53 (by decide) ?_
    exact Hk9 x0 x1 x2 v3 hf hw hS (lv_sub hl [1, 2, 3, 0] rfl)
  · have hf := if_f c_1 hf
    refine lq_aload_n hx hb dX3_foremost_46 rfl (lv_at hl 3 rfl) ?_
    refine lq_astore_n (i := 2) (x := x3) (lv' := [(2, va_rf x3), (0, .ref x0), (1, va_rf x1), (3, va_rf x3)]) hx hb dX3_foremost_47 rfl hl (by decide) (by simp [va_rf_c, cat_i, cat_l, cat_r]) (fun ls hl => ?_)
    refine lq_aload_n hx hb dX3_foremost_48 rfl (lv_at hl 3 rfl) ?_
    obtain ⟨a4, ea4, hg⟩ := bd_s hf
    clear hf
    subst ea4
    have hf := hg
    clear hg
    obtain ⟨v5, hv5, hf⟩ := bd_s hf
    refine gt_73 C hw hv5 kw_311 dX3_foremost_49 ?_
    refine lq_astore_n (i := 3) (x := v5) (lv' := [(3, va_rf v5), (2, va_rf (some a4)), (0, .ref x0), (1, va_rf x1)]) hx hb dX3_foremost_52 rfl hl (by decide) (by simp [va_rf_c, cat_i, cat_l, cat_r]) (fun ls hl => ?_)
    refine lv_goto (tgt := 9) hx hb dX3_foremost_53 (by decide) ?_
    exact Hk9 x0 x1 (some a4) v5 hf hw hS (lv_sub hl [2, 3, 1, 0] rfl)

set_option maxRecDepth 100000 in
set_option maxHeartbeats 4000000 in
theorem wX3_foremost_b9 (C : mx p s m args meth c yX3_foremost cX3_foremost 4 (some (.object "ManyHands$Entry")) A D cy st) {r : Option Nat} {d : Dt} : ∀ (n : Nat) (x0 : Nat) (x1 : Option Nat) (x2 : Option Nat) (x3 : Option Nat), fX3_foremost_b9 sh d n x0 x1 x2 x3 = some r → ∀ {H : Heap} {locs : List Loc} {ls : Array Slot}, HW A D cy sz sh d H → va_S A s.heap H locs → lv_has ls 4 [(0, .ref x0), (1, va_rf x1), (2, va_rf x2), (3, va_rf x3)] → GL p l e s m args below meth c 1 21 A D cy (some (va_rf r)) sz sh d H locs 9 ls [] := by
  have hx := C.1
  have hb := C.2.1
  intro n
  induction n with
  | zero => intro x0 x1 x2 x3 hf; cases hf
  | succ n ih =>
    intro x0 x1 x2 x3 hf H locs ls hw hS hl
    rw [fX3_foremost_b9] at hf
    refine lq_aload_n hx hb dX3_foremost_9 rfl (lv_at hl 3 rfl) ?_
    cases x3 with
    | none =>
      have hf := on_n hf
      refine lv_ifnullN (tgt := 56) hx hb dX3_foremost_10 (by decide) ?_
      refine lq_aload_n hx hb dX3_foremost_56 rfl (lv_at hl 2 rfl) ?_
      cases hf
      exact rt_a C hw hS dX3_foremost_57
    | some a1 =>
      have hf := on_s hf
      refine lv_ifnull hx hb dX3_foremost_10 ?_
      refine lq_aload_n hx hb dX3_foremost_13 rfl (lv_at hl 1 rfl) ?_
      refine lq_aload_n hx hb dX3_foremost_14 rfl (lv_at hl 3 rfl) ?_
      obtain ⟨a2, ea2, hg⟩ := bd_s hf
      clear hf
      subst ea2
      have hf := hg
      clear hg
      obtain ⟨_, h3, hf⟩ := bd_s hf
      obtain ⟨r5, h4, hf⟩ := bd_s hf
      refine cl_V0 C hw hS (tX4_holds l A D cy st sz sh d a2 (some a1) h4) cvX4_holds kw_434 (kc_k h3) ⟨(Nat.le_of_ble_eq_true rfl), (Nat.le_of_ble_eq_true rfl)⟩ hl.1 rfl (Nat.le_of_ble_eq_true rfl) dX3_foremost_15 ⟨Nat.zero_le _, Nat.zero_le _⟩ (fun H locs hw hS => ?_)
      refine lv_if_eq (tgt := 48) hx hb dX3_foremost_18 (by decide) (fun c_6 => ?_) (fun c_6 => ?_)
      · have hf := if_t c_6 hf
        refine lq_aload_n hx hb dX3_foremost_48 rfl (lv_at hl 3 rfl) ?_
        obtain ⟨v7, hv7, hf⟩ := bd_s hf
        refine gt_73 C hw hv7 kw_311 dX3_foremost_49 ?_
        refine lq_astore_n (i := 3) (x := v7) (lv' := [(3, va_rf v7), (0, .ref x0), (1, va_rf (some a2)), (2, va_rf x2)]) hx hb dX3_foremost_52 rfl hl (by decide) (by simp [va_rf_c, cat_i, cat_l, cat_r]) (fun ls hl => ?_)
        refine lv_goto (tgt := 9) hx hb dX3_foremost_53 (by decide) ?_
        exact ih x0 (some a2) x2 v7 hf hw hS (lv_sub hl [1, 2, 3, 0] rfl)
      · have hf := if_f c_6 hf
        refine lq_aload_n hx hb dX3_foremost_21 rfl (lv_at hl 2 rfl) ?_
        cases x2 with
        | none =>
          have hf := on_n hf
          refine lv_ifnullN (tgt := 46) hx hb dX3_foremost_22 (by decide) ?_
          refine lq_aload_n hx hb dX3_foremost_46 rfl (lv_at hl 3 rfl) ?_
          refine lq_astore_n (i := 2) (x := (some a1)) (lv' := [(2, va_rf (some a1)), (0, .ref x0), (1, va_rf (some a2)), (3, va_rf (some a1))]) hx hb dX3_foremost_47 rfl hl (by decide) (by simp [va_rf_c, cat_i, cat_l, cat_r]) (fun ls hl => ?_)
          refine lq_aload_n hx hb dX3_foremost_48 rfl (lv_at hl 3 rfl) ?_
          obtain ⟨v9, hv9, hf⟩ := bd_s hf
          refine gt_73 C hw hv9 kw_311 dX3_foremost_49 ?_
          refine lq_astore_n (i := 3) (x := v9) (lv' := [(3, va_rf v9), (2, va_rf (some a1)), (0, .ref x0), (1, va_rf (some a2))]) hx hb dX3_foremost_52 rfl hl (by decide) (by simp [va_rf_c, cat_i, cat_l, cat_r]) (fun ls hl => ?_)
          refine lv_goto (tgt := 9) hx hb dX3_foremost_53 (by decide) ?_
          exact ih x0 (some a2) (some a1) v9 hf hw hS (lv_sub hl [2, 3, 1, 0] rfl)
        | some a8 =>
          have hf := on_s hf
          refine lv_ifnull hx hb dX3_foremost_22 ?_
          refine lq_aload_n hx hb dX3_foremost_25 rfl (lv_at hl 2 rfl) ?_
          refine lq_aload_n hx hb dX3_foremost_26 rfl (lv_at hl 3 rfl) ?_
          obtain ⟨_, h10, hf⟩ := bd_s hf
          obtain ⟨r12, h11, hf⟩ := bd_s hf
          refine cl_V0 C hw hS (tX0_isBelow l A D cy st sz sh d a8 (some a1) h11) cvX0_isBelow kw_600 (kc_k h10) ⟨(Nat.le_of_ble_eq_true rfl), (Nat.le_of_ble_eq_true rfl)⟩ hl.1 rfl (Nat.le_of_ble_eq_true rfl) dX3_foremost_27 ⟨Nat.zero_le _, Nat.zero_le _⟩ (fun H locs hw hS => ?_)
          refine lv_aload_n hx hb dX3_foremost_30 rfl (lv_at hl 0 rfl) ?_
          obtain ⟨v13, hv13, hf⟩ := bd_s hf
          refine gt_161 C hw hv13 kw_198 dX3_foremost_31 ?_
          refine lv_iconst (v := 1) hx hb dX3_foremost_34 (by decide) ?_
          refine lv_icmp_ne (tgt := 42) hx hb dX3_foremost_35 (by decide) (fun c_14 => ?_) (fun c_14 => ?_)
          · have hf := if_f c_14 hf
            refine lv_iconst (v := 0) hx hb dX3_foremost_42 (by decide) ?_
            exact wX3_foremost_b43 C ih x0 (some a2) (some a8) (some a1) (bI r12) (0 : Int32) hf hw hS (lv_sub hl [0, 1, 2, 3] rfl)
          · have hf := if_t c_14 hf
            refine lv_iconst (v := 1) hx hb dX3_foremost_38 (by decide) ?_
            refine lv_goto (tgt := 43) hx hb dX3_foremost_39 (by decide) ?_
            exact wX3_foremost_b43 C ih x0 (some a2) (some a8) (some a1) (bI r12) (1 : Int32) hf hw hS (lv_sub hl [0, 1, 2, 3] rfl)

set_option maxRecDepth 100000 in
set_option maxHeartbeats 4000000 in
theorem wX3_foremost_b0 (C : mx p s m args meth c yX3_foremost cX3_foremost 4 (some (.object "ManyHands$Entry")) A D cy st) {r : Option Nat} {d : Dt} : ∀ (x0 : Nat) (x1 : Option Nat), fX3_foremost_b0 sh d x0 x1 = some r → ∀ {H : Heap} {locs : List Loc} {ls : Array Slot}, HW A D cy sz sh d H → va_S A s.heap H locs → lv_has ls 4 [(0, .ref x0), (1, va_rf x1)] → GL p l e s m args below meth c 1 21 A D cy (some (va_rf r)) sz sh d H locs 0 ls [] := by
  have hx := C.1
  have hb := C.2.1
  intro x0 x1 hf H locs ls hw hS hl
  unfold fX3_foremost_b0 at hf
  refine lv_null hx hb dX3_foremost_0 ?_
  refine lq_astore_n (i := 2) (x := none) (lv' := [(2, va_rf none), (0, .ref x0), (1, va_rf x1)]) hx hb dX3_foremost_1 rfl hl (by decide) (by simp [va_rf_c, cat_i, cat_l, cat_r]) (fun ls hl => ?_)
  refine lv_aload_n hx hb dX3_foremost_2 rfl (lv_at hl 1 rfl) ?_
  obtain ⟨v1, hv1, hf⟩ := bd_s hf
  refine gt_162 C hw hv1 kw_200 dX3_foremost_3 ?_
  refine lv_iconst (v := 0) hx hb dX3_foremost_6 (by decide) ?_
  obtain ⟨a2, ea2, hg⟩ := bd_s hf
  clear hf
  subst ea2
  have hf := hg
  clear hg
  obtain ⟨v3, hv3, hf⟩ := bd_s hf
  refine w_aald C hw 3 rfl (by decide) rfl hv3 dX3_foremost_7 ?_
  refine lq_astore_n (i := 3) (x := v3) (lv' := [(3, va_rf v3), (2, va_rf none), (0, .ref x0), (1, va_rf x1)]) hx hb dX3_foremost_8 rfl hl (by decide) (by simp [va_rf_c, cat_i, cat_l, cat_r]) (fun ls hl => ?_)
  exact wX3_foremost_b9 C fu x0 x1 none v3 hf hw hS (lv_sub hl [2, 3, 1, 0] rfl)

set_option maxRecDepth 100000 in
set_option maxHeartbeats 4000000 in
theorem tX3_foremost (l : Launch) (A : Nat → Prop) (D : va_G) (cy : Nat → ClassId) (st : Nat → Nat) (sz : Nat) (sh : Sh) (d : Dt) (x0 : Nat) (x1 : Option Nat) {r : Option Nat} (hf : fX3_foremost sh d x0 x1 = some r) : Ct l yX3_foremost cX3_foremost 4 (some (.object "ManyHands$Entry")) 1 21 0 0 A D cy st [.ref x0, va_rf x1] sz sh d (some (va_rf r)) sz sh d := ct_of (by decide) (by simp [lg_sl, va_rf_c, cat_i, cat_l, cat_r]) (fun p e s m args below meth c C hw hS ls hl => wX3_foremost_b0 C x0 x1 hf hw hS (by simpa [lv_args, va_rf_c, cat_i, cat_l, cat_r] using hl))
theorem dX0_addedToSum_0 : decode cX0_addedToSum 0 = .ok (.aload_n 0, 1) := by decide +kernel
theorem dX0_addedToSum_1 : decode cX0_addedToSum 1 = .ok (.getfield 34, 3) := by decide +kernel
theorem dX0_addedToSum_4 : decode cX0_addedToSum 4 = .ok (.iconst 2, 1) := by decide +kernel
theorem dX0_addedToSum_5 : decode cX0_addedToSum 5 = .ok (.if_icmp .ne 5, 3) := by decide +kernel
theorem dX0_addedToSum_8 : decode cX0_addedToSum 8 = .ok (.lconst 0, 1) := by decide +kernel
theorem dX0_addedToSum_9 : decode cX0_addedToSum 9 = .ok (.lreturn, 1) := by decide +kernel
theorem dX0_addedToSum_10 : decode cX0_addedToSum 10 = .ok (.aload_n 0, 1) := by decide +kernel
theorem dX0_addedToSum_11 : decode cX0_addedToSum 11 = .ok (.getfield 34, 3) := by decide +kernel
theorem dX0_addedToSum_14 : decode cX0_addedToSum 14 = .ok (.iconst 3, 1) := by decide +kernel
theorem dX0_addedToSum_15 : decode cX0_addedToSum 15 = .ok (.if_icmp .ne 11, 3) := by decide +kernel
theorem dX0_addedToSum_18 : decode cX0_addedToSum 18 = .ok (.aload_n 0, 1) := by decide +kernel
theorem dX0_addedToSum_19 : decode cX0_addedToSum 19 = .ok (.getfield 40, 3) := by decide +kernel
theorem dX0_addedToSum_22 : decode cX0_addedToSum 22 = .ok (.lneg, 1) := by decide +kernel
theorem dX0_addedToSum_23 : decode cX0_addedToSum 23 = .ok (.goto 7, 3) := by decide +kernel
theorem dX0_addedToSum_26 : decode cX0_addedToSum 26 = .ok (.aload_n 0, 1) := by decide +kernel
theorem dX0_addedToSum_27 : decode cX0_addedToSum 27 = .ok (.getfield 40, 3) := by decide +kernel
theorem dX0_addedToSum_30 : decode cX0_addedToSum 30 = .ok (.lreturn, 1) := by decide +kernel
theorem cvX0_addedToSum : CV yX0_addedToSum cX0_addedToSum 1 (some .long) 1 0 := ⟨kw_614, kw_615, kw_11, kw_616, ⟨_, _, rfl⟩, by decide, by decide +kernel, by decide +kernel, by decide +kernel⟩
def fX0_addedToSum_b0 (sh : Sh) (d : Dt) (x0 : Nat) : Option (Int64) := bd (gI sh d 2 67 x0) fun v1 => if v1 = (2 : Int32) then (some (0 : Int64)) else (bd (gI sh d 2 67 x0) fun v3 => if v3 = (3 : Int32) then (bd (gL sh d 2 69 x0) fun v6 => some (-v6)) else (bd (gL sh d 2 69 x0) fun v5 => some v5))

def fX0_addedToSum (sh : Sh) (d : Dt) (x0 : Nat) : Option (Int64) := fX0_addedToSum_b0 sh d x0

set_option maxRecDepth 100000 in
set_option maxHeartbeats 4000000 in
theorem wX0_addedToSum_b0 (C : mx p s m args meth c yX0_addedToSum cX0_addedToSum 1 (some .long) A D cy st) {r : Int64} {d : Dt} : ∀ (x0 : Nat), fX0_addedToSum_b0 sh d x0 = some r → ∀ {H : Heap} {locs : List Loc} {ls : Array Slot}, HW A D cy sz sh d H → va_S A s.heap H locs → lv_has ls 1 [(0, .ref x0)] → GL p l e s m args below meth c 0 0 A D cy (some (.long r)) sz sh d H locs 0 ls [] := by
  have hx := C.1
  have hb := C.2.1
  intro x0 hf H locs ls hw hS hl
  unfold fX0_addedToSum_b0 at hf
  refine lv_aload_n hx hb dX0_addedToSum_0 rfl (lv_at hl 0 rfl) ?_
  obtain ⟨v1, hv1, hf⟩ := bd_s hf
  refine gt_67 C hw hv1 kw_293 dX0_addedToSum_1 ?_
  refine lv_iconst (v := 2) hx hb dX0_addedToSum_4 (by decide) ?_
  refine lv_icmp_ne (tgt := 10) hx hb dX0_addedToSum_5 (by decide) (fun c_2 => ?_) (fun c_2 => ?_)
  · have hf := if_f c_2 hf
    refine lv_aload_n hx hb dX0_addedToSum_10 rfl (lv_at hl 0 rfl) ?_
    obtain ⟨v3, hv3, hf⟩ := bd_s hf
    refine gt_67 C hw hv3 kw_293 dX0_addedToSum_11 ?_
    refine lv_iconst (v := 3) hx hb dX0_addedToSum_14 (by decide) ?_
    refine lv_icmp_ne (tgt := 26) hx hb dX0_addedToSum_15 (by decide) (fun c_4 => ?_) (fun c_4 => ?_)
    · have hf := if_f c_4 hf
      refine lv_aload_n hx hb dX0_addedToSum_26 rfl (lv_at hl 0 rfl) ?_
      obtain ⟨v5, hv5, hf⟩ := bd_s hf
      refine gt_69 C hw hv5 kw_297 dX0_addedToSum_27 ?_
      cases hf
      exact rt_l C hw hS dX0_addedToSum_30
    · have hf := if_t c_4 hf
      refine lv_aload_n hx hb dX0_addedToSum_18 rfl (lv_at hl 0 rfl) ?_
      obtain ⟨v6, hv6, hf⟩ := bd_s hf
      refine gt_69 C hw hv6 kw_297 dX0_addedToSum_19 ?_
      refine lv_lneg hx hb dX0_addedToSum_22 ?_
      refine lv_goto (tgt := 30) hx hb dX0_addedToSum_23 (by decide) ?_
      cases hf
      exact rt_l C hw hS dX0_addedToSum_30
  · have hf := if_t c_2 hf
    refine lv_lconst (v := 0) hx hb dX0_addedToSum_8 (by decide) ?_
    cases hf
    exact rt_l C hw hS dX0_addedToSum_9

set_option maxRecDepth 100000 in
set_option maxHeartbeats 4000000 in
theorem tX0_addedToSum (l : Launch) (A : Nat → Prop) (D : va_G) (cy : Nat → ClassId) (st : Nat → Nat) (sz : Nat) (sh : Sh) (d : Dt) (x0 : Nat) {r : Int64} (hf : fX0_addedToSum sh d x0 = some r) : Ct l yX0_addedToSum cX0_addedToSum 1 (some .long) 0 0 0 0 A D cy st [.ref x0] sz sh d (some (.long r)) sz sh d := ct_of (by decide) (Nat.le_of_ble_eq_true rfl) (fun p e s m args below meth c C hw hS ls hl => wX0_addedToSum_b0 C x0 hf hw hS hl)
theorem dX3_total_0 : decode cX3_total 0 = .ok (.lconst 0, 1) := by decide +kernel
theorem dX3_total_1 : decode cX3_total 1 = .ok (.lstore_n 2, 1) := by decide +kernel
theorem dX3_total_2 : decode cX3_total 2 = .ok (.aload_n 0, 1) := by decide +kernel
theorem dX3_total_3 : decode cX3_total 3 = .ok (.getfield 27, 3) := by decide +kernel
theorem dX3_total_6 : decode cX3_total 6 = .ok (.iconst 0, 1) := by decide +kernel
theorem dX3_total_7 : decode cX3_total 7 = .ok (.aaload, 1) := by decide +kernel
theorem dX3_total_8 : decode cX3_total 8 = .ok (.astore 4, 2) := by decide +kernel
theorem dX3_total_10 : decode cX3_total 10 = .ok (.aload 4, 2) := by decide +kernel
theorem dX3_total_12 : decode cX3_total 12 = .ok (.ifnull 30, 3) := by decide +kernel
theorem dX3_total_15 : decode cX3_total 15 = .ok (.aload_n 1, 1) := by decide +kernel
theorem dX3_total_16 : decode cX3_total 16 = .ok (.aload 4, 2) := by decide +kernel
theorem dX3_total_18 : decode cX3_total 18 = .ok (.invokevirtual 42, 3) := by decide +kernel
theorem dX3_total_21 : decode cX3_total 21 = .ok (.ifCond .eq 11, 3) := by decide +kernel
theorem dX3_total_24 : decode cX3_total 24 = .ok (.lload_n 2, 1) := by decide +kernel
theorem dX3_total_25 : decode cX3_total 25 = .ok (.aload 4, 2) := by decide +kernel
theorem dX3_total_27 : decode cX3_total 27 = .ok (.invokevirtual 56, 3) := by decide +kernel
theorem dX3_total_30 : decode cX3_total 30 = .ok (.ladd, 1) := by decide +kernel
theorem dX3_total_31 : decode cX3_total 31 = .ok (.lstore_n 2, 1) := by decide +kernel
theorem dX3_total_32 : decode cX3_total 32 = .ok (.aload 4, 2) := by decide +kernel
theorem dX3_total_34 : decode cX3_total 34 = .ok (.getfield 49, 3) := by decide +kernel
theorem dX3_total_37 : decode cX3_total 37 = .ok (.astore 4, 2) := by decide +kernel
theorem dX3_total_39 : decode cX3_total 39 = .ok (.goto (-29), 3) := by decide +kernel
theorem dX3_total_42 : decode cX3_total 42 = .ok (.lload_n 2, 1) := by decide +kernel
theorem dX3_total_43 : decode cX3_total 43 = .ok (.lreturn, 1) := by decide +kernel
theorem cvX3_total : CV yX3_total cX3_total 5 (some .long) 4 1 := ⟨kw_610, kw_611, kw_10, kw_612, ⟨_, _, rfl⟩, by decide, by decide +kernel, by decide +kernel, by decide +kernel⟩
def fX3_total_b10 (sh : Sh) (d : Dt) : Nat → Option Nat → Int64 → Option Nat → Option (Int64)
  | 0, _, _, _ => none
  | n + 1, x1, x2, x4 => on x4 (some x2) (fun a1 => bd x1 fun a2 => bd (kc sh 6 a2) fun _ => bd (fX4_holds sh d a2 (some a1)) fun r5 => if (bI r5) = 0 then (bd (gR sh d 2 73 a1) fun v7 => fX3_total_b10 sh d n (some a2) x2 v7) else (bd (kc sh 2 a1) fun _ => bd (fX0_addedToSum sh d a1) fun r10 => bd (gR sh d 2 73 a1) fun v11 => fX3_total_b10 sh d n (some a2) (x2 + r10) v11))

def fX3_total_b0 (sh : Sh) (d : Dt) (x0 : Nat) (x1 : Option Nat) : Option (Int64) := bd (gR sh d 5 162 x0) fun v1 => bd v1 fun a2 => bd (aR sh d 23 a2 (0 : Int32)) fun v3 => fX3_total_b10 sh d fu x1 (0 : Int64) v3

def fX3_total (sh : Sh) (d : Dt) (x0 : Nat) (x1 : Option Nat) : Option (Int64) := fX3_total_b0 sh d x0 x1

set_option maxRecDepth 100000 in
set_option maxHeartbeats 4000000 in
theorem wX3_total_b10 (C : mx p s m args meth c yX3_total cX3_total 5 (some .long) A D cy st) {r : Int64} {d : Dt} : ∀ (n : Nat) (x1 : Option Nat) (x2 : Int64) (x4 : Option Nat), fX3_total_b10 sh d n x1 x2 x4 = some r → ∀ {H : Heap} {locs : List Loc} {ls : Array Slot}, HW A D cy sz sh d H → va_S A s.heap H locs → lv_has ls 5 [(1, va_rf x1), (2, .long x2), (4, va_rf x4)] → GL p l e s m args below meth c 1 21 A D cy (some (.long r)) sz sh d H locs 10 ls [] := by
  have hx := C.1
  have hb := C.2.1
  intro n
  induction n with
  | zero => intro x1 x2 x4 hf; cases hf
  | succ n ih =>
    intro x1 x2 x4 hf H locs ls hw hS hl
    rw [fX3_total_b10] at hf
    refine lq_aload hx hb dX3_total_10 (lv_at hl 2 rfl) ?_
    cases x4 with
    | none =>
      have hf := on_n hf
      refine lv_ifnullN (tgt := 42) hx hb dX3_total_12 (by decide) ?_
      refine lv_lload_n hx hb dX3_total_42 rfl (lv_at hl 1 rfl) ?_
      cases hf
      exact rt_l C hw hS dX3_total_43
    | some a1 =>
      have hf := on_s hf
      refine lv_ifnull hx hb dX3_total_12 ?_
      refine lq_aload_n hx hb dX3_total_15 rfl (lv_at hl 0 rfl) ?_
      refine lq_aload hx hb dX3_total_16 (lv_at hl 2 rfl) ?_
      obtain ⟨a2, ea2, hg⟩ := bd_s hf
      clear hf
      subst ea2
      have hf := hg
      clear hg
      obtain ⟨_, h3, hf⟩ := bd_s hf
      obtain ⟨r5, h4, hf⟩ := bd_s hf
      refine cl_V0 C hw hS (tX4_holds l A D cy st sz sh d a2 (some a1) h4) cvX4_holds kw_434 (kc_k h3) ⟨(Nat.le_of_ble_eq_true rfl), (Nat.le_of_ble_eq_true rfl)⟩ hl.1 rfl (Nat.le_of_ble_eq_true rfl) dX3_total_18 ⟨Nat.zero_le _, Nat.zero_le _⟩ (fun H locs hw hS => ?_)
      refine lv_if_eq (tgt := 32) hx hb dX3_total_21 (by decide) (fun c_6 => ?_) (fun c_6 => ?_)
      · have hf := if_t c_6 hf
        refine lq_aload hx hb dX3_total_32 (lv_at hl 2 rfl) ?_
        obtain ⟨v7, hv7, hf⟩ := bd_s hf
        refine gt_73 C hw hv7 kw_311 dX3_total_34 ?_
        refine lq_astore (x := v7) (lv' := [(4, va_rf v7), (1, va_rf (some a2)), (2, .long x2)]) hx hb dX3_total_37 hl (by decide) rfl (fun ls hl => ?_)
        refine lv_goto (tgt := 10) hx hb dX3_total_39 (by decide) ?_
        exact ih (some a2) x2 v7 hf hw hS (lv_sub hl [1, 2, 0] rfl)
      · have hf := if_f c_6 hf
        refine lv_lload_n hx hb dX3_total_24 rfl (lv_at hl 1 rfl) ?_
        refine lq_aload hx hb dX3_total_25 (lv_at hl 2 rfl) ?_
        obtain ⟨_, h8, hf⟩ := bd_s hf
        obtain ⟨r10, h9, hf⟩ := bd_s hf
        refine cl_V0 C hw hS (tX0_addedToSum l A D cy st sz sh d a1 h9) cvX0_addedToSum kw_613 (kc_k h8) ⟨(Nat.le_of_ble_eq_true rfl), (Nat.le_of_ble_eq_true rfl)⟩ hl.1 rfl (Nat.le_of_ble_eq_true rfl) dX3_total_27 ⟨Nat.zero_le _, Nat.zero_le _⟩ (fun H locs hw hS => ?_)
        refine lv_ladd hx hb dX3_total_30 ?_
        refine lv_lstore_n (i := 2) (lv' := [(2, .long (x2 + r10)), (1, va_rf (some a2)), (4, va_rf (some a1))]) hx hb dX3_total_31 rfl hl (by decide) (by simp [va_rf_c, cat_i, cat_l, cat_r]) (fun ls hl => ?_)
        refine lq_aload hx hb dX3_total_32 (lv_at hl 2 rfl) ?_
        obtain ⟨v11, hv11, hf⟩ := bd_s hf
        refine gt_73 C hw hv11 kw_311 dX3_total_34 ?_
        refine lq_astore (x := v11) (lv' := [(4, va_rf v11), (2, .long (x2 + r10)), (1, va_rf (some a2))]) hx hb dX3_total_37 hl (by decide) rfl (fun ls hl => ?_)
        refine lv_goto (tgt := 10) hx hb dX3_total_39 (by decide) ?_
        exact ih (some a2) (x2 + r10) v11 hf hw hS (lv_sub hl [2, 1, 0] rfl)

set_option maxRecDepth 100000 in
set_option maxHeartbeats 4000000 in
theorem wX3_total_b0 (C : mx p s m args meth c yX3_total cX3_total 5 (some .long) A D cy st) {r : Int64} {d : Dt} : ∀ (x0 : Nat) (x1 : Option Nat), fX3_total_b0 sh d x0 x1 = some r → ∀ {H : Heap} {locs : List Loc} {ls : Array Slot}, HW A D cy sz sh d H → va_S A s.heap H locs → lv_has ls 5 [(0, .ref x0), (1, va_rf x1)] → GL p l e s m args below meth c 1 21 A D cy (some (.long r)) sz sh d H locs 0 ls [] := by
  have hx := C.1
  have hb := C.2.1
  intro x0 x1 hf H locs ls hw hS hl
  unfold fX3_total_b0 at hf
  refine lv_lconst (v := 0) hx hb dX3_total_0 (by decide) ?_
  refine lv_lstore_n (i := 2) (lv' := [(2, .long (0 : Int64)), (0, .ref x0), (1, va_rf x1)]) hx hb dX3_total_1 rfl hl (by decide) (by simp [va_rf_c, cat_i, cat_l, cat_r]) (fun ls hl => ?_)
  refine lv_aload_n hx hb dX3_total_2 rfl (lv_at hl 1 rfl) ?_
  obtain ⟨v1, hv1, hf⟩ := bd_s hf
  refine gt_162 C hw hv1 kw_200 dX3_total_3 ?_
  refine lv_iconst (v := 0) hx hb dX3_total_6 (by decide) ?_
  obtain ⟨a2, ea2, hg⟩ := bd_s hf
  clear hf
  subst ea2
  have hf := hg
  clear hg
  obtain ⟨v3, hv3, hf⟩ := bd_s hf
  refine w_aald C hw 3 rfl (by decide) rfl hv3 dX3_total_7 ?_
  refine lq_astore (x := v3) (lv' := [(4, va_rf v3), (2, .long (0 : Int64)), (0, .ref x0), (1, va_rf x1)]) hx hb dX3_total_8 hl (by decide) rfl (fun ls hl => ?_)
  exact wX3_total_b10 C fu x1 (0 : Int64) v3 hf hw hS (lv_sub hl [3, 1, 0] rfl)

set_option maxRecDepth 100000 in
set_option maxHeartbeats 4000000 in
theorem tX3_total (l : Launch) (A : Nat → Prop) (D : va_G) (cy : Nat → ClassId) (st : Nat → Nat) (sz : Nat) (sh : Sh) (d : Dt) (x0 : Nat) (x1 : Option Nat) {r : Int64} (hf : fX3_total sh d x0 x1 = some r) : Ct l yX3_total cX3_total 5 (some .long) 1 21 0 0 A D cy st [.ref x0, va_rf x1] sz sh d (some (.long r)) sz sh d := ct_of (by decide) (by simp [lg_sl, va_rf_c, cat_i, cat_l, cat_r]) (fun p e s m args below meth c C hw hS ls hl => wX3_total_b0 C x0 x1 hf hw hS (by simpa [lv_args, va_rf_c, cat_i, cat_l, cat_r] using hl))
theorem dX3_size_0 : decode cX3_size 0 = .ok (.iconst 0, 1) := by decide +kernel
theorem dX3_size_1 : decode cX3_size 1 = .ok (.istore_n 2, 1) := by decide +kernel
theorem dX3_size_2 : decode cX3_size 2 = .ok (.aload_n 0, 1) := by decide +kernel
theorem dX3_size_3 : decode cX3_size 3 = .ok (.getfield 27, 3) := by decide +kernel
theorem dX3_size_6 : decode cX3_size 6 = .ok (.iconst 0, 1) := by decide +kernel
theorem dX3_size_7 : decode cX3_size 7 = .ok (.aaload, 1) := by decide +kernel
theorem dX3_size_8 : decode cX3_size 8 = .ok (.astore_n 3, 1) := by decide +kernel
theorem dX3_size_9 : decode cX3_size 9 = .ok (.aload_n 3, 1) := by decide +kernel
theorem dX3_size_10 : decode cX3_size 10 = .ok (.ifnull 22, 3) := by decide +kernel
theorem dX3_size_13 : decode cX3_size 13 = .ok (.aload_n 1, 1) := by decide +kernel
theorem dX3_size_14 : decode cX3_size 14 = .ok (.aload_n 3, 1) := by decide +kernel
theorem dX3_size_15 : decode cX3_size 15 = .ok (.invokevirtual 42, 3) := by decide +kernel
theorem dX3_size_18 : decode cX3_size 18 = .ok (.ifCond .eq 6, 3) := by decide +kernel
theorem dX3_size_21 : decode cX3_size 21 = .ok (.iinc 2 1, 3) := by decide +kernel
theorem dX3_size_24 : decode cX3_size 24 = .ok (.aload_n 3, 1) := by decide +kernel
theorem dX3_size_25 : decode cX3_size 25 = .ok (.getfield 49, 3) := by decide +kernel
theorem dX3_size_28 : decode cX3_size 28 = .ok (.astore_n 3, 1) := by decide +kernel
theorem dX3_size_29 : decode cX3_size 29 = .ok (.goto (-20), 3) := by decide +kernel
theorem dX3_size_32 : decode cX3_size 32 = .ok (.iload_n 2, 1) := by decide +kernel
theorem dX3_size_33 : decode cX3_size 33 = .ok (.ireturn, 1) := by decide +kernel
theorem cvX3_size : CV yX3_size cX3_size 4 (some .int) 4 1 := ⟨kw_618, kw_619, kw_10, kw_620, ⟨_, _, rfl⟩, by decide, by decide +kernel, by decide +kernel, by decide +kernel⟩
def fX3_size_b9 (sh : Sh) (d : Dt) : Nat → Option Nat → Int32 → Option Nat → Option (Int32)
  | 0, _, _, _ => none
  | n + 1, x1, x2, x3 => on x3 (some x2) (fun a1 => bd x1 fun a2 => bd (kc sh 6 a2) fun _ => bd (fX4_holds sh d a2 (some a1)) fun r5 => if (bI r5) = 0 then (bd (gR sh d 2 73 a1) fun v7 => fX3_size_b9 sh d n (some a2) x2 v7) else (bd (gR sh d 2 73 a1) fun v8 => fX3_size_b9 sh d n (some a2) (x2 + 1) v8))

def fX3_size_b0 (sh : Sh) (d : Dt) (x0 : Nat) (x1 : Option Nat) : Option (Int32) := bd (gR sh d 5 162 x0) fun v1 => bd v1 fun a2 => bd (aR sh d 23 a2 (0 : Int32)) fun v3 => fX3_size_b9 sh d fu x1 (0 : Int32) v3

def fX3_size (sh : Sh) (d : Dt) (x0 : Nat) (x1 : Option Nat) : Option (Int32) := fX3_size_b0 sh d x0 x1

set_option maxRecDepth 100000 in
set_option maxHeartbeats 4000000 in
theorem wX3_size_b9 (C : mx p s m args meth c yX3_size cX3_size 4 (some .int) A D cy st) {r : Int32} {d : Dt} : ∀ (n : Nat) (x1 : Option Nat) (x2 : Int32) (x3 : Option Nat), fX3_size_b9 sh d n x1 x2 x3 = some r → ∀ {H : Heap} {locs : List Loc} {ls : Array Slot}, HW A D cy sz sh d H → va_S A s.heap H locs → lv_has ls 4 [(1, va_rf x1), (2, .int x2), (3, va_rf x3)] → GL p l e s m args below meth c 1 21 A D cy (some (.int r)) sz sh d H locs 9 ls [] := by
  have hx := C.1
  have hb := C.2.1
  intro n
  induction n with
  | zero => intro x1 x2 x3 hf; cases hf
  | succ n ih =>
    intro x1 x2 x3 hf H locs ls hw hS hl
    rw [fX3_size_b9] at hf
    refine lq_aload_n hx hb dX3_size_9 rfl (lv_at hl 2 rfl) ?_
    cases x3 with
    | none =>
      have hf := on_n hf
      refine lv_ifnullN (tgt := 32) hx hb dX3_size_10 (by decide) ?_
      refine lv_iload_n hx hb dX3_size_32 rfl (lv_at hl 1 rfl) ?_
      cases hf
      exact rt_i C hw hS dX3_size_33
    | some a1 =>
      have hf := on_s hf
      refine lv_ifnull hx hb dX3_size_10 ?_
      refine lq_aload_n hx hb dX3_size_13 rfl (lv_at hl 0 rfl) ?_
      refine lq_aload_n hx hb dX3_size_14 rfl (lv_at hl 2 rfl) ?_
      obtain ⟨a2, ea2, hg⟩ := bd_s hf
      clear hf
      subst ea2
      have hf := hg
      clear hg
      obtain ⟨_, h3, hf⟩ := bd_s hf
      obtain ⟨r5, h4, hf⟩ := bd_s hf
      refine cl_V0 C hw hS (tX4_holds l A D cy st sz sh d a2 (some a1) h4) cvX4_holds kw_434 (kc_k h3) ⟨(Nat.le_of_ble_eq_true rfl), (Nat.le_of_ble_eq_true rfl)⟩ hl.1 rfl (Nat.le_of_ble_eq_true rfl) dX3_size_15 ⟨Nat.zero_le _, Nat.zero_le _⟩ (fun H locs hw hS => ?_)
      refine lv_if_eq (tgt := 24) hx hb dX3_size_18 (by decide) (fun c_6 => ?_) (fun c_6 => ?_)
      · have hf := if_t c_6 hf
        refine lq_aload_n hx hb dX3_size_24 rfl (lv_at hl 2 rfl) ?_
        obtain ⟨v7, hv7, hf⟩ := bd_s hf
        refine gt_73 C hw hv7 kw_311 dX3_size_25 ?_
        refine lq_astore_n (x := v7) (lv' := [(3, va_rf v7), (1, va_rf (some a2)), (2, .int x2)]) hx hb dX3_size_28 rfl hl (by decide) rfl (fun ls hl => ?_)
        refine lv_goto (tgt := 9) hx hb dX3_size_29 (by decide) ?_
        exact ih (some a2) x2 v7 hf hw hS (lv_sub hl [1, 2, 0] rfl)
      · have hf := if_f c_6 hf
        refine lv_iinc (v := (x2 + 1)) (lv' := [(2, .int (x2 + 1)), (1, va_rf (some a2)), (3, va_rf (some a1))]) hx hb dX3_size_21 hl (k := 1) rfl rfl (by decide) (by simp [va_rf_c, cat_i, cat_l, cat_r]) (fun ls hl => ?_)
        refine lq_aload_n hx hb dX3_size_24 rfl (lv_at hl 2 rfl) ?_
        obtain ⟨v8, hv8, hf⟩ := bd_s hf
        refine gt_73 C hw hv8 kw_311 dX3_size_25 ?_
        refine lq_astore_n (x := v8) (lv' := [(3, va_rf v8), (2, .int (x2 + 1)), (1, va_rf (some a2))]) hx hb dX3_size_28 rfl hl (by decide) rfl (fun ls hl => ?_)
        refine lv_goto (tgt := 9) hx hb dX3_size_29 (by decide) ?_
        exact ih (some a2) (x2 + 1) v8 hf hw hS (lv_sub hl [2, 1, 0] rfl)

set_option maxRecDepth 100000 in
set_option maxHeartbeats 4000000 in
theorem wX3_size_b0 (C : mx p s m args meth c yX3_size cX3_size 4 (some .int) A D cy st) {r : Int32} {d : Dt} : ∀ (x0 : Nat) (x1 : Option Nat), fX3_size_b0 sh d x0 x1 = some r → ∀ {H : Heap} {locs : List Loc} {ls : Array Slot}, HW A D cy sz sh d H → va_S A s.heap H locs → lv_has ls 4 [(0, .ref x0), (1, va_rf x1)] → GL p l e s m args below meth c 1 21 A D cy (some (.int r)) sz sh d H locs 0 ls [] := by
  have hx := C.1
  have hb := C.2.1
  intro x0 x1 hf H locs ls hw hS hl
  unfold fX3_size_b0 at hf
  refine lv_iconst (v := 0) hx hb dX3_size_0 (by decide) ?_
  refine lv_istore_n (i := 2) (lv' := [(2, .int (0 : Int32)), (0, .ref x0), (1, va_rf x1)]) hx hb dX3_size_1 rfl hl (by decide) (by simp [va_rf_c, cat_i, cat_l, cat_r]) (fun ls hl => ?_)
  refine lv_aload_n hx hb dX3_size_2 rfl (lv_at hl 1 rfl) ?_
  obtain ⟨v1, hv1, hf⟩ := bd_s hf
  refine gt_162 C hw hv1 kw_200 dX3_size_3 ?_
  refine lv_iconst (v := 0) hx hb dX3_size_6 (by decide) ?_
  obtain ⟨a2, ea2, hg⟩ := bd_s hf
  clear hf
  subst ea2
  have hf := hg
  clear hg
  obtain ⟨v3, hv3, hf⟩ := bd_s hf
  refine w_aald C hw 3 rfl (by decide) rfl hv3 dX3_size_7 ?_
  refine lq_astore_n (x := v3) (lv' := [(3, va_rf v3), (2, .int (0 : Int32)), (0, .ref x0), (1, va_rf x1)]) hx hb dX3_size_8 rfl hl (by decide) rfl (fun ls hl => ?_)
  exact wX3_size_b9 C fu x1 (0 : Int32) v3 hf hw hS (lv_sub hl [3, 1, 0] rfl)

set_option maxRecDepth 100000 in
set_option maxHeartbeats 4000000 in
theorem tX3_size (l : Launch) (A : Nat → Prop) (D : va_G) (cy : Nat → ClassId) (st : Nat → Nat) (sz : Nat) (sh : Sh) (d : Dt) (x0 : Nat) (x1 : Option Nat) {r : Int32} (hf : fX3_size sh d x0 x1 = some r) : Ct l yX3_size cX3_size 4 (some .int) 1 21 0 0 A D cy st [.ref x0, va_rf x1] sz sh d (some (.int r)) sz sh d := ct_of (by decide) (by simp [lg_sl, va_rf_c, cat_i, cat_l, cat_r]) (fun p e s m args below meth c C hw hS ls hl => wX3_size_b0 C x0 x1 hf hw hS (by simpa [lv_args, va_rf_c, cat_i, cat_l, cat_r] using hl))
theorem dX3_thingAt_0 : decode cX3_thingAt 0 = .ok (.iconst 0, 1) := by decide +kernel
theorem dX3_thingAt_1 : decode cX3_thingAt 1 = .ok (.istore_n 3, 1) := by decide +kernel
theorem dX3_thingAt_2 : decode cX3_thingAt 2 = .ok (.iconst 0, 1) := by decide +kernel
theorem dX3_thingAt_3 : decode cX3_thingAt 3 = .ok (.istore 4, 2) := by decide +kernel
theorem dX3_thingAt_5 : decode cX3_thingAt 5 = .ok (.iload 4, 2) := by decide +kernel
theorem dX3_thingAt_7 : decode cX3_thingAt 7 = .ok (.bipush 64, 2) := by decide +kernel
theorem dX3_thingAt_9 : decode cX3_thingAt 9 = .ok (.if_icmp .ge 30, 3) := by decide +kernel
theorem dX3_thingAt_12 : decode cX3_thingAt 12 = .ok (.aload_n 0, 1) := by decide +kernel
theorem dX3_thingAt_13 : decode cX3_thingAt 13 = .ok (.aload_n 1, 1) := by decide +kernel
theorem dX3_thingAt_14 : decode cX3_thingAt 14 = .ok (.iload 4, 2) := by decide +kernel
theorem dX3_thingAt_16 : decode cX3_thingAt 16 = .ok (.invokevirtual 80, 3) := by decide +kernel
theorem dX3_thingAt_19 : decode cX3_thingAt 19 = .ok (.ifCond .le 14, 3) := by decide +kernel
theorem dX3_thingAt_22 : decode cX3_thingAt 22 = .ok (.iload_n 3, 1) := by decide +kernel
theorem dX3_thingAt_23 : decode cX3_thingAt 23 = .ok (.iload_n 2, 1) := by decide +kernel
theorem dX3_thingAt_24 : decode cX3_thingAt 24 = .ok (.if_icmp .ne 6, 3) := by decide +kernel
theorem dX3_thingAt_27 : decode cX3_thingAt 27 = .ok (.iload 4, 2) := by decide +kernel
theorem dX3_thingAt_29 : decode cX3_thingAt 29 = .ok (.ireturn, 1) := by decide +kernel
theorem dX3_thingAt_30 : decode cX3_thingAt 30 = .ok (.iinc 3 1, 3) := by decide +kernel
theorem dX3_thingAt_33 : decode cX3_thingAt 33 = .ok (.iinc 4 1, 3) := by decide +kernel
theorem dX3_thingAt_36 : decode cX3_thingAt 36 = .ok (.goto (-31), 3) := by decide +kernel
theorem dX3_thingAt_39 : decode cX3_thingAt 39 = .ok (.bipush (-9), 2) := by decide +kernel
theorem dX3_thingAt_41 : decode cX3_thingAt 41 = .ok (.ireturn, 1) := by decide +kernel
theorem cvX3_thingAt : CV yX3_thingAt cX3_thingAt 5 (some .int) 4 2 := ⟨kw_634, kw_635, kw_10, kw_636, ⟨_, _, rfl⟩, by decide, by decide +kernel, by decide +kernel, by decide +kernel⟩
def fX3_thingAt_b5 (sh : Sh) : Nat → Nat → Option Nat → Int32 → Int32 → Int32 → Dt → Option (Int32 × Dt)
  | 0, _, _, _, _, _, _ => none
  | n + 1, x0, x1, x2, x3, x4, d => if (64 : Int32) ≤ x4 then (some ((-9 : Int32), d)) else (bd (kc sh 5 x0) fun _ => bd2 (fX3_timesIn sh d x0 x1 x4) fun r4 d5 => if r4 ≤ 0 then (fX3_thingAt_b5 sh n x0 x1 x2 x3 (x4 + 1) d5) else (if x3 = x2 then (some (x4, d5)) else (fX3_thingAt_b5 sh n x0 x1 x2 (x3 + 1) (x4 + 1) d5)))

def fX3_thingAt_b0 (sh : Sh) (x0 : Nat) (x1 : Option Nat) (x2 : Int32) (d : Dt) : Option (Int32 × Dt) := fX3_thingAt_b5 sh fu x0 x1 x2 (0 : Int32) (0 : Int32) d

def fX3_thingAt (sh : Sh) (d : Dt) (x0 : Nat) (x1 : Option Nat) (x2 : Int32) : Option (Int32 × Dt) := fX3_thingAt_b0 sh x0 x1 x2 d

set_option maxRecDepth 100000 in
set_option maxHeartbeats 4000000 in
theorem wX3_thingAt_b5 (C : mx p s m args meth c yX3_thingAt cX3_thingAt 5 (some .int) A D cy st) {r : Int32} {d9 : Dt} : ∀ (n : Nat) (x0 : Nat) (x1 : Option Nat) (x2 : Int32) (x3 : Int32) (x4 : Int32) (d : Dt), fX3_thingAt_b5 sh n x0 x1 x2 x3 x4 d = some (r, d9) → ∀ {H : Heap} {locs : List Loc} {ls : Array Slot}, HW A D cy sz sh d H → va_S A s.heap H locs → lv_has ls 5 [(0, .ref x0), (1, va_rf x1), (2, .int x2), (3, .int x3), (4, .int x4)] → GL p l e s m args below meth c 4 94 A D cy (some (.int r)) sz sh d9 H locs 5 ls [] := by
  have hx := C.1
  have hb := C.2.1
  intro n
  induction n with
  | zero => intro x0 x1 x2 x3 x4 d hf; cases hf
  | succ n ih =>
    intro x0 x1 x2 x3 x4 d hf H locs ls hw hS hl
    rw [fX3_thingAt_b5] at hf
    refine lv_iload hx hb dX3_thingAt_5 (lv_at hl 4 rfl) ?_
    refine lv_bipush (v := 64) hx hb dX3_thingAt_7 (by decide) ?_
    refine lv_icmp_ge (tgt := 39) hx hb dX3_thingAt_9 (by decide) (fun c_1 => ?_) (fun c_1 => ?_)
    · have hf := if_t c_1 hf
      refine lv_bipush (v := -9) hx hb dX3_thingAt_39 (by decide) ?_
      cases hf
      exact rt_i C hw hS dX3_thingAt_41
    · have hf := if_f c_1 hf
      refine lv_aload_n hx hb dX3_thingAt_12 rfl (lv_at hl 0 rfl) ?_
      refine lq_aload_n hx hb dX3_thingAt_13 rfl (lv_at hl 1 rfl) ?_
      refine lv_iload hx hb dX3_thingAt_14 (lv_at hl 4 rfl) ?_
      obtain ⟨_, h2, hf⟩ := bd_s hf
      obtain ⟨r4, d5, h3, hf⟩ := bd2_s hf
      refine cl_V0 C hw hS (tX3_timesIn l A D cy st sz sh d x0 x1 x4 h3) cvX3_timesIn kw_637 (kc_k h2) ⟨(Nat.le_of_ble_eq_true rfl), (Nat.le_of_ble_eq_true rfl)⟩ hl.1 rfl (Nat.le_of_ble_eq_true rfl) dX3_thingAt_16 ⟨Nat.zero_le _, Nat.zero_le _⟩ (fun H locs hw hS => ?_)
      refine lv_if_le (tgt := 33) hx hb dX3_thingAt_19 (by decide) (fun c_6 => ?_) (fun c_6 => ?_)
      · have hf := if_t c_6 hf
        refine lv_iinc (v := (x4 + 1)) (lv' := [(4, .int (x4 + 1)), (0, .ref x0), (1, va_rf x1), (2, .int x2), (3, .int x3)]) hx hb dX3_thingAt_33 hl (k := 4) rfl rfl (by decide) rfl (fun ls hl => ?_)
        refine lv_goto (tgt := 5) hx hb dX3_thingAt_36 (by decide) ?_
        exact ih x0 x1 x2 x3 (x4 + 1) d5 hf hw hS (lv_sub hl [1, 2, 3, 4, 0] rfl)
      · have hf := if_f c_6 hf
        refine lv_iload_n hx hb dX3_thingAt_22 rfl (lv_at hl 3 rfl) ?_
        refine lv_iload_n hx hb dX3_thingAt_23 rfl (lv_at hl 2 rfl) ?_
        refine lv_icmp_ne (tgt := 30) hx hb dX3_thingAt_24 (by decide) (fun c_7 => ?_) (fun c_7 => ?_)
        · have hf := if_f c_7 hf
          refine lv_iinc (v := (x3 + 1)) (lv' := [(3, .int (x3 + 1)), (0, .ref x0), (1, va_rf x1), (2, .int x2), (4, .int x4)]) hx hb dX3_thingAt_30 hl (k := 3) rfl rfl (by decide) rfl (fun ls hl => ?_)
          refine lv_iinc (v := (x4 + 1)) (lv' := [(4, .int (x4 + 1)), (3, .int (x3 + 1)), (0, .ref x0), (1, va_rf x1), (2, .int x2)]) hx hb dX3_thingAt_33 hl (k := 4) rfl rfl (by decide) rfl (fun ls hl => ?_)
          refine lv_goto (tgt := 5) hx hb dX3_thingAt_36 (by decide) ?_
          exact ih x0 x1 x2 (x3 + 1) (x4 + 1) d5 hf hw hS (lv_sub hl [2, 3, 4, 1, 0] rfl)
        · have hf := if_t c_7 hf
          refine lv_iload hx hb dX3_thingAt_27 (lv_at hl 4 rfl) ?_
          cases hf
          exact rt_i C hw hS dX3_thingAt_29

set_option maxRecDepth 100000 in
set_option maxHeartbeats 4000000 in
theorem wX3_thingAt_b0 (C : mx p s m args meth c yX3_thingAt cX3_thingAt 5 (some .int) A D cy st) {r : Int32} {d9 : Dt} : ∀ (x0 : Nat) (x1 : Option Nat) (x2 : Int32) (d : Dt), fX3_thingAt_b0 sh x0 x1 x2 d = some (r, d9) → ∀ {H : Heap} {locs : List Loc} {ls : Array Slot}, HW A D cy sz sh d H → va_S A s.heap H locs → lv_has ls 5 [(0, .ref x0), (1, va_rf x1), (2, .int x2)] → GL p l e s m args below meth c 4 94 A D cy (some (.int r)) sz sh d9 H locs 0 ls [] := by
  have hx := C.1
  have hb := C.2.1
  intro x0 x1 x2 d hf H locs ls hw hS hl
  unfold fX3_thingAt_b0 at hf
  refine lv_iconst (v := 0) hx hb dX3_thingAt_0 (by decide) ?_
  refine lv_istore_n (lv' := [(3, .int (0 : Int32)), (0, .ref x0), (1, va_rf x1), (2, .int x2)]) hx hb dX3_thingAt_1 rfl hl (by decide) rfl (fun ls hl => ?_)
  refine lv_iconst (v := 0) hx hb dX3_thingAt_2 (by decide) ?_
  refine lv_istore (lv' := [(4, .int (0 : Int32)), (3, .int (0 : Int32)), (0, .ref x0), (1, va_rf x1), (2, .int x2)]) hx hb dX3_thingAt_3 hl (by decide) rfl (fun ls hl => ?_)
  exact wX3_thingAt_b5 C fu x0 x1 x2 (0 : Int32) (0 : Int32) d hf hw hS (lv_sub hl [2, 3, 4, 1, 0] rfl)

set_option maxRecDepth 100000 in
set_option maxHeartbeats 4000000 in
theorem tX3_thingAt (l : Launch) (A : Nat → Prop) (D : va_G) (cy : Nat → ClassId) (st : Nat → Nat) (sz : Nat) (sh : Sh) (d : Dt) (x0 : Nat) (x1 : Option Nat) (x2 : Int32) {r : Int32} {d9 : Dt} (hf : fX3_thingAt sh d x0 x1 x2 = some (r, d9)) : Ct l yX3_thingAt cX3_thingAt 5 (some .int) 4 94 0 0 A D cy st [.ref x0, va_rf x1, .int x2] sz sh d (some (.int r)) sz sh d9 := ct_of (by decide) (by simp [lg_sl, va_rf_c, cat_i, cat_l, cat_r]) (fun p e s m args below meth c C hw hS ls hl => wX3_thingAt_b0 C x0 x1 x2 d hf hw hS (by simpa [lv_args, va_rf_c, cat_i, cat_l, cat_r] using hl))
theorem dX3_headCount_0 : decode cX3_headCount 0 = .ok (.aload_n 0, 1) := by decide +kernel
theorem dX3_headCount_1 : decode cX3_headCount 1 = .ok (.aload_n 1, 1) := by decide +kernel
theorem dX3_headCount_2 : decode cX3_headCount 2 = .ok (.iconst 0, 1) := by decide +kernel
theorem dX3_headCount_3 : decode cX3_headCount 3 = .ok (.iconst 0, 1) := by decide +kernel
theorem dX3_headCount_4 : decode cX3_headCount 4 = .ok (.iconst 0, 1) := by decide +kernel
theorem dX3_headCount_5 : decode cX3_headCount 5 = .ok (.invokevirtual 76, 3) := by decide +kernel
theorem dX3_headCount_8 : decode cX3_headCount 8 = .ok (.ireturn, 1) := by decide +kernel
theorem cvX3_headCount : CV yX3_headCount cX3_headCount 2 (some .int) 4 1 := ⟨kw_643, kw_644, kw_10, kw_645, ⟨_, _, rfl⟩, by decide, by decide +kernel, by decide +kernel, by decide +kernel⟩
def fX3_headCount_b0 (sh : Sh) (x0 : Nat) (x1 : Option Nat) (d : Dt) : Option (Int32 × Dt) := bd (kc sh 5 x0) fun _ => bd2 (fX3_unknownTo sh d x0 x1 (0 : Int32) (0 : Int32) (0 : Int32)) fun r3 d4 => some (r3, d4)

def fX3_headCount (sh : Sh) (d : Dt) (x0 : Nat) (x1 : Option Nat) : Option (Int32 × Dt) := fX3_headCount_b0 sh x0 x1 d

set_option maxRecDepth 100000 in
set_option maxHeartbeats 4000000 in
theorem wX3_headCount_b0 (C : mx p s m args meth c yX3_headCount cX3_headCount 2 (some .int) A D cy st) {r : Int32} {d9 : Dt} : ∀ (x0 : Nat) (x1 : Option Nat) (d : Dt), fX3_headCount_b0 sh x0 x1 d = some (r, d9) → ∀ {H : Heap} {locs : List Loc} {ls : Array Slot}, HW A D cy sz sh d H → va_S A s.heap H locs → lv_has ls 2 [(0, .ref x0), (1, va_rf x1)] → GL p l e s m args below meth c 3 72 A D cy (some (.int r)) sz sh d9 H locs 0 ls [] := by
  have hx := C.1
  have hb := C.2.1
  intro x0 x1 d hf H locs ls hw hS hl
  unfold fX3_headCount_b0 at hf
  refine lv_aload_n hx hb dX3_headCount_0 rfl (lv_at hl 0 rfl) ?_
  refine lq_aload_n hx hb dX3_headCount_1 rfl (lv_at hl 1 rfl) ?_
  refine lv_iconst (v := 0) hx hb dX3_headCount_2 (by decide) ?_
  refine lv_iconst (v := 0) hx hb dX3_headCount_3 (by decide) ?_
  refine lv_iconst (v := 0) hx hb dX3_headCount_4 (by decide) ?_
  obtain ⟨_, h1, hf⟩ := bd_s hf
  obtain ⟨r3, d4, h2, hf⟩ := bd2_s hf
  refine cl_V0 C hw hS (tX3_unknownTo l A D cy st sz sh d x0 x1 (0 : Int32) (0 : Int32) (0 : Int32) h2) cvX3_unknownTo kw_422 (kc_k h1) ⟨(Nat.le_of_ble_eq_true rfl), (Nat.le_of_ble_eq_true rfl)⟩ hl.1 rfl (Nat.le_of_ble_eq_true rfl) dX3_headCount_5 ⟨Nat.zero_le _, Nat.zero_le _⟩ (fun H locs hw hS => ?_)
  cases hf
  exact rt_i C hw hS dX3_headCount_8

set_option maxRecDepth 100000 in
set_option maxHeartbeats 4000000 in
theorem tX3_headCount (l : Launch) (A : Nat → Prop) (D : va_G) (cy : Nat → ClassId) (st : Nat → Nat) (sz : Nat) (sh : Sh) (d : Dt) (x0 : Nat) (x1 : Option Nat) {r : Int32} {d9 : Dt} (hf : fX3_headCount sh d x0 x1 = some (r, d9)) : Ct l yX3_headCount cX3_headCount 2 (some .int) 3 72 0 0 A D cy st [.ref x0, va_rf x1] sz sh d (some (.int r)) sz sh d9 := ct_of (by decide) (by simp [lg_sl, va_rf_c, cat_i, cat_l, cat_r]) (fun p e s m args below meth c C hw hS ls hl => wX3_headCount_b0 C x0 x1 d hf hw hS (by simpa [lv_args, va_rf_c, cat_i, cat_l, cat_r] using hl))
theorem dX3_headAbove_0 : decode cX3_headAbove 0 = .ok (.aload_n 0, 1) := by decide +kernel
theorem dX3_headAbove_1 : decode cX3_headAbove 1 = .ok (.aload_n 1, 1) := by decide +kernel
theorem dX3_headAbove_2 : decode cX3_headAbove 2 = .ok (.iconst 0, 1) := by decide +kernel
theorem dX3_headAbove_3 : decode cX3_headAbove 3 = .ok (.iconst 0, 1) := by decide +kernel
theorem dX3_headAbove_4 : decode cX3_headAbove 4 = .ok (.invokevirtual 72, 3) := by decide +kernel
theorem dX3_headAbove_7 : decode cX3_headAbove 7 = .ok (.aconst_null, 1) := by decide +kernel
theorem dX3_headAbove_8 : decode cX3_headAbove 8 = .ok (.astore_n 3, 1) := by decide +kernel
theorem dX3_headAbove_9 : decode cX3_headAbove 9 = .ok (.aload_n 0, 1) := by decide +kernel
theorem dX3_headAbove_10 : decode cX3_headAbove 10 = .ok (.getfield 27, 3) := by decide +kernel
theorem dX3_headAbove_13 : decode cX3_headAbove 13 = .ok (.iconst 0, 1) := by decide +kernel
theorem dX3_headAbove_14 : decode cX3_headAbove 14 = .ok (.aaload, 1) := by decide +kernel
theorem dX3_headAbove_15 : decode cX3_headAbove 15 = .ok (.astore 4, 2) := by decide +kernel
theorem dX3_headAbove_17 : decode cX3_headAbove 17 = .ok (.aload 4, 2) := by decide +kernel
theorem dX3_headAbove_19 : decode cX3_headAbove 19 = .ok (.ifnull 75, 3) := by decide +kernel
theorem dX3_headAbove_22 : decode cX3_headAbove 22 = .ok (.aload_n 1, 1) := by decide +kernel
theorem dX3_headAbove_23 : decode cX3_headAbove 23 = .ok (.aload 4, 2) := by decide +kernel
theorem dX3_headAbove_25 : decode cX3_headAbove 25 = .ok (.invokevirtual 42, 3) := by decide +kernel
theorem dX3_headAbove_28 : decode cX3_headAbove 28 = .ok (.ifCond .eq 19, 3) := by decide +kernel
theorem dX3_headAbove_31 : decode cX3_headAbove 31 = .ok (.aload_n 0, 1) := by decide +kernel
theorem dX3_headAbove_32 : decode cX3_headAbove 32 = .ok (.getfield 12, 3) := by decide +kernel
theorem dX3_headAbove_35 : decode cX3_headAbove 35 = .ok (.aload 4, 2) := by decide +kernel
theorem dX3_headAbove_37 : decode cX3_headAbove 37 = .ok (.invokevirtual 42, 3) := by decide +kernel
theorem dX3_headAbove_40 : decode cX3_headAbove 40 = .ok (.ifCond .ne 7, 3) := by decide +kernel
theorem dX3_headAbove_43 : decode cX3_headAbove 43 = .ok (.iconst 1, 1) := by decide +kernel
theorem dX3_headAbove_44 : decode cX3_headAbove 44 = .ok (.goto 4, 3) := by decide +kernel
theorem dX3_headAbove_47 : decode cX3_headAbove 47 = .ok (.iconst 0, 1) := by decide +kernel
theorem dX3_headAbove_48 : decode cX3_headAbove 48 = .ok (.istore 5, 2) := by decide +kernel
theorem dX3_headAbove_50 : decode cX3_headAbove 50 = .ok (.iload 5, 2) := by decide +kernel
theorem dX3_headAbove_52 : decode cX3_headAbove 52 = .ok (.ifCond .eq 32, 3) := by decide +kernel
theorem dX3_headAbove_55 : decode cX3_headAbove 55 = .ok (.aload_n 2, 1) := by decide +kernel
theorem dX3_headAbove_56 : decode cX3_headAbove 56 = .ok (.ifnull 12, 3) := by decide +kernel
theorem dX3_headAbove_59 : decode cX3_headAbove 59 = .ok (.aload_n 2, 1) := by decide +kernel
theorem dX3_headAbove_60 : decode cX3_headAbove 60 = .ok (.aload 4, 2) := by decide +kernel
theorem dX3_headAbove_62 : decode cX3_headAbove 62 = .ok (.invokevirtual 46, 3) := by decide +kernel
theorem dX3_headAbove_65 : decode cX3_headAbove 65 = .ok (.ifCond .eq 19, 3) := by decide +kernel
theorem dX3_headAbove_68 : decode cX3_headAbove 68 = .ok (.aload_n 3, 1) := by decide +kernel
theorem dX3_headAbove_69 : decode cX3_headAbove 69 = .ok (.ifnull 12, 3) := by decide +kernel
theorem dX3_headAbove_72 : decode cX3_headAbove 72 = .ok (.aload 4, 2) := by decide +kernel
theorem dX3_headAbove_74 : decode cX3_headAbove 74 = .ok (.aload_n 3, 1) := by decide +kernel
theorem dX3_headAbove_75 : decode cX3_headAbove 75 = .ok (.invokevirtual 46, 3) := by decide +kernel
theorem dX3_headAbove_78 : decode cX3_headAbove 78 = .ok (.ifCond .eq 6, 3) := by decide +kernel
theorem dX3_headAbove_81 : decode cX3_headAbove 81 = .ok (.aload 4, 2) := by decide +kernel
theorem dX3_headAbove_83 : decode cX3_headAbove 83 = .ok (.astore_n 3, 1) := by decide +kernel
theorem dX3_headAbove_84 : decode cX3_headAbove 84 = .ok (.aload 4, 2) := by decide +kernel
theorem dX3_headAbove_86 : decode cX3_headAbove 86 = .ok (.getfield 49, 3) := by decide +kernel
theorem dX3_headAbove_89 : decode cX3_headAbove 89 = .ok (.astore 4, 2) := by decide +kernel
theorem dX3_headAbove_91 : decode cX3_headAbove 91 = .ok (.goto (-74), 3) := by decide +kernel
theorem dX3_headAbove_94 : decode cX3_headAbove 94 = .ok (.aload_n 3, 1) := by decide +kernel
theorem dX3_headAbove_95 : decode cX3_headAbove 95 = .ok (.areturn, 1) := by decide +kernel
theorem cvX3_headAbove : CV yX3_headAbove cX3_headAbove 6 (some (.object "ManyHands$Entry")) 4 2 := ⟨kw_657, ks_18, kw_10, kw_658, ⟨_, _, rfl⟩, by decide, by decide +kernel, by decide +kernel, by decide +kernel⟩
def fX3_headAbove_b68 (sh : Sh) (k17 : Nat → Option Nat → Option Nat → Option Nat → Option Nat → Dt → Option (Option Nat × Dt)) (x0 : Nat) (x1 : Option Nat) (x2 : Option Nat) (x3 : Option Nat) (x4 : Option Nat) (d : Dt) : Option (Option Nat × Dt) := on x3 (bd x4 fun a2 => bd (gR sh d 2 73 a2) fun v3 => k17 x0 x1 x2 (some a2) v3 d) (fun a1 => bd x4 fun a4 => bd (kc sh 2 a4) fun _ => bd (fX0_isBelow sh d a4 (some a1)) fun r7 => if (bI r7) = 0 then (bd (gR sh d 2 73 a4) fun v9 => k17 x0 x1 x2 (some a1) v9 d) else (bd (gR sh d 2 73 a4) fun v10 => k17 x0 x1 x2 (some a4) v10 d))

def fX3_headAbove_b48 (sh : Sh) (k17 : Nat → Option Nat → Option Nat → Option Nat → Option Nat → Dt → Option (Option Nat × Dt)) (x0 : Nat) (x1 : Option Nat) (x2 : Option Nat) (x3 : Option Nat) (x4 : Option Nat) (t0 : Int32) (d : Dt) : Option (Option Nat × Dt) := if t0 = 0 then (bd x4 fun a2 => bd (gR sh d 2 73 a2) fun v3 => k17 x0 x1 x2 x3 v3 d) else (on x2 (fX3_headAbove_b68 sh k17 x0 x1 none x3 x4 d) (fun a4 => bd (kc sh 2 a4) fun _ => bd (fX0_isBelow sh d a4 x4) fun r7 => if (bI r7) = 0 then (bd x4 fun a9 => bd (gR sh d 2 73 a9) fun v10 => k17 x0 x1 (some a4) x3 v10 d) else (fX3_headAbove_b68 sh k17 x0 x1 (some a4) x3 x4 d)))

def fX3_headAbove_b17 (sh : Sh) : Nat → Nat → Option Nat → Option Nat → Option Nat → Option Nat → Dt → Option (Option Nat × Dt)
  | 0, _, _, _, _, _, _ => none
  | n + 1, x0, x1, x2, x3, x4, d => on x4 (some (x3, d)) (fun a1 => bd x1 fun a2 => bd (kc sh 6 a2) fun _ => bd (fX4_holds sh d a2 (some a1)) fun r5 => if (bI r5) = 0 then (fX3_headAbove_b48 sh (fX3_headAbove_b17 sh n) x0 (some a2) x2 x3 (some a1) (0 : Int32) d) else (bd (gR sh d 5 163 x0) fun v7 => bd v7 fun a8 => bd (kc sh 6 a8) fun _ => bd (fX4_holds sh d a8 (some a1)) fun r11 => if (bI r11) = 0 then (fX3_headAbove_b48 sh (fX3_headAbove_b17 sh n) x0 (some a2) x2 x3 (some a1) (1 : Int32) d) else (fX3_headAbove_b48 sh (fX3_headAbove_b17 sh n) x0 (some a2) x2 x3 (some a1) (0 : Int32) d)))

def fX3_headAbove_b0 (sh : Sh) (x0 : Nat) (x1 : Option Nat) (x2 : Option Nat) (d : Dt) : Option (Option Nat × Dt) := bd (kc sh 5 x0) fun _ => bd (fX3_gatherKnown sh d x0 x1 (0 : Int32) (0 : Int32)) fun d4 => bd (gR sh d4 5 162 x0) fun v5 => bd v5 fun a6 => bd (aR sh d4 23 a6 (0 : Int32)) fun v7 => fX3_headAbove_b17 sh fu x0 x1 x2 none v7 d4

def fX3_headAbove (sh : Sh) (d : Dt) (x0 : Nat) (x1 : Option Nat) (x2 : Option Nat) : Option (Option Nat × Dt) := fX3_headAbove_b0 sh x0 x1 x2 d

set_option maxRecDepth 100000 in
set_option maxHeartbeats 4000000 in
theorem wX3_headAbove_b68 (C : mx p s m args meth c yX3_headAbove cX3_headAbove 6 (some (.object "ManyHands$Entry")) A D cy st) {k17 : Nat → Option Nat → Option Nat → Option Nat → Option Nat → Dt → Option (Option Nat × Dt)} {r : Option Nat} {d9 : Dt} (Hk17 : ∀ (x0 : Nat) (x1 : Option Nat) (x2 : Option Nat) (x3 : Option Nat) (x4 : Option Nat) (d : Dt), k17 x0 x1 x2 x3 x4 d = some (r, d9) → ∀ {H : Heap} {locs : List Loc} {ls : Array Slot}, HW A D cy sz sh d H → va_S A s.heap H locs → lv_has ls 6 [(0, .ref x0), (1, va_rf x1), (2, va_rf x2), (3, va_rf x3), (4, va_rf x4)] → GL p l e s m args below meth c 2 46 A D cy (some (va_rf r)) sz sh d9 H locs 17 ls []) : ∀ (x0 : Nat) (x1 : Option Nat) (x2 : Option Nat) (x3 : Option Nat) (x4 : Option Nat) (d : Dt), fX3_headAbove_b68 sh k17 x0 x1 x2 x3 x4 d = some (r, d9) → ∀ {H : Heap} {locs : List Loc} {ls : Array Slot}, HW A D cy sz sh d H → va_S A s.heap H locs → lv_has ls 6 [(0, .ref x0), (1, va_rf x1), (2, va_rf x2), (3, va_rf x3), (4, va_rf x4)] → GL p l e s m args below meth c 2 46 A D cy (some (va_rf r)) sz sh d9 H locs 68 ls [] := by
  have hx := C.1
  have hb := C.2.1
  intro x0 x1 x2 x3 x4 d hf H locs ls hw hS hl
  unfold fX3_headAbove_b68 at hf
  refine lq_aload_n hx hb dX3_headAbove_68 rfl (lv_at hl 3 rfl) ?_
  cases x3 with
  | none =>
    have hf := on_n hf
    refine lv_ifnullN (tgt := 81) hx hb dX3_headAbove_69 (by decide) ?_
    refine lq_aload hx hb dX3_headAbove_81 (lv_at hl 4 rfl) ?_
    refine lq_astore_n (i := 3) (x := x4) (lv' := [(3, va_rf x4), (0, .ref x0), (1, va_rf x1), (2, va_rf x2), (4, va_rf x4)]) hx hb dX3_headAbove_83 rfl hl (by decide) (by simp [va_rf_c, cat_i, cat_l, cat_r]) (fun ls hl => ?_)
    refine lq_aload hx hb dX3_headAbove_84 (lv_at hl 4 rfl) ?_
    obtain ⟨a2, ea2, hg⟩ := bd_s hf
    clear hf
    subst ea2
    have hf := hg
    clear hg
    obtain ⟨v3, hv3, hf⟩ := bd_s hf
    refine gt_73 C hw hv3 kw_311 dX3_headAbove_86 ?_
    refine lq_astore (i := 4) (x := v3) (lv' := [(4, va_rf v3), (3, va_rf (some a2)), (0, .ref x0), (1, va_rf x1), (2, va_rf x2)]) hx hb dX3_headAbove_89 hl (by decide) (by simp [va_rf_c, cat_i, cat_l, cat_r]) (fun ls hl => ?_)
    refine lv_goto (tgt := 17) hx hb dX3_headAbove_91 (by decide) ?_
    exact Hk17 x0 x1 x2 (some a2) v3 d hf hw hS (lv_sub hl [2, 3, 4, 1, 0] rfl)
  | some a1 =>
    have hf := on_s hf
    refine lv_ifnull hx hb dX3_headAbove_69 ?_
    refine lq_aload hx hb dX3_headAbove_72 (lv_at hl 4 rfl) ?_
    refine lq_aload_n hx hb dX3_headAbove_74 rfl (lv_at hl 3 rfl) ?_
    obtain ⟨a4, ea4, hg⟩ := bd_s hf
    clear hf
    subst ea4
    have hf := hg
    clear hg
    obtain ⟨_, h5, hf⟩ := bd_s hf
    obtain ⟨r7, h6, hf⟩ := bd_s hf
    refine cl_V0 C hw hS (tX0_isBelow l A D cy st sz sh d a4 (some a1) h6) cvX0_isBelow kw_600 (kc_k h5) ⟨(Nat.le_of_ble_eq_true rfl), (Nat.le_of_ble_eq_true rfl)⟩ hl.1 rfl (Nat.le_of_ble_eq_true rfl) dX3_headAbove_75 ⟨Nat.zero_le _, Nat.zero_le _⟩ (fun H locs hw hS => ?_)
    refine lv_if_eq (tgt := 84) hx hb dX3_headAbove_78 (by decide) (fun c_8 => ?_) (fun c_8 => ?_)
    · have hf := if_t c_8 hf
      refine lq_aload hx hb dX3_headAbove_84 (lv_at hl 4 rfl) ?_
      obtain ⟨v9, hv9, hf⟩ := bd_s hf
      refine gt_73 C hw hv9 kw_311 dX3_headAbove_86 ?_
      refine lq_astore (i := 4) (x := v9) (lv' := [(4, va_rf v9), (0, .ref x0), (1, va_rf x1), (2, va_rf x2), (3, va_rf (some a1))]) hx hb dX3_headAbove_89 hl (by decide) (by simp [va_rf_c, cat_i, cat_l, cat_r]) (fun ls hl => ?_)
      refine lv_goto (tgt := 17) hx hb dX3_headAbove_91 (by decide) ?_
      exact Hk17 x0 x1 x2 (some a1) v9 d hf hw hS (lv_sub hl [1, 2, 3, 4, 0] rfl)
    · have hf := if_f c_8 hf
      refine lq_aload hx hb dX3_headAbove_81 (lv_at hl 4 rfl) ?_
      refine lq_astore_n (i := 3) (x := (some a4)) (lv' := [(3, va_rf (some a4)), (0, .ref x0), (1, va_rf x1), (2, va_rf x2), (4, va_rf (some a4))]) hx hb dX3_headAbove_83 rfl hl (by decide) (by simp [va_rf_c, cat_i, cat_l, cat_r]) (fun ls hl => ?_)
      refine lq_aload hx hb dX3_headAbove_84 (lv_at hl 4 rfl) ?_
      obtain ⟨v10, hv10, hf⟩ := bd_s hf
      refine gt_73 C hw hv10 kw_311 dX3_headAbove_86 ?_
      refine lq_astore (i := 4) (x := v10) (lv' := [(4, va_rf v10), (3, va_rf (some a4)), (0, .ref x0), (1, va_rf x1), (2, va_rf x2)]) hx hb dX3_headAbove_89 hl (by decide) (by simp [va_rf_c, cat_i, cat_l, cat_r]) (fun ls hl => ?_)
      refine lv_goto (tgt := 17) hx hb dX3_headAbove_91 (by decide) ?_
      exact Hk17 x0 x1 x2 (some a4) v10 d hf hw hS (lv_sub hl [2, 3, 4, 1, 0] rfl)

set_option maxRecDepth 100000 in
set_option maxHeartbeats 4000000 in
theorem wX3_headAbove_b48 (C : mx p s m args meth c yX3_headAbove cX3_headAbove 6 (some (.object "ManyHands$Entry")) A D cy st) {k17 : Nat → Option Nat → Option Nat → Option Nat → Option Nat → Dt → Option (Option Nat × Dt)} {r : Option Nat} {d9 : Dt} (Hk17 : ∀ (x0 : Nat) (x1 : Option Nat) (x2 : Option Nat) (x3 : Option Nat) (x4 : Option Nat) (d : Dt), k17 x0 x1 x2 x3 x4 d = some (r, d9) → ∀ {H : Heap} {locs : List Loc} {ls : Array Slot}, HW A D cy sz sh d H → va_S A s.heap H locs → lv_has ls 6 [(0, .ref x0), (1, va_rf x1), (2, va_rf x2), (3, va_rf x3), (4, va_rf x4)] → GL p l e s m args below meth c 2 46 A D cy (some (va_rf r)) sz sh d9 H locs 17 ls []) : ∀ (x0 : Nat) (x1 : Option Nat) (x2 : Option Nat) (x3 : Option Nat) (x4 : Option Nat) (t0 : Int32) (d : Dt), fX3_headAbove_b48 sh k17 x0 x1 x2 x3 x4 t0 d = some (r, d9) → ∀ {H : Heap} {locs : List Loc} {ls : Array Slot}, HW A D cy sz sh d H → va_S A s.heap H locs → lv_has ls 6 [(0, .ref x0), (1, va_rf x1), (2, va_rf x2), (3, va_rf x3), (4, va_rf x4)] → GL p l e s m args below meth c 2 46 A D cy (some (va_rf r)) sz sh d9 H locs 48 ls [.int t0] := by
  have hx := C.1
  have hb := C.2.1
  intro x0 x1 x2 x3 x4 t0 d hf H locs ls hw hS hl
  unfold fX3_headAbove_b48 at hf
  refine lv_istore (i := 5) (lv' := [(5, .int t0), (0, .ref x0), (1, va_rf x1), (2, va_rf x2), (3, va_rf x3), (4, va_rf x4)]) hx hb dX3_headAbove_48 hl (by decide) (by simp [va_rf_c, cat_i, cat_l, cat_r]) (fun ls hl => ?_)
  refine lv_iload hx hb dX3_headAbove_50 (lv_at hl 0 rfl) ?_
  refine lv_if_eq (tgt := 84) hx hb dX3_headAbove_52 (by decide) (fun c_1 => ?_) (fun c_1 => ?_)
  · have hf := if_t c_1 hf
    refine lq_aload hx hb dX3_headAbove_84 (lv_at hl 5 rfl) ?_
    obtain ⟨a2, ea2, hg⟩ := bd_s hf
    clear hf
    subst ea2
    have hf := hg
    clear hg
    obtain ⟨v3, hv3, hf⟩ := bd_s hf
    refine gt_73 C hw hv3 kw_311 dX3_headAbove_86 ?_
    refine lq_astore (i := 4) (x := v3) (lv' := [(4, va_rf v3), (5, .int t0), (0, .ref x0), (1, va_rf x1), (2, va_rf x2), (3, va_rf x3)]) hx hb dX3_headAbove_89 hl (by decide) (by simp [va_rf_c, cat_i, cat_l, cat_r]) (fun ls hl => ?_)
    refine lv_goto (tgt := 17) hx hb dX3_headAbove_91 (by decide) ?_
    exact Hk17 x0 x1 x2 x3 v3 d hf hw hS (lv_sub hl [2, 3, 4, 5, 0] rfl)
  · have hf := if_f c_1 hf
    refine lq_aload_n hx hb dX3_headAbove_55 rfl (lv_at hl 3 rfl) ?_
    cases x2 with
    | none =>
      have hf := on_n hf
      refine lv_ifnullN (tgt := 68) hx hb dX3_headAbove_56 (by decide) ?_
      exact wX3_headAbove_b68 C Hk17 x0 x1 none x3 x4 d hf hw hS (lv_sub hl [1, 2, 3, 4, 5] rfl)
    | some a4 =>
      have hf := on_s hf
      refine lv_ifnull hx hb dX3_headAbove_56 ?_
      refine lq_aload_n hx hb dX3_headAbove_59 rfl (lv_at hl 3 rfl) ?_
      refine lq_aload hx hb dX3_headAbove_60 (lv_at hl 5 rfl) ?_
      obtain ⟨_, h5, hf⟩ := bd_s hf
      obtain ⟨r7, h6, hf⟩ := bd_s hf
      refine cl_V0 C hw hS (tX0_isBelow l A D cy st sz sh d a4 x4 h6) cvX0_isBelow kw_600 (kc_k h5) ⟨(Nat.le_of_ble_eq_true rfl), (Nat.le_of_ble_eq_true rfl)⟩ hl.1 rfl (Nat.le_of_ble_eq_true rfl) dX3_headAbove_62 ⟨Nat.zero_le _, Nat.zero_le _⟩ (fun H locs hw hS => ?_)
      refine lv_if_eq (tgt := 84) hx hb dX3_headAbove_65 (by decide) (fun c_8 => ?_) (fun c_8 => ?_)
      · have hf := if_t c_8 hf
        refine lq_aload hx hb dX3_headAbove_84 (lv_at hl 5 rfl) ?_
        obtain ⟨a9, ea9, hg⟩ := bd_s hf
        clear hf
        subst ea9
        have hf := hg
        clear hg
        obtain ⟨v10, hv10, hf⟩ := bd_s hf
        refine gt_73 C hw hv10 kw_311 dX3_headAbove_86 ?_
        refine lq_astore (i := 4) (x := v10) (lv' := [(4, va_rf v10), (5, .int t0), (0, .ref x0), (1, va_rf x1), (2, va_rf (some a4)), (3, va_rf x3)]) hx hb dX3_headAbove_89 hl (by decide) (by simp [va_rf_c, cat_i, cat_l, cat_r]) (fun ls hl => ?_)
        refine lv_goto (tgt := 17) hx hb dX3_headAbove_91 (by decide) ?_
        exact Hk17 x0 x1 (some a4) x3 v10 d hf hw hS (lv_sub hl [2, 3, 4, 5, 0] rfl)
      · have hf := if_f c_8 hf
        exact wX3_headAbove_b68 C Hk17 x0 x1 (some a4) x3 x4 d hf hw hS (lv_sub hl [1, 2, 3, 4, 5] rfl)

set_option maxRecDepth 100000 in
set_option maxHeartbeats 4000000 in
theorem wX3_headAbove_b17 (C : mx p s m args meth c yX3_headAbove cX3_headAbove 6 (some (.object "ManyHands$Entry")) A D cy st) {r : Option Nat} {d9 : Dt} : ∀ (n : Nat) (x0 : Nat) (x1 : Option Nat) (x2 : Option Nat) (x3 : Option Nat) (x4 : Option Nat) (d : Dt), fX3_headAbove_b17 sh n x0 x1 x2 x3 x4 d = some (r, d9) → ∀ {H : Heap} {locs : List Loc} {ls : Array Slot}, HW A D cy sz sh d H → va_S A s.heap H locs → lv_has ls 6 [(0, .ref x0), (1, va_rf x1), (2, va_rf x2), (3, va_rf x3), (4, va_rf x4)] → GL p l e s m args below meth c 2 46 A D cy (some (va_rf r)) sz sh d9 H locs 17 ls [] := by
  have hx := C.1
  have hb := C.2.1
  intro n
  induction n with
  | zero => intro x0 x1 x2 x3 x4 d hf; cases hf
  | succ n ih =>
    intro x0 x1 x2 x3 x4 d hf H locs ls hw hS hl
    rw [fX3_headAbove_b17] at hf
    refine lq_aload hx hb dX3_headAbove_17 (lv_at hl 4 rfl) ?_
    cases x4 with
    | none =>
      have hf := on_n hf
      refine lv_ifnullN (tgt := 94) hx hb dX3_headAbove_19 (by decide) ?_
      refine lq_aload_n hx hb dX3_headAbove_94 rfl (lv_at hl 3 rfl) ?_
      cases hf
      exact rt_a C hw hS dX3_headAbove_95
    | some a1 =>
      have hf := on_s hf
      refine lv_ifnull hx hb dX3_headAbove_19 ?_
      refine lq_aload_n hx hb dX3_headAbove_22 rfl (lv_at hl 1 rfl) ?_
      refine lq_aload hx hb dX3_headAbove_23 (lv_at hl 4 rfl) ?_
      obtain ⟨a2, ea2, hg⟩ := bd_s hf
      clear hf
      subst ea2
      have hf := hg
      clear hg
      obtain ⟨_, h3, hf⟩ := bd_s hf
      obtain ⟨r5, h4, hf⟩ := bd_s hf
      refine cl_V0 C hw hS (tX4_holds l A D cy st sz sh d a2 (some a1) h4) cvX4_holds kw_434 (kc_k h3) ⟨(Nat.le_of_ble_eq_true rfl), (Nat.le_of_ble_eq_true rfl)⟩ hl.1 rfl (Nat.le_of_ble_eq_true rfl) dX3_headAbove_25 ⟨Nat.zero_le _, Nat.zero_le _⟩ (fun H locs hw hS => ?_)
      refine lv_if_eq (tgt := 47) hx hb dX3_headAbove_28 (by decide) (fun c_6 => ?_) (fun c_6 => ?_)
      · have hf := if_t c_6 hf
        refine lv_iconst (v := 0) hx hb dX3_headAbove_47 (by decide) ?_
        exact wX3_headAbove_b48 C ih x0 (some a2) x2 x3 (some a1) (0 : Int32) d hf hw hS (lv_sub hl [0, 1, 2, 3, 4] rfl)
      · have hf := if_f c_6 hf
        refine lv_aload_n hx hb dX3_headAbove_31 rfl (lv_at hl 0 rfl) ?_
        obtain ⟨v7, hv7, hf⟩ := bd_s hf
        refine gt_163 C hw hv7 kw_202 dX3_headAbove_32 ?_
        refine lq_aload hx hb dX3_headAbove_35 (lv_at hl 4 rfl) ?_
        obtain ⟨a8, ea8, hg⟩ := bd_s hf
        clear hf
        subst ea8
        have hf := hg
        clear hg
        obtain ⟨_, h9, hf⟩ := bd_s hf
        obtain ⟨r11, h10, hf⟩ := bd_s hf
        refine cl_V0 C hw hS (tX4_holds l A D cy st sz sh d a8 (some a1) h10) cvX4_holds kw_434 (kc_k h9) ⟨(Nat.le_of_ble_eq_true rfl), (Nat.le_of_ble_eq_true rfl)⟩ hl.1 rfl (Nat.le_of_ble_eq_true rfl) dX3_headAbove_37 ⟨Nat.zero_le _, Nat.zero_le _⟩ (fun H locs hw hS => ?_)
        refine lv_if_ne (tgt := 47) hx hb dX3_headAbove_40 (by decide) (fun c_12 => ?_) (fun c_12 => ?_)
        · have hf := if_f c_12 hf
          refine lv_iconst (v := 0) hx hb dX3_headAbove_47 (by decide) ?_
          exact wX3_headAbove_b48 C ih x0 (some a2) x2 x3 (some a1) (0 : Int32) d hf hw hS (lv_sub hl [0, 1, 2, 3, 4] rfl)
        · have hf := if_t c_12 hf
          refine lv_iconst (v := 1) hx hb dX3_headAbove_43 (by decide) ?_
          refine lv_goto (tgt := 48) hx hb dX3_headAbove_44 (by decide) ?_
          exact wX3_headAbove_b48 C ih x0 (some a2) x2 x3 (some a1) (1 : Int32) d hf hw hS (lv_sub hl [0, 1, 2, 3, 4] rfl)

set_option maxRecDepth 100000 in
set_option maxHeartbeats 4000000 in
theorem wX3_headAbove_b0 (C : mx p s m args meth c yX3_headAbove cX3_headAbove 6 (some (.object "ManyHands$Entry")) A D cy st) {r : Option Nat} {d9 : Dt} : ∀ (x0 : Nat) (x1 : Option Nat) (x2 : Option Nat) (d : Dt), fX3_headAbove_b0 sh x0 x1 x2 d = some (r, d9) → ∀ {H : Heap} {locs : List Loc} {ls : Array Slot}, HW A D cy sz sh d H → va_S A s.heap H locs → lv_has ls 6 [(0, .ref x0), (1, va_rf x1), (2, va_rf x2)] → GL p l e s m args below meth c 2 46 A D cy (some (va_rf r)) sz sh d9 H locs 0 ls [] := by
  have hx := C.1
  have hb := C.2.1
  intro x0 x1 x2 d hf H locs ls hw hS hl
  unfold fX3_headAbove_b0 at hf
  refine lv_aload_n hx hb dX3_headAbove_0 rfl (lv_at hl 0 rfl) ?_
  refine lq_aload_n hx hb dX3_headAbove_1 rfl (lv_at hl 1 rfl) ?_
  refine lv_iconst (v := 0) hx hb dX3_headAbove_2 (by decide) ?_
  refine lv_iconst (v := 0) hx hb dX3_headAbove_3 (by decide) ?_
  obtain ⟨_, h1, hf⟩ := bd_s hf
  obtain ⟨d4, h2, hf⟩ := bd_s hf
  refine cl_V0 C hw hS (tX3_gatherKnown l A D cy st sz sh d x0 x1 (0 : Int32) (0 : Int32) h2) cvX3_gatherKnown kw_426 (kc_k h1) ⟨(Nat.le_of_ble_eq_true rfl), (Nat.le_of_ble_eq_true rfl)⟩ hl.1 rfl (Nat.le_of_ble_eq_true rfl) dX3_headAbove_4 ⟨Nat.zero_le _, Nat.zero_le _⟩ (fun H locs hw hS => ?_)
  refine lv_null hx hb dX3_headAbove_7 ?_
  refine lq_astore_n (i := 3) (x := none) (lv' := [(3, va_rf none), (0, .ref x0), (1, va_rf x1), (2, va_rf x2)]) hx hb dX3_headAbove_8 rfl hl (by decide) (by simp [va_rf_c, cat_i, cat_l, cat_r]) (fun ls hl => ?_)
  refine lv_aload_n hx hb dX3_headAbove_9 rfl (lv_at hl 1 rfl) ?_
  obtain ⟨v5, hv5, hf⟩ := bd_s hf
  refine gt_162 C hw hv5 kw_200 dX3_headAbove_10 ?_
  refine lv_iconst (v := 0) hx hb dX3_headAbove_13 (by decide) ?_
  obtain ⟨a6, ea6, hg⟩ := bd_s hf
  clear hf
  subst ea6
  have hf := hg
  clear hg
  obtain ⟨v7, hv7, hf⟩ := bd_s hf
  refine w_aald C hw 3 rfl (by decide) rfl hv7 dX3_headAbove_14 ?_
  refine lq_astore (i := 4) (x := v7) (lv' := [(4, va_rf v7), (3, va_rf none), (0, .ref x0), (1, va_rf x1), (2, va_rf x2)]) hx hb dX3_headAbove_15 hl (by decide) (by simp [va_rf_c, cat_i, cat_l, cat_r]) (fun ls hl => ?_)
  exact wX3_headAbove_b17 C fu x0 x1 x2 none v7 d4 hf hw hS (lv_sub hl [2, 3, 4, 1, 0] rfl)

set_option maxRecDepth 100000 in
set_option maxHeartbeats 4000000 in
theorem tX3_headAbove (l : Launch) (A : Nat → Prop) (D : va_G) (cy : Nat → ClassId) (st : Nat → Nat) (sz : Nat) (sh : Sh) (d : Dt) (x0 : Nat) (x1 : Option Nat) (x2 : Option Nat) {r : Option Nat} {d9 : Dt} (hf : fX3_headAbove sh d x0 x1 x2 = some (r, d9)) : Ct l yX3_headAbove cX3_headAbove 6 (some (.object "ManyHands$Entry")) 2 46 0 0 A D cy st [.ref x0, va_rf x1, va_rf x2] sz sh d (some (va_rf r)) sz sh d9 := ct_of (by decide) (by simp [lg_sl, va_rf_c, cat_i, cat_l, cat_r]) (fun p e s m args below meth c C hw hS ls hl => wX3_headAbove_b0 C x0 x1 x2 d hf hw hS (by simpa [lv_args, va_rf_c, cat_i, cat_l, cat_r] using hl))
theorem dX3_headAt_0 : decode cX3_headAt 0 = .ok (.iload_n 2, 1) := by decide +kernel
theorem dX3_headAt_1 : decode cX3_headAt 1 = .ok (.ifCond .lt 12, 3) := by decide +kernel
theorem dX3_headAt_4 : decode cX3_headAt 4 = .ok (.iload_n 2, 1) := by decide +kernel
theorem dX3_headAt_5 : decode cX3_headAt 5 = .ok (.aload_n 0, 1) := by decide +kernel
theorem dX3_headAt_6 : decode cX3_headAt 6 = .ok (.aload_n 1, 1) := by decide +kernel
theorem dX3_headAt_7 : decode cX3_headAt 7 = .ok (.invokevirtual 84, 3) := by decide +kernel
theorem dX3_headAt_10 : decode cX3_headAt 10 = .ok (.if_icmp .lt 5, 3) := by decide +kernel
theorem dX3_headAt_13 : decode cX3_headAt 13 = .ok (.aconst_null, 1) := by decide +kernel
theorem dX3_headAt_14 : decode cX3_headAt 14 = .ok (.areturn, 1) := by decide +kernel
theorem dX3_headAt_15 : decode cX3_headAt 15 = .ok (.aconst_null, 1) := by decide +kernel
theorem dX3_headAt_16 : decode cX3_headAt 16 = .ok (.astore_n 3, 1) := by decide +kernel
theorem dX3_headAt_17 : decode cX3_headAt 17 = .ok (.iconst 0, 1) := by decide +kernel
theorem dX3_headAt_18 : decode cX3_headAt 18 = .ok (.istore 4, 2) := by decide +kernel
theorem dX3_headAt_20 : decode cX3_headAt 20 = .ok (.iload 4, 2) := by decide +kernel
theorem dX3_headAt_22 : decode cX3_headAt 22 = .ok (.iload_n 2, 1) := by decide +kernel
theorem dX3_headAt_23 : decode cX3_headAt 23 = .ok (.if_icmp .gt 16, 3) := by decide +kernel
theorem dX3_headAt_26 : decode cX3_headAt 26 = .ok (.aload_n 0, 1) := by decide +kernel
theorem dX3_headAt_27 : decode cX3_headAt 27 = .ok (.aload_n 1, 1) := by decide +kernel
theorem dX3_headAt_28 : decode cX3_headAt 28 = .ok (.aload_n 3, 1) := by decide +kernel
theorem dX3_headAt_29 : decode cX3_headAt 29 = .ok (.invokevirtual 88, 3) := by decide +kernel
theorem dX3_headAt_32 : decode cX3_headAt 32 = .ok (.astore_n 3, 1) := by decide +kernel
theorem dX3_headAt_33 : decode cX3_headAt 33 = .ok (.iinc 4 1, 3) := by decide +kernel
theorem dX3_headAt_36 : decode cX3_headAt 36 = .ok (.goto (-16), 3) := by decide +kernel
theorem dX3_headAt_39 : decode cX3_headAt 39 = .ok (.aload_n 3, 1) := by decide +kernel
theorem dX3_headAt_40 : decode cX3_headAt 40 = .ok (.areturn, 1) := by decide +kernel
theorem cvX3_headAt : CV yX3_headAt cX3_headAt 5 (some (.object "ManyHands$Entry")) 4 2 := ⟨kw_651, kw_652, kw_10, kw_653, ⟨_, _, rfl⟩, by decide, by decide +kernel, by decide +kernel, by decide +kernel⟩
def fX3_headAt_b13 (sh : Sh) (d : Dt) : Option (Option Nat × Dt) := some (none, d)

def fX3_headAt_b20 (sh : Sh) : Nat → Nat → Option Nat → Int32 → Option Nat → Int32 → Dt → Option (Option Nat × Dt)
  | 0, _, _, _, _, _, _ => none
  | n + 1, x0, x1, x2, x3, x4, d => if x2 < x4 then (some (x3, d)) else (bd (kc sh 5 x0) fun _ => bd2 (fX3_headAbove sh d x0 x1 x3) fun r4 d5 => fX3_headAt_b20 sh n x0 x1 x2 r4 (x4 + 1) d5)

def fX3_headAt_b0 (sh : Sh) (x0 : Nat) (x1 : Option Nat) (x2 : Int32) (d : Dt) : Option (Option Nat × Dt) := if x2 < 0 then (fX3_headAt_b13 sh d) else (bd (kc sh 5 x0) fun _ => bd2 (fX3_headCount sh d x0 x1) fun r4 d5 => if x2 < r4 then (fX3_headAt_b20 sh fu x0 x1 x2 none (0 : Int32) d5) else (fX3_headAt_b13 sh d5))

def fX3_headAt (sh : Sh) (d : Dt) (x0 : Nat) (x1 : Option Nat) (x2 : Int32) : Option (Option Nat × Dt) := fX3_headAt_b0 sh x0 x1 x2 d

set_option maxRecDepth 100000 in
set_option maxHeartbeats 4000000 in
theorem wX3_headAt_b13 (C : mx p s m args meth c yX3_headAt cX3_headAt 5 (some (.object "ManyHands$Entry")) A D cy st) {r : Option Nat} {d9 : Dt} : ∀ (d : Dt), fX3_headAt_b13 sh d = some (r, d9) → ∀ {H : Heap} {locs : List Loc} {ls : Array Slot}, HW A D cy sz sh d H → va_S A s.heap H locs → lv_has ls 5 [] → GL p l e s m args below meth c 4 93 A D cy (some (va_rf r)) sz sh d9 H locs 13 ls [] := by
  have hx := C.1
  have hb := C.2.1
  intro d hf H locs ls hw hS hl
  unfold fX3_headAt_b13 at hf
  refine lv_null hx hb dX3_headAt_13 ?_
  cases hf
  exact rt_a C hw hS dX3_headAt_14

set_option maxRecDepth 100000 in
set_option maxHeartbeats 4000000 in
theorem wX3_headAt_b20 (C : mx p s m args meth c yX3_headAt cX3_headAt 5 (some (.object "ManyHands$Entry")) A D cy st) {r : Option Nat} {d9 : Dt} : ∀ (n : Nat) (x0 : Nat) (x1 : Option Nat) (x2 : Int32) (x3 : Option Nat) (x4 : Int32) (d : Dt), fX3_headAt_b20 sh n x0 x1 x2 x3 x4 d = some (r, d9) → ∀ {H : Heap} {locs : List Loc} {ls : Array Slot}, HW A D cy sz sh d H → va_S A s.heap H locs → lv_has ls 5 [(0, .ref x0), (1, va_rf x1), (2, .int x2), (3, va_rf x3), (4, .int x4)] → GL p l e s m args below meth c 4 93 A D cy (some (va_rf r)) sz sh d9 H locs 20 ls [] := by
  have hx := C.1
  have hb := C.2.1
  intro n
  induction n with
  | zero => intro x0 x1 x2 x3 x4 d hf; cases hf
  | succ n ih =>
    intro x0 x1 x2 x3 x4 d hf H locs ls hw hS hl
    rw [fX3_headAt_b20] at hf
    refine lv_iload hx hb dX3_headAt_20 (lv_at hl 4 rfl) ?_
    refine lv_iload_n hx hb dX3_headAt_22 rfl (lv_at hl 2 rfl) ?_
    refine lv_icmp_gt (tgt := 39) hx hb dX3_headAt_23 (by decide) (fun c_1 => ?_) (fun c_1 => ?_)
    · have hf := if_t c_1 hf
      refine lq_aload_n hx hb dX3_headAt_39 rfl (lv_at hl 3 rfl) ?_
      cases hf
      exact rt_a C hw hS dX3_headAt_40
    · have hf := if_f c_1 hf
      refine lv_aload_n hx hb dX3_headAt_26 rfl (lv_at hl 0 rfl) ?_
      refine lq_aload_n hx hb dX3_headAt_27 rfl (lv_at hl 1 rfl) ?_
      refine lq_aload_n hx hb dX3_headAt_28 rfl (lv_at hl 3 rfl) ?_
      obtain ⟨_, h2, hf⟩ := bd_s hf
      obtain ⟨r4, d5, h3, hf⟩ := bd2_s hf
      refine cl_V0 C hw hS (tX3_headAbove l A D cy st sz sh d x0 x1 x3 h3) cvX3_headAbove kw_655 (kc_k h2) ⟨(Nat.le_of_ble_eq_true rfl), (Nat.le_of_ble_eq_true rfl)⟩ hl.1 rfl (Nat.le_of_ble_eq_true rfl) dX3_headAt_29 ⟨Nat.zero_le _, Nat.zero_le _⟩ (fun H locs hw hS => ?_)
      refine lq_astore_n (x := r4) (lv' := [(3, va_rf r4), (0, .ref x0), (1, va_rf x1), (2, .int x2), (4, .int x4)]) hx hb dX3_headAt_32 rfl hl (by decide) rfl (fun ls hl => ?_)
      refine lv_iinc (v := (x4 + 1)) (lv' := [(4, .int (x4 + 1)), (3, va_rf r4), (0, .ref x0), (1, va_rf x1), (2, .int x2)]) hx hb dX3_headAt_33 hl (k := 4) rfl rfl (by decide) (by simp [va_rf_c, cat_i, cat_l, cat_r]) (fun ls hl => ?_)
      refine lv_goto (tgt := 20) hx hb dX3_headAt_36 (by decide) ?_
      exact ih x0 x1 x2 r4 (x4 + 1) d5 hf hw hS (lv_sub hl [2, 3, 4, 1, 0] rfl)

set_option maxRecDepth 100000 in
set_option maxHeartbeats 4000000 in
theorem wX3_headAt_b0 (C : mx p s m args meth c yX3_headAt cX3_headAt 5 (some (.object "ManyHands$Entry")) A D cy st) {r : Option Nat} {d9 : Dt} : ∀ (x0 : Nat) (x1 : Option Nat) (x2 : Int32) (d : Dt), fX3_headAt_b0 sh x0 x1 x2 d = some (r, d9) → ∀ {H : Heap} {locs : List Loc} {ls : Array Slot}, HW A D cy sz sh d H → va_S A s.heap H locs → lv_has ls 5 [(0, .ref x0), (1, va_rf x1), (2, .int x2)] → GL p l e s m args below meth c 4 93 A D cy (some (va_rf r)) sz sh d9 H locs 0 ls [] := by
  have hx := C.1
  have hb := C.2.1
  intro x0 x1 x2 d hf H locs ls hw hS hl
  unfold fX3_headAt_b0 at hf
  refine lv_iload_n hx hb dX3_headAt_0 rfl (lv_at hl 2 rfl) ?_
  refine lv_if_lt (tgt := 13) hx hb dX3_headAt_1 (by decide) (fun c_1 => ?_) (fun c_1 => ?_)
  · have hf := if_t c_1 hf
    exact wX3_headAt_b13 C d hf hw hS (lv_sub hl [] rfl)
  · have hf := if_f c_1 hf
    refine lv_iload_n hx hb dX3_headAt_4 rfl (lv_at hl 2 rfl) ?_
    refine lv_aload_n hx hb dX3_headAt_5 rfl (lv_at hl 0 rfl) ?_
    refine lq_aload_n hx hb dX3_headAt_6 rfl (lv_at hl 1 rfl) ?_
    obtain ⟨_, h2, hf⟩ := bd_s hf
    obtain ⟨r4, d5, h3, hf⟩ := bd2_s hf
    refine cl_V0 C hw hS (tX3_headCount l A D cy st sz sh d x0 x1 h3) cvX3_headCount kw_654 (kc_k h2) ⟨(Nat.le_of_ble_eq_true rfl), (Nat.le_of_ble_eq_true rfl)⟩ hl.1 rfl (Nat.le_of_ble_eq_true rfl) dX3_headAt_7 ⟨Nat.zero_le _, Nat.zero_le _⟩ (fun H locs hw hS => ?_)
    refine lv_icmp_lt (tgt := 15) hx hb dX3_headAt_10 (by decide) (fun c_6 => ?_) (fun c_6 => ?_)
    · have hf := if_t c_6 hf
      refine lv_null hx hb dX3_headAt_15 ?_
      refine lq_astore_n (x := none) (lv' := [(3, va_rf none), (0, .ref x0), (1, va_rf x1), (2, .int x2)]) hx hb dX3_headAt_16 rfl hl (by decide) rfl (fun ls hl => ?_)
      refine lv_iconst (v := 0) hx hb dX3_headAt_17 (by decide) ?_
      refine lv_istore (i := 4) (lv' := [(4, .int (0 : Int32)), (3, va_rf none), (0, .ref x0), (1, va_rf x1), (2, .int x2)]) hx hb dX3_headAt_18 hl (by decide) (by simp [va_rf_c, cat_i, cat_l, cat_r]) (fun ls hl => ?_)
      exact wX3_headAt_b20 C fu x0 x1 x2 none (0 : Int32) d5 hf hw hS (lv_sub hl [2, 3, 4, 1, 0] rfl)
    · have hf := if_f c_6 hf
      exact wX3_headAt_b13 C d5 hf hw hS (lv_sub hl [] rfl)

set_option maxRecDepth 100000 in
set_option maxHeartbeats 4000000 in
theorem tX3_headAt (l : Launch) (A : Nat → Prop) (D : va_G) (cy : Nat → ClassId) (st : Nat → Nat) (sz : Nat) (sh : Sh) (d : Dt) (x0 : Nat) (x1 : Option Nat) (x2 : Int32) {r : Option Nat} {d9 : Dt} (hf : fX3_headAt sh d x0 x1 x2 = some (r, d9)) : Ct l yX3_headAt cX3_headAt 5 (some (.object "ManyHands$Entry")) 4 93 0 0 A D cy st [.ref x0, va_rf x1, .int x2] sz sh d (some (va_rf r)) sz sh d9 := ct_of (by decide) (by simp [lg_sl, va_rf_c, cat_i, cat_l, cat_r]) (fun p e s m args below meth c C hw hS ls hl => wX3_headAt_b0 C x0 x1 x2 d hf hw hS (by simpa [lv_args, va_rf_c, cat_i, cat_l, cat_r] using hl))
theorem dX3_sizeOf_0 : decode cX3_sizeOf 0 = .ok (.iconst 0, 1) := by decide +kernel
theorem dX3_sizeOf_1 : decode cX3_sizeOf 1 = .ok (.istore_n 3, 1) := by decide +kernel
theorem dX3_sizeOf_2 : decode cX3_sizeOf 2 = .ok (.aload_n 0, 1) := by decide +kernel
theorem dX3_sizeOf_3 : decode cX3_sizeOf 3 = .ok (.getfield 27, 3) := by decide +kernel
theorem dX3_sizeOf_6 : decode cX3_sizeOf 6 = .ok (.iconst 0, 1) := by decide +kernel
theorem dX3_sizeOf_7 : decode cX3_sizeOf 7 = .ok (.aaload, 1) := by decide +kernel
theorem dX3_sizeOf_8 : decode cX3_sizeOf 8 = .ok (.astore 4, 2) := by decide +kernel
theorem dX3_sizeOf_10 : decode cX3_sizeOf 10 = .ok (.aload 4, 2) := by decide +kernel
theorem dX3_sizeOf_12 : decode cX3_sizeOf 12 = .ok (.ifnull 34, 3) := by decide +kernel
theorem dX3_sizeOf_15 : decode cX3_sizeOf 15 = .ok (.aload 4, 2) := by decide +kernel
theorem dX3_sizeOf_17 : decode cX3_sizeOf 17 = .ok (.getfield 53, 3) := by decide +kernel
theorem dX3_sizeOf_20 : decode cX3_sizeOf 20 = .ok (.iload_n 2, 1) := by decide +kernel
theorem dX3_sizeOf_21 : decode cX3_sizeOf 21 = .ok (.if_icmp .ne 15, 3) := by decide +kernel
theorem dX3_sizeOf_24 : decode cX3_sizeOf 24 = .ok (.aload_n 1, 1) := by decide +kernel
theorem dX3_sizeOf_25 : decode cX3_sizeOf 25 = .ok (.aload 4, 2) := by decide +kernel
theorem dX3_sizeOf_27 : decode cX3_sizeOf 27 = .ok (.invokevirtual 42, 3) := by decide +kernel
theorem dX3_sizeOf_30 : decode cX3_sizeOf 30 = .ok (.ifCond .eq 6, 3) := by decide +kernel
theorem dX3_sizeOf_33 : decode cX3_sizeOf 33 = .ok (.iinc 3 1, 3) := by decide +kernel
theorem dX3_sizeOf_36 : decode cX3_sizeOf 36 = .ok (.aload 4, 2) := by decide +kernel
theorem dX3_sizeOf_38 : decode cX3_sizeOf 38 = .ok (.getfield 49, 3) := by decide +kernel
theorem dX3_sizeOf_41 : decode cX3_sizeOf 41 = .ok (.astore 4, 2) := by decide +kernel
theorem dX3_sizeOf_43 : decode cX3_sizeOf 43 = .ok (.goto (-33), 3) := by decide +kernel
theorem dX3_sizeOf_46 : decode cX3_sizeOf 46 = .ok (.iload_n 3, 1) := by decide +kernel
theorem dX3_sizeOf_47 : decode cX3_sizeOf 47 = .ok (.ireturn, 1) := by decide +kernel
theorem cvX3_sizeOf : CV yX3_sizeOf cX3_sizeOf 5 (some .int) 4 2 := ⟨kw_672, kw_673, kw_10, kw_674, ⟨_, _, rfl⟩, by decide, by decide +kernel, by decide +kernel, by decide +kernel⟩
def fX3_sizeOf_b10 (sh : Sh) (d : Dt) : Nat → Option Nat → Int32 → Int32 → Option Nat → Option (Int32)
  | 0, _, _, _, _ => none
  | n + 1, x1, x2, x3, x4 => on x4 (some x3) (fun a1 => bd (gI sh d 2 67 a1) fun v2 => if v2 = x2 then (bd x1 fun a5 => bd (kc sh 6 a5) fun _ => bd (fX4_holds sh d a5 (some a1)) fun r8 => if (bI r8) = 0 then (bd (gR sh d 2 73 a1) fun v10 => fX3_sizeOf_b10 sh d n (some a5) x2 x3 v10) else (bd (gR sh d 2 73 a1) fun v11 => fX3_sizeOf_b10 sh d n (some a5) x2 (x3 + 1) v11)) else (bd (gR sh d 2 73 a1) fun v4 => fX3_sizeOf_b10 sh d n x1 x2 x3 v4))

def fX3_sizeOf_b0 (sh : Sh) (d : Dt) (x0 : Nat) (x1 : Option Nat) (x2 : Int32) : Option (Int32) := bd (gR sh d 5 162 x0) fun v1 => bd v1 fun a2 => bd (aR sh d 23 a2 (0 : Int32)) fun v3 => fX3_sizeOf_b10 sh d fu x1 x2 (0 : Int32) v3

def fX3_sizeOf (sh : Sh) (d : Dt) (x0 : Nat) (x1 : Option Nat) (x2 : Int32) : Option (Int32) := fX3_sizeOf_b0 sh d x0 x1 x2

set_option maxRecDepth 100000 in
set_option maxHeartbeats 4000000 in
theorem wX3_sizeOf_b10 (C : mx p s m args meth c yX3_sizeOf cX3_sizeOf 5 (some .int) A D cy st) {r : Int32} {d : Dt} : ∀ (n : Nat) (x1 : Option Nat) (x2 : Int32) (x3 : Int32) (x4 : Option Nat), fX3_sizeOf_b10 sh d n x1 x2 x3 x4 = some r → ∀ {H : Heap} {locs : List Loc} {ls : Array Slot}, HW A D cy sz sh d H → va_S A s.heap H locs → lv_has ls 5 [(1, va_rf x1), (2, .int x2), (3, .int x3), (4, va_rf x4)] → GL p l e s m args below meth c 1 21 A D cy (some (.int r)) sz sh d H locs 10 ls [] := by
  have hx := C.1
  have hb := C.2.1
  intro n
  induction n with
  | zero => intro x1 x2 x3 x4 hf; cases hf
  | succ n ih =>
    intro x1 x2 x3 x4 hf H locs ls hw hS hl
    rw [fX3_sizeOf_b10] at hf
    refine lq_aload hx hb dX3_sizeOf_10 (lv_at hl 3 rfl) ?_
    cases x4 with
    | none =>
      have hf := on_n hf
      refine lv_ifnullN (tgt := 46) hx hb dX3_sizeOf_12 (by decide) ?_
      refine lv_iload_n hx hb dX3_sizeOf_46 rfl (lv_at hl 2 rfl) ?_
      cases hf
      exact rt_i C hw hS dX3_sizeOf_47
    | some a1 =>
      have hf := on_s hf
      refine lv_ifnull hx hb dX3_sizeOf_12 ?_
      refine lq_aload hx hb dX3_sizeOf_15 (lv_at hl 3 rfl) ?_
      obtain ⟨v2, hv2, hf⟩ := bd_s hf
      refine gt_67 C hw hv2 kw_294 dX3_sizeOf_17 ?_
      refine lv_iload_n hx hb dX3_sizeOf_20 rfl (lv_at hl 1 rfl) ?_
      refine lv_icmp_ne (tgt := 36) hx hb dX3_sizeOf_21 (by decide) (fun c_3 => ?_) (fun c_3 => ?_)
      · have hf := if_f c_3 hf
        refine lq_aload hx hb dX3_sizeOf_36 (lv_at hl 3 rfl) ?_
        obtain ⟨v4, hv4, hf⟩ := bd_s hf
        refine gt_73 C hw hv4 kw_311 dX3_sizeOf_38 ?_
        refine lq_astore (x := v4) (lv' := [(4, va_rf v4), (1, va_rf x1), (2, .int x2), (3, .int x3)]) hx hb dX3_sizeOf_41 hl (by decide) rfl (fun ls hl => ?_)
        refine lv_goto (tgt := 10) hx hb dX3_sizeOf_43 (by decide) ?_
        exact ih x1 x2 x3 v4 hf hw hS (lv_sub hl [1, 2, 3, 0] rfl)
      · have hf := if_t c_3 hf
        refine lq_aload_n hx hb dX3_sizeOf_24 rfl (lv_at hl 0 rfl) ?_
        refine lq_aload hx hb dX3_sizeOf_25 (lv_at hl 3 rfl) ?_
        obtain ⟨a5, ea5, hg⟩ := bd_s hf
        clear hf
        subst ea5
        have hf := hg
        clear hg
        obtain ⟨_, h6, hf⟩ := bd_s hf
        obtain ⟨r8, h7, hf⟩ := bd_s hf
        refine cl_V0 C hw hS (tX4_holds l A D cy st sz sh d a5 (some a1) h7) cvX4_holds kw_434 (kc_k h6) ⟨(Nat.le_of_ble_eq_true rfl), (Nat.le_of_ble_eq_true rfl)⟩ hl.1 rfl (Nat.le_of_ble_eq_true rfl) dX3_sizeOf_27 ⟨Nat.zero_le _, Nat.zero_le _⟩ (fun H locs hw hS => ?_)
        refine lv_if_eq (tgt := 36) hx hb dX3_sizeOf_30 (by decide) (fun c_9 => ?_) (fun c_9 => ?_)
        · have hf := if_t c_9 hf
          refine lq_aload hx hb dX3_sizeOf_36 (lv_at hl 3 rfl) ?_
          obtain ⟨v10, hv10, hf⟩ := bd_s hf
          refine gt_73 C hw hv10 kw_311 dX3_sizeOf_38 ?_
          refine lq_astore (x := v10) (lv' := [(4, va_rf v10), (1, va_rf (some a5)), (2, .int x2), (3, .int x3)]) hx hb dX3_sizeOf_41 hl (by decide) rfl (fun ls hl => ?_)
          refine lv_goto (tgt := 10) hx hb dX3_sizeOf_43 (by decide) ?_
          exact ih (some a5) x2 x3 v10 hf hw hS (lv_sub hl [1, 2, 3, 0] rfl)
        · have hf := if_f c_9 hf
          refine lv_iinc (v := (x3 + 1)) (lv' := [(3, .int (x3 + 1)), (1, va_rf (some a5)), (2, .int x2), (4, va_rf (some a1))]) hx hb dX3_sizeOf_33 hl (k := 2) rfl rfl (by decide) rfl (fun ls hl => ?_)
          refine lq_aload hx hb dX3_sizeOf_36 (lv_at hl 3 rfl) ?_
          obtain ⟨v11, hv11, hf⟩ := bd_s hf
          refine gt_73 C hw hv11 kw_311 dX3_sizeOf_38 ?_
          refine lq_astore (x := v11) (lv' := [(4, va_rf v11), (3, .int (x3 + 1)), (1, va_rf (some a5)), (2, .int x2)]) hx hb dX3_sizeOf_41 hl (by decide) rfl (fun ls hl => ?_)
          refine lv_goto (tgt := 10) hx hb dX3_sizeOf_43 (by decide) ?_
          exact ih (some a5) x2 (x3 + 1) v11 hf hw hS (lv_sub hl [2, 3, 1, 0] rfl)

set_option maxRecDepth 100000 in
set_option maxHeartbeats 4000000 in
theorem wX3_sizeOf_b0 (C : mx p s m args meth c yX3_sizeOf cX3_sizeOf 5 (some .int) A D cy st) {r : Int32} {d : Dt} : ∀ (x0 : Nat) (x1 : Option Nat) (x2 : Int32), fX3_sizeOf_b0 sh d x0 x1 x2 = some r → ∀ {H : Heap} {locs : List Loc} {ls : Array Slot}, HW A D cy sz sh d H → va_S A s.heap H locs → lv_has ls 5 [(0, .ref x0), (1, va_rf x1), (2, .int x2)] → GL p l e s m args below meth c 1 21 A D cy (some (.int r)) sz sh d H locs 0 ls [] := by
  have hx := C.1
  have hb := C.2.1
  intro x0 x1 x2 hf H locs ls hw hS hl
  unfold fX3_sizeOf_b0 at hf
  refine lv_iconst (v := 0) hx hb dX3_sizeOf_0 (by decide) ?_
  refine lv_istore_n (lv' := [(3, .int (0 : Int32)), (0, .ref x0), (1, va_rf x1), (2, .int x2)]) hx hb dX3_sizeOf_1 rfl hl (by decide) rfl (fun ls hl => ?_)
  refine lv_aload_n hx hb dX3_sizeOf_2 rfl (lv_at hl 1 rfl) ?_
  obtain ⟨v1, hv1, hf⟩ := bd_s hf
  refine gt_162 C hw hv1 kw_200 dX3_sizeOf_3 ?_
  refine lv_iconst (v := 0) hx hb dX3_sizeOf_6 (by decide) ?_
  obtain ⟨a2, ea2, hg⟩ := bd_s hf
  clear hf
  subst ea2
  have hf := hg
  clear hg
  obtain ⟨v3, hv3, hf⟩ := bd_s hf
  refine w_aald C hw 3 rfl (by decide) rfl hv3 dX3_sizeOf_7 ?_
  refine lq_astore (x := v3) (lv' := [(4, va_rf v3), (3, .int (0 : Int32)), (0, .ref x0), (1, va_rf x1), (2, .int x2)]) hx hb dX3_sizeOf_8 hl (by decide) rfl (fun ls hl => ?_)
  exact wX3_sizeOf_b10 C fu x1 x2 (0 : Int32) v3 hf hw hS (lv_sub hl [3, 4, 1, 0] rfl)

set_option maxRecDepth 100000 in
set_option maxHeartbeats 4000000 in
theorem tX3_sizeOf (l : Launch) (A : Nat → Prop) (D : va_G) (cy : Nat → ClassId) (st : Nat → Nat) (sz : Nat) (sh : Sh) (d : Dt) (x0 : Nat) (x1 : Option Nat) (x2 : Int32) {r : Int32} (hf : fX3_sizeOf sh d x0 x1 x2 = some r) : Ct l yX3_sizeOf cX3_sizeOf 5 (some .int) 1 21 0 0 A D cy st [.ref x0, va_rf x1, .int x2] sz sh d (some (.int r)) sz sh d := ct_of (by decide) (by simp [lg_sl, va_rf_c, cat_i, cat_l, cat_r]) (fun p e s m args below meth c C hw hS ls hl => wX3_sizeOf_b0 C x0 x1 x2 hf hw hS (by simpa [lv_args, va_rf_c, cat_i, cat_l, cat_r] using hl))
theorem dX3_isUp_0 : decode cX3_isUp 0 = .ok (.aload_n 0, 1) := by decide +kernel
theorem dX3_isUp_1 : decode cX3_isUp 1 = .ok (.getfield 22, 3) := by decide +kernel
theorem dX3_isUp_4 : decode cX3_isUp 4 = .ok (.bipush 7, 2) := by decide +kernel
theorem dX3_isUp_6 : decode cX3_isUp 6 = .ok (.if_icmp .ne 32, 3) := by decide +kernel
theorem dX3_isUp_9 : decode cX3_isUp 9 = .ok (.aload_n 0, 1) := by decide +kernel
theorem dX3_isUp_10 : decode cX3_isUp 10 = .ok (.aload_n 1, 1) := by decide +kernel
theorem dX3_isUp_11 : decode cX3_isUp 11 = .ok (.bipush 6, 2) := by decide +kernel
theorem dX3_isUp_13 : decode cX3_isUp 13 = .ok (.invokevirtual 92, 3) := by decide +kernel
theorem dX3_isUp_16 : decode cX3_isUp 16 = .ok (.ifCond .le 20, 3) := by decide +kernel
theorem dX3_isUp_19 : decode cX3_isUp 19 = .ok (.aload_n 0, 1) := by decide +kernel
theorem dX3_isUp_20 : decode cX3_isUp 20 = .ok (.aload_n 1, 1) := by decide +kernel
theorem dX3_isUp_21 : decode cX3_isUp 21 = .ok (.iconst 0, 1) := by decide +kernel
theorem dX3_isUp_22 : decode cX3_isUp 22 = .ok (.bipush 7, 2) := by decide +kernel
theorem dX3_isUp_24 : decode cX3_isUp 24 = .ok (.bipush 6, 2) := by decide +kernel
theorem dX3_isUp_26 : decode cX3_isUp 26 = .ok (.invokevirtual 76, 3) := by decide +kernel
theorem dX3_isUp_29 : decode cX3_isUp 29 = .ok (.ifCond .ne 7, 3) := by decide +kernel
theorem dX3_isUp_32 : decode cX3_isUp 32 = .ok (.iconst 1, 1) := by decide +kernel
theorem dX3_isUp_33 : decode cX3_isUp 33 = .ok (.goto 4, 3) := by decide +kernel
theorem dX3_isUp_36 : decode cX3_isUp 36 = .ok (.iconst 0, 1) := by decide +kernel
theorem dX3_isUp_37 : decode cX3_isUp 37 = .ok (.ireturn, 1) := by decide +kernel
theorem dX3_isUp_38 : decode cX3_isUp 38 = .ok (.aload_n 0, 1) := by decide +kernel
theorem dX3_isUp_39 : decode cX3_isUp 39 = .ok (.aload_n 1, 1) := by decide +kernel
theorem dX3_isUp_40 : decode cX3_isUp 40 = .ok (.iconst 0, 1) := by decide +kernel
theorem dX3_isUp_41 : decode cX3_isUp 41 = .ok (.bipush 6, 2) := by decide +kernel
theorem dX3_isUp_43 : decode cX3_isUp 43 = .ok (.bipush 7, 2) := by decide +kernel
theorem dX3_isUp_45 : decode cX3_isUp 45 = .ok (.invokevirtual 76, 3) := by decide +kernel
theorem dX3_isUp_48 : decode cX3_isUp 48 = .ok (.ifCond .le 7, 3) := by decide +kernel
theorem dX3_isUp_51 : decode cX3_isUp 51 = .ok (.iconst 1, 1) := by decide +kernel
theorem dX3_isUp_52 : decode cX3_isUp 52 = .ok (.goto 4, 3) := by decide +kernel
theorem dX3_isUp_55 : decode cX3_isUp 55 = .ok (.iconst 0, 1) := by decide +kernel
theorem dX3_isUp_56 : decode cX3_isUp 56 = .ok (.ireturn, 1) := by decide +kernel
theorem cvX3_isUp : CV yX3_isUp cX3_isUp 2 (some .boolean) 4 1 := ⟨kw_668, kw_669, kw_10, kw_670, ⟨_, _, rfl⟩, by decide, by decide +kernel, by decide +kernel, by decide +kernel⟩
def fX3_isUp_b0 (sh : Sh) (x0 : Nat) (x1 : Option Nat) (d : Dt) : Option (Bool × Dt) := bd (gI sh d 5 161 x0) fun v1 => if v1 = (7 : Int32) then (bd (fX3_sizeOf sh d x0 x1 (6 : Int32)) fun r8 => if r8 ≤ 0 then (some (false, d)) else (bd2 (fX3_unknownTo sh d x0 x1 (0 : Int32) (7 : Int32) (6 : Int32)) fun r11 d12 => if r11 = 0 then (some (true, d12)) else (some (false, d12)))) else (bd2 (fX3_unknownTo sh d x0 x1 (0 : Int32) (6 : Int32) (7 : Int32)) fun r4 d5 => if r4 ≤ 0 then (some (false, d5)) else (some (true, d5)))

def fX3_isUp (sh : Sh) (d : Dt) (x0 : Nat) (x1 : Option Nat) : Option (Bool × Dt) := fX3_isUp_b0 sh x0 x1 d

set_option maxRecDepth 100000 in
set_option maxHeartbeats 4000000 in
theorem wX3_isUp_b0 (C : mx p s m args meth c yX3_isUp cX3_isUp 2 (some .boolean) A D cy st) {r : Bool} {d9 : Dt} : ∀ (x0 : Nat) (x1 : Option Nat) (d : Dt), fX3_isUp_b0 sh x0 x1 d = some (r, d9) → ∀ {H : Heap} {locs : List Loc} {ls : Array Slot}, HW A D cy sz sh d H → va_S A s.heap H locs → lv_has ls 2 [(0, .ref x0), (1, va_rf x1)] → GL p l e s m args below meth c 3 72 A D cy (some (.int (bI r))) sz sh d9 H locs 0 ls [] := by
  have hx := C.1
  have hb := C.2.1
  intro x0 x1 d hf H locs ls hw hS hl
  unfold fX3_isUp_b0 at hf
  refine lv_aload_n hx hb dX3_isUp_0 rfl (lv_at hl 0 rfl) ?_
  obtain ⟨v1, hv1, hf⟩ := bd_s hf
  refine gt_161 C hw hv1 kw_198 dX3_isUp_1 ?_
  refine lv_bipush (v := 7) hx hb dX3_isUp_4 (by decide) ?_
  refine lv_icmp_ne (tgt := 38) hx hb dX3_isUp_6 (by decide) (fun c_2 => ?_) (fun c_2 => ?_)
  · have hf := if_f c_2 hf
    refine lv_aload_n hx hb dX3_isUp_38 rfl (lv_at hl 0 rfl) ?_
    refine lq_aload_n hx hb dX3_isUp_39 rfl (lv_at hl 1 rfl) ?_
    refine lv_iconst (v := 0) hx hb dX3_isUp_40 (by decide) ?_
    refine lv_bipush (v := 6) hx hb dX3_isUp_41 (by decide) ?_
    refine lv_bipush (v := 7) hx hb dX3_isUp_43 (by decide) ?_
    obtain ⟨r4, d5, h3, hf⟩ := bd2_s hf
    refine cl_V0 C hw hS (tX3_unknownTo l A D cy st sz sh d x0 x1 (0 : Int32) (6 : Int32) (7 : Int32) h3) cvX3_unknownTo kw_422 (gI_s hv1).1 ⟨(Nat.le_of_ble_eq_true rfl), (Nat.le_of_ble_eq_true rfl)⟩ hl.1 rfl (Nat.le_of_ble_eq_true rfl) dX3_isUp_45 ⟨Nat.zero_le _, Nat.zero_le _⟩ (fun H locs hw hS => ?_)
    refine lv_if_le (tgt := 55) hx hb dX3_isUp_48 (by decide) (fun c_6 => ?_) (fun c_6 => ?_)
    · have hf := if_t c_6 hf
      refine lv_iconst (v := 0) hx hb dX3_isUp_55 (by decide) ?_
      cases hf
      exact rt_z C hw hS _ rfl dX3_isUp_56
    · have hf := if_f c_6 hf
      refine lv_iconst (v := 1) hx hb dX3_isUp_51 (by decide) ?_
      refine lv_goto (tgt := 56) hx hb dX3_isUp_52 (by decide) ?_
      cases hf
      exact rt_z C hw hS _ rfl dX3_isUp_56
  · have hf := if_t c_2 hf
    refine lv_aload_n hx hb dX3_isUp_9 rfl (lv_at hl 0 rfl) ?_
    refine lq_aload_n hx hb dX3_isUp_10 rfl (lv_at hl 1 rfl) ?_
    refine lv_bipush (v := 6) hx hb dX3_isUp_11 (by decide) ?_
    obtain ⟨r8, h7, hf⟩ := bd_s hf
    refine cl_V0 C hw hS (tX3_sizeOf l A D cy st sz sh d x0 x1 (6 : Int32) h7) cvX3_sizeOf kw_671 (gI_s hv1).1 ⟨(Nat.le_of_ble_eq_true rfl), (Nat.le_of_ble_eq_true rfl)⟩ hl.1 rfl (Nat.le_of_ble_eq_true rfl) dX3_isUp_13 ⟨Nat.zero_le _, Nat.zero_le _⟩ (fun H locs hw hS => ?_)
    refine lv_if_le (tgt := 36) hx hb dX3_isUp_16 (by decide) (fun c_9 => ?_) (fun c_9 => ?_)
    · have hf := if_t c_9 hf
      refine lv_iconst (v := 0) hx hb dX3_isUp_36 (by decide) ?_
      cases hf
      exact rt_z C hw hS _ rfl dX3_isUp_37
    · have hf := if_f c_9 hf
      refine lv_aload_n hx hb dX3_isUp_19 rfl (lv_at hl 0 rfl) ?_
      refine lq_aload_n hx hb dX3_isUp_20 rfl (lv_at hl 1 rfl) ?_
      refine lv_iconst (v := 0) hx hb dX3_isUp_21 (by decide) ?_
      refine lv_bipush (v := 7) hx hb dX3_isUp_22 (by decide) ?_
      refine lv_bipush (v := 6) hx hb dX3_isUp_24 (by decide) ?_
      obtain ⟨r11, d12, h10, hf⟩ := bd2_s hf
      refine cl_V0 C hw hS (tX3_unknownTo l A D cy st sz sh d x0 x1 (0 : Int32) (7 : Int32) (6 : Int32) h10) cvX3_unknownTo kw_422 (gI_s hv1).1 ⟨(Nat.le_of_ble_eq_true rfl), (Nat.le_of_ble_eq_true rfl)⟩ hl.1 rfl (Nat.le_of_ble_eq_true rfl) dX3_isUp_26 ⟨Nat.zero_le _, Nat.zero_le _⟩ (fun H locs hw hS => ?_)
      refine lv_if_ne (tgt := 36) hx hb dX3_isUp_29 (by decide) (fun c_13 => ?_) (fun c_13 => ?_)
      · have hf := if_f c_13 hf
        refine lv_iconst (v := 0) hx hb dX3_isUp_36 (by decide) ?_
        cases hf
        exact rt_z C hw hS _ rfl dX3_isUp_37
      · have hf := if_t c_13 hf
        refine lv_iconst (v := 1) hx hb dX3_isUp_32 (by decide) ?_
        refine lv_goto (tgt := 37) hx hb dX3_isUp_33 (by decide) ?_
        cases hf
        exact rt_z C hw hS _ rfl dX3_isUp_37

set_option maxRecDepth 100000 in
set_option maxHeartbeats 4000000 in
theorem tX3_isUp (l : Launch) (A : Nat → Prop) (D : va_G) (cy : Nat → ClassId) (st : Nat → Nat) (sz : Nat) (sh : Sh) (d : Dt) (x0 : Nat) (x1 : Option Nat) {r : Bool} {d9 : Dt} (hf : fX3_isUp sh d x0 x1 = some (r, d9)) : Ct l yX3_isUp cX3_isUp 2 (some .boolean) 3 72 0 0 A D cy st [.ref x0, va_rf x1] sz sh d (some (.int (bI r))) sz sh d9 := ct_of (by decide) (by simp [lg_sl, va_rf_c, cat_i, cat_l, cat_r]) (fun p e s m args below meth c C hw hS ls hl => wX3_isUp_b0 C x0 x1 d hf hw hS (by simpa [lv_args, va_rf_c, cat_i, cat_l, cat_r] using hl))
theorem dX5_say_0 : decode cX5_say 0 = .ok (.aload_n 0, 1) := by decide +kernel
theorem dX5_say_1 : decode cX5_say 1 = .ok (.getfield 15, 3) := by decide +kernel
theorem dX5_say_4 : decode cX5_say 4 = .ok (.aload_n 0, 1) := by decide +kernel
theorem dX5_say_5 : decode cX5_say 5 = .ok (.getfield 9, 3) := by decide +kernel
theorem dX5_say_8 : decode cX5_say 8 = .ok (.arraylength, 1) := by decide +kernel
theorem dX5_say_9 : decode cX5_say 9 = .ok (.if_icmp .ge 23, 3) := by decide +kernel
theorem dX5_say_12 : decode cX5_say 12 = .ok (.aload_n 0, 1) := by decide +kernel
theorem dX5_say_13 : decode cX5_say 13 = .ok (.getfield 9, 3) := by decide +kernel
theorem dX5_say_16 : decode cX5_say 16 = .ok (.aload_n 0, 1) := by decide +kernel
theorem dX5_say_17 : decode cX5_say 17 = .ok (.getfield 15, 3) := by decide +kernel
theorem dX5_say_20 : decode cX5_say 20 = .ok (.lload_n 1, 1) := by decide +kernel
theorem dX5_say_21 : decode cX5_say 21 = .ok (.lastore, 1) := by decide +kernel
theorem dX5_say_22 : decode cX5_say 22 = .ok (.aload_n 0, 1) := by decide +kernel
theorem dX5_say_23 : decode cX5_say 23 = .ok (.dup, 1) := by decide +kernel
theorem dX5_say_24 : decode cX5_say 24 = .ok (.getfield 15, 3) := by decide +kernel
theorem dX5_say_27 : decode cX5_say 27 = .ok (.iconst 1, 1) := by decide +kernel
theorem dX5_say_28 : decode cX5_say 28 = .ok (.iadd, 1) := by decide +kernel
theorem dX5_say_29 : decode cX5_say 29 = .ok (.putfield 15, 3) := by decide +kernel
theorem dX5_say_32 : decode cX5_say 32 = .ok (.return_, 1) := by decide +kernel
theorem cvX5_say : CV yX5_say cX5_say 3 none 6 1 := ⟨kw_690, kw_691, kw_5, kw_692, ⟨_, _, rfl⟩, by decide, by decide +kernel, by decide +kernel, by decide +kernel⟩
def fX5_say_b0 (sh : Sh) (x0 : Nat) (x1 : Int64) (d : Dt) : Option (Dt) := bd (gI sh d 7 225 x0) fun v1 => bd (gR sh d 7 224 x0) fun v2 => bd v2 fun a3 => bd (lnA sh 21 a3) fun v4 => if v4 ≤ v1 then (some (d)) else (bd (gR sh d 7 224 x0) fun v6 => bd (gI sh d 7 225 x0) fun v7 => bd v6 fun a8 => bd (sL sh d 21 a8 v7 x1) fun d9 => bd (gI sh d9 7 225 x0) fun v10 => bd (pI sh d9 7 225 x0 (v10 + (1 : Int32))) fun d11 => some (d11))

def fX5_say (sh : Sh) (d : Dt) (x0 : Nat) (x1 : Int64) : Option (Dt) := fX5_say_b0 sh x0 x1 d

set_option maxRecDepth 100000 in
set_option maxHeartbeats 4000000 in
theorem wX5_say_b0 (C : mx p s m args meth c yX5_say cX5_say 3 none A D cy st) {d9 : Dt} : ∀ (x0 : Nat) (x1 : Int64) (d : Dt), fX5_say_b0 sh x0 x1 d = some d9 → ∀ {H : Heap} {locs : List Loc} {ls : Array Slot}, HW A D cy sz sh d H → va_S A s.heap H locs → lv_has ls 3 [(0, .ref x0), (1, .long x1)] → GL p l e s m args below meth c 0 0 A D cy none sz sh d9 H locs 0 ls [] := by
  have hx := C.1
  have hb := C.2.1
  intro x0 x1 d hf H locs ls hw hS hl
  unfold fX5_say_b0 at hf
  refine lv_aload_n hx hb dX5_say_0 rfl (lv_at hl 0 rfl) ?_
  obtain ⟨v1, hv1, hf⟩ := bd_s hf
  refine gt_225 C hw hv1 kw_63 dX5_say_1 ?_
  refine lv_aload_n hx hb dX5_say_4 rfl (lv_at hl 0 rfl) ?_
  obtain ⟨v2, hv2, hf⟩ := bd_s hf
  refine gt_224 C hw hv2 kw_62 dX5_say_5 ?_
  obtain ⟨a3, ea3, hg⟩ := bd_s hf
  clear hf
  subst ea3
  have hf := hg
  clear hg
  obtain ⟨v4, hv4, hf⟩ := bd_s hf
  refine w_alen C hw 1 rfl rfl hv4 dX5_say_8 ?_
  refine lv_icmp_ge (tgt := 32) hx hb dX5_say_9 (by decide) (fun c_5 => ?_) (fun c_5 => ?_)
  · have hf := if_t c_5 hf
    cases hf
    exact rt_v C hw hS dX5_say_32
  · have hf := if_f c_5 hf
    refine lv_aload_n hx hb dX5_say_12 rfl (lv_at hl 0 rfl) ?_
    obtain ⟨v6, hv6, hf⟩ := bd_s hf
    refine gt_224 C hw hv6 kw_62 dX5_say_13 ?_
    refine lv_aload_n hx hb dX5_say_16 rfl (lv_at hl 0 rfl) ?_
    obtain ⟨v7, hv7, hf⟩ := bd_s hf
    refine gt_225 C hw hv7 kw_63 dX5_say_17 ?_
    refine lv_lload_n hx hb dX5_say_20 rfl (lv_at hl 1 rfl) ?_
    obtain ⟨a8, ea8, hg⟩ := bd_s hf
    clear hf
    subst ea8
    have hf := hg
    clear hg
    obtain ⟨d9, hd9, hf⟩ := bd_s hf
    refine w_last C hw hS hd9 dX5_say_21 (fun H locs hw hS => ?_)
    refine lv_aload_n hx hb dX5_say_22 rfl (lv_at hl 0 rfl) ?_
    refine lv_dup hx hb dX5_say_23 rfl ?_
    obtain ⟨v10, hv10, hf⟩ := bd_s hf
    refine gt_225 C hw hv10 kw_63 dX5_say_24 ?_
    refine lv_iconst (v := 1) hx hb dX5_say_27 (by decide) ?_
    refine lv_iadd hx hb dX5_say_28 ?_
    obtain ⟨d11, hd11, hf⟩ := bd_s hf
    refine pt_225 C hw hS hd11 kw_63 dX5_say_29 (fun H locs hw hS => ?_)
    cases hf
    exact rt_v C hw hS dX5_say_32

set_option maxRecDepth 100000 in
set_option maxHeartbeats 4000000 in
theorem tX5_say (l : Launch) (A : Nat → Prop) (D : va_G) (cy : Nat → ClassId) (st : Nat → Nat) (sz : Nat) (sh : Sh) (d : Dt) (x0 : Nat) (x1 : Int64) {d9 : Dt} (hf : fX5_say sh d x0 x1 = some d9) : Ct l yX5_say cX5_say 3 none 0 0 0 0 A D cy st [.ref x0, .long x1] sz sh d none sz sh d9 := ct_of (by decide) (Nat.le_of_ble_eq_true rfl) (fun p e s m args below meth c C hw hS ls hl => wX5_say_b0 C x0 x1 d hf hw hS hl)
theorem dX3_tellLast_0 : decode cX3_tellLast 0 = .ok (.aload_n 0, 1) := by decide +kernel
theorem dX3_tellLast_1 : decode cX3_tellLast 1 = .ok (.aload_n 1, 1) := by decide +kernel
theorem dX3_tellLast_2 : decode cX3_tellLast 2 = .ok (.invokevirtual 119, 3) := by decide +kernel
theorem dX3_tellLast_5 : decode cX3_tellLast 5 = .ok (.astore_n 3, 1) := by decide +kernel
theorem dX3_tellLast_6 : decode cX3_tellLast 6 = .ok (.aload_n 2, 1) := by decide +kernel
theorem dX3_tellLast_7 : decode cX3_tellLast 7 = .ok (.aload_n 3, 1) := by decide +kernel
theorem dX3_tellLast_8 : decode cX3_tellLast 8 = .ok (.ifnonnull 9, 3) := by decide +kernel
theorem dX3_tellLast_11 : decode cX3_tellLast 11 = .ok (.ldc2_w 123, 3) := by decide +kernel
theorem dX3_tellLast_14 : decode cX3_tellLast 14 = .ok (.goto 8, 3) := by decide +kernel
theorem dX3_tellLast_17 : decode cX3_tellLast 17 = .ok (.aload_n 3, 1) := by decide +kernel
theorem dX3_tellLast_18 : decode cX3_tellLast 18 = .ok (.getfield 125, 3) := by decide +kernel
theorem dX3_tellLast_21 : decode cX3_tellLast 21 = .ok (.i2l, 1) := by decide +kernel
theorem dX3_tellLast_22 : decode cX3_tellLast 22 = .ok (.invokevirtual 107, 3) := by decide +kernel
theorem dX3_tellLast_25 : decode cX3_tellLast 25 = .ok (.aload_n 2, 1) := by decide +kernel
theorem dX3_tellLast_26 : decode cX3_tellLast 26 = .ok (.aload_n 3, 1) := by decide +kernel
theorem dX3_tellLast_27 : decode cX3_tellLast 27 = .ok (.ifnonnull 7, 3) := by decide +kernel
theorem dX3_tellLast_30 : decode cX3_tellLast 30 = .ok (.lconst 0, 1) := by decide +kernel
theorem dX3_tellLast_31 : decode cX3_tellLast 31 = .ok (.goto 7, 3) := by decide +kernel
theorem dX3_tellLast_34 : decode cX3_tellLast 34 = .ok (.aload_n 3, 1) := by decide +kernel
theorem dX3_tellLast_35 : decode cX3_tellLast 35 = .ok (.getfield 126, 3) := by decide +kernel
theorem dX3_tellLast_38 : decode cX3_tellLast 38 = .ok (.invokevirtual 107, 3) := by decide +kernel
theorem dX3_tellLast_41 : decode cX3_tellLast 41 = .ok (.aload_n 0, 1) := by decide +kernel
theorem dX3_tellLast_42 : decode cX3_tellLast 42 = .ok (.getfield 22, 3) := by decide +kernel
theorem dX3_tellLast_45 : decode cX3_tellLast 45 = .ok (.iconst 4, 1) := by decide +kernel
theorem dX3_tellLast_46 : decode cX3_tellLast 46 = .ok (.if_icmp .eq 4, 3) := by decide +kernel
theorem dX3_tellLast_49 : decode cX3_tellLast 49 = .ok (.return_, 1) := by decide +kernel
theorem dX3_tellLast_50 : decode cX3_tellLast 50 = .ok (.aload_n 2, 1) := by decide +kernel
theorem dX3_tellLast_51 : decode cX3_tellLast 51 = .ok (.aload_n 0, 1) := by decide +kernel
theorem dX3_tellLast_52 : decode cX3_tellLast 52 = .ok (.aload_n 1, 1) := by decide +kernel
theorem dX3_tellLast_53 : decode cX3_tellLast 53 = .ok (.invokevirtual 84, 3) := by decide +kernel
theorem dX3_tellLast_56 : decode cX3_tellLast 56 = .ok (.i2l, 1) := by decide +kernel
theorem dX3_tellLast_57 : decode cX3_tellLast 57 = .ok (.invokevirtual 107, 3) := by decide +kernel
theorem dX3_tellLast_60 : decode cX3_tellLast 60 = .ok (.aload_n 0, 1) := by decide +kernel
theorem dX3_tellLast_61 : decode cX3_tellLast 61 = .ok (.aload_n 1, 1) := by decide +kernel
theorem dX3_tellLast_62 : decode cX3_tellLast 62 = .ok (.aconst_null, 1) := by decide +kernel
theorem dX3_tellLast_63 : decode cX3_tellLast 63 = .ok (.invokevirtual 88, 3) := by decide +kernel
theorem dX3_tellLast_66 : decode cX3_tellLast 66 = .ok (.astore 4, 2) := by decide +kernel
theorem dX3_tellLast_68 : decode cX3_tellLast 68 = .ok (.iconst 0, 1) := by decide +kernel
theorem dX3_tellLast_69 : decode cX3_tellLast 69 = .ok (.istore 5, 2) := by decide +kernel
theorem dX3_tellLast_71 : decode cX3_tellLast 71 = .ok (.iload 5, 2) := by decide +kernel
theorem dX3_tellLast_73 : decode cX3_tellLast 73 = .ok (.bipush 6, 2) := by decide +kernel
theorem dX3_tellLast_75 : decode cX3_tellLast 75 = .ok (.if_icmp .ge 33, 3) := by decide +kernel
theorem dX3_tellLast_78 : decode cX3_tellLast 78 = .ok (.aload 4, 2) := by decide +kernel
theorem dX3_tellLast_80 : decode cX3_tellLast 80 = .ok (.ifnull 28, 3) := by decide +kernel
theorem dX3_tellLast_83 : decode cX3_tellLast 83 = .ok (.aload_n 2, 1) := by decide +kernel
theorem dX3_tellLast_84 : decode cX3_tellLast 84 = .ok (.aload 4, 2) := by decide +kernel
theorem dX3_tellLast_86 : decode cX3_tellLast 86 = .ok (.getfield 125, 3) := by decide +kernel
theorem dX3_tellLast_89 : decode cX3_tellLast 89 = .ok (.i2l, 1) := by decide +kernel
theorem dX3_tellLast_90 : decode cX3_tellLast 90 = .ok (.invokevirtual 107, 3) := by decide +kernel
theorem dX3_tellLast_93 : decode cX3_tellLast 93 = .ok (.aload_n 0, 1) := by decide +kernel
theorem dX3_tellLast_94 : decode cX3_tellLast 94 = .ok (.aload_n 1, 1) := by decide +kernel
theorem dX3_tellLast_95 : decode cX3_tellLast 95 = .ok (.aload 4, 2) := by decide +kernel
theorem dX3_tellLast_97 : decode cX3_tellLast 97 = .ok (.invokevirtual 88, 3) := by decide +kernel
theorem dX3_tellLast_100 : decode cX3_tellLast 100 = .ok (.astore 4, 2) := by decide +kernel
theorem dX3_tellLast_102 : decode cX3_tellLast 102 = .ok (.iinc 5 1, 3) := by decide +kernel
theorem dX3_tellLast_105 : decode cX3_tellLast 105 = .ok (.goto (-34), 3) := by decide +kernel
theorem dX3_tellLast_108 : decode cX3_tellLast 108 = .ok (.return_, 1) := by decide +kernel
theorem cvX3_tellLast : CV yX3_tellLast cX3_tellLast 6 none 4 2 := ⟨kw_685, ks_19, kw_10, kw_686, ⟨_, _, rfl⟩, by decide, by decide +kernel, by decide +kernel, by decide +kernel⟩
def fX3_tellLast_b71 (sh : Sh) : Nat → Nat → Option Nat → Option Nat → Option Nat → Int32 → Dt → Option (Dt)
  | 0, _, _, _, _, _, _ => none
  | n + 1, x0, x1, x2, x4, x5, d => if (6 : Int32) ≤ x5 then (some (d)) else (on x4 (some (d)) (fun a2 => bd (gI sh d 2 64 a2) fun v3 => bd x2 fun a4 => bd (kc sh 7 a4) fun _ => bd (fX5_say sh d a4 v3.toInt64) fun d8 => bd (kc sh 5 x0) fun _ => bd2 (fX3_headAbove sh d8 x0 x1 (some a2)) fun r11 d12 => fX3_tellLast_b71 sh n x0 x1 (some a4) r11 (x5 + 1) d12))

def fX3_tellLast_b38 (sh : Sh) (x0 : Nat) (x1 : Option Nat) (x2 : Option Nat) (t0 : Option Nat) (t1 : Int64) (d : Dt) : Option (Dt) := bd t0 fun a1 => bd (kc sh 7 a1) fun _ => bd (fX5_say sh d a1 t1) fun d5 => bd (gI sh d5 5 161 x0) fun v6 => if v6 = (4 : Int32) then (bd2 (fX3_headCount sh d5 x0 x1) fun r9 d10 => bd x2 fun a11 => bd (kc sh 7 a11) fun _ => bd (fX5_say sh d10 a11 r9.toInt64) fun d15 => bd2 (fX3_headAbove sh d15 x0 x1 none) fun r17 d18 => fX3_tellLast_b71 sh fu x0 x1 (some a11) r17 (0 : Int32) d18) else (some (d5))

def fX3_tellLast_b22 (sh : Sh) (x0 : Nat) (x1 : Option Nat) (x2 : Option Nat) (x3 : Option Nat) (t0 : Option Nat) (t1 : Int64) (d : Dt) : Option (Dt) := bd t0 fun a1 => bd (kc sh 7 a1) fun _ => bd (fX5_say sh d a1 t1) fun d5 => on x3 (fX3_tellLast_b38 sh x0 x1 x2 x2 (0 : Int64) d5) (fun a6 => bd (gL sh d5 2 69 a6) fun v7 => fX3_tellLast_b38 sh x0 x1 x2 x2 v7 d5)

def fX3_tellLast_b0 (sh : Sh) (x0 : Nat) (x1 : Option Nat) (x2 : Option Nat) (d : Dt) : Option (Dt) := bd (kc sh 5 x0) fun _ => bd (fX3_foremost sh d x0 x1) fun r3 => on r3 (fX3_tellLast_b22 sh x0 x1 x2 none x2 (-9 : Int64) d) (fun a4 => bd (gI sh d 2 64 a4) fun v5 => fX3_tellLast_b22 sh x0 x1 x2 (some a4) x2 v5.toInt64 d)

def fX3_tellLast (sh : Sh) (d : Dt) (x0 : Nat) (x1 : Option Nat) (x2 : Option Nat) : Option (Dt) := fX3_tellLast_b0 sh x0 x1 x2 d

set_option maxRecDepth 100000 in
set_option maxHeartbeats 4000000 in
theorem wX3_tellLast_b71 (C : mx p s m args meth c yX3_tellLast cX3_tellLast 6 none A D cy st) {d9 : Dt} : ∀ (n : Nat) (x0 : Nat) (x1 : Option Nat) (x2 : Option Nat) (x4 : Option Nat) (x5 : Int32) (d : Dt), fX3_tellLast_b71 sh n x0 x1 x2 x4 x5 d = some d9 → ∀ {H : Heap} {locs : List Loc} {ls : Array Slot}, HW A D cy sz sh d H → va_S A s.heap H locs → lv_has ls 6 [(0, .ref x0), (1, va_rf x1), (2, va_rf x2), (4, va_rf x4), (5, .int x5)] → GL p l e s m args below meth c 4 93 A D cy none sz sh d9 H locs 71 ls [] := by
  have hx := C.1
  have hb := C.2.1
  intro n
  induction n with
  | zero => intro x0 x1 x2 x4 x5 d hf; cases hf
  | succ n ih =>
    intro x0 x1 x2 x4 x5 d hf H locs ls hw hS hl
    rw [fX3_tellLast_b71] at hf
    refine lv_iload hx hb dX3_tellLast_71 (lv_at hl 4 rfl) ?_
    refine lv_bipush (v := 6) hx hb dX3_tellLast_73 (by decide) ?_
    refine lv_icmp_ge (tgt := 108) hx hb dX3_tellLast_75 (by decide) (fun c_1 => ?_) (fun c_1 => ?_)
    · have hf := if_t c_1 hf
      cases hf
      exact rt_v C hw hS dX3_tellLast_108
    · have hf := if_f c_1 hf
      refine lq_aload hx hb dX3_tellLast_78 (lv_at hl 3 rfl) ?_
      cases x4 with
      | none =>
        have hf := on_n hf
        refine lv_ifnullN (tgt := 108) hx hb dX3_tellLast_80 (by decide) ?_
        cases hf
        exact rt_v C hw hS dX3_tellLast_108
      | some a2 =>
        have hf := on_s hf
        refine lv_ifnull hx hb dX3_tellLast_80 ?_
        refine lq_aload_n hx hb dX3_tellLast_83 rfl (lv_at hl 2 rfl) ?_
        refine lq_aload hx hb dX3_tellLast_84 (lv_at hl 3 rfl) ?_
        obtain ⟨v3, hv3, hf⟩ := bd_s hf
        refine gt_64 C hw hv3 kw_285 dX3_tellLast_86 ?_
        refine lv_i2l hx hb dX3_tellLast_89 rfl ?_
        obtain ⟨a4, ea4, hg⟩ := bd_s hf
        clear hf
        subst ea4
        have hf := hg
        clear hg
        obtain ⟨_, h5, hf⟩ := bd_s hf
        obtain ⟨d8, h6, hf⟩ := bd_s hf
        refine cl_V0 C hw hS (tX5_say l A D cy st sz sh d a4 v3.toInt64 h6) cvX5_say kw_689 (kc_k h5) ⟨(Nat.le_of_ble_eq_true rfl), (Nat.le_of_ble_eq_true rfl)⟩ hl.1 rfl (Nat.le_of_ble_eq_true rfl) dX3_tellLast_90 ⟨Nat.zero_le _, Nat.zero_le _⟩ (fun H locs hw hS => ?_)
        refine lv_aload_n hx hb dX3_tellLast_93 rfl (lv_at hl 0 rfl) ?_
        refine lq_aload_n hx hb dX3_tellLast_94 rfl (lv_at hl 1 rfl) ?_
        refine lq_aload hx hb dX3_tellLast_95 (lv_at hl 3 rfl) ?_
        obtain ⟨_, h9, hf⟩ := bd_s hf
        obtain ⟨r11, d12, h10, hf⟩ := bd2_s hf
        refine cl_V0 C hw hS (tX3_headAbove l A D cy st sz sh d8 x0 x1 (some a2) h10) cvX3_headAbove kw_655 (kc_k h9) ⟨(Nat.le_of_ble_eq_true rfl), (Nat.le_of_ble_eq_true rfl)⟩ hl.1 rfl (Nat.le_of_ble_eq_true rfl) dX3_tellLast_97 ⟨Nat.zero_le _, Nat.zero_le _⟩ (fun H locs hw hS => ?_)
        refine lq_astore (x := r11) (lv' := [(4, va_rf r11), (0, .ref x0), (1, va_rf x1), (2, va_rf (some a4)), (5, .int x5)]) hx hb dX3_tellLast_100 hl (by decide) rfl (fun ls hl => ?_)
        refine lv_iinc (v := (x5 + 1)) (lv' := [(5, .int (x5 + 1)), (4, va_rf r11), (0, .ref x0), (1, va_rf x1), (2, va_rf (some a4))]) hx hb dX3_tellLast_102 hl (k := 4) rfl rfl (by decide) (by simp [va_rf_c, cat_i, cat_l, cat_r]) (fun ls hl => ?_)
        refine lv_goto (tgt := 71) hx hb dX3_tellLast_105 (by decide) ?_
        exact ih x0 x1 (some a4) r11 (x5 + 1) d12 hf hw hS (lv_sub hl [2, 3, 4, 1, 0] rfl)

set_option maxRecDepth 100000 in
set_option maxHeartbeats 4000000 in
theorem wX3_tellLast_b38 (C : mx p s m args meth c yX3_tellLast cX3_tellLast 6 none A D cy st) {d9 : Dt} : ∀ (x0 : Nat) (x1 : Option Nat) (x2 : Option Nat) (t0 : Option Nat) (t1 : Int64) (d : Dt), fX3_tellLast_b38 sh x0 x1 x2 t0 t1 d = some d9 → ∀ {H : Heap} {locs : List Loc} {ls : Array Slot}, HW A D cy sz sh d H → va_S A s.heap H locs → lv_has ls 6 [(0, .ref x0), (1, va_rf x1), (2, va_rf x2)] → GL p l e s m args below meth c 4 93 A D cy none sz sh d9 H locs 38 ls [.long t1, va_rf t0] := by
  have hx := C.1
  have hb := C.2.1
  intro x0 x1 x2 t0 t1 d hf H locs ls hw hS hl
  unfold fX3_tellLast_b38 at hf
  obtain ⟨a1, ea1, hg⟩ := bd_s hf
  clear hf
  subst ea1
  have hf := hg
  clear hg
  obtain ⟨_, h2, hf⟩ := bd_s hf
  obtain ⟨d5, h3, hf⟩ := bd_s hf
  refine cl_V0 C hw hS (tX5_say l A D cy st sz sh d a1 t1 h3) cvX5_say kw_689 (kc_k h2) ⟨(Nat.le_of_ble_eq_true rfl), (Nat.le_of_ble_eq_true rfl)⟩ hl.1 rfl (Nat.le_of_ble_eq_true rfl) dX3_tellLast_38 ⟨Nat.zero_le _, Nat.zero_le _⟩ (fun H locs hw hS => ?_)
  refine lv_aload_n hx hb dX3_tellLast_41 rfl (lv_at hl 0 rfl) ?_
  obtain ⟨v6, hv6, hf⟩ := bd_s hf
  refine gt_161 C hw hv6 kw_198 dX3_tellLast_42 ?_
  refine lv_iconst (v := 4) hx hb dX3_tellLast_45 (by decide) ?_
  refine lv_icmp_eq (tgt := 50) hx hb dX3_tellLast_46 (by decide) (fun c_7 => ?_) (fun c_7 => ?_)
  · have hf := if_t c_7 hf
    refine lq_aload_n hx hb dX3_tellLast_50 rfl (lv_at hl 2 rfl) ?_
    refine lv_aload_n hx hb dX3_tellLast_51 rfl (lv_at hl 0 rfl) ?_
    refine lq_aload_n hx hb dX3_tellLast_52 rfl (lv_at hl 1 rfl) ?_
    obtain ⟨r9, d10, h8, hf⟩ := bd2_s hf
    refine cl_V0 C hw hS (tX3_headCount l A D cy st sz sh d5 x0 x1 h8) cvX3_headCount kw_654 (gI_s hv6).1 ⟨(Nat.le_of_ble_eq_true rfl), (Nat.le_of_ble_eq_true rfl)⟩ hl.1 rfl (by simp [va_rf_c, cat_i, cat_l, cat_r]) dX3_tellLast_53 ⟨Nat.zero_le _, Nat.zero_le _⟩ (fun H locs hw hS => ?_)
    refine lv_i2l hx hb dX3_tellLast_56 rfl ?_
    obtain ⟨a11, ea11, hg⟩ := bd_s hf
    clear hf
    subst ea11
    have hf := hg
    clear hg
    obtain ⟨_, h12, hf⟩ := bd_s hf
    obtain ⟨d15, h13, hf⟩ := bd_s hf
    refine cl_V0 C hw hS (tX5_say l A D cy st sz sh d10 a11 r9.toInt64 h13) cvX5_say kw_689 (kc_k h12) ⟨(Nat.le_of_ble_eq_true rfl), (Nat.le_of_ble_eq_true rfl)⟩ hl.1 rfl (Nat.le_of_ble_eq_true rfl) dX3_tellLast_57 ⟨Nat.zero_le _, Nat.zero_le _⟩ (fun H locs hw hS => ?_)
    refine lv_aload_n hx hb dX3_tellLast_60 rfl (lv_at hl 0 rfl) ?_
    refine lq_aload_n hx hb dX3_tellLast_61 rfl (lv_at hl 1 rfl) ?_
    refine lv_null hx hb dX3_tellLast_62 ?_
    obtain ⟨r17, d18, h16, hf⟩ := bd2_s hf
    refine cl_V0 C hw hS (tX3_headAbove l A D cy st sz sh d15 x0 x1 none h16) cvX3_headAbove kw_655 (gI_s hv6).1 ⟨(Nat.le_of_ble_eq_true rfl), (Nat.le_of_ble_eq_true rfl)⟩ hl.1 rfl (Nat.le_of_ble_eq_true rfl) dX3_tellLast_63 ⟨Nat.zero_le _, Nat.zero_le _⟩ (fun H locs hw hS => ?_)
    refine lq_astore (x := r17) (lv' := [(4, va_rf r17), (0, .ref x0), (1, va_rf x1), (2, va_rf (some a11))]) hx hb dX3_tellLast_66 hl (by decide) rfl (fun ls hl => ?_)
    refine lv_iconst (v := 0) hx hb dX3_tellLast_68 (by decide) ?_
    refine lv_istore (i := 5) (lv' := [(5, .int (0 : Int32)), (4, va_rf r17), (0, .ref x0), (1, va_rf x1), (2, va_rf (some a11))]) hx hb dX3_tellLast_69 hl (by decide) (by simp [va_rf_c, cat_i, cat_l, cat_r]) (fun ls hl => ?_)
    exact wX3_tellLast_b71 C fu x0 x1 (some a11) r17 (0 : Int32) d18 hf hw hS (lv_sub hl [2, 3, 4, 1, 0] rfl)
  · have hf := if_f c_7 hf
    cases hf
    exact rt_v C hw hS dX3_tellLast_49

set_option maxRecDepth 100000 in
set_option maxHeartbeats 4000000 in
theorem wX3_tellLast_b22 (C : mx p s m args meth c yX3_tellLast cX3_tellLast 6 none A D cy st) {d9 : Dt} : ∀ (x0 : Nat) (x1 : Option Nat) (x2 : Option Nat) (x3 : Option Nat) (t0 : Option Nat) (t1 : Int64) (d : Dt), fX3_tellLast_b22 sh x0 x1 x2 x3 t0 t1 d = some d9 → ∀ {H : Heap} {locs : List Loc} {ls : Array Slot}, HW A D cy sz sh d H → va_S A s.heap H locs → lv_has ls 6 [(0, .ref x0), (1, va_rf x1), (2, va_rf x2), (3, va_rf x3)] → GL p l e s m args below meth c 4 93 A D cy none sz sh d9 H locs 22 ls [.long t1, va_rf t0] := by
  have hx := C.1
  have hb := C.2.1
  intro x0 x1 x2 x3 t0 t1 d hf H locs ls hw hS hl
  unfold fX3_tellLast_b22 at hf
  obtain ⟨a1, ea1, hg⟩ := bd_s hf
  clear hf
  subst ea1
  have hf := hg
  clear hg
  obtain ⟨_, h2, hf⟩ := bd_s hf
  obtain ⟨d5, h3, hf⟩ := bd_s hf
  refine cl_V0 C hw hS (tX5_say l A D cy st sz sh d a1 t1 h3) cvX5_say kw_689 (kc_k h2) ⟨(Nat.le_of_ble_eq_true rfl), (Nat.le_of_ble_eq_true rfl)⟩ hl.1 rfl (Nat.le_of_ble_eq_true rfl) dX3_tellLast_22 ⟨Nat.zero_le _, Nat.zero_le _⟩ (fun H locs hw hS => ?_)
  refine lq_aload_n hx hb dX3_tellLast_25 rfl (lv_at hl 2 rfl) ?_
  refine lq_aload_n hx hb dX3_tellLast_26 rfl (lv_at hl 3 rfl) ?_
  cases x3 with
  | none =>
    have hf := on_n hf
    refine lv_ifnonnullN hx hb dX3_tellLast_27 ?_
    refine lv_lconst (v := 0) hx hb dX3_tellLast_30 (by decide) ?_
    refine lv_goto (tgt := 38) hx hb dX3_tellLast_31 (by decide) ?_
    exact wX3_tellLast_b38 C x0 x1 x2 x2 (0 : Int64) d5 hf hw hS (lv_sub hl [0, 1, 2] rfl)
  | some a6 =>
    have hf := on_s hf
    refine lv_ifnonnull (tgt := 34) hx hb dX3_tellLast_27 (by decide) ?_
    refine lq_aload_n hx hb dX3_tellLast_34 rfl (lv_at hl 3 rfl) ?_
    obtain ⟨v7, hv7, hf⟩ := bd_s hf
    refine gt_69 C hw hv7 kw_298 dX3_tellLast_35 ?_
    exact wX3_tellLast_b38 C x0 x1 x2 x2 v7 d5 hf hw hS (lv_sub hl [0, 1, 2] rfl)

set_option maxRecDepth 100000 in
set_option maxHeartbeats 4000000 in
theorem wX3_tellLast_b0 (C : mx p s m args meth c yX3_tellLast cX3_tellLast 6 none A D cy st) {d9 : Dt} : ∀ (x0 : Nat) (x1 : Option Nat) (x2 : Option Nat) (d : Dt), fX3_tellLast_b0 sh x0 x1 x2 d = some d9 → ∀ {H : Heap} {locs : List Loc} {ls : Array Slot}, HW A D cy sz sh d H → va_S A s.heap H locs → lv_has ls 6 [(0, .ref x0), (1, va_rf x1), (2, va_rf x2)] → GL p l e s m args below meth c 4 93 A D cy none sz sh d9 H locs 0 ls [] := by
  have hx := C.1
  have hb := C.2.1
  intro x0 x1 x2 d hf H locs ls hw hS hl
  unfold fX3_tellLast_b0 at hf
  refine lv_aload_n hx hb dX3_tellLast_0 rfl (lv_at hl 0 rfl) ?_
  refine lq_aload_n hx hb dX3_tellLast_1 rfl (lv_at hl 1 rfl) ?_
  obtain ⟨_, h1, hf⟩ := bd_s hf
  obtain ⟨r3, h2, hf⟩ := bd_s hf
  refine cl_V0 C hw hS (tX3_foremost l A D cy st sz sh d x0 x1 h2) cvX3_foremost kw_687 (kc_k h1) ⟨(Nat.le_of_ble_eq_true rfl), (Nat.le_of_ble_eq_true rfl)⟩ hl.1 rfl (Nat.le_of_ble_eq_true rfl) dX3_tellLast_2 ⟨Nat.zero_le _, Nat.zero_le _⟩ (fun H locs hw hS => ?_)
  refine lq_astore_n (i := 3) (x := r3) (lv' := [(3, va_rf r3), (0, .ref x0), (1, va_rf x1), (2, va_rf x2)]) hx hb dX3_tellLast_5 rfl hl (by decide) (by simp [va_rf_c, cat_i, cat_l, cat_r]) (fun ls hl => ?_)
  refine lq_aload_n hx hb dX3_tellLast_6 rfl (lv_at hl 3 rfl) ?_
  refine lq_aload_n hx hb dX3_tellLast_7 rfl (lv_at hl 0 rfl) ?_
  cases r3 with
  | none =>
    have hf := on_n hf
    refine lv_ifnonnullN hx hb dX3_tellLast_8 ?_
    refine lv_ldc2 (v := -9) hx hb C.2.2.2.2.2.1 (C.2.2.2.2.1 _ kw_688) dX3_tellLast_11 ?_
    refine lv_goto (tgt := 22) hx hb dX3_tellLast_14 (by decide) ?_
    exact wX3_tellLast_b22 C x0 x1 x2 none x2 (-9 : Int64) d hf hw hS (lv_sub hl [1, 2, 3, 0] rfl)
  | some a4 =>
    have hf := on_s hf
    refine lv_ifnonnull (tgt := 17) hx hb dX3_tellLast_8 (by decide) ?_
    refine lq_aload_n hx hb dX3_tellLast_17 rfl (lv_at hl 0 rfl) ?_
    obtain ⟨v5, hv5, hf⟩ := bd_s hf
    refine gt_64 C hw hv5 kw_285 dX3_tellLast_18 ?_
    refine lv_i2l hx hb dX3_tellLast_21 rfl ?_
    exact wX3_tellLast_b22 C x0 x1 x2 (some a4) x2 v5.toInt64 d hf hw hS (lv_sub hl [1, 2, 3, 0] rfl)

set_option maxRecDepth 100000 in
set_option maxHeartbeats 4000000 in
theorem tX3_tellLast (l : Launch) (A : Nat → Prop) (D : va_G) (cy : Nat → ClassId) (st : Nat → Nat) (sz : Nat) (sh : Sh) (d : Dt) (x0 : Nat) (x1 : Option Nat) (x2 : Option Nat) {d9 : Dt} (hf : fX3_tellLast sh d x0 x1 x2 = some d9) : Ct l yX3_tellLast cX3_tellLast 6 none 4 93 0 0 A D cy st [.ref x0, va_rf x1, va_rf x2] sz sh d none sz sh d9 := ct_of (by decide) (by simp [lg_sl, va_rf_c, cat_i, cat_l, cat_r]) (fun p e s m args below meth c C hw hS ls hl => wX3_tellLast_b0 C x0 x1 x2 d hf hw hS (by simpa [lv_args, va_rf_c, cat_i, cat_l, cat_r] using hl))
theorem dX3_tellTally_0 : decode cX3_tellTally 0 = .ok (.aload_n 2, 1) := by decide +kernel
theorem dX3_tellTally_1 : decode cX3_tellTally 1 = .ok (.aload_n 0, 1) := by decide +kernel
theorem dX3_tellTally_2 : decode cX3_tellTally 2 = .ok (.aload_n 1, 1) := by decide +kernel
theorem dX3_tellTally_3 : decode cX3_tellTally 3 = .ok (.invokevirtual 130, 3) := by decide +kernel
theorem dX3_tellTally_6 : decode cX3_tellTally 6 = .ok (.invokevirtual 107, 3) := by decide +kernel
theorem dX3_tellTally_9 : decode cX3_tellTally 9 = .ok (.aload_n 2, 1) := by decide +kernel
theorem dX3_tellTally_10 : decode cX3_tellTally 10 = .ok (.aload_n 0, 1) := by decide +kernel
theorem dX3_tellTally_11 : decode cX3_tellTally 11 = .ok (.aload_n 1, 1) := by decide +kernel
theorem dX3_tellTally_12 : decode cX3_tellTally 12 = .ok (.invokevirtual 134, 3) := by decide +kernel
theorem dX3_tellTally_15 : decode cX3_tellTally 15 = .ok (.i2l, 1) := by decide +kernel
theorem dX3_tellTally_16 : decode cX3_tellTally 16 = .ok (.invokevirtual 107, 3) := by decide +kernel
theorem dX3_tellTally_19 : decode cX3_tellTally 19 = .ok (.aload_n 0, 1) := by decide +kernel
theorem dX3_tellTally_20 : decode cX3_tellTally 20 = .ok (.getfield 22, 3) := by decide +kernel
theorem dX3_tellTally_23 : decode cX3_tellTally 23 = .ok (.iconst 5, 1) := by decide +kernel
theorem dX3_tellTally_24 : decode cX3_tellTally 24 = .ok (.if_icmp .ne 27, 3) := by decide +kernel
theorem dX3_tellTally_27 : decode cX3_tellTally 27 = .ok (.iconst 0, 1) := by decide +kernel
theorem dX3_tellTally_28 : decode cX3_tellTally 28 = .ok (.istore_n 3, 1) := by decide +kernel
theorem dX3_tellTally_29 : decode cX3_tellTally 29 = .ok (.iload_n 3, 1) := by decide +kernel
theorem dX3_tellTally_30 : decode cX3_tellTally 30 = .ok (.bipush 6, 2) := by decide +kernel
theorem dX3_tellTally_32 : decode cX3_tellTally 32 = .ok (.if_icmp .ge 19, 3) := by decide +kernel
theorem dX3_tellTally_35 : decode cX3_tellTally 35 = .ok (.aload_n 2, 1) := by decide +kernel
theorem dX3_tellTally_36 : decode cX3_tellTally 36 = .ok (.aload_n 0, 1) := by decide +kernel
theorem dX3_tellTally_37 : decode cX3_tellTally 37 = .ok (.aload_n 1, 1) := by decide +kernel
theorem dX3_tellTally_38 : decode cX3_tellTally 38 = .ok (.iload_n 3, 1) := by decide +kernel
theorem dX3_tellTally_39 : decode cX3_tellTally 39 = .ok (.invokevirtual 136, 3) := by decide +kernel
theorem dX3_tellTally_42 : decode cX3_tellTally 42 = .ok (.invokevirtual 107, 3) := by decide +kernel
theorem dX3_tellTally_45 : decode cX3_tellTally 45 = .ok (.iinc 3 1, 3) := by decide +kernel
theorem dX3_tellTally_48 : decode cX3_tellTally 48 = .ok (.goto (-19), 3) := by decide +kernel
theorem dX3_tellTally_51 : decode cX3_tellTally 51 = .ok (.return_, 1) := by decide +kernel
theorem cvX3_tellTally : CV yX3_tellTally cX3_tellTally 4 none 4 2 := ⟨kw_695, ks_20, kw_10, kw_696, ⟨_, _, rfl⟩, by decide, by decide +kernel, by decide +kernel, by decide +kernel⟩
def fX3_tellTally_b29 (sh : Sh) : Nat → Nat → Option Nat → Option Nat → Int32 → Dt → Option (Dt)
  | 0, _, _, _, _, _ => none
  | n + 1, x0, x1, x2, x3, d => if (6 : Int32) ≤ x3 then (some (d)) else (bd (kc sh 5 x0) fun _ => bd (fX3_rightsOf sh d x0 x1 x3) fun r4 => bd x2 fun a5 => bd (kc sh 7 a5) fun _ => bd (fX5_say sh d a5 r4) fun d9 => fX3_tellTally_b29 sh n x0 x1 (some a5) (x3 + 1) d9)

def fX3_tellTally_b0 (sh : Sh) (x0 : Nat) (x1 : Option Nat) (x2 : Option Nat) (d : Dt) : Option (Dt) := bd (kc sh 5 x0) fun _ => bd (fX3_total sh d x0 x1) fun r3 => bd x2 fun a4 => bd (kc sh 7 a4) fun _ => bd (fX5_say sh d a4 r3) fun d8 => bd (fX3_size sh d8 x0 x1) fun r10 => bd (fX5_say sh d8 a4 r10.toInt64) fun d13 => bd (gI sh d13 5 161 x0) fun v14 => if v14 = (5 : Int32) then (fX3_tellTally_b29 sh fu x0 x1 (some a4) (0 : Int32) d13) else (some (d13))

def fX3_tellTally (sh : Sh) (d : Dt) (x0 : Nat) (x1 : Option Nat) (x2 : Option Nat) : Option (Dt) := fX3_tellTally_b0 sh x0 x1 x2 d

set_option maxRecDepth 100000 in
set_option maxHeartbeats 4000000 in
theorem wX3_tellTally_b29 (C : mx p s m args meth c yX3_tellTally cX3_tellTally 4 none A D cy st) {d9 : Dt} : ∀ (n : Nat) (x0 : Nat) (x1 : Option Nat) (x2 : Option Nat) (x3 : Int32) (d : Dt), fX3_tellTally_b29 sh n x0 x1 x2 x3 d = some d9 → ∀ {H : Heap} {locs : List Loc} {ls : Array Slot}, HW A D cy sz sh d H → va_S A s.heap H locs → lv_has ls 4 [(0, .ref x0), (1, va_rf x1), (2, va_rf x2), (3, .int x3)] → GL p l e s m args below meth c 2 48 A D cy none sz sh d9 H locs 29 ls [] := by
  have hx := C.1
  have hb := C.2.1
  intro n
  induction n with
  | zero => intro x0 x1 x2 x3 d hf; cases hf
  | succ n ih =>
    intro x0 x1 x2 x3 d hf H locs ls hw hS hl
    rw [fX3_tellTally_b29] at hf
    refine lv_iload_n hx hb dX3_tellTally_29 rfl (lv_at hl 3 rfl) ?_
    refine lv_bipush (v := 6) hx hb dX3_tellTally_30 (by decide) ?_
    refine lv_icmp_ge (tgt := 51) hx hb dX3_tellTally_32 (by decide) (fun c_1 => ?_) (fun c_1 => ?_)
    · have hf := if_t c_1 hf
      cases hf
      exact rt_v C hw hS dX3_tellTally_51
    · have hf := if_f c_1 hf
      refine lq_aload_n hx hb dX3_tellTally_35 rfl (lv_at hl 2 rfl) ?_
      refine lv_aload_n hx hb dX3_tellTally_36 rfl (lv_at hl 0 rfl) ?_
      refine lq_aload_n hx hb dX3_tellTally_37 rfl (lv_at hl 1 rfl) ?_
      refine lv_iload_n hx hb dX3_tellTally_38 rfl (lv_at hl 3 rfl) ?_
      obtain ⟨_, h2, hf⟩ := bd_s hf
      obtain ⟨r4, h3, hf⟩ := bd_s hf
      refine cl_V0 C hw hS (tX3_rightsOf l A D cy st sz sh d x0 x1 x3 h3) cvX3_rightsOf kw_699 (kc_k h2) ⟨(Nat.le_of_ble_eq_true rfl), (Nat.le_of_ble_eq_true rfl)⟩ hl.1 rfl (by simp [va_rf_c, cat_i, cat_l, cat_r]) dX3_tellTally_39 ⟨Nat.zero_le _, Nat.zero_le _⟩ (fun H locs hw hS => ?_)
      obtain ⟨a5, ea5, hg⟩ := bd_s hf
      clear hf
      subst ea5
      have hf := hg
      clear hg
      obtain ⟨_, h6, hf⟩ := bd_s hf
      obtain ⟨d9, h7, hf⟩ := bd_s hf
      refine cl_V0 C hw hS (tX5_say l A D cy st sz sh d a5 r4 h7) cvX5_say kw_689 (kc_k h6) ⟨(Nat.le_of_ble_eq_true rfl), (Nat.le_of_ble_eq_true rfl)⟩ hl.1 rfl (Nat.le_of_ble_eq_true rfl) dX3_tellTally_42 ⟨Nat.zero_le _, Nat.zero_le _⟩ (fun H locs hw hS => ?_)
      refine lv_iinc (v := (x3 + 1)) (lv' := [(3, .int (x3 + 1)), (0, .ref x0), (1, va_rf x1), (2, va_rf (some a5))]) hx hb dX3_tellTally_45 hl (k := 3) rfl rfl (by decide) (by simp [va_rf_c, cat_i, cat_l, cat_r]) (fun ls hl => ?_)
      refine lv_goto (tgt := 29) hx hb dX3_tellTally_48 (by decide) ?_
      exact ih x0 x1 (some a5) (x3 + 1) d9 hf hw hS (lv_sub hl [1, 2, 3, 0] rfl)

set_option maxRecDepth 100000 in
set_option maxHeartbeats 4000000 in
theorem wX3_tellTally_b0 (C : mx p s m args meth c yX3_tellTally cX3_tellTally 4 none A D cy st) {d9 : Dt} : ∀ (x0 : Nat) (x1 : Option Nat) (x2 : Option Nat) (d : Dt), fX3_tellTally_b0 sh x0 x1 x2 d = some d9 → ∀ {H : Heap} {locs : List Loc} {ls : Array Slot}, HW A D cy sz sh d H → va_S A s.heap H locs → lv_has ls 4 [(0, .ref x0), (1, va_rf x1), (2, va_rf x2)] → GL p l e s m args below meth c 2 48 A D cy none sz sh d9 H locs 0 ls [] := by
  have hx := C.1
  have hb := C.2.1
  intro x0 x1 x2 d hf H locs ls hw hS hl
  unfold fX3_tellTally_b0 at hf
  refine lq_aload_n hx hb dX3_tellTally_0 rfl (lv_at hl 2 rfl) ?_
  refine lv_aload_n hx hb dX3_tellTally_1 rfl (lv_at hl 0 rfl) ?_
  refine lq_aload_n hx hb dX3_tellTally_2 rfl (lv_at hl 1 rfl) ?_
  obtain ⟨_, h1, hf⟩ := bd_s hf
  obtain ⟨r3, h2, hf⟩ := bd_s hf
  refine cl_V0 C hw hS (tX3_total l A D cy st sz sh d x0 x1 h2) cvX3_total kw_697 (kc_k h1) ⟨(Nat.le_of_ble_eq_true rfl), (Nat.le_of_ble_eq_true rfl)⟩ hl.1 rfl (by simp [va_rf_c, cat_i, cat_l, cat_r]) dX3_tellTally_3 ⟨Nat.zero_le _, Nat.zero_le _⟩ (fun H locs hw hS => ?_)
  obtain ⟨a4, ea4, hg⟩ := bd_s hf
  clear hf
  subst ea4
  have hf := hg
  clear hg
  obtain ⟨_, h5, hf⟩ := bd_s hf
  obtain ⟨d8, h6, hf⟩ := bd_s hf
  refine cl_V0 C hw hS (tX5_say l A D cy st sz sh d a4 r3 h6) cvX5_say kw_689 (kc_k h5) ⟨(Nat.le_of_ble_eq_true rfl), (Nat.le_of_ble_eq_true rfl)⟩ hl.1 rfl (Nat.le_of_ble_eq_true rfl) dX3_tellTally_6 ⟨Nat.zero_le _, Nat.zero_le _⟩ (fun H locs hw hS => ?_)
  refine lq_aload_n hx hb dX3_tellTally_9 rfl (lv_at hl 2 rfl) ?_
  refine lv_aload_n hx hb dX3_tellTally_10 rfl (lv_at hl 0 rfl) ?_
  refine lq_aload_n hx hb dX3_tellTally_11 rfl (lv_at hl 1 rfl) ?_
  obtain ⟨r10, h9, hf⟩ := bd_s hf
  refine cl_V0 C hw hS (tX3_size l A D cy st sz sh d8 x0 x1 h9) cvX3_size kw_698 (kc_k h1) ⟨(Nat.le_of_ble_eq_true rfl), (Nat.le_of_ble_eq_true rfl)⟩ hl.1 rfl (by simp [va_rf_c, cat_i, cat_l, cat_r]) dX3_tellTally_12 ⟨Nat.zero_le _, Nat.zero_le _⟩ (fun H locs hw hS => ?_)
  refine lv_i2l hx hb dX3_tellTally_15 rfl ?_
  obtain ⟨d13, h11, hf⟩ := bd_s hf
  refine cl_V0 C hw hS (tX5_say l A D cy st sz sh d8 a4 r10.toInt64 h11) cvX5_say kw_689 (kc_k h5) ⟨(Nat.le_of_ble_eq_true rfl), (Nat.le_of_ble_eq_true rfl)⟩ hl.1 rfl (Nat.le_of_ble_eq_true rfl) dX3_tellTally_16 ⟨Nat.zero_le _, Nat.zero_le _⟩ (fun H locs hw hS => ?_)
  refine lv_aload_n hx hb dX3_tellTally_19 rfl (lv_at hl 0 rfl) ?_
  obtain ⟨v14, hv14, hf⟩ := bd_s hf
  refine gt_161 C hw hv14 kw_198 dX3_tellTally_20 ?_
  refine lv_iconst (v := 5) hx hb dX3_tellTally_23 (by decide) ?_
  refine lv_icmp_ne (tgt := 51) hx hb dX3_tellTally_24 (by decide) (fun c_15 => ?_) (fun c_15 => ?_)
  · have hf := if_f c_15 hf
    cases hf
    exact rt_v C hw hS dX3_tellTally_51
  · have hf := if_t c_15 hf
    refine lv_iconst (v := 0) hx hb dX3_tellTally_27 (by decide) ?_
    refine lv_istore_n (i := 3) (lv' := [(3, .int (0 : Int32)), (0, .ref x0), (1, va_rf x1), (2, va_rf (some a4))]) hx hb dX3_tellTally_28 rfl hl (by decide) (by simp [va_rf_c, cat_i, cat_l, cat_r]) (fun ls hl => ?_)
    exact wX3_tellTally_b29 C fu x0 x1 (some a4) (0 : Int32) d13 hf hw hS (lv_sub hl [1, 2, 3, 0] rfl)

set_option maxRecDepth 100000 in
set_option maxHeartbeats 4000000 in
theorem tX3_tellTally (l : Launch) (A : Nat → Prop) (D : va_G) (cy : Nat → ClassId) (st : Nat → Nat) (sz : Nat) (sh : Sh) (d : Dt) (x0 : Nat) (x1 : Option Nat) (x2 : Option Nat) {d9 : Dt} (hf : fX3_tellTally sh d x0 x1 x2 = some d9) : Ct l yX3_tellTally cX3_tellTally 4 none 2 48 0 0 A D cy st [.ref x0, va_rf x1, va_rf x2] sz sh d none sz sh d9 := ct_of (by decide) (by simp [lg_sl, va_rf_c, cat_i, cat_l, cat_r]) (fun p e s m args below meth c C hw hS ls hl => wX3_tellTally_b0 C x0 x1 x2 d hf hw hS (by simpa [lv_args, va_rf_c, cat_i, cat_l, cat_r] using hl))
theorem dX3_tell_0 : decode cX3_tell 0 = .ok (.aload_n 2, 1) := by decide +kernel
theorem dX3_tell_1 : decode cX3_tell 1 = .ok (.iconst 0, 1) := by decide +kernel
theorem dX3_tell_2 : decode cX3_tell 2 = .ok (.putfield 95, 3) := by decide +kernel
theorem dX3_tell_5 : decode cX3_tell 5 = .ok (.getstatic 31, 3) := by decide +kernel
theorem dX3_tell_8 : decode cX3_tell 8 = .ok (.aload_n 0, 1) := by decide +kernel
theorem dX3_tell_9 : decode cX3_tell 9 = .ok (.getfield 22, 3) := by decide +kernel
theorem dX3_tell_12 : decode cX3_tell 12 = .ok (.iaload, 1) := by decide +kernel
theorem dX3_tell_13 : decode cX3_tell 13 = .ok (.tableswitch 77 0 3 #[31, 77, 40, 49], 31) := by decide +kernel
theorem dX3_tell_44 : decode cX3_tell 44 = .ok (.aload_n 0, 1) := by decide +kernel
theorem dX3_tell_45 : decode cX3_tell 45 = .ok (.aload_n 1, 1) := by decide +kernel
theorem dX3_tell_46 : decode cX3_tell 46 = .ok (.aload_n 2, 1) := by decide +kernel
theorem dX3_tell_47 : decode cX3_tell 47 = .ok (.invokevirtual 100, 3) := by decide +kernel
theorem dX3_tell_50 : decode cX3_tell 50 = .ok (.goto 77, 3) := by decide +kernel
theorem dX3_tell_53 : decode cX3_tell 53 = .ok (.aload_n 0, 1) := by decide +kernel
theorem dX3_tell_54 : decode cX3_tell 54 = .ok (.aload_n 1, 1) := by decide +kernel
theorem dX3_tell_55 : decode cX3_tell 55 = .ok (.aload_n 2, 1) := by decide +kernel
theorem dX3_tell_56 : decode cX3_tell 56 = .ok (.invokevirtual 104, 3) := by decide +kernel
theorem dX3_tell_59 : decode cX3_tell 59 = .ok (.goto 68, 3) := by decide +kernel
theorem dX3_tell_62 : decode cX3_tell 62 = .ok (.iconst 0, 1) := by decide +kernel
theorem dX3_tell_63 : decode cX3_tell 63 = .ok (.istore_n 3, 1) := by decide +kernel
theorem dX3_tell_64 : decode cX3_tell 64 = .ok (.iload_n 3, 1) := by decide +kernel
theorem dX3_tell_65 : decode cX3_tell 65 = .ok (.bipush 64, 2) := by decide +kernel
theorem dX3_tell_67 : decode cX3_tell 67 = .ok (.if_icmp .ge 20, 3) := by decide +kernel
theorem dX3_tell_70 : decode cX3_tell 70 = .ok (.aload_n 2, 1) := by decide +kernel
theorem dX3_tell_71 : decode cX3_tell 71 = .ok (.aload_n 0, 1) := by decide +kernel
theorem dX3_tell_72 : decode cX3_tell 72 = .ok (.aload_n 1, 1) := by decide +kernel
theorem dX3_tell_73 : decode cX3_tell 73 = .ok (.iload_n 3, 1) := by decide +kernel
theorem dX3_tell_74 : decode cX3_tell 74 = .ok (.invokevirtual 80, 3) := by decide +kernel
theorem dX3_tell_77 : decode cX3_tell 77 = .ok (.i2l, 1) := by decide +kernel
theorem dX3_tell_78 : decode cX3_tell 78 = .ok (.invokevirtual 107, 3) := by decide +kernel
theorem dX3_tell_81 : decode cX3_tell 81 = .ok (.iinc 3 1, 3) := by decide +kernel
theorem dX3_tell_84 : decode cX3_tell 84 = .ok (.goto (-20), 3) := by decide +kernel
theorem dX3_tell_87 : decode cX3_tell 87 = .ok (.goto 40, 3) := by decide +kernel
theorem dX3_tell_90 : decode cX3_tell 90 = .ok (.aload_n 2, 1) := by decide +kernel
theorem dX3_tell_91 : decode cX3_tell 91 = .ok (.aload_n 0, 1) := by decide +kernel
theorem dX3_tell_92 : decode cX3_tell 92 = .ok (.aload_n 1, 1) := by decide +kernel
theorem dX3_tell_93 : decode cX3_tell 93 = .ok (.invokevirtual 111, 3) := by decide +kernel
theorem dX3_tell_96 : decode cX3_tell 96 = .ok (.invokestatic 115, 3) := by decide +kernel
theorem dX3_tell_99 : decode cX3_tell 99 = .ok (.i2l, 1) := by decide +kernel
theorem dX3_tell_100 : decode cX3_tell 100 = .ok (.invokevirtual 107, 3) := by decide +kernel
theorem dX3_tell_103 : decode cX3_tell 103 = .ok (.aload_n 2, 1) := by decide +kernel
theorem dX3_tell_104 : decode cX3_tell 104 = .ok (.aload_n 0, 1) := by decide +kernel
theorem dX3_tell_105 : decode cX3_tell 105 = .ok (.aload_n 1, 1) := by decide +kernel
theorem dX3_tell_106 : decode cX3_tell 106 = .ok (.bipush 6, 2) := by decide +kernel
theorem dX3_tell_108 : decode cX3_tell 108 = .ok (.invokevirtual 92, 3) := by decide +kernel
theorem dX3_tell_111 : decode cX3_tell 111 = .ok (.i2l, 1) := by decide +kernel
theorem dX3_tell_112 : decode cX3_tell 112 = .ok (.invokevirtual 107, 3) := by decide +kernel
theorem dX3_tell_115 : decode cX3_tell 115 = .ok (.aload_n 2, 1) := by decide +kernel
theorem dX3_tell_116 : decode cX3_tell 116 = .ok (.aload_n 0, 1) := by decide +kernel
theorem dX3_tell_117 : decode cX3_tell 117 = .ok (.aload_n 1, 1) := by decide +kernel
theorem dX3_tell_118 : decode cX3_tell 118 = .ok (.bipush 7, 2) := by decide +kernel
theorem dX3_tell_120 : decode cX3_tell 120 = .ok (.invokevirtual 92, 3) := by decide +kernel
theorem dX3_tell_123 : decode cX3_tell 123 = .ok (.i2l, 1) := by decide +kernel
theorem dX3_tell_124 : decode cX3_tell 124 = .ok (.invokevirtual 107, 3) := by decide +kernel
theorem dX3_tell_127 : decode cX3_tell 127 = .ok (.return_, 1) := by decide +kernel
theorem cvX3_tell : CV yX3_tell cX3_tell 4 none 4 2 := ⟨kw_680, kw_681, kw_10, kw_682, ⟨_, _, rfl⟩, by decide, by decide +kernel, by decide +kernel, by decide +kernel⟩
def fX3_tell_b64 (sh : Sh) : Nat → Nat → Option Nat → Option Nat → Int32 → Dt → Option (Dt)
  | 0, _, _, _, _, _ => none
  | n + 1, x0, x1, x2, x3, d => if (64 : Int32) ≤ x3 then (some (d)) else (bd (kc sh 5 x0) fun _ => bd2 (fX3_timesIn sh d x0 x1 x3) fun r4 d5 => bd x2 fun a6 => bd (kc sh 7 a6) fun _ => bd (fX5_say sh d5 a6 r4.toInt64) fun d10 => fX3_tell_b64 sh n x0 x1 (some a6) (x3 + 1) d10)

def fX3_tell_b90 (sh : Sh) (x0 : Nat) (x1 : Option Nat) (x2 : Option Nat) (d : Dt) : Option (Dt) := bd (kc sh 5 x0) fun _ => bd2 (fX3_isUp sh d x0 x1) fun r3 d4 => bd (fX6_oneIf sh d4 (bI r3)) fun r6 => bd x2 fun a7 => bd (kc sh 7 a7) fun _ => bd (fX5_say sh d4 a7 r6.toInt64) fun d11 => bd (fX3_sizeOf sh d11 x0 x1 (6 : Int32)) fun r13 => bd (fX5_say sh d11 a7 r13.toInt64) fun d16 => bd (fX3_sizeOf sh d16 x0 x1 (7 : Int32)) fun r18 => bd (fX5_say sh d16 a7 r18.toInt64) fun d21 => some (d21)

def fX3_tell_b0 (sh : Sh) (x0 : Nat) (x1 : Option Nat) (x2 : Option Nat) (d : Dt) : Option (Dt) := bd x2 fun a1 => bd (pI sh d 7 225 a1 (0 : Int32)) fun d2 => bd (gI sh d2 5 161 x0) fun v3 => bd (abv v3) fun v4 => if v4 = 0 then (bd (fX3_tellLast sh d2 x0 x1 (some a1)) fun d8 => some (d8)) else if v4 = 1 then (fX3_tell_b90 sh x0 x1 (some a1) d2) else if v4 = 2 then (bd (fX3_tellTally sh d2 x0 x1 (some a1)) fun d13 => some (d13)) else if v4 = 3 then (fX3_tell_b64 sh fu x0 x1 (some a1) (0 : Int32) d2) else (fX3_tell_b90 sh x0 x1 (some a1) d2)

def fX3_tell (sh : Sh) (d : Dt) (x0 : Nat) (x1 : Option Nat) (x2 : Option Nat) : Option (Dt) := fX3_tell_b0 sh x0 x1 x2 d

set_option maxRecDepth 100000 in
set_option maxHeartbeats 4000000 in
theorem wX3_tell_b64 (C : mx p s m args meth c yX3_tell cX3_tell 4 none A D cy st) {d9 : Dt} : ∀ (n : Nat) (x0 : Nat) (x1 : Option Nat) (x2 : Option Nat) (x3 : Int32) (d : Dt), fX3_tell_b64 sh n x0 x1 x2 x3 d = some d9 → ∀ {H : Heap} {locs : List Loc} {ls : Array Slot}, HW A D cy sz sh d H → va_S A s.heap H locs → lv_has ls 4 [(0, .ref x0), (1, va_rf x1), (2, va_rf x2), (3, .int x3)] → GL p l e s m args below meth c 5 118 A D cy none sz sh d9 H locs 64 ls [] := by
  have hx := C.1
  have hb := C.2.1
  intro n
  induction n with
  | zero => intro x0 x1 x2 x3 d hf; cases hf
  | succ n ih =>
    intro x0 x1 x2 x3 d hf H locs ls hw hS hl
    rw [fX3_tell_b64] at hf
    refine lv_iload_n hx hb dX3_tell_64 rfl (lv_at hl 3 rfl) ?_
    refine lv_bipush (v := 64) hx hb dX3_tell_65 (by decide) ?_
    refine lv_icmp_ge (tgt := 87) hx hb dX3_tell_67 (by decide) (fun c_1 => ?_) (fun c_1 => ?_)
    · have hf := if_t c_1 hf
      refine lv_goto (tgt := 127) hx hb dX3_tell_87 (by decide) ?_
      cases hf
      exact rt_v C hw hS dX3_tell_127
    · have hf := if_f c_1 hf
      refine lq_aload_n hx hb dX3_tell_70 rfl (lv_at hl 2 rfl) ?_
      refine lv_aload_n hx hb dX3_tell_71 rfl (lv_at hl 0 rfl) ?_
      refine lq_aload_n hx hb dX3_tell_72 rfl (lv_at hl 1 rfl) ?_
      refine lv_iload_n hx hb dX3_tell_73 rfl (lv_at hl 3 rfl) ?_
      obtain ⟨_, h2, hf⟩ := bd_s hf
      obtain ⟨r4, d5, h3, hf⟩ := bd2_s hf
      refine cl_V0 C hw hS (tX3_timesIn l A D cy st sz sh d x0 x1 x3 h3) cvX3_timesIn kw_637 (kc_k h2) ⟨(Nat.le_of_ble_eq_true rfl), (Nat.le_of_ble_eq_true rfl)⟩ hl.1 rfl (by simp [va_rf_c, cat_i, cat_l, cat_r]) dX3_tell_74 ⟨Nat.zero_le _, Nat.zero_le _⟩ (fun H locs hw hS => ?_)
      refine lv_i2l hx hb dX3_tell_77 rfl ?_
      obtain ⟨a6, ea6, hg⟩ := bd_s hf
      clear hf
      subst ea6
      have hf := hg
      clear hg
      obtain ⟨_, h7, hf⟩ := bd_s hf
      obtain ⟨d10, h8, hf⟩ := bd_s hf
      refine cl_V0 C hw hS (tX5_say l A D cy st sz sh d5 a6 r4.toInt64 h8) cvX5_say kw_689 (kc_k h7) ⟨(Nat.le_of_ble_eq_true rfl), (Nat.le_of_ble_eq_true rfl)⟩ hl.1 rfl (Nat.le_of_ble_eq_true rfl) dX3_tell_78 ⟨Nat.zero_le _, Nat.zero_le _⟩ (fun H locs hw hS => ?_)
      refine lv_iinc (v := (x3 + 1)) (lv' := [(3, .int (x3 + 1)), (0, .ref x0), (1, va_rf x1), (2, va_rf (some a6))]) hx hb dX3_tell_81 hl (k := 3) rfl rfl (by decide) (by simp [va_rf_c, cat_i, cat_l, cat_r]) (fun ls hl => ?_)
      refine lv_goto (tgt := 64) hx hb dX3_tell_84 (by decide) ?_
      exact ih x0 x1 (some a6) (x3 + 1) d10 hf hw hS (lv_sub hl [1, 2, 3, 0] rfl)

set_option maxRecDepth 100000 in
set_option maxHeartbeats 4000000 in
theorem wX3_tell_b90 (C : mx p s m args meth c yX3_tell cX3_tell 4 none A D cy st) {d9 : Dt} : ∀ (x0 : Nat) (x1 : Option Nat) (x2 : Option Nat) (d : Dt), fX3_tell_b90 sh x0 x1 x2 d = some d9 → ∀ {H : Heap} {locs : List Loc} {ls : Array Slot}, HW A D cy sz sh d H → va_S A s.heap H locs → lv_has ls 4 [(0, .ref x0), (1, va_rf x1), (2, va_rf x2)] → GL p l e s m args below meth c 5 118 A D cy none sz sh d9 H locs 90 ls [] := by
  have hx := C.1
  have hb := C.2.1
  intro x0 x1 x2 d hf H locs ls hw hS hl
  unfold fX3_tell_b90 at hf
  refine lq_aload_n hx hb dX3_tell_90 rfl (lv_at hl 2 rfl) ?_
  refine lv_aload_n hx hb dX3_tell_91 rfl (lv_at hl 0 rfl) ?_
  refine lq_aload_n hx hb dX3_tell_92 rfl (lv_at hl 1 rfl) ?_
  obtain ⟨_, h1, hf⟩ := bd_s hf
  obtain ⟨r3, d4, h2, hf⟩ := bd2_s hf
  refine cl_V0 C hw hS (tX3_isUp l A D cy st sz sh d x0 x1 h2) cvX3_isUp kw_700 (kc_k h1) ⟨(Nat.le_of_ble_eq_true rfl), (Nat.le_of_ble_eq_true rfl)⟩ hl.1 rfl (by simp [va_rf_c, cat_i, cat_l, cat_r]) dX3_tell_93 ⟨Nat.zero_le _, Nat.zero_le _⟩ (fun H locs hw hS => ?_)
  obtain ⟨r6, h5, hf⟩ := bd_s hf
  refine cl_SN0 (host := "ManyHands") C hw hS (tX6_oneIf l A D cy st sz sh d4 (bI r3) h5) csX6_oneIf (by decide +kernel) ⟨(Nat.le_of_ble_eq_true rfl), (Nat.le_of_ble_eq_true rfl)⟩ hl.1 rfl (by simp [va_rf_c, cat_i, cat_l, cat_r]) dX3_tell_96 ⟨Nat.zero_le _, Nat.zero_le _⟩ (fun H locs hw hS => ?_)
  refine lv_i2l hx hb dX3_tell_99 rfl ?_
  obtain ⟨a7, ea7, hg⟩ := bd_s hf
  clear hf
  subst ea7
  have hf := hg
  clear hg
  obtain ⟨_, h8, hf⟩ := bd_s hf
  obtain ⟨d11, h9, hf⟩ := bd_s hf
  refine cl_V0 C hw hS (tX5_say l A D cy st sz sh d4 a7 r6.toInt64 h9) cvX5_say kw_689 (kc_k h8) ⟨(Nat.le_of_ble_eq_true rfl), (Nat.le_of_ble_eq_true rfl)⟩ hl.1 rfl (Nat.le_of_ble_eq_true rfl) dX3_tell_100 ⟨Nat.zero_le _, Nat.zero_le _⟩ (fun H locs hw hS => ?_)
  refine lq_aload_n hx hb dX3_tell_103 rfl (lv_at hl 2 rfl) ?_
  refine lv_aload_n hx hb dX3_tell_104 rfl (lv_at hl 0 rfl) ?_
  refine lq_aload_n hx hb dX3_tell_105 rfl (lv_at hl 1 rfl) ?_
  refine lv_bipush (v := 6) hx hb dX3_tell_106 (by decide) ?_
  obtain ⟨r13, h12, hf⟩ := bd_s hf
  refine cl_V0 C hw hS (tX3_sizeOf l A D cy st sz sh d11 x0 x1 (6 : Int32) h12) cvX3_sizeOf kw_671 (kc_k h1) ⟨(Nat.le_of_ble_eq_true rfl), (Nat.le_of_ble_eq_true rfl)⟩ hl.1 rfl (by simp [va_rf_c, cat_i, cat_l, cat_r]) dX3_tell_108 ⟨Nat.zero_le _, Nat.zero_le _⟩ (fun H locs hw hS => ?_)
  refine lv_i2l hx hb dX3_tell_111 rfl ?_
  obtain ⟨d16, h14, hf⟩ := bd_s hf
  refine cl_V0 C hw hS (tX5_say l A D cy st sz sh d11 a7 r13.toInt64 h14) cvX5_say kw_689 (kc_k h8) ⟨(Nat.le_of_ble_eq_true rfl), (Nat.le_of_ble_eq_true rfl)⟩ hl.1 rfl (Nat.le_of_ble_eq_true rfl) dX3_tell_112 ⟨Nat.zero_le _, Nat.zero_le _⟩ (fun H locs hw hS => ?_)
  refine lq_aload_n hx hb dX3_tell_115 rfl (lv_at hl 2 rfl) ?_
  refine lv_aload_n hx hb dX3_tell_116 rfl (lv_at hl 0 rfl) ?_
  refine lq_aload_n hx hb dX3_tell_117 rfl (lv_at hl 1 rfl) ?_
  refine lv_bipush (v := 7) hx hb dX3_tell_118 (by decide) ?_
  obtain ⟨r18, h17, hf⟩ := bd_s hf
  refine cl_V0 C hw hS (tX3_sizeOf l A D cy st sz sh d16 x0 x1 (7 : Int32) h17) cvX3_sizeOf kw_671 (kc_k h1) ⟨(Nat.le_of_ble_eq_true rfl), (Nat.le_of_ble_eq_true rfl)⟩ hl.1 rfl (by simp [va_rf_c, cat_i, cat_l, cat_r]) dX3_tell_120 ⟨Nat.zero_le _, Nat.zero_le _⟩ (fun H locs hw hS => ?_)
  refine lv_i2l hx hb dX3_tell_123 rfl ?_
  obtain ⟨d21, h19, hf⟩ := bd_s hf
  refine cl_V0 C hw hS (tX5_say l A D cy st sz sh d16 a7 r18.toInt64 h19) cvX5_say kw_689 (kc_k h8) ⟨(Nat.le_of_ble_eq_true rfl), (Nat.le_of_ble_eq_true rfl)⟩ hl.1 rfl (Nat.le_of_ble_eq_true rfl) dX3_tell_124 ⟨Nat.zero_le _, Nat.zero_le _⟩ (fun H locs hw hS => ?_)
  cases hf
  exact rt_v C hw hS dX3_tell_127

set_option maxRecDepth 100000 in
set_option maxHeartbeats 4000000 in
theorem wX3_tell_b0 (C : mx p s m args meth c yX3_tell cX3_tell 4 none A D cy st) {d9 : Dt} : ∀ (x0 : Nat) (x1 : Option Nat) (x2 : Option Nat) (d : Dt), fX3_tell_b0 sh x0 x1 x2 d = some d9 → ∀ {H : Heap} {locs : List Loc} {ls : Array Slot}, HW A D cy sz sh d H → va_S A s.heap H locs → lv_has ls 4 [(0, .ref x0), (1, va_rf x1), (2, va_rf x2)] → GL p l e s m args below meth c 5 118 A D cy none sz sh d9 H locs 0 ls [] := by
  have hx := C.1
  have hb := C.2.1
  intro x0 x1 x2 d hf H locs ls hw hS hl
  unfold fX3_tell_b0 at hf
  refine lq_aload_n hx hb dX3_tell_0 rfl (lv_at hl 2 rfl) ?_
  refine lv_iconst (v := 0) hx hb dX3_tell_1 (by decide) ?_
  obtain ⟨a1, ea1, hg⟩ := bd_s hf
  clear hf
  subst ea1
  have hf := hg
  clear hg
  obtain ⟨d2, hd2, hf⟩ := bd_s hf
  refine pt_225 C hw hS hd2 kw_64 dX3_tell_2 (fun H locs hw hS => ?_)
  refine va_getsN (host := "ManyHands") hx hb C.2.2.2.2.2.2.2.1.2.2.2.2.2.1 hS C.2.2.2.2.2.1 (va_Nw.use rfl (C.2.2.2.2.2.2.2.1.2.1 _ (by decide +kernel))) (fun _ h => h) dX3_tell_5 ?_
  refine lv_aload_n hx hb dX3_tell_8 rfl (lv_at hl 0 rfl) ?_
  obtain ⟨v3, hv3, hf⟩ := bd_s hf
  refine gt_161 C hw hv3 kw_198 dX3_tell_9 ?_
  obtain ⟨v4, hv4, hf⟩ := bd_s hf
  refine w_abv C hS hv4 dX3_tell_12 ?_
  by_cases c_5 : v4 = 0
  · have hf := if_t c_5 hf
    refine lv_tableIn (tgt := 44) hx hb dX3_tell_13 (by rw [c_5]; decide) (by rw [c_5]; decide) (by rw [c_5]; rfl) (by decide) ?_
    refine lv_aload_n hx hb dX3_tell_44 rfl (lv_at hl 0 rfl) ?_
    refine lq_aload_n hx hb dX3_tell_45 rfl (lv_at hl 1 rfl) ?_
    refine lq_aload_n hx hb dX3_tell_46 rfl (lv_at hl 2 rfl) ?_
    obtain ⟨d8, h6, hf⟩ := bd_s hf
    refine cl_V0 C hw hS (tX3_tellLast l A D cy st sz sh d2 x0 x1 (some a1) h6) cvX3_tellLast kw_683 (gI_s hv3).1 ⟨(Nat.le_of_ble_eq_true rfl), (Nat.le_of_ble_eq_true rfl)⟩ hl.1 rfl (Nat.le_of_ble_eq_true rfl) dX3_tell_47 ⟨Nat.zero_le _, Nat.zero_le _⟩ (fun H locs hw hS => ?_)
    refine lv_goto (tgt := 127) hx hb dX3_tell_50 (by decide) ?_
    cases hf
    exact rt_v C hw hS dX3_tell_127
  have hf := if_f c_5 hf
  by_cases c_9 : v4 = 1
  · have hf := if_t c_9 hf
    refine lv_tableIn (tgt := 90) hx hb dX3_tell_13 (by rw [c_9]; decide) (by rw [c_9]; decide) (by rw [c_9]; rfl) (by decide) ?_
    exact wX3_tell_b90 C x0 x1 (some a1) d2 hf hw hS (lv_sub hl [0, 1, 2] rfl)
  have hf := if_f c_9 hf
  by_cases c_10 : v4 = 2
  · have hf := if_t c_10 hf
    refine lv_tableIn (tgt := 53) hx hb dX3_tell_13 (by rw [c_10]; decide) (by rw [c_10]; decide) (by rw [c_10]; rfl) (by decide) ?_
    refine lv_aload_n hx hb dX3_tell_53 rfl (lv_at hl 0 rfl) ?_
    refine lq_aload_n hx hb dX3_tell_54 rfl (lv_at hl 1 rfl) ?_
    refine lq_aload_n hx hb dX3_tell_55 rfl (lv_at hl 2 rfl) ?_
    obtain ⟨d13, h11, hf⟩ := bd_s hf
    refine cl_V0 C hw hS (tX3_tellTally l A D cy st sz sh d2 x0 x1 (some a1) h11) cvX3_tellTally kw_693 (gI_s hv3).1 ⟨(Nat.le_of_ble_eq_true rfl), (Nat.le_of_ble_eq_true rfl)⟩ hl.1 rfl (Nat.le_of_ble_eq_true rfl) dX3_tell_56 ⟨Nat.zero_le _, Nat.zero_le _⟩ (fun H locs hw hS => ?_)
    refine lv_goto (tgt := 127) hx hb dX3_tell_59 (by decide) ?_
    cases hf
    exact rt_v C hw hS dX3_tell_127
  have hf := if_f c_10 hf
  by_cases c_14 : v4 = 3
  · have hf := if_t c_14 hf
    refine lv_tableIn (tgt := 62) hx hb dX3_tell_13 (by rw [c_14]; decide) (by rw [c_14]; decide) (by rw [c_14]; rfl) (by decide) ?_
    refine lv_iconst (v := 0) hx hb dX3_tell_62 (by decide) ?_
    refine lv_istore_n (i := 3) (lv' := [(3, .int (0 : Int32)), (0, .ref x0), (1, va_rf x1), (2, va_rf (some a1))]) hx hb dX3_tell_63 rfl hl (by decide) (by simp [va_rf_c, cat_i, cat_l, cat_r]) (fun ls hl => ?_)
    exact wX3_tell_b64 C fu x0 x1 (some a1) (0 : Int32) d2 hf hw hS (lv_sub hl [1, 2, 3, 0] rfl)
  have hf := if_f c_14 hf
  refine lv_tableOut (tgt := 90) hx hb dX3_tell_13 (by have z0 := lv_neT (a := 0) c_5 (by decide); have z1 := lv_neT (a := 1) c_9 (by decide); have z2 := lv_neT (a := 2) c_10 (by decide); have z3 := lv_neT (a := 3) c_14 (by decide); omega) (by decide) ?_
  exact wX3_tell_b90 C x0 x1 (some a1) d2 hf hw hS (lv_sub hl [0, 1, 2] rfl)

set_option maxRecDepth 100000 in
set_option maxHeartbeats 4000000 in
theorem tX3_tell (l : Launch) (A : Nat → Prop) (D : va_G) (cy : Nat → ClassId) (st : Nat → Nat) (sz : Nat) (sh : Sh) (d : Dt) (x0 : Nat) (x1 : Option Nat) (x2 : Option Nat) {d9 : Dt} (hf : fX3_tell sh d x0 x1 x2 = some d9) : Ct l yX3_tell cX3_tell 4 none 5 118 0 0 A D cy st [.ref x0, va_rf x1, va_rf x2] sz sh d none sz sh d9 := ct_of (by decide) (by simp [lg_sl, va_rf_c, cat_i, cat_l, cat_r]) (fun p e s m args below meth c C hw hS ls hl => wX3_tell_b0 C x0 x1 x2 d hf hw hS (by simpa [lv_args, va_rf_c, cat_i, cat_l, cat_r] using hl))
theorem dX5_same_0 : decode cX5_same 0 = .ok (.aload_n 0, 1) := by decide +kernel
theorem dX5_same_1 : decode cX5_same 1 = .ok (.getfield 15, 3) := by decide +kernel
theorem dX5_same_4 : decode cX5_same 4 = .ok (.aload_n 1, 1) := by decide +kernel
theorem dX5_same_5 : decode cX5_same 5 = .ok (.getfield 15, 3) := by decide +kernel
theorem dX5_same_8 : decode cX5_same 8 = .ok (.if_icmp .eq 5, 3) := by decide +kernel
theorem dX5_same_11 : decode cX5_same 11 = .ok (.iconst 0, 1) := by decide +kernel
theorem dX5_same_12 : decode cX5_same 12 = .ok (.ireturn, 1) := by decide +kernel
theorem dX5_same_13 : decode cX5_same 13 = .ok (.iconst 0, 1) := by decide +kernel
theorem dX5_same_14 : decode cX5_same 14 = .ok (.istore_n 2, 1) := by decide +kernel
theorem dX5_same_15 : decode cX5_same 15 = .ok (.iload_n 2, 1) := by decide +kernel
theorem dX5_same_16 : decode cX5_same 16 = .ok (.aload_n 0, 1) := by decide +kernel
theorem dX5_same_17 : decode cX5_same 17 = .ok (.getfield 15, 3) := by decide +kernel
theorem dX5_same_20 : decode cX5_same 20 = .ok (.if_icmp .ge 27, 3) := by decide +kernel
theorem dX5_same_23 : decode cX5_same 23 = .ok (.aload_n 0, 1) := by decide +kernel
theorem dX5_same_24 : decode cX5_same 24 = .ok (.getfield 9, 3) := by decide +kernel
theorem dX5_same_27 : decode cX5_same 27 = .ok (.iload_n 2, 1) := by decide +kernel
theorem dX5_same_28 : decode cX5_same 28 = .ok (.laload, 1) := by decide +kernel
theorem dX5_same_29 : decode cX5_same 29 = .ok (.aload_n 1, 1) := by decide +kernel
theorem dX5_same_30 : decode cX5_same 30 = .ok (.getfield 9, 3) := by decide +kernel
theorem dX5_same_33 : decode cX5_same 33 = .ok (.iload_n 2, 1) := by decide +kernel
theorem dX5_same_34 : decode cX5_same 34 = .ok (.laload, 1) := by decide +kernel
theorem dX5_same_35 : decode cX5_same 35 = .ok (.lcmp, 1) := by decide +kernel
theorem dX5_same_36 : decode cX5_same 36 = .ok (.ifCond .eq 5, 3) := by decide +kernel
theorem dX5_same_39 : decode cX5_same 39 = .ok (.iconst 0, 1) := by decide +kernel
theorem dX5_same_40 : decode cX5_same 40 = .ok (.ireturn, 1) := by decide +kernel
theorem dX5_same_41 : decode cX5_same 41 = .ok (.iinc 2 1, 3) := by decide +kernel
theorem dX5_same_44 : decode cX5_same 44 = .ok (.goto (-29), 3) := by decide +kernel
theorem dX5_same_47 : decode cX5_same 47 = .ok (.iconst 1, 1) := by decide +kernel
theorem dX5_same_48 : decode cX5_same 48 = .ok (.ireturn, 1) := by decide +kernel
theorem cvX5_same : CV yX5_same cX5_same 3 (some .boolean) 6 1 := ⟨kw_703, kw_704, kw_5, kw_705, ⟨_, _, rfl⟩, by decide, by decide +kernel, by decide +kernel, by decide +kernel⟩
def fX5_same_b15 (sh : Sh) (d : Dt) : Nat → Nat → Option Nat → Int32 → Option (Bool)
  | 0, _, _, _ => none
  | n + 1, x0, x1, x2 => bd (gI sh d 7 225 x0) fun v1 => if v1 ≤ x2 then (some true) else (bd (gR sh d 7 224 x0) fun v3 => bd v3 fun a4 => bd (aL sh d 21 a4 x2) fun v5 => bd x1 fun a6 => bd (gR sh d 7 224 a6) fun v7 => bd v7 fun a8 => bd (aL sh d 21 a8 x2) fun v9 => if (lg_cmp v5 v9) = 0 then (fX5_same_b15 sh d n x0 (some a6) (x2 + 1)) else (some false))

def fX5_same_b0 (sh : Sh) (d : Dt) (x0 : Nat) (x1 : Option Nat) : Option (Bool) := bd (gI sh d 7 225 x0) fun v1 => bd x1 fun a2 => bd (gI sh d 7 225 a2) fun v3 => if v1 = v3 then (fX5_same_b15 sh d fu x0 (some a2) (0 : Int32)) else (some false)

def fX5_same (sh : Sh) (d : Dt) (x0 : Nat) (x1 : Option Nat) : Option (Bool) := fX5_same_b0 sh d x0 x1

set_option maxRecDepth 100000 in
set_option maxHeartbeats 4000000 in
theorem wX5_same_b15 (C : mx p s m args meth c yX5_same cX5_same 3 (some .boolean) A D cy st) {r : Bool} {d : Dt} : ∀ (n : Nat) (x0 : Nat) (x1 : Option Nat) (x2 : Int32), fX5_same_b15 sh d n x0 x1 x2 = some r → ∀ {H : Heap} {locs : List Loc} {ls : Array Slot}, HW A D cy sz sh d H → va_S A s.heap H locs → lv_has ls 3 [(0, .ref x0), (1, va_rf x1), (2, .int x2)] → GL p l e s m args below meth c 0 0 A D cy (some (.int (bI r))) sz sh d H locs 15 ls [] := by
  have hx := C.1
  have hb := C.2.1
  intro n
  induction n with
  | zero => intro x0 x1 x2 hf; cases hf
  | succ n ih =>
    intro x0 x1 x2 hf H locs ls hw hS hl
    rw [fX5_same_b15] at hf
    refine lv_iload_n hx hb dX5_same_15 rfl (lv_at hl 2 rfl) ?_
    refine lv_aload_n hx hb dX5_same_16 rfl (lv_at hl 0 rfl) ?_
    obtain ⟨v1, hv1, hf⟩ := bd_s hf
    refine gt_225 C hw hv1 kw_63 dX5_same_17 ?_
    refine lv_icmp_ge (tgt := 47) hx hb dX5_same_20 (by decide) (fun c_2 => ?_) (fun c_2 => ?_)
    · have hf := if_t c_2 hf
      refine lv_iconst (v := 1) hx hb dX5_same_47 (by decide) ?_
      cases hf
      exact rt_z C hw hS _ rfl dX5_same_48
    · have hf := if_f c_2 hf
      refine lv_aload_n hx hb dX5_same_23 rfl (lv_at hl 0 rfl) ?_
      obtain ⟨v3, hv3, hf⟩ := bd_s hf
      refine gt_224 C hw hv3 kw_62 dX5_same_24 ?_
      refine lv_iload_n hx hb dX5_same_27 rfl (lv_at hl 2 rfl) ?_
      obtain ⟨a4, ea4, hg⟩ := bd_s hf
      clear hf
      subst ea4
      have hf := hg
      clear hg
      obtain ⟨v5, hv5, hf⟩ := bd_s hf
      refine w_lald C hw hv5 dX5_same_28 ?_
      refine lq_aload_n hx hb dX5_same_29 rfl (lv_at hl 1 rfl) ?_
      obtain ⟨a6, ea6, hg⟩ := bd_s hf
      clear hf
      subst ea6
      have hf := hg
      clear hg
      obtain ⟨v7, hv7, hf⟩ := bd_s hf
      refine gt_224 C hw hv7 kw_62 dX5_same_30 ?_
      refine lv_iload_n hx hb dX5_same_33 rfl (lv_at hl 2 rfl) ?_
      obtain ⟨a8, ea8, hg⟩ := bd_s hf
      clear hf
      subst ea8
      have hf := hg
      clear hg
      obtain ⟨v9, hv9, hf⟩ := bd_s hf
      refine w_lald C hw hv9 dX5_same_34 ?_
      refine W.lcmp hx hb dX5_same_35 ?_
      refine lv_if_eq (tgt := 41) hx hb dX5_same_36 (by decide) (fun c_10 => ?_) (fun c_10 => ?_)
      · have hf := if_t c_10 hf
        refine lv_iinc (v := (x2 + 1)) (lv' := [(2, .int (x2 + 1)), (0, .ref x0), (1, va_rf (some a6))]) hx hb dX5_same_41 hl (k := 2) rfl rfl (by decide) (by simp [va_rf_c, cat_i, cat_l, cat_r]) (fun ls hl => ?_)
        refine lv_goto (tgt := 15) hx hb dX5_same_44 (by decide) ?_
        exact ih x0 (some a6) (x2 + 1) hf hw hS (lv_sub hl [1, 2, 0] rfl)
      · have hf := if_f c_10 hf
        refine lv_iconst (v := 0) hx hb dX5_same_39 (by decide) ?_
        cases hf
        exact rt_z C hw hS _ rfl dX5_same_40

set_option maxRecDepth 100000 in
set_option maxHeartbeats 4000000 in
theorem wX5_same_b0 (C : mx p s m args meth c yX5_same cX5_same 3 (some .boolean) A D cy st) {r : Bool} {d : Dt} : ∀ (x0 : Nat) (x1 : Option Nat), fX5_same_b0 sh d x0 x1 = some r → ∀ {H : Heap} {locs : List Loc} {ls : Array Slot}, HW A D cy sz sh d H → va_S A s.heap H locs → lv_has ls 3 [(0, .ref x0), (1, va_rf x1)] → GL p l e s m args below meth c 0 0 A D cy (some (.int (bI r))) sz sh d H locs 0 ls [] := by
  have hx := C.1
  have hb := C.2.1
  intro x0 x1 hf H locs ls hw hS hl
  unfold fX5_same_b0 at hf
  refine lv_aload_n hx hb dX5_same_0 rfl (lv_at hl 0 rfl) ?_
  obtain ⟨v1, hv1, hf⟩ := bd_s hf
  refine gt_225 C hw hv1 kw_63 dX5_same_1 ?_
  refine lq_aload_n hx hb dX5_same_4 rfl (lv_at hl 1 rfl) ?_
  obtain ⟨a2, ea2, hg⟩ := bd_s hf
  clear hf
  subst ea2
  have hf := hg
  clear hg
  obtain ⟨v3, hv3, hf⟩ := bd_s hf
  refine gt_225 C hw hv3 kw_63 dX5_same_5 ?_
  refine lv_icmp_eq (tgt := 13) hx hb dX5_same_8 (by decide) (fun c_4 => ?_) (fun c_4 => ?_)
  · have hf := if_t c_4 hf
    refine lv_iconst (v := 0) hx hb dX5_same_13 (by decide) ?_
    refine lv_istore_n (i := 2) (lv' := [(2, .int (0 : Int32)), (0, .ref x0), (1, va_rf (some a2))]) hx hb dX5_same_14 rfl hl (by decide) (by simp [va_rf_c, cat_i, cat_l, cat_r]) (fun ls hl => ?_)
    exact wX5_same_b15 C fu x0 (some a2) (0 : Int32) hf hw hS (lv_sub hl [1, 2, 0] rfl)
  · have hf := if_f c_4 hf
    refine lv_iconst (v := 0) hx hb dX5_same_11 (by decide) ?_
    cases hf
    exact rt_z C hw hS _ rfl dX5_same_12

set_option maxRecDepth 100000 in
set_option maxHeartbeats 4000000 in
theorem tX5_same (l : Launch) (A : Nat → Prop) (D : va_G) (cy : Nat → ClassId) (st : Nat → Nat) (sz : Nat) (sh : Sh) (d : Dt) (x0 : Nat) (x1 : Option Nat) {r : Bool} (hf : fX5_same sh d x0 x1 = some r) : Ct l yX5_same cX5_same 3 (some .boolean) 0 0 0 0 A D cy st [.ref x0, va_rf x1] sz sh d (some (.int (bI r))) sz sh d := ct_of (by decide) (by simp [lg_sl, va_rf_c, cat_i, cat_l, cat_r]) (fun p e s m args below meth c C hw hS ls hl => wX5_same_b0 C x0 x1 hf hw hS (by simpa [lv_args, va_rf_c, cat_i, cat_l, cat_r] using hl))
theorem dX2_renew_0 : decode cX2_renew 0 = .ok (.aload_n 0, 1) := by decide +kernel
theorem dX2_renew_1 : decode cX2_renew 1 = .ok (.iload_n 1, 1) := by decide +kernel
theorem dX2_renew_2 : decode cX2_renew 2 = .ok (.putfield 19, 3) := by decide +kernel
theorem dX2_renew_5 : decode cX2_renew 5 = .ok (.iconst 0, 1) := by decide +kernel
theorem dX2_renew_6 : decode cX2_renew 6 = .ok (.istore_n 2, 1) := by decide +kernel
theorem dX2_renew_7 : decode cX2_renew 7 = .ok (.iload_n 2, 1) := by decide +kernel
theorem dX2_renew_8 : decode cX2_renew 8 = .ok (.bipush 16, 2) := by decide +kernel
theorem dX2_renew_10 : decode cX2_renew 10 = .ok (.if_icmp .ge 16, 3) := by decide +kernel
theorem dX2_renew_13 : decode cX2_renew 13 = .ok (.aload_n 0, 1) := by decide +kernel
theorem dX2_renew_14 : decode cX2_renew 14 = .ok (.getfield 15, 3) := by decide +kernel
theorem dX2_renew_17 : decode cX2_renew 17 = .ok (.iload_n 2, 1) := by decide +kernel
theorem dX2_renew_18 : decode cX2_renew 18 = .ok (.iconst (-1), 1) := by decide +kernel
theorem dX2_renew_19 : decode cX2_renew 19 = .ok (.iastore, 1) := by decide +kernel
theorem dX2_renew_20 : decode cX2_renew 20 = .ok (.iinc 2 1, 3) := by decide +kernel
theorem dX2_renew_23 : decode cX2_renew 23 = .ok (.goto (-16), 3) := by decide +kernel
theorem dX2_renew_26 : decode cX2_renew 26 = .ok (.return_, 1) := by decide +kernel
theorem cvX2_renew : CV yX2_renew cX2_renew 3 none 3 1 := ⟨kw_711, kw_712, kw_9, kw_713, ⟨_, _, rfl⟩, by decide, by decide +kernel, by decide +kernel, by decide +kernel⟩
def fX2_renew_b7 (sh : Sh) : Nat → Nat → Int32 → Dt → Option (Dt)
  | 0, _, _, _ => none
  | n + 1, x0, x2, d => if (16 : Int32) ≤ x2 then (some (d)) else (bd (gR sh d 4 129 x0) fun v2 => bd v2 fun a3 => bd (sI sh d 20 a3 x2 (-1 : Int32)) fun d4 => fX2_renew_b7 sh n x0 (x2 + 1) d4)

def fX2_renew_b0 (sh : Sh) (x0 : Nat) (x1 : Int32) (d : Dt) : Option (Dt) := bd (pI sh d 4 130 x0 x1) fun d1 => fX2_renew_b7 sh fu x0 (0 : Int32) d1

def fX2_renew (sh : Sh) (d : Dt) (x0 : Nat) (x1 : Int32) : Option (Dt) := fX2_renew_b0 sh x0 x1 d

set_option maxRecDepth 100000 in
set_option maxHeartbeats 4000000 in
theorem wX2_renew_b7 (C : mx p s m args meth c yX2_renew cX2_renew 3 none A D cy st) {d9 : Dt} : ∀ (n : Nat) (x0 : Nat) (x2 : Int32) (d : Dt), fX2_renew_b7 sh n x0 x2 d = some d9 → ∀ {H : Heap} {locs : List Loc} {ls : Array Slot}, HW A D cy sz sh d H → va_S A s.heap H locs → lv_has ls 3 [(0, .ref x0), (2, .int x2)] → GL p l e s m args below meth c 0 0 A D cy none sz sh d9 H locs 7 ls [] := by
  have hx := C.1
  have hb := C.2.1
  intro n
  induction n with
  | zero => intro x0 x2 d hf; cases hf
  | succ n ih =>
    intro x0 x2 d hf H locs ls hw hS hl
    rw [fX2_renew_b7] at hf
    refine lv_iload_n hx hb dX2_renew_7 rfl (lv_at hl 1 rfl) ?_
    refine lv_bipush (v := 16) hx hb dX2_renew_8 (by decide) ?_
    refine lv_icmp_ge (tgt := 26) hx hb dX2_renew_10 (by decide) (fun c_1 => ?_) (fun c_1 => ?_)
    · have hf := if_t c_1 hf
      cases hf
      exact rt_v C hw hS dX2_renew_26
    · have hf := if_f c_1 hf
      refine lv_aload_n hx hb dX2_renew_13 rfl (lv_at hl 0 rfl) ?_
      obtain ⟨v2, hv2, hf⟩ := bd_s hf
      refine gt_129 C hw hv2 kw_138 dX2_renew_14 ?_
      refine lv_iload_n hx hb dX2_renew_17 rfl (lv_at hl 1 rfl) ?_
      refine lv_iconst (v := -1) hx hb dX2_renew_18 (by decide) ?_
      obtain ⟨a3, ea3, hg⟩ := bd_s hf
      clear hf
      subst ea3
      have hf := hg
      clear hg
      obtain ⟨d4, hd4, hf⟩ := bd_s hf
      refine w_iast C hw hS hd4 dX2_renew_19 (fun H locs hw hS => ?_)
      refine lv_iinc (v := (x2 + 1)) (lv' := [(2, .int (x2 + 1)), (0, .ref x0)]) hx hb dX2_renew_20 hl (k := 1) rfl rfl (by decide) rfl (fun ls hl => ?_)
      refine lv_goto (tgt := 7) hx hb dX2_renew_23 (by decide) ?_
      exact ih x0 (x2 + 1) d4 hf hw hS (lv_sub hl [1, 0] rfl)

set_option maxRecDepth 100000 in
set_option maxHeartbeats 4000000 in
theorem wX2_renew_b0 (C : mx p s m args meth c yX2_renew cX2_renew 3 none A D cy st) {d9 : Dt} : ∀ (x0 : Nat) (x1 : Int32) (d : Dt), fX2_renew_b0 sh x0 x1 d = some d9 → ∀ {H : Heap} {locs : List Loc} {ls : Array Slot}, HW A D cy sz sh d H → va_S A s.heap H locs → lv_has ls 3 [(0, .ref x0), (1, .int x1)] → GL p l e s m args below meth c 0 0 A D cy none sz sh d9 H locs 0 ls [] := by
  have hx := C.1
  have hb := C.2.1
  intro x0 x1 d hf H locs ls hw hS hl
  unfold fX2_renew_b0 at hf
  refine lv_aload_n hx hb dX2_renew_0 rfl (lv_at hl 0 rfl) ?_
  refine lv_iload_n hx hb dX2_renew_1 rfl (lv_at hl 1 rfl) ?_
  obtain ⟨d1, hd1, hf⟩ := bd_s hf
  refine pt_130 C hw hS hd1 kw_139 dX2_renew_2 (fun H locs hw hS => ?_)
  refine lv_iconst (v := 0) hx hb dX2_renew_5 (by decide) ?_
  refine lv_istore_n (lv' := [(2, .int (0 : Int32)), (0, .ref x0), (1, .int x1)]) hx hb dX2_renew_6 rfl hl (by decide) rfl (fun ls hl => ?_)
  exact wX2_renew_b7 C fu x0 (0 : Int32) d1 hf hw hS (lv_sub hl [1, 0] rfl)

set_option maxRecDepth 100000 in
set_option maxHeartbeats 4000000 in
theorem tX2_renew (l : Launch) (A : Nat → Prop) (D : va_G) (cy : Nat → ClassId) (st : Nat → Nat) (sz : Nat) (sh : Sh) (d : Dt) (x0 : Nat) (x1 : Int32) {d9 : Dt} (hf : fX2_renew sh d x0 x1 = some d9) : Ct l yX2_renew cX2_renew 3 none 0 0 0 0 A D cy st [.ref x0, .int x1] sz sh d none sz sh d9 := ct_of (by decide) (Nat.le_of_ble_eq_true rfl) (fun p e s m args below meth c C hw hS ls hl => wX2_renew_b0 C x0 x1 d hf hw hS hl)
theorem dX2_spans_0 : decode cX2_spans 0 = .ok (.iload_n 1, 1) := by decide +kernel
theorem dX2_spans_1 : decode cX2_spans 1 = .ok (.ifCond .lt 29, 3) := by decide +kernel
theorem dX2_spans_4 : decode cX2_spans 4 = .ok (.iload_n 2, 1) := by decide +kernel
theorem dX2_spans_5 : decode cX2_spans 5 = .ok (.ifCond .lt 25, 3) := by decide +kernel
theorem dX2_spans_8 : decode cX2_spans 8 = .ok (.iload_n 2, 1) := by decide +kernel
theorem dX2_spans_9 : decode cX2_spans 9 = .ok (.aload_n 0, 1) := by decide +kernel
theorem dX2_spans_10 : decode cX2_spans 10 = .ok (.getfield 19, 3) := by decide +kernel
theorem dX2_spans_13 : decode cX2_spans 13 = .ok (.if_icmp .gt 17, 3) := by decide +kernel
theorem dX2_spans_16 : decode cX2_spans 16 = .ok (.iload_n 1, 1) := by decide +kernel
theorem dX2_spans_17 : decode cX2_spans 17 = .ok (.aload_n 0, 1) := by decide +kernel
theorem dX2_spans_18 : decode cX2_spans 18 = .ok (.getfield 19, 3) := by decide +kernel
theorem dX2_spans_21 : decode cX2_spans 21 = .ok (.iload_n 2, 1) := by decide +kernel
theorem dX2_spans_22 : decode cX2_spans 22 = .ok (.isub, 1) := by decide +kernel
theorem dX2_spans_23 : decode cX2_spans 23 = .ok (.if_icmp .gt 7, 3) := by decide +kernel
theorem dX2_spans_26 : decode cX2_spans 26 = .ok (.iconst 1, 1) := by decide +kernel
theorem dX2_spans_27 : decode cX2_spans 27 = .ok (.goto 4, 3) := by decide +kernel
theorem dX2_spans_30 : decode cX2_spans 30 = .ok (.iconst 0, 1) := by decide +kernel
theorem dX2_spans_31 : decode cX2_spans 31 = .ok (.ireturn, 1) := by decide +kernel
theorem cvX2_spans : CV yX2_spans cX2_spans 3 (some .boolean) 3 2 := ⟨kw_719, kw_720, kw_9, kw_721, ⟨_, _, rfl⟩, by decide, by decide +kernel, by decide +kernel, by decide +kernel⟩
def fX2_spans_b0 (sh : Sh) (d : Dt) (x0 : Nat) (x1 : Int32) (x2 : Int32) : Option (Bool) := if x1 < 0 then (some false) else (if x2 < 0 then (some false) else (bd (gI sh d 4 130 x0) fun v3 => if v3 < x2 then (some false) else (bd (gI sh d 4 130 x0) fun v5 => if (v5 - x2) < x1 then (some false) else (some true))))

def fX2_spans (sh : Sh) (d : Dt) (x0 : Nat) (x1 : Int32) (x2 : Int32) : Option (Bool) := fX2_spans_b0 sh d x0 x1 x2

set_option maxRecDepth 100000 in
set_option maxHeartbeats 4000000 in
theorem wX2_spans_b0 (C : mx p s m args meth c yX2_spans cX2_spans 3 (some .boolean) A D cy st) {r : Bool} {d : Dt} : ∀ (x0 : Nat) (x1 : Int32) (x2 : Int32), fX2_spans_b0 sh d x0 x1 x2 = some r → ∀ {H : Heap} {locs : List Loc} {ls : Array Slot}, HW A D cy sz sh d H → va_S A s.heap H locs → lv_has ls 3 [(0, .ref x0), (1, .int x1), (2, .int x2)] → GL p l e s m args below meth c 0 0 A D cy (some (.int (bI r))) sz sh d H locs 0 ls [] := by
  have hx := C.1
  have hb := C.2.1
  intro x0 x1 x2 hf H locs ls hw hS hl
  unfold fX2_spans_b0 at hf
  refine lv_iload_n hx hb dX2_spans_0 rfl (lv_at hl 1 rfl) ?_
  refine lv_if_lt (tgt := 30) hx hb dX2_spans_1 (by decide) (fun c_1 => ?_) (fun c_1 => ?_)
  · have hf := if_t c_1 hf
    refine lv_iconst (v := 0) hx hb dX2_spans_30 (by decide) ?_
    cases hf
    exact rt_z C hw hS _ rfl dX2_spans_31
  · have hf := if_f c_1 hf
    refine lv_iload_n hx hb dX2_spans_4 rfl (lv_at hl 2 rfl) ?_
    refine lv_if_lt (tgt := 30) hx hb dX2_spans_5 (by decide) (fun c_2 => ?_) (fun c_2 => ?_)
    · have hf := if_t c_2 hf
      refine lv_iconst (v := 0) hx hb dX2_spans_30 (by decide) ?_
      cases hf
      exact rt_z C hw hS _ rfl dX2_spans_31
    · have hf := if_f c_2 hf
      refine lv_iload_n hx hb dX2_spans_8 rfl (lv_at hl 2 rfl) ?_
      refine lv_aload_n hx hb dX2_spans_9 rfl (lv_at hl 0 rfl) ?_
      obtain ⟨v3, hv3, hf⟩ := bd_s hf
      refine gt_130 C hw hv3 kw_139 dX2_spans_10 ?_
      refine lv_icmp_gt (tgt := 30) hx hb dX2_spans_13 (by decide) (fun c_4 => ?_) (fun c_4 => ?_)
      · have hf := if_t c_4 hf
        refine lv_iconst (v := 0) hx hb dX2_spans_30 (by decide) ?_
        cases hf
        exact rt_z C hw hS _ rfl dX2_spans_31
      · have hf := if_f c_4 hf
        refine lv_iload_n hx hb dX2_spans_16 rfl (lv_at hl 1 rfl) ?_
        refine lv_aload_n hx hb dX2_spans_17 rfl (lv_at hl 0 rfl) ?_
        obtain ⟨v5, hv5, hf⟩ := bd_s hf
        refine gt_130 C hw hv5 kw_139 dX2_spans_18 ?_
        refine lv_iload_n hx hb dX2_spans_21 rfl (lv_at hl 2 rfl) ?_
        refine lv_isub hx hb dX2_spans_22 ?_
        refine lv_icmp_gt (tgt := 30) hx hb dX2_spans_23 (by decide) (fun c_6 => ?_) (fun c_6 => ?_)
        · have hf := if_t c_6 hf
          refine lv_iconst (v := 0) hx hb dX2_spans_30 (by decide) ?_
          cases hf
          exact rt_z C hw hS _ rfl dX2_spans_31
        · have hf := if_f c_6 hf
          refine lv_iconst (v := 1) hx hb dX2_spans_26 (by decide) ?_
          refine lv_goto (tgt := 31) hx hb dX2_spans_27 (by decide) ?_
          cases hf
          exact rt_z C hw hS _ rfl dX2_spans_31

set_option maxRecDepth 100000 in
set_option maxHeartbeats 4000000 in
theorem tX2_spans (l : Launch) (A : Nat → Prop) (D : va_G) (cy : Nat → ClassId) (st : Nat → Nat) (sz : Nat) (sh : Sh) (d : Dt) (x0 : Nat) (x1 : Int32) (x2 : Int32) {r : Bool} (hf : fX2_spans sh d x0 x1 x2 = some r) : Ct l yX2_spans cX2_spans 3 (some .boolean) 0 0 0 0 A D cy st [.ref x0, .int x1, .int x2] sz sh d (some (.int (bI r))) sz sh d := ct_of (by decide) (Nat.le_of_ble_eq_true rfl) (fun p e s m args below meth c C hw hS ls hl => wX2_spans_b0 C x0 x1 x2 hf hw hS hl)
theorem dX2_store_0 : decode cX2_store 0 = .ok (.aload_n 0, 1) := by decide +kernel
theorem dX2_store_1 : decode cX2_store 1 = .ok (.getfield 9, 3) := by decide +kernel
theorem dX2_store_4 : decode cX2_store 4 = .ok (.iload_n 1, 1) := by decide +kernel
theorem dX2_store_5 : decode cX2_store 5 = .ok (.lload_n 2, 1) := by decide +kernel
theorem dX2_store_6 : decode cX2_store 6 = .ok (.lastore, 1) := by decide +kernel
theorem dX2_store_7 : decode cX2_store 7 = .ok (.aload_n 0, 1) := by decide +kernel
theorem dX2_store_8 : decode cX2_store 8 = .ok (.getfield 15, 3) := by decide +kernel
theorem dX2_store_11 : decode cX2_store 11 = .ok (.iload_n 1, 1) := by decide +kernel
theorem dX2_store_12 : decode cX2_store 12 = .ok (.iconst 1, 1) := by decide +kernel
theorem dX2_store_13 : decode cX2_store 13 = .ok (.iastore, 1) := by decide +kernel
theorem dX2_store_14 : decode cX2_store 14 = .ok (.return_, 1) := by decide +kernel
theorem cvX2_store : CV yX2_store cX2_store 4 none 3 2 := ⟨kw_723, kw_724, kw_9, kw_725, ⟨_, _, rfl⟩, by decide, by decide +kernel, by decide +kernel, by decide +kernel⟩
def fX2_store_b0 (sh : Sh) (x0 : Nat) (x1 : Int32) (x2 : Int64) (d : Dt) : Option (Dt) := bd (gR sh d 4 128 x0) fun v1 => bd v1 fun a2 => bd (sL sh d 21 a2 x1 x2) fun d3 => bd (gR sh d3 4 129 x0) fun v4 => bd v4 fun a5 => bd (sI sh d3 20 a5 x1 (1 : Int32)) fun d6 => some (d6)

def fX2_store (sh : Sh) (d : Dt) (x0 : Nat) (x1 : Int32) (x2 : Int64) : Option (Dt) := fX2_store_b0 sh x0 x1 x2 d

set_option maxRecDepth 100000 in
set_option maxHeartbeats 4000000 in
theorem wX2_store_b0 (C : mx p s m args meth c yX2_store cX2_store 4 none A D cy st) {d9 : Dt} : ∀ (x0 : Nat) (x1 : Int32) (x2 : Int64) (d : Dt), fX2_store_b0 sh x0 x1 x2 d = some d9 → ∀ {H : Heap} {locs : List Loc} {ls : Array Slot}, HW A D cy sz sh d H → va_S A s.heap H locs → lv_has ls 4 [(0, .ref x0), (1, .int x1), (2, .long x2)] → GL p l e s m args below meth c 0 0 A D cy none sz sh d9 H locs 0 ls [] := by
  have hx := C.1
  have hb := C.2.1
  intro x0 x1 x2 d hf H locs ls hw hS hl
  unfold fX2_store_b0 at hf
  refine lv_aload_n hx hb dX2_store_0 rfl (lv_at hl 0 rfl) ?_
  obtain ⟨v1, hv1, hf⟩ := bd_s hf
  refine gt_128 C hw hv1 kw_136 dX2_store_1 ?_
  refine lv_iload_n hx hb dX2_store_4 rfl (lv_at hl 1 rfl) ?_
  refine lv_lload_n hx hb dX2_store_5 rfl (lv_at hl 2 rfl) ?_
  obtain ⟨a2, ea2, hg⟩ := bd_s hf
  clear hf
  subst ea2
  have hf := hg
  clear hg
  obtain ⟨d3, hd3, hf⟩ := bd_s hf
  refine w_last C hw hS hd3 dX2_store_6 (fun H locs hw hS => ?_)
  refine lv_aload_n hx hb dX2_store_7 rfl (lv_at hl 0 rfl) ?_
  obtain ⟨v4, hv4, hf⟩ := bd_s hf
  refine gt_129 C hw hv4 kw_138 dX2_store_8 ?_
  refine lv_iload_n hx hb dX2_store_11 rfl (lv_at hl 1 rfl) ?_
  refine lv_iconst (v := 1) hx hb dX2_store_12 (by decide) ?_
  obtain ⟨a5, ea5, hg⟩ := bd_s hf
  clear hf
  subst ea5
  have hf := hg
  clear hg
  obtain ⟨d6, hd6, hf⟩ := bd_s hf
  refine w_iast C hw hS hd6 dX2_store_13 (fun H locs hw hS => ?_)
  cases hf
  exact rt_v C hw hS dX2_store_14

set_option maxRecDepth 100000 in
set_option maxHeartbeats 4000000 in
theorem tX2_store (l : Launch) (A : Nat → Prop) (D : va_G) (cy : Nat → ClassId) (st : Nat → Nat) (sz : Nat) (sh : Sh) (d : Dt) (x0 : Nat) (x1 : Int32) (x2 : Int64) {d9 : Dt} (hf : fX2_store sh d x0 x1 x2 = some d9) : Ct l yX2_store cX2_store 4 none 0 0 0 0 A D cy st [.ref x0, .int x1, .long x2] sz sh d none sz sh d9 := ct_of (by decide) (Nat.le_of_ble_eq_true rfl) (fun p e s m args below meth c C hw hS ls hl => wX2_store_b0 C x0 x1 x2 d hf hw hS hl)
theorem dX2_isThere_0 : decode cX2_isThere 0 = .ok (.aload_n 0, 1) := by decide +kernel
theorem dX2_isThere_1 : decode cX2_isThere 1 = .ok (.getfield 15, 3) := by decide +kernel
theorem dX2_isThere_4 : decode cX2_isThere 4 = .ok (.iload_n 1, 1) := by decide +kernel
theorem dX2_isThere_5 : decode cX2_isThere 5 = .ok (.iaload, 1) := by decide +kernel
theorem dX2_isThere_6 : decode cX2_isThere 6 = .ok (.iconst 1, 1) := by decide +kernel
theorem dX2_isThere_7 : decode cX2_isThere 7 = .ok (.if_icmp .ne 7, 3) := by decide +kernel
theorem dX2_isThere_10 : decode cX2_isThere 10 = .ok (.iconst 1, 1) := by decide +kernel
theorem dX2_isThere_11 : decode cX2_isThere 11 = .ok (.goto 4, 3) := by decide +kernel
theorem dX2_isThere_14 : decode cX2_isThere 14 = .ok (.iconst 0, 1) := by decide +kernel
theorem dX2_isThere_15 : decode cX2_isThere 15 = .ok (.ireturn, 1) := by decide +kernel
theorem cvX2_isThere : CV yX2_isThere cX2_isThere 2 (some .boolean) 3 1 := ⟨kw_735, kw_736, kw_9, kw_737, ⟨_, _, rfl⟩, by decide, by decide +kernel, by decide +kernel, by decide +kernel⟩
def fX2_isThere_b0 (sh : Sh) (d : Dt) (x0 : Nat) (x1 : Int32) : Option (Bool) := bd (gR sh d 4 129 x0) fun v1 => bd v1 fun a2 => bd (aI sh d 20 a2 x1) fun v3 => if v3 = (1 : Int32) then (some true) else (some false)

def fX2_isThere (sh : Sh) (d : Dt) (x0 : Nat) (x1 : Int32) : Option (Bool) := fX2_isThere_b0 sh d x0 x1

set_option maxRecDepth 100000 in
set_option maxHeartbeats 4000000 in
theorem wX2_isThere_b0 (C : mx p s m args meth c yX2_isThere cX2_isThere 2 (some .boolean) A D cy st) {r : Bool} {d : Dt} : ∀ (x0 : Nat) (x1 : Int32), fX2_isThere_b0 sh d x0 x1 = some r → ∀ {H : Heap} {locs : List Loc} {ls : Array Slot}, HW A D cy sz sh d H → va_S A s.heap H locs → lv_has ls 2 [(0, .ref x0), (1, .int x1)] → GL p l e s m args below meth c 0 0 A D cy (some (.int (bI r))) sz sh d H locs 0 ls [] := by
  have hx := C.1
  have hb := C.2.1
  intro x0 x1 hf H locs ls hw hS hl
  unfold fX2_isThere_b0 at hf
  refine lv_aload_n hx hb dX2_isThere_0 rfl (lv_at hl 0 rfl) ?_
  obtain ⟨v1, hv1, hf⟩ := bd_s hf
  refine gt_129 C hw hv1 kw_138 dX2_isThere_1 ?_
  refine lv_iload_n hx hb dX2_isThere_4 rfl (lv_at hl 1 rfl) ?_
  obtain ⟨a2, ea2, hg⟩ := bd_s hf
  clear hf
  subst ea2
  have hf := hg
  clear hg
  obtain ⟨v3, hv3, hf⟩ := bd_s hf
  refine w_iald C hw hv3 dX2_isThere_5 ?_
  refine lv_iconst (v := 1) hx hb dX2_isThere_6 (by decide) ?_
  refine lv_icmp_ne (tgt := 14) hx hb dX2_isThere_7 (by decide) (fun c_4 => ?_) (fun c_4 => ?_)
  · have hf := if_f c_4 hf
    refine lv_iconst (v := 0) hx hb dX2_isThere_14 (by decide) ?_
    cases hf
    exact rt_z C hw hS _ rfl dX2_isThere_15
  · have hf := if_t c_4 hf
    refine lv_iconst (v := 1) hx hb dX2_isThere_10 (by decide) ?_
    refine lv_goto (tgt := 15) hx hb dX2_isThere_11 (by decide) ?_
    cases hf
    exact rt_z C hw hS _ rfl dX2_isThere_15

set_option maxRecDepth 100000 in
set_option maxHeartbeats 4000000 in
theorem tX2_isThere (l : Launch) (A : Nat → Prop) (D : va_G) (cy : Nat → ClassId) (st : Nat → Nat) (sz : Nat) (sh : Sh) (d : Dt) (x0 : Nat) (x1 : Int32) {r : Bool} (hf : fX2_isThere sh d x0 x1 = some r) : Ct l yX2_isThere cX2_isThere 2 (some .boolean) 0 0 0 0 A D cy st [.ref x0, .int x1] sz sh d (some (.int (bI r))) sz sh d := ct_of (by decide) (Nat.le_of_ble_eq_true rfl) (fun p e s m args below meth c C hw hS ls hl => wX2_isThere_b0 C x0 x1 hf hw hS hl)
theorem dX2_drop_0 : decode cX2_drop 0 = .ok (.aload_n 0, 1) := by decide +kernel
theorem dX2_drop_1 : decode cX2_drop 1 = .ok (.getfield 15, 3) := by decide +kernel
theorem dX2_drop_4 : decode cX2_drop 4 = .ok (.iload_n 1, 1) := by decide +kernel
theorem dX2_drop_5 : decode cX2_drop 5 = .ok (.iconst (-1), 1) := by decide +kernel
theorem dX2_drop_6 : decode cX2_drop 6 = .ok (.iastore, 1) := by decide +kernel
theorem dX2_drop_7 : decode cX2_drop 7 = .ok (.return_, 1) := by decide +kernel
theorem cvX2_drop : CV yX2_drop cX2_drop 2 none 3 1 := ⟨kw_739, kw_740, kw_9, kw_741, ⟨_, _, rfl⟩, by decide, by decide +kernel, by decide +kernel, by decide +kernel⟩
def fX2_drop_b0 (sh : Sh) (x0 : Nat) (x1 : Int32) (d : Dt) : Option (Dt) := bd (gR sh d 4 129 x0) fun v1 => bd v1 fun a2 => bd (sI sh d 20 a2 x1 (-1 : Int32)) fun d3 => some (d3)

def fX2_drop (sh : Sh) (d : Dt) (x0 : Nat) (x1 : Int32) : Option (Dt) := fX2_drop_b0 sh x0 x1 d

set_option maxRecDepth 100000 in
set_option maxHeartbeats 4000000 in
theorem wX2_drop_b0 (C : mx p s m args meth c yX2_drop cX2_drop 2 none A D cy st) {d9 : Dt} : ∀ (x0 : Nat) (x1 : Int32) (d : Dt), fX2_drop_b0 sh x0 x1 d = some d9 → ∀ {H : Heap} {locs : List Loc} {ls : Array Slot}, HW A D cy sz sh d H → va_S A s.heap H locs → lv_has ls 2 [(0, .ref x0), (1, .int x1)] → GL p l e s m args below meth c 0 0 A D cy none sz sh d9 H locs 0 ls [] := by
  have hx := C.1
  have hb := C.2.1
  intro x0 x1 d hf H locs ls hw hS hl
  unfold fX2_drop_b0 at hf
  refine lv_aload_n hx hb dX2_drop_0 rfl (lv_at hl 0 rfl) ?_
  obtain ⟨v1, hv1, hf⟩ := bd_s hf
  refine gt_129 C hw hv1 kw_138 dX2_drop_1 ?_
  refine lv_iload_n hx hb dX2_drop_4 rfl (lv_at hl 1 rfl) ?_
  refine lv_iconst (v := -1) hx hb dX2_drop_5 (by decide) ?_
  obtain ⟨a2, ea2, hg⟩ := bd_s hf
  clear hf
  subst ea2
  have hf := hg
  clear hg
  obtain ⟨d3, hd3, hf⟩ := bd_s hf
  refine w_iast C hw hS hd3 dX2_drop_6 (fun H locs hw hS => ?_)
  cases hf
  exact rt_v C hw hS dX2_drop_7

set_option maxRecDepth 100000 in
set_option maxHeartbeats 4000000 in
theorem tX2_drop (l : Launch) (A : Nat → Prop) (D : va_G) (cy : Nat → ClassId) (st : Nat → Nat) (sz : Nat) (sh : Sh) (d : Dt) (x0 : Nat) (x1 : Int32) {d9 : Dt} (hf : fX2_drop sh d x0 x1 = some d9) : Ct l yX2_drop cX2_drop 2 none 0 0 0 0 A D cy st [.ref x0, .int x1] sz sh d none sz sh d9 := ct_of (by decide) (Nat.le_of_ble_eq_true rfl) (fun p e s m args below meth c C hw hS ls hl => wX2_drop_b0 C x0 x1 d hf hw hS hl)
theorem dX2_copyTo_0 : decode cX2_copyTo 0 = .ok (.aload_n 0, 1) := by decide +kernel
theorem dX2_copyTo_1 : decode cX2_copyTo 1 = .ok (.getfield 9, 3) := by decide +kernel
theorem dX2_copyTo_4 : decode cX2_copyTo 4 = .ok (.iload_n 1, 1) := by decide +kernel
theorem dX2_copyTo_5 : decode cX2_copyTo 5 = .ok (.aload_n 2, 1) := by decide +kernel
theorem dX2_copyTo_6 : decode cX2_copyTo 6 = .ok (.getfield 9, 3) := by decide +kernel
theorem dX2_copyTo_9 : decode cX2_copyTo 9 = .ok (.iload_n 3, 1) := by decide +kernel
theorem dX2_copyTo_10 : decode cX2_copyTo 10 = .ok (.iload 4, 2) := by decide +kernel
theorem dX2_copyTo_12 : decode cX2_copyTo 12 = .ok (.invokestatic 23, 3) := by decide +kernel
theorem dX2_copyTo_15 : decode cX2_copyTo 15 = .ok (.aload_n 0, 1) := by decide +kernel
theorem dX2_copyTo_16 : decode cX2_copyTo 16 = .ok (.getfield 15, 3) := by decide +kernel
theorem dX2_copyTo_19 : decode cX2_copyTo 19 = .ok (.iload_n 1, 1) := by decide +kernel
theorem dX2_copyTo_20 : decode cX2_copyTo 20 = .ok (.aload_n 2, 1) := by decide +kernel
theorem dX2_copyTo_21 : decode cX2_copyTo 21 = .ok (.getfield 15, 3) := by decide +kernel
theorem dX2_copyTo_24 : decode cX2_copyTo 24 = .ok (.iload_n 3, 1) := by decide +kernel
theorem dX2_copyTo_25 : decode cX2_copyTo 25 = .ok (.iload 4, 2) := by decide +kernel
theorem dX2_copyTo_27 : decode cX2_copyTo 27 = .ok (.invokestatic 23, 3) := by decide +kernel
theorem dX2_copyTo_30 : decode cX2_copyTo 30 = .ok (.return_, 1) := by decide +kernel
theorem cvX2_copyTo : CV yX2_copyTo cX2_copyTo 5 none 3 4 := ⟨kw_751, kw_752, kw_9, kw_753, ⟨_, _, rfl⟩, by decide, by decide +kernel, by decide +kernel, by decide +kernel⟩
def fX2_copyTo_b0 (sh : Sh) (x0 : Nat) (x1 : Int32) (x2 : Option Nat) (x3 : Int32) (x4 : Int32) (d : Dt) : Option (Dt) := bd (gR sh d 4 128 x0) fun v1 => bd x2 fun a2 => bd (gR sh d 4 128 a2) fun v3 => bd v1 fun a4 => bd v3 fun a5 => bd (cpL sh d a4 x1 a5 x3 x4) fun d6 => bd (gR sh d6 4 129 x0) fun v7 => bd (gR sh d6 4 129 a2) fun v8 => bd v7 fun a9 => bd v8 fun a10 => bd (cpI sh d6 a9 x1 a10 x3 x4) fun d11 => some (d11)

def fX2_copyTo (sh : Sh) (d : Dt) (x0 : Nat) (x1 : Int32) (x2 : Option Nat) (x3 : Int32) (x4 : Int32) : Option (Dt) := fX2_copyTo_b0 sh x0 x1 x2 x3 x4 d

set_option maxRecDepth 100000 in
set_option maxHeartbeats 4000000 in
theorem wX2_copyTo_b0 (C : mx p s m args meth c yX2_copyTo cX2_copyTo 5 none A D cy st) {d9 : Dt} : ∀ (x0 : Nat) (x1 : Int32) (x2 : Option Nat) (x3 : Int32) (x4 : Int32) (d : Dt), fX2_copyTo_b0 sh x0 x1 x2 x3 x4 d = some d9 → ∀ {H : Heap} {locs : List Loc} {ls : Array Slot}, HW A D cy sz sh d H → va_S A s.heap H locs → lv_has ls 5 [(0, .ref x0), (1, .int x1), (2, va_rf x2), (3, .int x3), (4, .int x4)] → GL p l e s m args below meth c 1 30 A D cy none sz sh d9 H locs 0 ls [] := by
  have hx := C.1
  have hb := C.2.1
  intro x0 x1 x2 x3 x4 d hf H locs ls hw hS hl
  unfold fX2_copyTo_b0 at hf
  refine lv_aload_n hx hb dX2_copyTo_0 rfl (lv_at hl 0 rfl) ?_
  obtain ⟨v1, hv1, hf⟩ := bd_s hf
  refine gt_128 C hw hv1 kw_136 dX2_copyTo_1 ?_
  refine lv_iload_n hx hb dX2_copyTo_4 rfl (lv_at hl 1 rfl) ?_
  refine lq_aload_n hx hb dX2_copyTo_5 rfl (lv_at hl 2 rfl) ?_
  obtain ⟨a2, ea2, hg⟩ := bd_s hf
  clear hf
  subst ea2
  have hf := hg
  clear hg
  obtain ⟨v3, hv3, hf⟩ := bd_s hf
  refine gt_128 C hw hv3 kw_136 dX2_copyTo_6 ?_
  refine lv_iload_n hx hb dX2_copyTo_9 rfl (lv_at hl 3 rfl) ?_
  refine lv_iload hx hb dX2_copyTo_10 (lv_at hl 4 rfl) ?_
  obtain ⟨a4, ea4, hg⟩ := bd_s hf
  clear hf
  subst ea4
  have hf := hg
  clear hg
  obtain ⟨a5, ea5, hg⟩ := bd_s hf
  clear hf
  subst ea5
  have hf := hg
  clear hg
  obtain ⟨d6, hd6, hf⟩ := bd_s hf
  refine w_cpL C hw hS hd6 kw_754 kw_386 kw_385 kw_15 hl.1 (Nat.le_of_ble_eq_true rfl) (Nat.le_of_ble_eq_true rfl) dX2_copyTo_12 (fun H locs hw hS => ?_)
  refine lv_aload_n hx hb dX2_copyTo_15 rfl (lv_at hl 0 rfl) ?_
  obtain ⟨v7, hv7, hf⟩ := bd_s hf
  refine gt_129 C hw hv7 kw_138 dX2_copyTo_16 ?_
  refine lv_iload_n hx hb dX2_copyTo_19 rfl (lv_at hl 1 rfl) ?_
  refine lq_aload_n hx hb dX2_copyTo_20 rfl (lv_at hl 2 rfl) ?_
  obtain ⟨v8, hv8, hf⟩ := bd_s hf
  refine gt_129 C hw hv8 kw_138 dX2_copyTo_21 ?_
  refine lv_iload_n hx hb dX2_copyTo_24 rfl (lv_at hl 3 rfl) ?_
  refine lv_iload hx hb dX2_copyTo_25 (lv_at hl 4 rfl) ?_
  obtain ⟨a9, ea9, hg⟩ := bd_s hf
  clear hf
  subst ea9
  have hf := hg
  clear hg
  obtain ⟨a10, ea10, hg⟩ := bd_s hf
  clear hf
  subst ea10
  have hf := hg
  clear hg
  obtain ⟨d11, hd11, hf⟩ := bd_s hf
  refine w_cpI C hw hS hd11 kw_754 kw_386 kw_385 kw_15 hl.1 (Nat.le_of_ble_eq_true rfl) (Nat.le_of_ble_eq_true rfl) dX2_copyTo_27 (fun H locs hw hS => ?_)
  cases hf
  exact rt_v C hw hS dX2_copyTo_30

set_option maxRecDepth 100000 in
set_option maxHeartbeats 4000000 in
theorem tX2_copyTo (l : Launch) (A : Nat → Prop) (D : va_G) (cy : Nat → ClassId) (st : Nat → Nat) (sz : Nat) (sh : Sh) (d : Dt) (x0 : Nat) (x1 : Int32) (x2 : Option Nat) (x3 : Int32) (x4 : Int32) {d9 : Dt} (hf : fX2_copyTo sh d x0 x1 x2 x3 x4 = some d9) : Ct l yX2_copyTo cX2_copyTo 5 none 1 30 0 0 A D cy st [.ref x0, .int x1, va_rf x2, .int x3, .int x4] sz sh d none sz sh d9 := ct_of (by decide) (by simp [lg_sl, va_rf_c, cat_i, cat_l, cat_r]) (fun p e s m args below meth c C hw hS ls hl => wX2_copyTo_b0 C x0 x1 x2 x3 x4 d hf hw hS (by simpa [lv_args, va_rf_c, cat_i, cat_l, cat_r] using hl))
theorem dX6_folded_0 : decode cX6_folded 0 = .ok (.ldc2_w 280, 3) := by decide +kernel
theorem dX6_folded_3 : decode cX6_folded 3 = .ok (.lload_n 0, 1) := by decide +kernel
theorem dX6_folded_4 : decode cX6_folded 4 = .ok (.lmul, 1) := by decide +kernel
theorem dX6_folded_5 : decode cX6_folded 5 = .ok (.lload_n 2, 1) := by decide +kernel
theorem dX6_folded_6 : decode cX6_folded 6 = .ok (.ladd, 1) := by decide +kernel
theorem dX6_folded_7 : decode cX6_folded 7 = .ok (.lreturn, 1) := by decide +kernel
theorem csX6_folded : CS yX6_folded cX6_folded 4 (some .long) 2 := ⟨kw_777, kw_1, kw_778, by decide +kernel, by decide +kernel, by decide +kernel⟩
def fX6_folded_b0 (sh : Sh) (d : Dt) (x0 : Int64) (x2 : Int64) : Option (Int64) := some (((31 : Int64) * x0) + x2)

def fX6_folded (sh : Sh) (d : Dt) (x0 : Int64) (x2 : Int64) : Option (Int64) := fX6_folded_b0 sh d x0 x2

set_option maxRecDepth 100000 in
set_option maxHeartbeats 4000000 in
theorem wX6_folded_b0 (C : mx p s m args meth c yX6_folded cX6_folded 4 (some .long) A D cy st) {r : Int64} {d : Dt} : ∀ (x0 : Int64) (x2 : Int64), fX6_folded_b0 sh d x0 x2 = some r → ∀ {H : Heap} {locs : List Loc} {ls : Array Slot}, HW A D cy sz sh d H → va_S A s.heap H locs → lv_has ls 4 [(0, .long x0), (2, .long x2)] → GL p l e s m args below meth c 0 0 A D cy (some (.long r)) sz sh d H locs 0 ls [] := by
  have hx := C.1
  have hb := C.2.1
  intro x0 x2 hf H locs ls hw hS hl
  unfold fX6_folded_b0 at hf
  refine lv_ldc2 (v := 31) hx hb C.2.2.2.2.2.1 (C.2.2.2.2.1 _ kw_779) dX6_folded_0 ?_
  refine lv_lload_n hx hb dX6_folded_3 rfl (lv_at hl 0 rfl) ?_
  refine lv_lmul hx hb dX6_folded_4 ?_
  refine lv_lload_n hx hb dX6_folded_5 rfl (lv_at hl 1 rfl) ?_
  refine lv_ladd hx hb dX6_folded_6 ?_
  cases hf
  exact rt_l C hw hS dX6_folded_7

set_option maxRecDepth 100000 in
set_option maxHeartbeats 4000000 in
theorem tX6_folded (l : Launch) (A : Nat → Prop) (D : va_G) (cy : Nat → ClassId) (st : Nat → Nat) (sz : Nat) (sh : Sh) (d : Dt) (x0 : Int64) (x2 : Int64) {r : Int64} (hf : fX6_folded sh d x0 x2 = some r) : Ct l yX6_folded cX6_folded 4 (some .long) 0 0 0 0 A D cy st [.long x0, .long x2] sz sh d (some (.long r)) sz sh d := ct_of (by decide) (Nat.le_of_ble_eq_true rfl) (fun p e s m args below meth c C hw hS ls hl => wX6_folded_b0 C x0 x2 hf hw hS hl)
theorem dX5_foldedOnto_0 : decode cX5_foldedOnto 0 = .ok (.lload_n 1, 1) := by decide +kernel
theorem dX5_foldedOnto_1 : decode cX5_foldedOnto 1 = .ok (.lstore_n 3, 1) := by decide +kernel
theorem dX5_foldedOnto_2 : decode cX5_foldedOnto 2 = .ok (.iconst 0, 1) := by decide +kernel
theorem dX5_foldedOnto_3 : decode cX5_foldedOnto 3 = .ok (.istore 5, 2) := by decide +kernel
theorem dX5_foldedOnto_5 : decode cX5_foldedOnto 5 = .ok (.iload 5, 2) := by decide +kernel
theorem dX5_foldedOnto_7 : decode cX5_foldedOnto 7 = .ok (.aload_n 0, 1) := by decide +kernel
theorem dX5_foldedOnto_8 : decode cX5_foldedOnto 8 = .ok (.getfield 15, 3) := by decide +kernel
theorem dX5_foldedOnto_11 : decode cX5_foldedOnto 11 = .ok (.if_icmp .ge 21, 3) := by decide +kernel
theorem dX5_foldedOnto_14 : decode cX5_foldedOnto 14 = .ok (.lload_n 3, 1) := by decide +kernel
theorem dX5_foldedOnto_15 : decode cX5_foldedOnto 15 = .ok (.aload_n 0, 1) := by decide +kernel
theorem dX5_foldedOnto_16 : decode cX5_foldedOnto 16 = .ok (.getfield 9, 3) := by decide +kernel
theorem dX5_foldedOnto_19 : decode cX5_foldedOnto 19 = .ok (.iload 5, 2) := by decide +kernel
theorem dX5_foldedOnto_21 : decode cX5_foldedOnto 21 = .ok (.laload, 1) := by decide +kernel
theorem dX5_foldedOnto_22 : decode cX5_foldedOnto 22 = .ok (.invokestatic 19, 3) := by decide +kernel
theorem dX5_foldedOnto_25 : decode cX5_foldedOnto 25 = .ok (.lstore_n 3, 1) := by decide +kernel
theorem dX5_foldedOnto_26 : decode cX5_foldedOnto 26 = .ok (.iinc 5 1, 3) := by decide +kernel
theorem dX5_foldedOnto_29 : decode cX5_foldedOnto 29 = .ok (.goto (-24), 3) := by decide +kernel
theorem dX5_foldedOnto_32 : decode cX5_foldedOnto 32 = .ok (.lload_n 3, 1) := by decide +kernel
theorem dX5_foldedOnto_33 : decode cX5_foldedOnto 33 = .ok (.lreturn, 1) := by decide +kernel
theorem cvX5_foldedOnto : CV yX5_foldedOnto cX5_foldedOnto 6 (some .long) 6 1 := ⟨kw_781, kw_782, kw_5, kw_783, ⟨_, _, rfl⟩, by decide, by decide +kernel, by decide +kernel, by decide +kernel⟩
def fX5_foldedOnto_b5 (sh : Sh) (d : Dt) : Nat → Nat → Int64 → Int32 → Option (Int64)
  | 0, _, _, _ => none
  | n + 1, x0, x3, x5 => bd (gI sh d 7 225 x0) fun v1 => if v1 ≤ x5 then (some x3) else (bd (gR sh d 7 224 x0) fun v3 => bd v3 fun a4 => bd (aL sh d 21 a4 x5) fun v5 => bd (fX6_folded sh d x3 v5) fun r7 => fX5_foldedOnto_b5 sh d n x0 r7 (x5 + 1))

def fX5_foldedOnto_b0 (sh : Sh) (d : Dt) (x0 : Nat) (x1 : Int64) : Option (Int64) := fX5_foldedOnto_b5 sh d fu x0 x1 (0 : Int32)

def fX5_foldedOnto (sh : Sh) (d : Dt) (x0 : Nat) (x1 : Int64) : Option (Int64) := fX5_foldedOnto_b0 sh d x0 x1

set_option maxRecDepth 100000 in
set_option maxHeartbeats 4000000 in
theorem wX5_foldedOnto_b5 (C : mx p s m args meth c yX5_foldedOnto cX5_foldedOnto 6 (some .long) A D cy st) {r : Int64} {d : Dt} : ∀ (n : Nat) (x0 : Nat) (x3 : Int64) (x5 : Int32), fX5_foldedOnto_b5 sh d n x0 x3 x5 = some r → ∀ {H : Heap} {locs : List Loc} {ls : Array Slot}, HW A D cy sz sh d H → va_S A s.heap H locs → lv_has ls 6 [(0, .ref x0), (3, .long x3), (5, .int x5)] → GL p l e s m args below meth c 1 23 A D cy (some (.long r)) sz sh d H locs 5 ls [] := by
  have hx := C.1
  have hb := C.2.1
  intro n
  induction n with
  | zero => intro x0 x3 x5 hf; cases hf
  | succ n ih =>
    intro x0 x3 x5 hf H locs ls hw hS hl
    rw [fX5_foldedOnto_b5] at hf
    refine lv_iload hx hb dX5_foldedOnto_5 (lv_at hl 2 rfl) ?_
    refine lv_aload_n hx hb dX5_foldedOnto_7 rfl (lv_at hl 0 rfl) ?_
    obtain ⟨v1, hv1, hf⟩ := bd_s hf
    refine gt_225 C hw hv1 kw_63 dX5_foldedOnto_8 ?_
    refine lv_icmp_ge (tgt := 32) hx hb dX5_foldedOnto_11 (by decide) (fun c_2 => ?_) (fun c_2 => ?_)
    · have hf := if_t c_2 hf
      refine lv_lload_n hx hb dX5_foldedOnto_32 rfl (lv_at hl 1 rfl) ?_
      cases hf
      exact rt_l C hw hS dX5_foldedOnto_33
    · have hf := if_f c_2 hf
      refine lv_lload_n hx hb dX5_foldedOnto_14 rfl (lv_at hl 1 rfl) ?_
      refine lv_aload_n hx hb dX5_foldedOnto_15 rfl (lv_at hl 0 rfl) ?_
      obtain ⟨v3, hv3, hf⟩ := bd_s hf
      refine gt_224 C hw hv3 kw_62 dX5_foldedOnto_16 ?_
      refine lv_iload hx hb dX5_foldedOnto_19 (lv_at hl 2 rfl) ?_
      obtain ⟨a4, ea4, hg⟩ := bd_s hf
      clear hf
      subst ea4
      have hf := hg
      clear hg
      obtain ⟨v5, hv5, hf⟩ := bd_s hf
      refine w_lald C hw hv5 dX5_foldedOnto_21 ?_
      obtain ⟨r7, h6, hf⟩ := bd_s hf
      refine cl_SN0 (host := "ManyHands") C hw hS (tX6_folded l A D cy st sz sh d x3 v5 h6) csX6_folded (by decide +kernel) ⟨(Nat.le_of_ble_eq_true rfl), (Nat.le_of_ble_eq_true rfl)⟩ hl.1 rfl (Nat.le_of_ble_eq_true rfl) dX5_foldedOnto_22 ⟨Nat.zero_le _, Nat.zero_le _⟩ (fun H locs hw hS => ?_)
      refine lv_lstore_n (lv' := [(3, .long r7), (0, .ref x0), (5, .int x5)]) hx hb dX5_foldedOnto_25 rfl hl (by decide) rfl (fun ls hl => ?_)
      refine lv_iinc (v := (x5 + 1)) (lv' := [(5, .int (x5 + 1)), (3, .long r7), (0, .ref x0)]) hx hb dX5_foldedOnto_26 hl (k := 2) rfl rfl (by decide) rfl (fun ls hl => ?_)
      refine lv_goto (tgt := 5) hx hb dX5_foldedOnto_29 (by decide) ?_
      exact ih x0 r7 (x5 + 1) hf hw hS (lv_sub hl [2, 1, 0] rfl)

set_option maxRecDepth 100000 in
set_option maxHeartbeats 4000000 in
theorem wX5_foldedOnto_b0 (C : mx p s m args meth c yX5_foldedOnto cX5_foldedOnto 6 (some .long) A D cy st) {r : Int64} {d : Dt} : ∀ (x0 : Nat) (x1 : Int64), fX5_foldedOnto_b0 sh d x0 x1 = some r → ∀ {H : Heap} {locs : List Loc} {ls : Array Slot}, HW A D cy sz sh d H → va_S A s.heap H locs → lv_has ls 6 [(0, .ref x0), (1, .long x1)] → GL p l e s m args below meth c 1 23 A D cy (some (.long r)) sz sh d H locs 0 ls [] := by
  have hx := C.1
  have hb := C.2.1
  intro x0 x1 hf H locs ls hw hS hl
  unfold fX5_foldedOnto_b0 at hf
  refine lv_lload_n hx hb dX5_foldedOnto_0 rfl (lv_at hl 1 rfl) ?_
  refine lv_lstore_n (lv' := [(3, .long x1), (0, .ref x0), (1, .long x1)]) hx hb dX5_foldedOnto_1 rfl hl (by decide) rfl (fun ls hl => ?_)
  refine lv_iconst (v := 0) hx hb dX5_foldedOnto_2 (by decide) ?_
  refine lv_istore (lv' := [(5, .int (0 : Int32)), (3, .long x1), (0, .ref x0), (1, .long x1)]) hx hb dX5_foldedOnto_3 hl (by decide) rfl (fun ls hl => ?_)
  exact wX5_foldedOnto_b5 C fu x0 x1 (0 : Int32) hf hw hS (lv_sub hl [2, 1, 0] rfl)

set_option maxRecDepth 100000 in
set_option maxHeartbeats 4000000 in
theorem tX5_foldedOnto (l : Launch) (A : Nat → Prop) (D : va_G) (cy : Nat → ClassId) (st : Nat → Nat) (sz : Nat) (sh : Sh) (d : Dt) (x0 : Nat) (x1 : Int64) {r : Int64} (hf : fX5_foldedOnto sh d x0 x1 = some r) : Ct l yX5_foldedOnto cX5_foldedOnto 6 (some .long) 1 23 0 0 A D cy st [.ref x0, .long x1] sz sh d (some (.long r)) sz sh d := ct_of (by decide) (Nat.le_of_ble_eq_true rfl) (fun p e s m args below meth c C hw hS ls hl => wX5_foldedOnto_b0 C x0 x1 hf hw hS hl)
theorem dX2_foldedOnto_0 : decode cX2_foldedOnto 0 = .ok (.lload_n 1, 1) := by decide +kernel
theorem dX2_foldedOnto_1 : decode cX2_foldedOnto 1 = .ok (.lstore_n 3, 1) := by decide +kernel
theorem dX2_foldedOnto_2 : decode cX2_foldedOnto 2 = .ok (.iconst 0, 1) := by decide +kernel
theorem dX2_foldedOnto_3 : decode cX2_foldedOnto 3 = .ok (.istore 5, 2) := by decide +kernel
theorem dX2_foldedOnto_5 : decode cX2_foldedOnto 5 = .ok (.iload 5, 2) := by decide +kernel
theorem dX2_foldedOnto_7 : decode cX2_foldedOnto 7 = .ok (.aload_n 0, 1) := by decide +kernel
theorem dX2_foldedOnto_8 : decode cX2_foldedOnto 8 = .ok (.getfield 19, 3) := by decide +kernel
theorem dX2_foldedOnto_11 : decode cX2_foldedOnto 11 = .ok (.if_icmp .ge 43, 3) := by decide +kernel
theorem dX2_foldedOnto_14 : decode cX2_foldedOnto 14 = .ok (.lload_n 3, 1) := by decide +kernel
theorem dX2_foldedOnto_15 : decode cX2_foldedOnto 15 = .ok (.aload_n 0, 1) := by decide +kernel
theorem dX2_foldedOnto_16 : decode cX2_foldedOnto 16 = .ok (.getfield 15, 3) := by decide +kernel
theorem dX2_foldedOnto_19 : decode cX2_foldedOnto 19 = .ok (.iload 5, 2) := by decide +kernel
theorem dX2_foldedOnto_21 : decode cX2_foldedOnto 21 = .ok (.iaload, 1) := by decide +kernel
theorem dX2_foldedOnto_22 : decode cX2_foldedOnto 22 = .ok (.i2l, 1) := by decide +kernel
theorem dX2_foldedOnto_23 : decode cX2_foldedOnto 23 = .ok (.invokestatic 29, 3) := by decide +kernel
theorem dX2_foldedOnto_26 : decode cX2_foldedOnto 26 = .ok (.lstore_n 3, 1) := by decide +kernel
theorem dX2_foldedOnto_27 : decode cX2_foldedOnto 27 = .ok (.aload_n 0, 1) := by decide +kernel
theorem dX2_foldedOnto_28 : decode cX2_foldedOnto 28 = .ok (.iload 5, 2) := by decide +kernel
theorem dX2_foldedOnto_30 : decode cX2_foldedOnto 30 = .ok (.invokevirtual 33, 3) := by decide +kernel
theorem dX2_foldedOnto_33 : decode cX2_foldedOnto 33 = .ok (.ifCond .eq 15, 3) := by decide +kernel
theorem dX2_foldedOnto_36 : decode cX2_foldedOnto 36 = .ok (.lload_n 3, 1) := by decide +kernel
theorem dX2_foldedOnto_37 : decode cX2_foldedOnto 37 = .ok (.aload_n 0, 1) := by decide +kernel
theorem dX2_foldedOnto_38 : decode cX2_foldedOnto 38 = .ok (.getfield 9, 3) := by decide +kernel
theorem dX2_foldedOnto_41 : decode cX2_foldedOnto 41 = .ok (.iload 5, 2) := by decide +kernel
theorem dX2_foldedOnto_43 : decode cX2_foldedOnto 43 = .ok (.laload, 1) := by decide +kernel
theorem dX2_foldedOnto_44 : decode cX2_foldedOnto 44 = .ok (.invokestatic 29, 3) := by decide +kernel
theorem dX2_foldedOnto_47 : decode cX2_foldedOnto 47 = .ok (.lstore_n 3, 1) := by decide +kernel
theorem dX2_foldedOnto_48 : decode cX2_foldedOnto 48 = .ok (.iinc 5 1, 3) := by decide +kernel
theorem dX2_foldedOnto_51 : decode cX2_foldedOnto 51 = .ok (.goto (-46), 3) := by decide +kernel
theorem dX2_foldedOnto_54 : decode cX2_foldedOnto 54 = .ok (.lload_n 3, 1) := by decide +kernel
theorem dX2_foldedOnto_55 : decode cX2_foldedOnto 55 = .ok (.lreturn, 1) := by decide +kernel
theorem cvX2_foldedOnto : CV yX2_foldedOnto cX2_foldedOnto 6 (some .long) 3 1 := ⟨kw_786, kw_787, kw_9, kw_788, ⟨_, _, rfl⟩, by decide, by decide +kernel, by decide +kernel, by decide +kernel⟩
def fX2_foldedOnto_b5 (sh : Sh) (d : Dt) : Nat → Nat → Int64 → Int32 → Option (Int64)
  | 0, _, _, _ => none
  | n + 1, x0, x3, x5 => bd (gI sh d 4 130 x0) fun v1 => if v1 ≤ x5 then (some x3) else (bd (gR sh d 4 129 x0) fun v3 => bd v3 fun a4 => bd (aI sh d 20 a4 x5) fun v5 => bd (fX6_folded sh d x3 v5.toInt64) fun r7 => bd (fX2_isThere sh d x0 x5) fun r9 => if (bI r9) = 0 then (fX2_foldedOnto_b5 sh d n x0 r7 (x5 + 1)) else (bd (gR sh d 4 128 x0) fun v11 => bd v11 fun a12 => bd (aL sh d 21 a12 x5) fun v13 => bd (fX6_folded sh d r7 v13) fun r15 => fX2_foldedOnto_b5 sh d n x0 r15 (x5 + 1)))

def fX2_foldedOnto_b0 (sh : Sh) (d : Dt) (x0 : Nat) (x1 : Int64) : Option (Int64) := fX2_foldedOnto_b5 sh d fu x0 x1 (0 : Int32)

def fX2_foldedOnto (sh : Sh) (d : Dt) (x0 : Nat) (x1 : Int64) : Option (Int64) := fX2_foldedOnto_b0 sh d x0 x1

set_option maxRecDepth 100000 in
set_option maxHeartbeats 4000000 in
theorem wX2_foldedOnto_b5 (C : mx p s m args meth c yX2_foldedOnto cX2_foldedOnto 6 (some .long) A D cy st) {r : Int64} {d : Dt} : ∀ (n : Nat) (x0 : Nat) (x3 : Int64) (x5 : Int32), fX2_foldedOnto_b5 sh d n x0 x3 x5 = some r → ∀ {H : Heap} {locs : List Loc} {ls : Array Slot}, HW A D cy sz sh d H → va_S A s.heap H locs → lv_has ls 6 [(0, .ref x0), (3, .long x3), (5, .int x5)] → GL p l e s m args below meth c 1 23 A D cy (some (.long r)) sz sh d H locs 5 ls [] := by
  have hx := C.1
  have hb := C.2.1
  intro n
  induction n with
  | zero => intro x0 x3 x5 hf; cases hf
  | succ n ih =>
    intro x0 x3 x5 hf H locs ls hw hS hl
    rw [fX2_foldedOnto_b5] at hf
    refine lv_iload hx hb dX2_foldedOnto_5 (lv_at hl 2 rfl) ?_
    refine lv_aload_n hx hb dX2_foldedOnto_7 rfl (lv_at hl 0 rfl) ?_
    obtain ⟨v1, hv1, hf⟩ := bd_s hf
    refine gt_130 C hw hv1 kw_139 dX2_foldedOnto_8 ?_
    refine lv_icmp_ge (tgt := 54) hx hb dX2_foldedOnto_11 (by decide) (fun c_2 => ?_) (fun c_2 => ?_)
    · have hf := if_t c_2 hf
      refine lv_lload_n hx hb dX2_foldedOnto_54 rfl (lv_at hl 1 rfl) ?_
      cases hf
      exact rt_l C hw hS dX2_foldedOnto_55
    · have hf := if_f c_2 hf
      refine lv_lload_n hx hb dX2_foldedOnto_14 rfl (lv_at hl 1 rfl) ?_
      refine lv_aload_n hx hb dX2_foldedOnto_15 rfl (lv_at hl 0 rfl) ?_
      obtain ⟨v3, hv3, hf⟩ := bd_s hf
      refine gt_129 C hw hv3 kw_138 dX2_foldedOnto_16 ?_
      refine lv_iload hx hb dX2_foldedOnto_19 (lv_at hl 2 rfl) ?_
      obtain ⟨a4, ea4, hg⟩ := bd_s hf
      clear hf
      subst ea4
      have hf := hg
      clear hg
      obtain ⟨v5, hv5, hf⟩ := bd_s hf
      refine w_iald C hw hv5 dX2_foldedOnto_21 ?_
      refine lv_i2l hx hb dX2_foldedOnto_22 rfl ?_
      obtain ⟨r7, h6, hf⟩ := bd_s hf
      refine cl_SN0 (host := "ManyHands") C hw hS (tX6_folded l A D cy st sz sh d x3 v5.toInt64 h6) csX6_folded (by decide +kernel) ⟨(Nat.le_of_ble_eq_true rfl), (Nat.le_of_ble_eq_true rfl)⟩ hl.1 rfl (Nat.le_of_ble_eq_true rfl) dX2_foldedOnto_23 ⟨Nat.zero_le _, Nat.zero_le _⟩ (fun H locs hw hS => ?_)
      refine lv_lstore_n (lv' := [(3, .long r7), (0, .ref x0), (5, .int x5)]) hx hb dX2_foldedOnto_26 rfl hl (by decide) rfl (fun ls hl => ?_)
      refine lv_aload_n hx hb dX2_foldedOnto_27 rfl (lv_at hl 1 rfl) ?_
      refine lv_iload hx hb dX2_foldedOnto_28 (lv_at hl 2 rfl) ?_
      obtain ⟨r9, h8, hf⟩ := bd_s hf
      refine cl_V0 C hw hS (tX2_isThere l A D cy st sz sh d x0 x5 h8) cvX2_isThere kw_790 (gR_s hv3).1 ⟨(Nat.le_of_ble_eq_true rfl), (Nat.le_of_ble_eq_true rfl)⟩ hl.1 rfl (Nat.le_of_ble_eq_true rfl) dX2_foldedOnto_30 ⟨Nat.zero_le _, Nat.zero_le _⟩ (fun H locs hw hS => ?_)
      refine lv_if_eq (tgt := 48) hx hb dX2_foldedOnto_33 (by decide) (fun c_10 => ?_) (fun c_10 => ?_)
      · have hf := if_t c_10 hf
        refine lv_iinc (v := (x5 + 1)) (lv' := [(5, .int (x5 + 1)), (3, .long r7), (0, .ref x0)]) hx hb dX2_foldedOnto_48 hl (k := 2) rfl rfl (by decide) rfl (fun ls hl => ?_)
        refine lv_goto (tgt := 5) hx hb dX2_foldedOnto_51 (by decide) ?_
        exact ih x0 r7 (x5 + 1) hf hw hS (lv_sub hl [2, 1, 0] rfl)
      · have hf := if_f c_10 hf
        refine lv_lload_n hx hb dX2_foldedOnto_36 rfl (lv_at hl 0 rfl) ?_
        refine lv_aload_n hx hb dX2_foldedOnto_37 rfl (lv_at hl 1 rfl) ?_
        obtain ⟨v11, hv11, hf⟩ := bd_s hf
        refine gt_128 C hw hv11 kw_136 dX2_foldedOnto_38 ?_
        refine lv_iload hx hb dX2_foldedOnto_41 (lv_at hl 2 rfl) ?_
        obtain ⟨a12, ea12, hg⟩ := bd_s hf
        clear hf
        subst ea12
        have hf := hg
        clear hg
        obtain ⟨v13, hv13, hf⟩ := bd_s hf
        refine w_lald C hw hv13 dX2_foldedOnto_43 ?_
        obtain ⟨r15, h14, hf⟩ := bd_s hf
        refine cl_SN0 (host := "ManyHands") C hw hS (tX6_folded l A D cy st sz sh d r7 v13 h14) csX6_folded (by decide +kernel) ⟨(Nat.le_of_ble_eq_true rfl), (Nat.le_of_ble_eq_true rfl)⟩ hl.1 rfl (Nat.le_of_ble_eq_true rfl) dX2_foldedOnto_44 ⟨Nat.zero_le _, Nat.zero_le _⟩ (fun H locs hw hS => ?_)
        refine lv_lstore_n (lv' := [(3, .long r15), (0, .ref x0), (5, .int x5)]) hx hb dX2_foldedOnto_47 rfl hl (by decide) rfl (fun ls hl => ?_)
        refine lv_iinc (v := (x5 + 1)) (lv' := [(5, .int (x5 + 1)), (3, .long r15), (0, .ref x0)]) hx hb dX2_foldedOnto_48 hl (k := 2) rfl rfl (by decide) rfl (fun ls hl => ?_)
        refine lv_goto (tgt := 5) hx hb dX2_foldedOnto_51 (by decide) ?_
        exact ih x0 r15 (x5 + 1) hf hw hS (lv_sub hl [2, 1, 0] rfl)

set_option maxRecDepth 100000 in
set_option maxHeartbeats 4000000 in
theorem wX2_foldedOnto_b0 (C : mx p s m args meth c yX2_foldedOnto cX2_foldedOnto 6 (some .long) A D cy st) {r : Int64} {d : Dt} : ∀ (x0 : Nat) (x1 : Int64), fX2_foldedOnto_b0 sh d x0 x1 = some r → ∀ {H : Heap} {locs : List Loc} {ls : Array Slot}, HW A D cy sz sh d H → va_S A s.heap H locs → lv_has ls 6 [(0, .ref x0), (1, .long x1)] → GL p l e s m args below meth c 1 23 A D cy (some (.long r)) sz sh d H locs 0 ls [] := by
  have hx := C.1
  have hb := C.2.1
  intro x0 x1 hf H locs ls hw hS hl
  unfold fX2_foldedOnto_b0 at hf
  refine lv_lload_n hx hb dX2_foldedOnto_0 rfl (lv_at hl 1 rfl) ?_
  refine lv_lstore_n (lv' := [(3, .long x1), (0, .ref x0), (1, .long x1)]) hx hb dX2_foldedOnto_1 rfl hl (by decide) rfl (fun ls hl => ?_)
  refine lv_iconst (v := 0) hx hb dX2_foldedOnto_2 (by decide) ?_
  refine lv_istore (lv' := [(5, .int (0 : Int32)), (3, .long x1), (0, .ref x0), (1, .long x1)]) hx hb dX2_foldedOnto_3 hl (by decide) rfl (fun ls hl => ?_)
  exact wX2_foldedOnto_b5 C fu x0 x1 (0 : Int32) hf hw hS (lv_sub hl [2, 1, 0] rfl)

set_option maxRecDepth 100000 in
set_option maxHeartbeats 4000000 in
theorem tX2_foldedOnto (l : Launch) (A : Nat → Prop) (D : va_G) (cy : Nat → ClassId) (st : Nat → Nat) (sz : Nat) (sh : Sh) (d : Dt) (x0 : Nat) (x1 : Int64) {r : Int64} (hf : fX2_foldedOnto sh d x0 x1 = some r) : Ct l yX2_foldedOnto cX2_foldedOnto 6 (some .long) 1 23 0 0 A D cy st [.ref x0, .long x1] sz sh d (some (.long r)) sz sh d := ct_of (by decide) (Nat.le_of_ble_eq_true rfl) (fun p e s m args below meth c C hw hS ls hl => wX2_foldedOnto_b0 C x0 x1 hf hw hS hl)
theorem dX7_init_0 : decode cX7_init 0 = .ok (.aload_n 0, 1) := by decide +kernel
theorem dX7_init_1 : decode cX7_init 1 = .ok (.invokespecial 1, 3) := by decide +kernel
theorem dX7_init_4 : decode cX7_init 4 = .ok (.aload_n 0, 1) := by decide +kernel
theorem dX7_init_5 : decode cX7_init 5 = .ok (.bipush 6, 2) := by decide +kernel
theorem dX7_init_7 : decode cX7_init 7 = .ok (.newarray .int, 2) := by decide +kernel
theorem dX7_init_9 : decode cX7_init 9 = .ok (.putfield 7, 3) := by decide +kernel
theorem dX7_init_12 : decode cX7_init 12 = .ok (.aload_n 0, 1) := by decide +kernel
theorem dX7_init_13 : decode cX7_init 13 = .ok (.bipush 42, 2) := by decide +kernel
theorem dX7_init_15 : decode cX7_init 15 = .ok (.newarray .long, 2) := by decide +kernel
theorem dX7_init_17 : decode cX7_init 17 = .ok (.putfield 13, 3) := by decide +kernel
theorem dX7_init_20 : decode cX7_init 20 = .ok (.aload_n 0, 1) := by decide +kernel
theorem dX7_init_21 : decode cX7_init 21 = .ok (.bipush 42, 2) := by decide +kernel
theorem dX7_init_23 : decode cX7_init 23 = .ok (.newarray .long, 2) := by decide +kernel
theorem dX7_init_25 : decode cX7_init 25 = .ok (.putfield 17, 3) := by decide +kernel
theorem dX7_init_28 : decode cX7_init 28 = .ok (.aload_n 0, 1) := by decide +kernel
theorem dX7_init_29 : decode cX7_init 29 = .ok (.bipush 60, 2) := by decide +kernel
theorem dX7_init_31 : decode cX7_init 31 = .ok (.newarray .boolean, 2) := by decide +kernel
theorem dX7_init_33 : decode cX7_init 33 = .ok (.putfield 20, 3) := by decide +kernel
theorem dX7_init_36 : decode cX7_init 36 = .ok (.aload_n 0, 1) := by decide +kernel
theorem dX7_init_37 : decode cX7_init 37 = .ok (.bipush 6, 2) := by decide +kernel
theorem dX7_init_39 : decode cX7_init 39 = .ok (.newarray .int, 2) := by decide +kernel
theorem dX7_init_41 : decode cX7_init 41 = .ok (.putfield 24, 3) := by decide +kernel
theorem dX7_init_44 : decode cX7_init 44 = .ok (.aload_n 0, 1) := by decide +kernel
theorem dX7_init_45 : decode cX7_init 45 = .ok (.bipush 10, 2) := by decide +kernel
theorem dX7_init_47 : decode cX7_init 47 = .ok (.newarray .int, 2) := by decide +kernel
theorem dX7_init_49 : decode cX7_init 49 = .ok (.putfield 27, 3) := by decide +kernel
theorem dX7_init_52 : decode cX7_init 52 = .ok (.aload_n 0, 1) := by decide +kernel
theorem dX7_init_53 : decode cX7_init 53 = .ok (.sipush 400, 3) := by decide +kernel
theorem dX7_init_56 : decode cX7_init 56 = .ok (.newarray .int, 2) := by decide +kernel
theorem dX7_init_58 : decode cX7_init 58 = .ok (.putfield 30, 3) := by decide +kernel
theorem dX7_init_61 : decode cX7_init 61 = .ok (.aload_n 0, 1) := by decide +kernel
theorem dX7_init_62 : decode cX7_init 62 = .ok (.sipush 400, 3) := by decide +kernel
theorem dX7_init_65 : decode cX7_init 65 = .ok (.newarray .int, 2) := by decide +kernel
theorem dX7_init_67 : decode cX7_init 67 = .ok (.putfield 33, 3) := by decide +kernel
theorem dX7_init_70 : decode cX7_init 70 = .ok (.aload_n 0, 1) := by decide +kernel
theorem dX7_init_71 : decode cX7_init 71 = .ok (.sipush 400, 3) := by decide +kernel
theorem dX7_init_74 : decode cX7_init 74 = .ok (.newarray .int, 2) := by decide +kernel
theorem dX7_init_76 : decode cX7_init 76 = .ok (.putfield 36, 3) := by decide +kernel
theorem dX7_init_79 : decode cX7_init 79 = .ok (.aload_n 0, 1) := by decide +kernel
theorem dX7_init_80 : decode cX7_init 80 = .ok (.sipush 400, 3) := by decide +kernel
theorem dX7_init_83 : decode cX7_init 83 = .ok (.newarray .int, 2) := by decide +kernel
theorem dX7_init_85 : decode cX7_init 85 = .ok (.putfield 39, 3) := by decide +kernel
theorem dX7_init_88 : decode cX7_init 88 = .ok (.aload_n 0, 1) := by decide +kernel
theorem dX7_init_89 : decode cX7_init 89 = .ok (.sipush 400, 3) := by decide +kernel
theorem dX7_init_92 : decode cX7_init 92 = .ok (.newarray .int, 2) := by decide +kernel
theorem dX7_init_94 : decode cX7_init 94 = .ok (.putfield 42, 3) := by decide +kernel
theorem dX7_init_97 : decode cX7_init 97 = .ok (.aload_n 0, 1) := by decide +kernel
theorem dX7_init_98 : decode cX7_init 98 = .ok (.sipush 400, 3) := by decide +kernel
theorem dX7_init_101 : decode cX7_init 101 = .ok (.newarray .int, 2) := by decide +kernel
theorem dX7_init_103 : decode cX7_init 103 = .ok (.putfield 45, 3) := by decide +kernel
theorem dX7_init_106 : decode cX7_init 106 = .ok (.aload_n 0, 1) := by decide +kernel
theorem dX7_init_107 : decode cX7_init 107 = .ok (.sipush 400, 3) := by decide +kernel
theorem dX7_init_110 : decode cX7_init 110 = .ok (.newarray .long, 2) := by decide +kernel
theorem dX7_init_112 : decode cX7_init 112 = .ok (.putfield 48, 3) := by decide +kernel
theorem dX7_init_115 : decode cX7_init 115 = .ok (.aload_n 0, 1) := by decide +kernel
theorem dX7_init_116 : decode cX7_init 116 = .ok (.sipush 2800, 3) := by decide +kernel
theorem dX7_init_119 : decode cX7_init 119 = .ok (.newarray .long, 2) := by decide +kernel
theorem dX7_init_121 : decode cX7_init 121 = .ok (.putfield 51, 3) := by decide +kernel
theorem dX7_init_124 : decode cX7_init 124 = .ok (.aload_n 0, 1) := by decide +kernel
theorem dX7_init_125 : decode cX7_init 125 = .ok (.sipush 400, 3) := by decide +kernel
theorem dX7_init_128 : decode cX7_init 128 = .ok (.newarray .int, 2) := by decide +kernel
theorem dX7_init_130 : decode cX7_init 130 = .ok (.putfield 54, 3) := by decide +kernel
theorem dX7_init_133 : decode cX7_init 133 = .ok (.aload_n 0, 1) := by decide +kernel
theorem dX7_init_134 : decode cX7_init 134 = .ok (.sipush 404, 3) := by decide +kernel
theorem dX7_init_137 : decode cX7_init 137 = .ok (.newarray .long, 2) := by decide +kernel
theorem dX7_init_139 : decode cX7_init 139 = .ok (.putfield 57, 3) := by decide +kernel
theorem dX7_init_142 : decode cX7_init 142 = .ok (.aload_n 0, 1) := by decide +kernel
theorem dX7_init_143 : decode cX7_init 143 = .ok (.sipush 404, 3) := by decide +kernel
theorem dX7_init_146 : decode cX7_init 146 = .ok (.newarray .long, 2) := by decide +kernel
theorem dX7_init_148 : decode cX7_init 148 = .ok (.putfield 60, 3) := by decide +kernel
theorem dX7_init_151 : decode cX7_init 151 = .ok (.aload_n 0, 1) := by decide +kernel
theorem dX7_init_152 : decode cX7_init 152 = .ok (.bipush 6, 2) := by decide +kernel
theorem dX7_init_154 : decode cX7_init 154 = .ok (.newarray .int, 2) := by decide +kernel
theorem dX7_init_156 : decode cX7_init 156 = .ok (.putfield 63, 3) := by decide +kernel
theorem dX7_init_159 : decode cX7_init 159 = .ok (.aload_n 0, 1) := by decide +kernel
theorem dX7_init_160 : decode cX7_init 160 = .ok (.bipush 96, 2) := by decide +kernel
theorem dX7_init_162 : decode cX7_init 162 = .ok (.newarray .boolean, 2) := by decide +kernel
theorem dX7_init_164 : decode cX7_init 164 = .ok (.putfield 66, 3) := by decide +kernel
theorem dX7_init_167 : decode cX7_init 167 = .ok (.aload_n 0, 1) := by decide +kernel
theorem dX7_init_168 : decode cX7_init 168 = .ok (.bipush 96, 2) := by decide +kernel
theorem dX7_init_170 : decode cX7_init 170 = .ok (.newarray .long, 2) := by decide +kernel
theorem dX7_init_172 : decode cX7_init 172 = .ok (.putfield 69, 3) := by decide +kernel
theorem dX7_init_175 : decode cX7_init 175 = .ok (.aload_n 0, 1) := by decide +kernel
theorem dX7_init_176 : decode cX7_init 176 = .ok (.bipush 16, 2) := by decide +kernel
theorem dX7_init_178 : decode cX7_init 178 = .ok (.newarray .long, 2) := by decide +kernel
theorem dX7_init_180 : decode cX7_init 180 = .ok (.putfield 72, 3) := by decide +kernel
theorem dX7_init_183 : decode cX7_init 183 = .ok (.aload_n 0, 1) := by decide +kernel
theorem dX7_init_184 : decode cX7_init 184 = .ok (.bipush 16, 2) := by decide +kernel
theorem dX7_init_186 : decode cX7_init 186 = .ok (.newarray .boolean, 2) := by decide +kernel
theorem dX7_init_188 : decode cX7_init 188 = .ok (.putfield 75, 3) := by decide +kernel
theorem dX7_init_191 : decode cX7_init 191 = .ok (.return_, 1) := by decide +kernel
theorem ckX7_init : CK yX7_init cX7_init 1 0 := ⟨rfl, kw_794, kw_6, kw_795, by decide +kernel, by decide +kernel, by decide +kernel⟩
def fX7_init_b188 (em mi : Nat) (t0 : Nat) (t1 : Nat) (sz : Nat) (ns : Nat) (sh : Sh) (d : Dt) : Option (Wl) := bd (pR sh d 9 315 t0 (some t1)) fun d1 => some (sz, ns, sh, d1)

def fX7_init_b180 (em mi : Nat) (x0 : Nat) (t0 : Nat) (t1 : Nat) (sz : Nat) (ns : Nat) (sh : Sh) (d : Dt) : Option (Wl) := bd (pR sh d 9 314 t0 (some t1)) fun d1 => bw (nwA sz ns sh d1 22 (16 : Int32)) fun szq2 nsq2 shq2 dq2 => fX7_init_b188 em mi x0 sz szq2 nsq2 shq2 dq2

def fX7_init_b172 (em mi : Nat) (x0 : Nat) (t0 : Nat) (t1 : Nat) (sz : Nat) (ns : Nat) (sh : Sh) (d : Dt) : Option (Wl) := bd (pR sh d 9 313 t0 (some t1)) fun d1 => bw (nwA sz ns sh d1 21 (16 : Int32)) fun szq2 nsq2 shq2 dq2 => fX7_init_b180 em mi x0 x0 sz szq2 nsq2 shq2 dq2

def fX7_init_b164 (em mi : Nat) (x0 : Nat) (t0 : Nat) (t1 : Nat) (sz : Nat) (ns : Nat) (sh : Sh) (d : Dt) : Option (Wl) := bd (pR sh d 9 312 t0 (some t1)) fun d1 => bw (nwA sz ns sh d1 21 (96 : Int32)) fun szq2 nsq2 shq2 dq2 => fX7_init_b172 em mi x0 x0 sz szq2 nsq2 shq2 dq2

def fX7_init_b156 (em mi : Nat) (x0 : Nat) (t0 : Nat) (t1 : Nat) (sz : Nat) (ns : Nat) (sh : Sh) (d : Dt) : Option (Wl) := bd (pR sh d 9 311 t0 (some t1)) fun d1 => bw (nwA sz ns sh d1 22 (96 : Int32)) fun szq2 nsq2 shq2 dq2 => fX7_init_b164 em mi x0 x0 sz szq2 nsq2 shq2 dq2

def fX7_init_b148 (em mi : Nat) (x0 : Nat) (t0 : Nat) (t1 : Nat) (sz : Nat) (ns : Nat) (sh : Sh) (d : Dt) : Option (Wl) := bd (pR sh d 9 310 t0 (some t1)) fun d1 => bw (nwA sz ns sh d1 20 (6 : Int32)) fun szq2 nsq2 shq2 dq2 => fX7_init_b156 em mi x0 x0 sz szq2 nsq2 shq2 dq2

def fX7_init_b139 (em mi : Nat) (x0 : Nat) (t0 : Nat) (t1 : Nat) (sz : Nat) (ns : Nat) (sh : Sh) (d : Dt) : Option (Wl) := bd (pR sh d 9 309 t0 (some t1)) fun d1 => bw (nwA sz ns sh d1 21 (404 : Int32)) fun szq2 nsq2 shq2 dq2 => fX7_init_b148 em mi x0 x0 sz szq2 nsq2 shq2 dq2

def fX7_init_b130 (em mi : Nat) (x0 : Nat) (t0 : Nat) (t1 : Nat) (sz : Nat) (ns : Nat) (sh : Sh) (d : Dt) : Option (Wl) := bd (pR sh d 9 307 t0 (some t1)) fun d1 => bw (nwA sz ns sh d1 21 (404 : Int32)) fun szq2 nsq2 shq2 dq2 => fX7_init_b139 em mi x0 x0 sz szq2 nsq2 shq2 dq2

def fX7_init_b121 (em mi : Nat) (x0 : Nat) (t0 : Nat) (t1 : Nat) (sz : Nat) (ns : Nat) (sh : Sh) (d : Dt) : Option (Wl) := bd (pR sh d 9 305 t0 (some t1)) fun d1 => bw (nwA sz ns sh d1 20 (400 : Int32)) fun szq2 nsq2 shq2 dq2 => fX7_init_b130 em mi x0 x0 sz szq2 nsq2 shq2 dq2

def fX7_init_b112 (em mi : Nat) (x0 : Nat) (t0 : Nat) (t1 : Nat) (sz : Nat) (ns : Nat) (sh : Sh) (d : Dt) : Option (Wl) := bd (pR sh d 9 304 t0 (some t1)) fun d1 => bw (nwA sz ns sh d1 21 (2800 : Int32)) fun szq2 nsq2 shq2 dq2 => fX7_init_b121 em mi x0 x0 sz szq2 nsq2 shq2 dq2

def fX7_init_b103 (em mi : Nat) (x0 : Nat) (t0 : Nat) (t1 : Nat) (sz : Nat) (ns : Nat) (sh : Sh) (d : Dt) : Option (Wl) := bd (pR sh d 9 303 t0 (some t1)) fun d1 => bw (nwA sz ns sh d1 21 (400 : Int32)) fun szq2 nsq2 shq2 dq2 => fX7_init_b112 em mi x0 x0 sz szq2 nsq2 shq2 dq2

def fX7_init_b94 (em mi : Nat) (x0 : Nat) (t0 : Nat) (t1 : Nat) (sz : Nat) (ns : Nat) (sh : Sh) (d : Dt) : Option (Wl) := bd (pR sh d 9 302 t0 (some t1)) fun d1 => bw (nwA sz ns sh d1 20 (400 : Int32)) fun szq2 nsq2 shq2 dq2 => fX7_init_b103 em mi x0 x0 sz szq2 nsq2 shq2 dq2

def fX7_init_b85 (em mi : Nat) (x0 : Nat) (t0 : Nat) (t1 : Nat) (sz : Nat) (ns : Nat) (sh : Sh) (d : Dt) : Option (Wl) := bd (pR sh d 9 301 t0 (some t1)) fun d1 => bw (nwA sz ns sh d1 20 (400 : Int32)) fun szq2 nsq2 shq2 dq2 => fX7_init_b94 em mi x0 x0 sz szq2 nsq2 shq2 dq2

def fX7_init_b76 (em mi : Nat) (x0 : Nat) (t0 : Nat) (t1 : Nat) (sz : Nat) (ns : Nat) (sh : Sh) (d : Dt) : Option (Wl) := bd (pR sh d 9 300 t0 (some t1)) fun d1 => bw (nwA sz ns sh d1 20 (400 : Int32)) fun szq2 nsq2 shq2 dq2 => fX7_init_b85 em mi x0 x0 sz szq2 nsq2 shq2 dq2

def fX7_init_b67 (em mi : Nat) (x0 : Nat) (t0 : Nat) (t1 : Nat) (sz : Nat) (ns : Nat) (sh : Sh) (d : Dt) : Option (Wl) := bd (pR sh d 9 299 t0 (some t1)) fun d1 => bw (nwA sz ns sh d1 20 (400 : Int32)) fun szq2 nsq2 shq2 dq2 => fX7_init_b76 em mi x0 x0 sz szq2 nsq2 shq2 dq2

def fX7_init_b58 (em mi : Nat) (x0 : Nat) (t0 : Nat) (t1 : Nat) (sz : Nat) (ns : Nat) (sh : Sh) (d : Dt) : Option (Wl) := bd (pR sh d 9 298 t0 (some t1)) fun d1 => bw (nwA sz ns sh d1 20 (400 : Int32)) fun szq2 nsq2 shq2 dq2 => fX7_init_b67 em mi x0 x0 sz szq2 nsq2 shq2 dq2

def fX7_init_b49 (em mi : Nat) (x0 : Nat) (t0 : Nat) (t1 : Nat) (sz : Nat) (ns : Nat) (sh : Sh) (d : Dt) : Option (Wl) := bd (pR sh d 9 296 t0 (some t1)) fun d1 => bw (nwA sz ns sh d1 20 (400 : Int32)) fun szq2 nsq2 shq2 dq2 => fX7_init_b58 em mi x0 x0 sz szq2 nsq2 shq2 dq2

def fX7_init_b41 (em mi : Nat) (x0 : Nat) (t0 : Nat) (t1 : Nat) (sz : Nat) (ns : Nat) (sh : Sh) (d : Dt) : Option (Wl) := bd (pR sh d 9 294 t0 (some t1)) fun d1 => bw (nwA sz ns sh d1 20 (10 : Int32)) fun szq2 nsq2 shq2 dq2 => fX7_init_b49 em mi x0 x0 sz szq2 nsq2 shq2 dq2

def fX7_init_b33 (em mi : Nat) (x0 : Nat) (t0 : Nat) (t1 : Nat) (sz : Nat) (ns : Nat) (sh : Sh) (d : Dt) : Option (Wl) := bd (pR sh d 9 293 t0 (some t1)) fun d1 => bw (nwA sz ns sh d1 20 (6 : Int32)) fun szq2 nsq2 shq2 dq2 => fX7_init_b41 em mi x0 x0 sz szq2 nsq2 shq2 dq2

def fX7_init_b25 (em mi : Nat) (x0 : Nat) (t0 : Nat) (t1 : Nat) (sz : Nat) (ns : Nat) (sh : Sh) (d : Dt) : Option (Wl) := bd (pR sh d 9 292 t0 (some t1)) fun d1 => bw (nwA sz ns sh d1 22 (60 : Int32)) fun szq2 nsq2 shq2 dq2 => fX7_init_b33 em mi x0 x0 sz szq2 nsq2 shq2 dq2

def fX7_init_b17 (em mi : Nat) (x0 : Nat) (t0 : Nat) (t1 : Nat) (sz : Nat) (ns : Nat) (sh : Sh) (d : Dt) : Option (Wl) := bd (pR sh d 9 291 t0 (some t1)) fun d1 => bw (nwA sz ns sh d1 21 (42 : Int32)) fun szq2 nsq2 shq2 dq2 => fX7_init_b25 em mi x0 x0 sz szq2 nsq2 shq2 dq2

def fX7_init_b9 (em mi : Nat) (x0 : Nat) (t0 : Nat) (t1 : Nat) (sz : Nat) (ns : Nat) (sh : Sh) (d : Dt) : Option (Wl) := bd (pR sh d 9 289 t0 (some t1)) fun d1 => bw (nwA sz ns sh d1 21 (42 : Int32)) fun szq2 nsq2 shq2 dq2 => fX7_init_b17 em mi x0 x0 sz szq2 nsq2 shq2 dq2

def fX7_init_b0 (em mi : Nat) (x0 : Nat) (sz : Nat) (ns : Nat) (sh : Sh) (d : Dt) : Option (Wl) := bw (nwA sz ns sh d 20 (6 : Int32)) fun szq1 nsq1 shq1 dq1 => fX7_init_b9 em mi x0 x0 sz szq1 nsq1 shq1 dq1

def fX7_init (em mi : Nat) (x0 : Nat) (sz ns : Nat) (sh : Sh) (d : Dt) : Option (Wl) := fX7_init_b0 em mi x0 sz ns sh d

set_option maxRecDepth 100000 in
set_option maxHeartbeats 4000000 in
theorem mX7_init_b188 (em mi : Nat) {sz9 ns9 : Nat} {sh9 : Sh} {d9 : Dt} : ∀ (t0 : Nat) (t1 : Nat) (sz : Nat) (ns : Nat) (sh : Sh) (d : Dt), fX7_init_b188 em mi t0 t1 sz ns sh d = some (sz9, ns9, sh9, d9) → sz ≤ sz9 ∧ ns ≤ ns9 := by
  intro t0 t1 sz ns sh d hf
  unfold fX7_init_b188 at hf
  obtain ⟨d1, hd1, hf⟩ := bd_s hf
  cases hf
  exact ⟨Nat.le_refl _, Nat.le_refl _⟩

set_option maxRecDepth 100000 in
set_option maxHeartbeats 4000000 in
theorem mX7_init_b180 (em mi : Nat) {sz9 ns9 : Nat} {sh9 : Sh} {d9 : Dt} : ∀ (x0 : Nat) (t0 : Nat) (t1 : Nat) (sz : Nat) (ns : Nat) (sh : Sh) (d : Dt), fX7_init_b180 em mi x0 t0 t1 sz ns sh d = some (sz9, ns9, sh9, d9) → sz ≤ sz9 ∧ ns ≤ ns9 := by
  intro x0 t0 t1 sz ns sh d hf
  unfold fX7_init_b180 at hf
  obtain ⟨d1, hd1, hf⟩ := bd_s hf
  obtain ⟨szq2, nsq2, shq2, dq2, hq2, hf⟩ := bw_s hf
  have hq := nwA_s hq2
  have hm := mX7_init_b188 em mi x0 sz szq2 nsq2 shq2 dq2 hf
  omega

set_option maxRecDepth 100000 in
set_option maxHeartbeats 4000000 in
theorem mX7_init_b172 (em mi : Nat) {sz9 ns9 : Nat} {sh9 : Sh} {d9 : Dt} : ∀ (x0 : Nat) (t0 : Nat) (t1 : Nat) (sz : Nat) (ns : Nat) (sh : Sh) (d : Dt), fX7_init_b172 em mi x0 t0 t1 sz ns sh d = some (sz9, ns9, sh9, d9) → sz ≤ sz9 ∧ ns ≤ ns9 := by
  intro x0 t0 t1 sz ns sh d hf
  unfold fX7_init_b172 at hf
  obtain ⟨d1, hd1, hf⟩ := bd_s hf
  obtain ⟨szq2, nsq2, shq2, dq2, hq2, hf⟩ := bw_s hf
  have hq := nwA_s hq2
  have hm := mX7_init_b180 em mi x0 x0 sz szq2 nsq2 shq2 dq2 hf
  omega

set_option maxRecDepth 100000 in
set_option maxHeartbeats 4000000 in
theorem mX7_init_b164 (em mi : Nat) {sz9 ns9 : Nat} {sh9 : Sh} {d9 : Dt} : ∀ (x0 : Nat) (t0 : Nat) (t1 : Nat) (sz : Nat) (ns : Nat) (sh : Sh) (d : Dt), fX7_init_b164 em mi x0 t0 t1 sz ns sh d = some (sz9, ns9, sh9, d9) → sz ≤ sz9 ∧ ns ≤ ns9 := by
  intro x0 t0 t1 sz ns sh d hf
  unfold fX7_init_b164 at hf
  obtain ⟨d1, hd1, hf⟩ := bd_s hf
  obtain ⟨szq2, nsq2, shq2, dq2, hq2, hf⟩ := bw_s hf
  have hq := nwA_s hq2
  have hm := mX7_init_b172 em mi x0 x0 sz szq2 nsq2 shq2 dq2 hf
  omega

set_option maxRecDepth 100000 in
set_option maxHeartbeats 4000000 in
theorem mX7_init_b156 (em mi : Nat) {sz9 ns9 : Nat} {sh9 : Sh} {d9 : Dt} : ∀ (x0 : Nat) (t0 : Nat) (t1 : Nat) (sz : Nat) (ns : Nat) (sh : Sh) (d : Dt), fX7_init_b156 em mi x0 t0 t1 sz ns sh d = some (sz9, ns9, sh9, d9) → sz ≤ sz9 ∧ ns ≤ ns9 := by
  intro x0 t0 t1 sz ns sh d hf
  unfold fX7_init_b156 at hf
  obtain ⟨d1, hd1, hf⟩ := bd_s hf
  obtain ⟨szq2, nsq2, shq2, dq2, hq2, hf⟩ := bw_s hf
  have hq := nwA_s hq2
  have hm := mX7_init_b164 em mi x0 x0 sz szq2 nsq2 shq2 dq2 hf
  omega

set_option maxRecDepth 100000 in
set_option maxHeartbeats 4000000 in
theorem mX7_init_b148 (em mi : Nat) {sz9 ns9 : Nat} {sh9 : Sh} {d9 : Dt} : ∀ (x0 : Nat) (t0 : Nat) (t1 : Nat) (sz : Nat) (ns : Nat) (sh : Sh) (d : Dt), fX7_init_b148 em mi x0 t0 t1 sz ns sh d = some (sz9, ns9, sh9, d9) → sz ≤ sz9 ∧ ns ≤ ns9 := by
  intro x0 t0 t1 sz ns sh d hf
  unfold fX7_init_b148 at hf
  obtain ⟨d1, hd1, hf⟩ := bd_s hf
  obtain ⟨szq2, nsq2, shq2, dq2, hq2, hf⟩ := bw_s hf
  have hq := nwA_s hq2
  have hm := mX7_init_b156 em mi x0 x0 sz szq2 nsq2 shq2 dq2 hf
  omega

set_option maxRecDepth 100000 in
set_option maxHeartbeats 4000000 in
theorem mX7_init_b139 (em mi : Nat) {sz9 ns9 : Nat} {sh9 : Sh} {d9 : Dt} : ∀ (x0 : Nat) (t0 : Nat) (t1 : Nat) (sz : Nat) (ns : Nat) (sh : Sh) (d : Dt), fX7_init_b139 em mi x0 t0 t1 sz ns sh d = some (sz9, ns9, sh9, d9) → sz ≤ sz9 ∧ ns ≤ ns9 := by
  intro x0 t0 t1 sz ns sh d hf
  unfold fX7_init_b139 at hf
  obtain ⟨d1, hd1, hf⟩ := bd_s hf
  obtain ⟨szq2, nsq2, shq2, dq2, hq2, hf⟩ := bw_s hf
  have hq := nwA_s hq2
  have hm := mX7_init_b148 em mi x0 x0 sz szq2 nsq2 shq2 dq2 hf
  omega

set_option maxRecDepth 100000 in
set_option maxHeartbeats 4000000 in
theorem mX7_init_b130 (em mi : Nat) {sz9 ns9 : Nat} {sh9 : Sh} {d9 : Dt} : ∀ (x0 : Nat) (t0 : Nat) (t1 : Nat) (sz : Nat) (ns : Nat) (sh : Sh) (d : Dt), fX7_init_b130 em mi x0 t0 t1 sz ns sh d = some (sz9, ns9, sh9, d9) → sz ≤ sz9 ∧ ns ≤ ns9 := by
  intro x0 t0 t1 sz ns sh d hf
  unfold fX7_init_b130 at hf
  obtain ⟨d1, hd1, hf⟩ := bd_s hf
  obtain ⟨szq2, nsq2, shq2, dq2, hq2, hf⟩ := bw_s hf
  have hq := nwA_s hq2
  have hm := mX7_init_b139 em mi x0 x0 sz szq2 nsq2 shq2 dq2 hf
  omega

set_option maxRecDepth 100000 in
set_option maxHeartbeats 4000000 in
theorem mX7_init_b121 (em mi : Nat) {sz9 ns9 : Nat} {sh9 : Sh} {d9 : Dt} : ∀ (x0 : Nat) (t0 : Nat) (t1 : Nat) (sz : Nat) (ns : Nat) (sh : Sh) (d : Dt), fX7_init_b121 em mi x0 t0 t1 sz ns sh d = some (sz9, ns9, sh9, d9) → sz ≤ sz9 ∧ ns ≤ ns9 := by
  intro x0 t0 t1 sz ns sh d hf
  unfold fX7_init_b121 at hf
  obtain ⟨d1, hd1, hf⟩ := bd_s hf
  obtain ⟨szq2, nsq2, shq2, dq2, hq2, hf⟩ := bw_s hf
  have hq := nwA_s hq2
  have hm := mX7_init_b130 em mi x0 x0 sz szq2 nsq2 shq2 dq2 hf
  omega

set_option maxRecDepth 100000 in
set_option maxHeartbeats 4000000 in
theorem mX7_init_b112 (em mi : Nat) {sz9 ns9 : Nat} {sh9 : Sh} {d9 : Dt} : ∀ (x0 : Nat) (t0 : Nat) (t1 : Nat) (sz : Nat) (ns : Nat) (sh : Sh) (d : Dt), fX7_init_b112 em mi x0 t0 t1 sz ns sh d = some (sz9, ns9, sh9, d9) → sz ≤ sz9 ∧ ns ≤ ns9 := by
  intro x0 t0 t1 sz ns sh d hf
  unfold fX7_init_b112 at hf
  obtain ⟨d1, hd1, hf⟩ := bd_s hf
  obtain ⟨szq2, nsq2, shq2, dq2, hq2, hf⟩ := bw_s hf
  have hq := nwA_s hq2
  have hm := mX7_init_b121 em mi x0 x0 sz szq2 nsq2 shq2 dq2 hf
  omega

set_option maxRecDepth 100000 in
set_option maxHeartbeats 4000000 in
theorem mX7_init_b103 (em mi : Nat) {sz9 ns9 : Nat} {sh9 : Sh} {d9 : Dt} : ∀ (x0 : Nat) (t0 : Nat) (t1 : Nat) (sz : Nat) (ns : Nat) (sh : Sh) (d : Dt), fX7_init_b103 em mi x0 t0 t1 sz ns sh d = some (sz9, ns9, sh9, d9) → sz ≤ sz9 ∧ ns ≤ ns9 := by
  intro x0 t0 t1 sz ns sh d hf
  unfold fX7_init_b103 at hf
  obtain ⟨d1, hd1, hf⟩ := bd_s hf
  obtain ⟨szq2, nsq2, shq2, dq2, hq2, hf⟩ := bw_s hf
  have hq := nwA_s hq2
  have hm := mX7_init_b112 em mi x0 x0 sz szq2 nsq2 shq2 dq2 hf
  omega

set_option maxRecDepth 100000 in
set_option maxHeartbeats 4000000 in
theorem mX7_init_b94 (em mi : Nat) {sz9 ns9 : Nat} {sh9 : Sh} {d9 : Dt} : ∀ (x0 : Nat) (t0 : Nat) (t1 : Nat) (sz : Nat) (ns : Nat) (sh : Sh) (d : Dt), fX7_init_b94 em mi x0 t0 t1 sz ns sh d = some (sz9, ns9, sh9, d9) → sz ≤ sz9 ∧ ns ≤ ns9 := by
  intro x0 t0 t1 sz ns sh d hf
  unfold fX7_init_b94 at hf
  obtain ⟨d1, hd1, hf⟩ := bd_s hf
  obtain ⟨szq2, nsq2, shq2, dq2, hq2, hf⟩ := bw_s hf
  have hq := nwA_s hq2
  have hm := mX7_init_b103 em mi x0 x0 sz szq2 nsq2 shq2 dq2 hf
  omega

set_option maxRecDepth 100000 in
set_option maxHeartbeats 4000000 in
theorem mX7_init_b85 (em mi : Nat) {sz9 ns9 : Nat} {sh9 : Sh} {d9 : Dt} : ∀ (x0 : Nat) (t0 : Nat) (t1 : Nat) (sz : Nat) (ns : Nat) (sh : Sh) (d : Dt), fX7_init_b85 em mi x0 t0 t1 sz ns sh d = some (sz9, ns9, sh9, d9) → sz ≤ sz9 ∧ ns ≤ ns9 := by
  intro x0 t0 t1 sz ns sh d hf
  unfold fX7_init_b85 at hf
  obtain ⟨d1, hd1, hf⟩ := bd_s hf
  obtain ⟨szq2, nsq2, shq2, dq2, hq2, hf⟩ := bw_s hf
  have hq := nwA_s hq2
  have hm := mX7_init_b94 em mi x0 x0 sz szq2 nsq2 shq2 dq2 hf
  omega

set_option maxRecDepth 100000 in
set_option maxHeartbeats 4000000 in
theorem mX7_init_b76 (em mi : Nat) {sz9 ns9 : Nat} {sh9 : Sh} {d9 : Dt} : ∀ (x0 : Nat) (t0 : Nat) (t1 : Nat) (sz : Nat) (ns : Nat) (sh : Sh) (d : Dt), fX7_init_b76 em mi x0 t0 t1 sz ns sh d = some (sz9, ns9, sh9, d9) → sz ≤ sz9 ∧ ns ≤ ns9 := by
  intro x0 t0 t1 sz ns sh d hf
  unfold fX7_init_b76 at hf
  obtain ⟨d1, hd1, hf⟩ := bd_s hf
  obtain ⟨szq2, nsq2, shq2, dq2, hq2, hf⟩ := bw_s hf
  have hq := nwA_s hq2
  have hm := mX7_init_b85 em mi x0 x0 sz szq2 nsq2 shq2 dq2 hf
  omega

set_option maxRecDepth 100000 in
set_option maxHeartbeats 4000000 in
theorem mX7_init_b67 (em mi : Nat) {sz9 ns9 : Nat} {sh9 : Sh} {d9 : Dt} : ∀ (x0 : Nat) (t0 : Nat) (t1 : Nat) (sz : Nat) (ns : Nat) (sh : Sh) (d : Dt), fX7_init_b67 em mi x0 t0 t1 sz ns sh d = some (sz9, ns9, sh9, d9) → sz ≤ sz9 ∧ ns ≤ ns9 := by
  intro x0 t0 t1 sz ns sh d hf
  unfold fX7_init_b67 at hf
  obtain ⟨d1, hd1, hf⟩ := bd_s hf
  obtain ⟨szq2, nsq2, shq2, dq2, hq2, hf⟩ := bw_s hf
  have hq := nwA_s hq2
  have hm := mX7_init_b76 em mi x0 x0 sz szq2 nsq2 shq2 dq2 hf
  omega

set_option maxRecDepth 100000 in
set_option maxHeartbeats 4000000 in
theorem mX7_init_b58 (em mi : Nat) {sz9 ns9 : Nat} {sh9 : Sh} {d9 : Dt} : ∀ (x0 : Nat) (t0 : Nat) (t1 : Nat) (sz : Nat) (ns : Nat) (sh : Sh) (d : Dt), fX7_init_b58 em mi x0 t0 t1 sz ns sh d = some (sz9, ns9, sh9, d9) → sz ≤ sz9 ∧ ns ≤ ns9 := by
  intro x0 t0 t1 sz ns sh d hf
  unfold fX7_init_b58 at hf
  obtain ⟨d1, hd1, hf⟩ := bd_s hf
  obtain ⟨szq2, nsq2, shq2, dq2, hq2, hf⟩ := bw_s hf
  have hq := nwA_s hq2
  have hm := mX7_init_b67 em mi x0 x0 sz szq2 nsq2 shq2 dq2 hf
  omega

set_option maxRecDepth 100000 in
set_option maxHeartbeats 4000000 in
theorem mX7_init_b49 (em mi : Nat) {sz9 ns9 : Nat} {sh9 : Sh} {d9 : Dt} : ∀ (x0 : Nat) (t0 : Nat) (t1 : Nat) (sz : Nat) (ns : Nat) (sh : Sh) (d : Dt), fX7_init_b49 em mi x0 t0 t1 sz ns sh d = some (sz9, ns9, sh9, d9) → sz ≤ sz9 ∧ ns ≤ ns9 := by
  intro x0 t0 t1 sz ns sh d hf
  unfold fX7_init_b49 at hf
  obtain ⟨d1, hd1, hf⟩ := bd_s hf
  obtain ⟨szq2, nsq2, shq2, dq2, hq2, hf⟩ := bw_s hf
  have hq := nwA_s hq2
  have hm := mX7_init_b58 em mi x0 x0 sz szq2 nsq2 shq2 dq2 hf
  omega

set_option maxRecDepth 100000 in
set_option maxHeartbeats 4000000 in
theorem mX7_init_b41 (em mi : Nat) {sz9 ns9 : Nat} {sh9 : Sh} {d9 : Dt} : ∀ (x0 : Nat) (t0 : Nat) (t1 : Nat) (sz : Nat) (ns : Nat) (sh : Sh) (d : Dt), fX7_init_b41 em mi x0 t0 t1 sz ns sh d = some (sz9, ns9, sh9, d9) → sz ≤ sz9 ∧ ns ≤ ns9 := by
  intro x0 t0 t1 sz ns sh d hf
  unfold fX7_init_b41 at hf
  obtain ⟨d1, hd1, hf⟩ := bd_s hf
  obtain ⟨szq2, nsq2, shq2, dq2, hq2, hf⟩ := bw_s hf
  have hq := nwA_s hq2
  have hm := mX7_init_b49 em mi x0 x0 sz szq2 nsq2 shq2 dq2 hf
  omega

set_option maxRecDepth 100000 in
set_option maxHeartbeats 4000000 in
theorem mX7_init_b33 (em mi : Nat) {sz9 ns9 : Nat} {sh9 : Sh} {d9 : Dt} : ∀ (x0 : Nat) (t0 : Nat) (t1 : Nat) (sz : Nat) (ns : Nat) (sh : Sh) (d : Dt), fX7_init_b33 em mi x0 t0 t1 sz ns sh d = some (sz9, ns9, sh9, d9) → sz ≤ sz9 ∧ ns ≤ ns9 := by
  intro x0 t0 t1 sz ns sh d hf
  unfold fX7_init_b33 at hf
  obtain ⟨d1, hd1, hf⟩ := bd_s hf
  obtain ⟨szq2, nsq2, shq2, dq2, hq2, hf⟩ := bw_s hf
  have hq := nwA_s hq2
  have hm := mX7_init_b41 em mi x0 x0 sz szq2 nsq2 shq2 dq2 hf
  omega

set_option maxRecDepth 100000 in
set_option maxHeartbeats 4000000 in
theorem mX7_init_b25 (em mi : Nat) {sz9 ns9 : Nat} {sh9 : Sh} {d9 : Dt} : ∀ (x0 : Nat) (t0 : Nat) (t1 : Nat) (sz : Nat) (ns : Nat) (sh : Sh) (d : Dt), fX7_init_b25 em mi x0 t0 t1 sz ns sh d = some (sz9, ns9, sh9, d9) → sz ≤ sz9 ∧ ns ≤ ns9 := by
  intro x0 t0 t1 sz ns sh d hf
  unfold fX7_init_b25 at hf
  obtain ⟨d1, hd1, hf⟩ := bd_s hf
  obtain ⟨szq2, nsq2, shq2, dq2, hq2, hf⟩ := bw_s hf
  have hq := nwA_s hq2
  have hm := mX7_init_b33 em mi x0 x0 sz szq2 nsq2 shq2 dq2 hf
  omega

set_option maxRecDepth 100000 in
set_option maxHeartbeats 4000000 in
theorem mX7_init_b17 (em mi : Nat) {sz9 ns9 : Nat} {sh9 : Sh} {d9 : Dt} : ∀ (x0 : Nat) (t0 : Nat) (t1 : Nat) (sz : Nat) (ns : Nat) (sh : Sh) (d : Dt), fX7_init_b17 em mi x0 t0 t1 sz ns sh d = some (sz9, ns9, sh9, d9) → sz ≤ sz9 ∧ ns ≤ ns9 := by
  intro x0 t0 t1 sz ns sh d hf
  unfold fX7_init_b17 at hf
  obtain ⟨d1, hd1, hf⟩ := bd_s hf
  obtain ⟨szq2, nsq2, shq2, dq2, hq2, hf⟩ := bw_s hf
  have hq := nwA_s hq2
  have hm := mX7_init_b25 em mi x0 x0 sz szq2 nsq2 shq2 dq2 hf
  omega

set_option maxRecDepth 100000 in
set_option maxHeartbeats 4000000 in
theorem mX7_init_b9 (em mi : Nat) {sz9 ns9 : Nat} {sh9 : Sh} {d9 : Dt} : ∀ (x0 : Nat) (t0 : Nat) (t1 : Nat) (sz : Nat) (ns : Nat) (sh : Sh) (d : Dt), fX7_init_b9 em mi x0 t0 t1 sz ns sh d = some (sz9, ns9, sh9, d9) → sz ≤ sz9 ∧ ns ≤ ns9 := by
  intro x0 t0 t1 sz ns sh d hf
  unfold fX7_init_b9 at hf
  obtain ⟨d1, hd1, hf⟩ := bd_s hf
  obtain ⟨szq2, nsq2, shq2, dq2, hq2, hf⟩ := bw_s hf
  have hq := nwA_s hq2
  have hm := mX7_init_b17 em mi x0 x0 sz szq2 nsq2 shq2 dq2 hf
  omega

set_option maxRecDepth 100000 in
set_option maxHeartbeats 4000000 in
theorem mX7_init_b0 (em mi : Nat) {sz9 ns9 : Nat} {sh9 : Sh} {d9 : Dt} : ∀ (x0 : Nat) (sz : Nat) (ns : Nat) (sh : Sh) (d : Dt), fX7_init_b0 em mi x0 sz ns sh d = some (sz9, ns9, sh9, d9) → sz ≤ sz9 ∧ ns ≤ ns9 := by
  intro x0 sz ns sh d hf
  unfold fX7_init_b0 at hf
  obtain ⟨szq1, nsq1, shq1, dq1, hq1, hf⟩ := bw_s hf
  have hq := nwA_s hq1
  have hm := mX7_init_b9 em mi x0 x0 sz szq1 nsq1 shq1 dq1 hf
  omega

theorem gX7_init (em mi : Nat) (x0 : Nat) (sz ns : Nat) (sh : Sh) (d : Dt) {sz9 ns9 : Nat} {sh9 : Sh} {d9 : Dt} (hf : fX7_init em mi x0 sz ns sh d = some (sz9, ns9, sh9, d9)) : sz ≤ sz9 ∧ ns ≤ ns9 := mX7_init_b0 em mi x0 sz ns sh d hf

set_option maxRecDepth 100000 in
set_option maxHeartbeats 4000000 in
theorem wX7_init_b188 (C : mx p s m args meth c yX7_init cX7_init 1 none A D cy st) {sz9 ns9 : Nat} {sh9 : Sh} {d9 : Dt} {mc ms : Nat} : ∀ (t0 : Nat) (t1 : Nat) (sz : Nat) (ns : Nat) (sh : Sh) (d : Dt), fX7_init_b188 (st 1) (st 2) t0 t1 sz ns sh d = some (sz9, ns9, sh9, d9) → ∀ {cu su : Nat}, sz9 + cu = sz + mc → ns9 + su = ns + ms → ∀ {H : Heap} {locs : List Loc} {ls : Array Slot}, HW A D cy sz sh d H → va_S A s.heap H locs → lv_has ls 1 [] → GA p l e s m args below meth c 1 20 mc ms A D cy none sz9 sh9 d9 H locs cu su 188 ls [.ref t1, .ref t0] := by
  have hx := C.1
  have hb := C.2.1
  intro t0 t1 sz ns sh d hf cu su hcm hsm H locs ls hw hS hl
  have hm0 := mX7_init_b188 (st 1) (st 2) t0 t1 sz ns sh d hf
  unfold fX7_init_b188 at hf
  obtain ⟨d1, hd1, hf⟩ := bd_s hf
  refine pt_315 C hw hS rfl rfl hd1 kw_824 dX7_init_188 (fun H locs hw hS => ?_)
  cases hf
  obtain rfl : mc = cu := by omega
  obtain rfl : ms = su := by omega
  exact rt_v C hw hS dX7_init_191

set_option maxRecDepth 100000 in
set_option maxHeartbeats 4000000 in
theorem wX7_init_b180 (C : mx p s m args meth c yX7_init cX7_init 1 none A D cy st) {sz9 ns9 : Nat} {sh9 : Sh} {d9 : Dt} {mc ms : Nat} : ∀ (x0 : Nat) (t0 : Nat) (t1 : Nat) (sz : Nat) (ns : Nat) (sh : Sh) (d : Dt), fX7_init_b180 (st 1) (st 2) x0 t0 t1 sz ns sh d = some (sz9, ns9, sh9, d9) → ∀ {cu su : Nat}, sz9 + cu = sz + mc → ns9 + su = ns + ms → ∀ {H : Heap} {locs : List Loc} {ls : Array Slot}, HW A D cy sz sh d H → va_S A s.heap H locs → lv_has ls 1 [(0, .ref x0)] → GA p l e s m args below meth c 1 20 mc ms A D cy none sz9 sh9 d9 H locs cu su 180 ls [.ref t1, .ref t0] := by
  have hx := C.1
  have hb := C.2.1
  intro x0 t0 t1 sz ns sh d hf cu su hcm hsm H locs ls hw hS hl
  have hm0 := mX7_init_b180 (st 1) (st 2) x0 t0 t1 sz ns sh d hf
  unfold fX7_init_b180 at hf
  obtain ⟨d1, hd1, hf⟩ := bd_s hf
  refine pt_314 C hw hS rfl rfl hd1 kw_823 dX7_init_180 (fun H locs hw hS => ?_)
  refine lv_aload_n hx hb dX7_init_183 rfl (lv_at hl 0 rfl) ?_
  refine lv_bipush (v := 16) hx hb dX7_init_184 (by decide) ?_
  obtain ⟨szq2, nsq2, shq2, dq2, hq2, hf⟩ := bw_s hf
  have hm := mX7_init_b188 (st 1) (st 2) x0 sz szq2 nsq2 shq2 dq2 hf
  have hq := nwA_s hq2
  refine w_newZ C hw hS kw_147 hq2 (by show _ ≤ mc; omega) (by show _ ≤ ms; omega) dX7_init_186 (fun H hw hS => ?_)
  exact wX7_init_b188 C x0 sz szq2 nsq2 shq2 dq2 hf (by omega) (by omega) hw hS (lv_sub hl [] rfl)

set_option maxRecDepth 100000 in
set_option maxHeartbeats 4000000 in
theorem wX7_init_b172 (C : mx p s m args meth c yX7_init cX7_init 1 none A D cy st) {sz9 ns9 : Nat} {sh9 : Sh} {d9 : Dt} {mc ms : Nat} : ∀ (x0 : Nat) (t0 : Nat) (t1 : Nat) (sz : Nat) (ns : Nat) (sh : Sh) (d : Dt), fX7_init_b172 (st 1) (st 2) x0 t0 t1 sz ns sh d = some (sz9, ns9, sh9, d9) → ∀ {cu su : Nat}, sz9 + cu = sz + mc → ns9 + su = ns + ms → ∀ {H : Heap} {locs : List Loc} {ls : Array Slot}, HW A D cy sz sh d H → va_S A s.heap H locs → lv_has ls 1 [(0, .ref x0)] → GA p l e s m args below meth c 1 20 mc ms A D cy none sz9 sh9 d9 H locs cu su 172 ls [.ref t1, .ref t0] := by
  have hx := C.1
  have hb := C.2.1
  intro x0 t0 t1 sz ns sh d hf cu su hcm hsm H locs ls hw hS hl
  have hm0 := mX7_init_b172 (st 1) (st 2) x0 t0 t1 sz ns sh d hf
  unfold fX7_init_b172 at hf
  obtain ⟨d1, hd1, hf⟩ := bd_s hf
  refine pt_313 C hw hS rfl rfl hd1 kw_822 dX7_init_172 (fun H locs hw hS => ?_)
  refine lv_aload_n hx hb dX7_init_175 rfl (lv_at hl 0 rfl) ?_
  refine lv_bipush (v := 16) hx hb dX7_init_176 (by decide) ?_
  obtain ⟨szq2, nsq2, shq2, dq2, hq2, hf⟩ := bw_s hf
  have hm := mX7_init_b180 (st 1) (st 2) x0 x0 sz szq2 nsq2 shq2 dq2 hf
  have hq := nwA_s hq2
  refine w_newJ C hw hS kw_71 hq2 (by show _ ≤ mc; omega) (by show _ ≤ ms; omega) dX7_init_178 (fun H hw hS => ?_)
  exact wX7_init_b180 C x0 x0 sz szq2 nsq2 shq2 dq2 hf (by omega) (by omega) hw hS (lv_sub hl [0] rfl)

set_option maxRecDepth 100000 in
set_option maxHeartbeats 4000000 in
theorem wX7_init_b164 (C : mx p s m args meth c yX7_init cX7_init 1 none A D cy st) {sz9 ns9 : Nat} {sh9 : Sh} {d9 : Dt} {mc ms : Nat} : ∀ (x0 : Nat) (t0 : Nat) (t1 : Nat) (sz : Nat) (ns : Nat) (sh : Sh) (d : Dt), fX7_init_b164 (st 1) (st 2) x0 t0 t1 sz ns sh d = some (sz9, ns9, sh9, d9) → ∀ {cu su : Nat}, sz9 + cu = sz + mc → ns9 + su = ns + ms → ∀ {H : Heap} {locs : List Loc} {ls : Array Slot}, HW A D cy sz sh d H → va_S A s.heap H locs → lv_has ls 1 [(0, .ref x0)] → GA p l e s m args below meth c 1 20 mc ms A D cy none sz9 sh9 d9 H locs cu su 164 ls [.ref t1, .ref t0] := by
  have hx := C.1
  have hb := C.2.1
  intro x0 t0 t1 sz ns sh d hf cu su hcm hsm H locs ls hw hS hl
  have hm0 := mX7_init_b164 (st 1) (st 2) x0 t0 t1 sz ns sh d hf
  unfold fX7_init_b164 at hf
  obtain ⟨d1, hd1, hf⟩ := bd_s hf
  refine pt_312 C hw hS rfl rfl hd1 kw_821 dX7_init_164 (fun H locs hw hS => ?_)
  refine lv_aload_n hx hb dX7_init_167 rfl (lv_at hl 0 rfl) ?_
  refine lv_bipush (v := 96) hx hb dX7_init_168 (by decide) ?_
  obtain ⟨szq2, nsq2, shq2, dq2, hq2, hf⟩ := bw_s hf
  have hm := mX7_init_b172 (st 1) (st 2) x0 x0 sz szq2 nsq2 shq2 dq2 hf
  have hq := nwA_s hq2
  refine w_newJ C hw hS kw_71 hq2 (by show _ ≤ mc; omega) (by show _ ≤ ms; omega) dX7_init_170 (fun H hw hS => ?_)
  exact wX7_init_b172 C x0 x0 sz szq2 nsq2 shq2 dq2 hf (by omega) (by omega) hw hS (lv_sub hl [0] rfl)

set_option maxRecDepth 100000 in
set_option maxHeartbeats 4000000 in
theorem wX7_init_b156 (C : mx p s m args meth c yX7_init cX7_init 1 none A D cy st) {sz9 ns9 : Nat} {sh9 : Sh} {d9 : Dt} {mc ms : Nat} : ∀ (x0 : Nat) (t0 : Nat) (t1 : Nat) (sz : Nat) (ns : Nat) (sh : Sh) (d : Dt), fX7_init_b156 (st 1) (st 2) x0 t0 t1 sz ns sh d = some (sz9, ns9, sh9, d9) → ∀ {cu su : Nat}, sz9 + cu = sz + mc → ns9 + su = ns + ms → ∀ {H : Heap} {locs : List Loc} {ls : Array Slot}, HW A D cy sz sh d H → va_S A s.heap H locs → lv_has ls 1 [(0, .ref x0)] → GA p l e s m args below meth c 1 20 mc ms A D cy none sz9 sh9 d9 H locs cu su 156 ls [.ref t1, .ref t0] := by
  have hx := C.1
  have hb := C.2.1
  intro x0 t0 t1 sz ns sh d hf cu su hcm hsm H locs ls hw hS hl
  have hm0 := mX7_init_b156 (st 1) (st 2) x0 t0 t1 sz ns sh d hf
  unfold fX7_init_b156 at hf
  obtain ⟨d1, hd1, hf⟩ := bd_s hf
  refine pt_311 C hw hS rfl rfl hd1 kw_820 dX7_init_156 (fun H locs hw hS => ?_)
  refine lv_aload_n hx hb dX7_init_159 rfl (lv_at hl 0 rfl) ?_
  refine lv_bipush (v := 96) hx hb dX7_init_160 (by decide) ?_
  obtain ⟨szq2, nsq2, shq2, dq2, hq2, hf⟩ := bw_s hf
  have hm := mX7_init_b164 (st 1) (st 2) x0 x0 sz szq2 nsq2 shq2 dq2 hf
  have hq := nwA_s hq2
  refine w_newZ C hw hS kw_147 hq2 (by show _ ≤ mc; omega) (by show _ ≤ ms; omega) dX7_init_162 (fun H hw hS => ?_)
  exact wX7_init_b164 C x0 x0 sz szq2 nsq2 shq2 dq2 hf (by omega) (by omega) hw hS (lv_sub hl [0] rfl)

set_option maxRecDepth 100000 in
set_option maxHeartbeats 4000000 in
theorem wX7_init_b148 (C : mx p s m args meth c yX7_init cX7_init 1 none A D cy st) {sz9 ns9 : Nat} {sh9 : Sh} {d9 : Dt} {mc ms : Nat} : ∀ (x0 : Nat) (t0 : Nat) (t1 : Nat) (sz : Nat) (ns : Nat) (sh : Sh) (d : Dt), fX7_init_b148 (st 1) (st 2) x0 t0 t1 sz ns sh d = some (sz9, ns9, sh9, d9) → ∀ {cu su : Nat}, sz9 + cu = sz + mc → ns9 + su = ns + ms → ∀ {H : Heap} {locs : List Loc} {ls : Array Slot}, HW A D cy sz sh d H → va_S A s.heap H locs → lv_has ls 1 [(0, .ref x0)] → GA p l e s m args below meth c 1 20 mc ms A D cy none sz9 sh9 d9 H locs cu su 148 ls [.ref t1, .ref t0] := by
  have hx := C.1
  have hb := C.2.1
  intro x0 t0 t1 sz ns sh d hf cu su hcm hsm H locs ls hw hS hl
  have hm0 := mX7_init_b148 (st 1) (st 2) x0 t0 t1 sz ns sh d hf
  unfold fX7_init_b148 at hf
  obtain ⟨d1, hd1, hf⟩ := bd_s hf
  refine pt_310 C hw hS rfl rfl hd1 kw_819 dX7_init_148 (fun H locs hw hS => ?_)
  refine lv_aload_n hx hb dX7_init_151 rfl (lv_at hl 0 rfl) ?_
  refine lv_bipush (v := 6) hx hb dX7_init_152 (by decide) ?_
  obtain ⟨szq2, nsq2, shq2, dq2, hq2, hf⟩ := bw_s hf
  have hm := mX7_init_b156 (st 1) (st 2) x0 x0 sz szq2 nsq2 shq2 dq2 hf
  have hq := nwA_s hq2
  refine w_newI C hw hS kw_70 hq2 (by show _ ≤ mc; omega) (by show _ ≤ ms; omega) dX7_init_154 (fun H hw hS => ?_)
  exact wX7_init_b156 C x0 x0 sz szq2 nsq2 shq2 dq2 hf (by omega) (by omega) hw hS (lv_sub hl [0] rfl)

set_option maxRecDepth 100000 in
set_option maxHeartbeats 4000000 in
theorem wX7_init_b139 (C : mx p s m args meth c yX7_init cX7_init 1 none A D cy st) {sz9 ns9 : Nat} {sh9 : Sh} {d9 : Dt} {mc ms : Nat} : ∀ (x0 : Nat) (t0 : Nat) (t1 : Nat) (sz : Nat) (ns : Nat) (sh : Sh) (d : Dt), fX7_init_b139 (st 1) (st 2) x0 t0 t1 sz ns sh d = some (sz9, ns9, sh9, d9) → ∀ {cu su : Nat}, sz9 + cu = sz + mc → ns9 + su = ns + ms → ∀ {H : Heap} {locs : List Loc} {ls : Array Slot}, HW A D cy sz sh d H → va_S A s.heap H locs → lv_has ls 1 [(0, .ref x0)] → GA p l e s m args below meth c 1 20 mc ms A D cy none sz9 sh9 d9 H locs cu su 139 ls [.ref t1, .ref t0] := by
  have hx := C.1
  have hb := C.2.1
  intro x0 t0 t1 sz ns sh d hf cu su hcm hsm H locs ls hw hS hl
  have hm0 := mX7_init_b139 (st 1) (st 2) x0 t0 t1 sz ns sh d hf
  unfold fX7_init_b139 at hf
  obtain ⟨d1, hd1, hf⟩ := bd_s hf
  refine pt_309 C hw hS rfl rfl hd1 kw_818 dX7_init_139 (fun H locs hw hS => ?_)
  refine lv_aload_n hx hb dX7_init_142 rfl (lv_at hl 0 rfl) ?_
  refine lv_sipush (v := 404) hx hb dX7_init_143 (by decide) ?_
  obtain ⟨szq2, nsq2, shq2, dq2, hq2, hf⟩ := bw_s hf
  have hm := mX7_init_b148 (st 1) (st 2) x0 x0 sz szq2 nsq2 shq2 dq2 hf
  have hq := nwA_s hq2
  refine w_newJ C hw hS kw_71 hq2 (by show _ ≤ mc; omega) (by show _ ≤ ms; omega) dX7_init_146 (fun H hw hS => ?_)
  exact wX7_init_b148 C x0 x0 sz szq2 nsq2 shq2 dq2 hf (by omega) (by omega) hw hS (lv_sub hl [0] rfl)

set_option maxRecDepth 100000 in
set_option maxHeartbeats 4000000 in
theorem wX7_init_b130 (C : mx p s m args meth c yX7_init cX7_init 1 none A D cy st) {sz9 ns9 : Nat} {sh9 : Sh} {d9 : Dt} {mc ms : Nat} : ∀ (x0 : Nat) (t0 : Nat) (t1 : Nat) (sz : Nat) (ns : Nat) (sh : Sh) (d : Dt), fX7_init_b130 (st 1) (st 2) x0 t0 t1 sz ns sh d = some (sz9, ns9, sh9, d9) → ∀ {cu su : Nat}, sz9 + cu = sz + mc → ns9 + su = ns + ms → ∀ {H : Heap} {locs : List Loc} {ls : Array Slot}, HW A D cy sz sh d H → va_S A s.heap H locs → lv_has ls 1 [(0, .ref x0)] → GA p l e s m args below meth c 1 20 mc ms A D cy none sz9 sh9 d9 H locs cu su 130 ls [.ref t1, .ref t0] := by
  have hx := C.1
  have hb := C.2.1
  intro x0 t0 t1 sz ns sh d hf cu su hcm hsm H locs ls hw hS hl
  have hm0 := mX7_init_b130 (st 1) (st 2) x0 t0 t1 sz ns sh d hf
  unfold fX7_init_b130 at hf
  obtain ⟨d1, hd1, hf⟩ := bd_s hf
  refine pt_307 C hw hS rfl rfl hd1 kw_816 dX7_init_130 (fun H locs hw hS => ?_)
  refine lv_aload_n hx hb dX7_init_133 rfl (lv_at hl 0 rfl) ?_
  refine lv_sipush (v := 404) hx hb dX7_init_134 (by decide) ?_
  obtain ⟨szq2, nsq2, shq2, dq2, hq2, hf⟩ := bw_s hf
  have hm := mX7_init_b139 (st 1) (st 2) x0 x0 sz szq2 nsq2 shq2 dq2 hf
  have hq := nwA_s hq2
  refine w_newJ C hw hS kw_71 hq2 (by show _ ≤ mc; omega) (by show _ ≤ ms; omega) dX7_init_137 (fun H hw hS => ?_)
  exact wX7_init_b139 C x0 x0 sz szq2 nsq2 shq2 dq2 hf (by omega) (by omega) hw hS (lv_sub hl [0] rfl)

set_option maxRecDepth 100000 in
set_option maxHeartbeats 4000000 in
theorem wX7_init_b121 (C : mx p s m args meth c yX7_init cX7_init 1 none A D cy st) {sz9 ns9 : Nat} {sh9 : Sh} {d9 : Dt} {mc ms : Nat} : ∀ (x0 : Nat) (t0 : Nat) (t1 : Nat) (sz : Nat) (ns : Nat) (sh : Sh) (d : Dt), fX7_init_b121 (st 1) (st 2) x0 t0 t1 sz ns sh d = some (sz9, ns9, sh9, d9) → ∀ {cu su : Nat}, sz9 + cu = sz + mc → ns9 + su = ns + ms → ∀ {H : Heap} {locs : List Loc} {ls : Array Slot}, HW A D cy sz sh d H → va_S A s.heap H locs → lv_has ls 1 [(0, .ref x0)] → GA p l e s m args below meth c 1 20 mc ms A D cy none sz9 sh9 d9 H locs cu su 121 ls [.ref t1, .ref t0] := by
  have hx := C.1
  have hb := C.2.1
  intro x0 t0 t1 sz ns sh d hf cu su hcm hsm H locs ls hw hS hl
  have hm0 := mX7_init_b121 (st 1) (st 2) x0 t0 t1 sz ns sh d hf
  unfold fX7_init_b121 at hf
  obtain ⟨d1, hd1, hf⟩ := bd_s hf
  refine pt_305 C hw hS rfl rfl hd1 kw_814 dX7_init_121 (fun H locs hw hS => ?_)
  refine lv_aload_n hx hb dX7_init_124 rfl (lv_at hl 0 rfl) ?_
  refine lv_sipush (v := 400) hx hb dX7_init_125 (by decide) ?_
  obtain ⟨szq2, nsq2, shq2, dq2, hq2, hf⟩ := bw_s hf
  have hm := mX7_init_b130 (st 1) (st 2) x0 x0 sz szq2 nsq2 shq2 dq2 hf
  have hq := nwA_s hq2
  refine w_newI C hw hS kw_70 hq2 (by show _ ≤ mc; omega) (by show _ ≤ ms; omega) dX7_init_128 (fun H hw hS => ?_)
  exact wX7_init_b130 C x0 x0 sz szq2 nsq2 shq2 dq2 hf (by omega) (by omega) hw hS (lv_sub hl [0] rfl)

set_option maxRecDepth 100000 in
set_option maxHeartbeats 4000000 in
theorem wX7_init_b112 (C : mx p s m args meth c yX7_init cX7_init 1 none A D cy st) {sz9 ns9 : Nat} {sh9 : Sh} {d9 : Dt} {mc ms : Nat} : ∀ (x0 : Nat) (t0 : Nat) (t1 : Nat) (sz : Nat) (ns : Nat) (sh : Sh) (d : Dt), fX7_init_b112 (st 1) (st 2) x0 t0 t1 sz ns sh d = some (sz9, ns9, sh9, d9) → ∀ {cu su : Nat}, sz9 + cu = sz + mc → ns9 + su = ns + ms → ∀ {H : Heap} {locs : List Loc} {ls : Array Slot}, HW A D cy sz sh d H → va_S A s.heap H locs → lv_has ls 1 [(0, .ref x0)] → GA p l e s m args below meth c 1 20 mc ms A D cy none sz9 sh9 d9 H locs cu su 112 ls [.ref t1, .ref t0] := by
  have hx := C.1
  have hb := C.2.1
  intro x0 t0 t1 sz ns sh d hf cu su hcm hsm H locs ls hw hS hl
  have hm0 := mX7_init_b112 (st 1) (st 2) x0 t0 t1 sz ns sh d hf
  unfold fX7_init_b112 at hf
  obtain ⟨d1, hd1, hf⟩ := bd_s hf
  refine pt_304 C hw hS rfl rfl hd1 kw_813 dX7_init_112 (fun H locs hw hS => ?_)
  refine lv_aload_n hx hb dX7_init_115 rfl (lv_at hl 0 rfl) ?_
  refine lv_sipush (v := 2800) hx hb dX7_init_116 (by decide) ?_
  obtain ⟨szq2, nsq2, shq2, dq2, hq2, hf⟩ := bw_s hf
  have hm := mX7_init_b121 (st 1) (st 2) x0 x0 sz szq2 nsq2 shq2 dq2 hf
  have hq := nwA_s hq2
  refine w_newJ C hw hS kw_71 hq2 (by show _ ≤ mc; omega) (by show _ ≤ ms; omega) dX7_init_119 (fun H hw hS => ?_)
  exact wX7_init_b121 C x0 x0 sz szq2 nsq2 shq2 dq2 hf (by omega) (by omega) hw hS (lv_sub hl [0] rfl)

set_option maxRecDepth 100000 in
set_option maxHeartbeats 4000000 in
theorem wX7_init_b103 (C : mx p s m args meth c yX7_init cX7_init 1 none A D cy st) {sz9 ns9 : Nat} {sh9 : Sh} {d9 : Dt} {mc ms : Nat} : ∀ (x0 : Nat) (t0 : Nat) (t1 : Nat) (sz : Nat) (ns : Nat) (sh : Sh) (d : Dt), fX7_init_b103 (st 1) (st 2) x0 t0 t1 sz ns sh d = some (sz9, ns9, sh9, d9) → ∀ {cu su : Nat}, sz9 + cu = sz + mc → ns9 + su = ns + ms → ∀ {H : Heap} {locs : List Loc} {ls : Array Slot}, HW A D cy sz sh d H → va_S A s.heap H locs → lv_has ls 1 [(0, .ref x0)] → GA p l e s m args below meth c 1 20 mc ms A D cy none sz9 sh9 d9 H locs cu su 103 ls [.ref t1, .ref t0] := by
  have hx := C.1
  have hb := C.2.1
  intro x0 t0 t1 sz ns sh d hf cu su hcm hsm H locs ls hw hS hl
  have hm0 := mX7_init_b103 (st 1) (st 2) x0 t0 t1 sz ns sh d hf
  unfold fX7_init_b103 at hf
  obtain ⟨d1, hd1, hf⟩ := bd_s hf
  refine pt_303 C hw hS rfl rfl hd1 kw_812 dX7_init_103 (fun H locs hw hS => ?_)
  refine lv_aload_n hx hb dX7_init_106 rfl (lv_at hl 0 rfl) ?_
  refine lv_sipush (v := 400) hx hb dX7_init_107 (by decide) ?_
  obtain ⟨szq2, nsq2, shq2, dq2, hq2, hf⟩ := bw_s hf
  have hm := mX7_init_b112 (st 1) (st 2) x0 x0 sz szq2 nsq2 shq2 dq2 hf
  have hq := nwA_s hq2
  refine w_newJ C hw hS kw_71 hq2 (by show _ ≤ mc; omega) (by show _ ≤ ms; omega) dX7_init_110 (fun H hw hS => ?_)
  exact wX7_init_b112 C x0 x0 sz szq2 nsq2 shq2 dq2 hf (by omega) (by omega) hw hS (lv_sub hl [0] rfl)

set_option maxRecDepth 100000 in
set_option maxHeartbeats 4000000 in
theorem wX7_init_b94 (C : mx p s m args meth c yX7_init cX7_init 1 none A D cy st) {sz9 ns9 : Nat} {sh9 : Sh} {d9 : Dt} {mc ms : Nat} : ∀ (x0 : Nat) (t0 : Nat) (t1 : Nat) (sz : Nat) (ns : Nat) (sh : Sh) (d : Dt), fX7_init_b94 (st 1) (st 2) x0 t0 t1 sz ns sh d = some (sz9, ns9, sh9, d9) → ∀ {cu su : Nat}, sz9 + cu = sz + mc → ns9 + su = ns + ms → ∀ {H : Heap} {locs : List Loc} {ls : Array Slot}, HW A D cy sz sh d H → va_S A s.heap H locs → lv_has ls 1 [(0, .ref x0)] → GA p l e s m args below meth c 1 20 mc ms A D cy none sz9 sh9 d9 H locs cu su 94 ls [.ref t1, .ref t0] := by
  have hx := C.1
  have hb := C.2.1
  intro x0 t0 t1 sz ns sh d hf cu su hcm hsm H locs ls hw hS hl
  have hm0 := mX7_init_b94 (st 1) (st 2) x0 t0 t1 sz ns sh d hf
  unfold fX7_init_b94 at hf
  obtain ⟨d1, hd1, hf⟩ := bd_s hf
  refine pt_302 C hw hS rfl rfl hd1 kw_811 dX7_init_94 (fun H locs hw hS => ?_)
  refine lv_aload_n hx hb dX7_init_97 rfl (lv_at hl 0 rfl) ?_
  refine lv_sipush (v := 400) hx hb dX7_init_98 (by decide) ?_
  obtain ⟨szq2, nsq2, shq2, dq2, hq2, hf⟩ := bw_s hf
  have hm := mX7_init_b103 (st 1) (st 2) x0 x0 sz szq2 nsq2 shq2 dq2 hf
  have hq := nwA_s hq2
  refine w_newI C hw hS kw_70 hq2 (by show _ ≤ mc; omega) (by show _ ≤ ms; omega) dX7_init_101 (fun H hw hS => ?_)
  exact wX7_init_b103 C x0 x0 sz szq2 nsq2 shq2 dq2 hf (by omega) (by omega) hw hS (lv_sub hl [0] rfl)

set_option maxRecDepth 100000 in
set_option maxHeartbeats 4000000 in
theorem wX7_init_b85 (C : mx p s m args meth c yX7_init cX7_init 1 none A D cy st) {sz9 ns9 : Nat} {sh9 : Sh} {d9 : Dt} {mc ms : Nat} : ∀ (x0 : Nat) (t0 : Nat) (t1 : Nat) (sz : Nat) (ns : Nat) (sh : Sh) (d : Dt), fX7_init_b85 (st 1) (st 2) x0 t0 t1 sz ns sh d = some (sz9, ns9, sh9, d9) → ∀ {cu su : Nat}, sz9 + cu = sz + mc → ns9 + su = ns + ms → ∀ {H : Heap} {locs : List Loc} {ls : Array Slot}, HW A D cy sz sh d H → va_S A s.heap H locs → lv_has ls 1 [(0, .ref x0)] → GA p l e s m args below meth c 1 20 mc ms A D cy none sz9 sh9 d9 H locs cu su 85 ls [.ref t1, .ref t0] := by
  have hx := C.1
  have hb := C.2.1
  intro x0 t0 t1 sz ns sh d hf cu su hcm hsm H locs ls hw hS hl
  have hm0 := mX7_init_b85 (st 1) (st 2) x0 t0 t1 sz ns sh d hf
  unfold fX7_init_b85 at hf
  obtain ⟨d1, hd1, hf⟩ := bd_s hf
  refine pt_301 C hw hS rfl rfl hd1 kw_810 dX7_init_85 (fun H locs hw hS => ?_)
  refine lv_aload_n hx hb dX7_init_88 rfl (lv_at hl 0 rfl) ?_
  refine lv_sipush (v := 400) hx hb dX7_init_89 (by decide) ?_
  obtain ⟨szq2, nsq2, shq2, dq2, hq2, hf⟩ := bw_s hf
  have hm := mX7_init_b94 (st 1) (st 2) x0 x0 sz szq2 nsq2 shq2 dq2 hf
  have hq := nwA_s hq2
  refine w_newI C hw hS kw_70 hq2 (by show _ ≤ mc; omega) (by show _ ≤ ms; omega) dX7_init_92 (fun H hw hS => ?_)
  exact wX7_init_b94 C x0 x0 sz szq2 nsq2 shq2 dq2 hf (by omega) (by omega) hw hS (lv_sub hl [0] rfl)

set_option maxRecDepth 100000 in
set_option maxHeartbeats 4000000 in
theorem wX7_init_b76 (C : mx p s m args meth c yX7_init cX7_init 1 none A D cy st) {sz9 ns9 : Nat} {sh9 : Sh} {d9 : Dt} {mc ms : Nat} : ∀ (x0 : Nat) (t0 : Nat) (t1 : Nat) (sz : Nat) (ns : Nat) (sh : Sh) (d : Dt), fX7_init_b76 (st 1) (st 2) x0 t0 t1 sz ns sh d = some (sz9, ns9, sh9, d9) → ∀ {cu su : Nat}, sz9 + cu = sz + mc → ns9 + su = ns + ms → ∀ {H : Heap} {locs : List Loc} {ls : Array Slot}, HW A D cy sz sh d H → va_S A s.heap H locs → lv_has ls 1 [(0, .ref x0)] → GA p l e s m args below meth c 1 20 mc ms A D cy none sz9 sh9 d9 H locs cu su 76 ls [.ref t1, .ref t0] := by
  have hx := C.1
  have hb := C.2.1
  intro x0 t0 t1 sz ns sh d hf cu su hcm hsm H locs ls hw hS hl
  have hm0 := mX7_init_b76 (st 1) (st 2) x0 t0 t1 sz ns sh d hf
  unfold fX7_init_b76 at hf
  obtain ⟨d1, hd1, hf⟩ := bd_s hf
  refine pt_300 C hw hS rfl rfl hd1 kw_809 dX7_init_76 (fun H locs hw hS => ?_)
  refine lv_aload_n hx hb dX7_init_79 rfl (lv_at hl 0 rfl) ?_
  refine lv_sipush (v := 400) hx hb dX7_init_80 (by decide) ?_
  obtain ⟨szq2, nsq2, shq2, dq2, hq2, hf⟩ := bw_s hf
  have hm := mX7_init_b85 (st 1) (st 2) x0 x0 sz szq2 nsq2 shq2 dq2 hf
  have hq := nwA_s hq2
  refine w_newI C hw hS kw_70 hq2 (by show _ ≤ mc; omega) (by show _ ≤ ms; omega) dX7_init_83 (fun H hw hS => ?_)
  exact wX7_init_b85 C x0 x0 sz szq2 nsq2 shq2 dq2 hf (by omega) (by omega) hw hS (lv_sub hl [0] rfl)

set_option maxRecDepth 100000 in
set_option maxHeartbeats 4000000 in
theorem wX7_init_b67 (C : mx p s m args meth c yX7_init cX7_init 1 none A D cy st) {sz9 ns9 : Nat} {sh9 : Sh} {d9 : Dt} {mc ms : Nat} : ∀ (x0 : Nat) (t0 : Nat) (t1 : Nat) (sz : Nat) (ns : Nat) (sh : Sh) (d : Dt), fX7_init_b67 (st 1) (st 2) x0 t0 t1 sz ns sh d = some (sz9, ns9, sh9, d9) → ∀ {cu su : Nat}, sz9 + cu = sz + mc → ns9 + su = ns + ms → ∀ {H : Heap} {locs : List Loc} {ls : Array Slot}, HW A D cy sz sh d H → va_S A s.heap H locs → lv_has ls 1 [(0, .ref x0)] → GA p l e s m args below meth c 1 20 mc ms A D cy none sz9 sh9 d9 H locs cu su 67 ls [.ref t1, .ref t0] := by
  have hx := C.1
  have hb := C.2.1
  intro x0 t0 t1 sz ns sh d hf cu su hcm hsm H locs ls hw hS hl
  have hm0 := mX7_init_b67 (st 1) (st 2) x0 t0 t1 sz ns sh d hf
  unfold fX7_init_b67 at hf
  obtain ⟨d1, hd1, hf⟩ := bd_s hf
  refine pt_299 C hw hS rfl rfl hd1 kw_808 dX7_init_67 (fun H locs hw hS => ?_)
  refine lv_aload_n hx hb dX7_init_70 rfl (lv_at hl 0 rfl) ?_
  refine lv_sipush (v := 400) hx hb dX7_init_71 (by decide) ?_
  obtain ⟨szq2, nsq2, shq2, dq2, hq2, hf⟩ := bw_s hf
  have hm := mX7_init_b76 (st 1) (st 2) x0 x0 sz szq2 nsq2 shq2 dq2 hf
  have hq := nwA_s hq2
  refine w_newI C hw hS kw_70 hq2 (by show _ ≤ mc; omega) (by show _ ≤ ms; omega) dX7_init_74 (fun H hw hS => ?_)
  exact wX7_init_b76 C x0 x0 sz szq2 nsq2 shq2 dq2 hf (by omega) (by omega) hw hS (lv_sub hl [0] rfl)

set_option maxRecDepth 100000 in
set_option maxHeartbeats 4000000 in
theorem wX7_init_b58 (C : mx p s m args meth c yX7_init cX7_init 1 none A D cy st) {sz9 ns9 : Nat} {sh9 : Sh} {d9 : Dt} {mc ms : Nat} : ∀ (x0 : Nat) (t0 : Nat) (t1 : Nat) (sz : Nat) (ns : Nat) (sh : Sh) (d : Dt), fX7_init_b58 (st 1) (st 2) x0 t0 t1 sz ns sh d = some (sz9, ns9, sh9, d9) → ∀ {cu su : Nat}, sz9 + cu = sz + mc → ns9 + su = ns + ms → ∀ {H : Heap} {locs : List Loc} {ls : Array Slot}, HW A D cy sz sh d H → va_S A s.heap H locs → lv_has ls 1 [(0, .ref x0)] → GA p l e s m args below meth c 1 20 mc ms A D cy none sz9 sh9 d9 H locs cu su 58 ls [.ref t1, .ref t0] := by
  have hx := C.1
  have hb := C.2.1
  intro x0 t0 t1 sz ns sh d hf cu su hcm hsm H locs ls hw hS hl
  have hm0 := mX7_init_b58 (st 1) (st 2) x0 t0 t1 sz ns sh d hf
  unfold fX7_init_b58 at hf
  obtain ⟨d1, hd1, hf⟩ := bd_s hf
  refine pt_298 C hw hS rfl rfl hd1 kw_807 dX7_init_58 (fun H locs hw hS => ?_)
  refine lv_aload_n hx hb dX7_init_61 rfl (lv_at hl 0 rfl) ?_
  refine lv_sipush (v := 400) hx hb dX7_init_62 (by decide) ?_
  obtain ⟨szq2, nsq2, shq2, dq2, hq2, hf⟩ := bw_s hf
  have hm := mX7_init_b67 (st 1) (st 2) x0 x0 sz szq2 nsq2 shq2 dq2 hf
  have hq := nwA_s hq2
  refine w_newI C hw hS kw_70 hq2 (by show _ ≤ mc; omega) (by show _ ≤ ms; omega) dX7_init_65 (fun H hw hS => ?_)
  exact wX7_init_b67 C x0 x0 sz szq2 nsq2 shq2 dq2 hf (by omega) (by omega) hw hS (lv_sub hl [0] rfl)

set_option maxRecDepth 100000 in
set_option maxHeartbeats 4000000 in
theorem wX7_init_b49 (C : mx p s m args meth c yX7_init cX7_init 1 none A D cy st) {sz9 ns9 : Nat} {sh9 : Sh} {d9 : Dt} {mc ms : Nat} : ∀ (x0 : Nat) (t0 : Nat) (t1 : Nat) (sz : Nat) (ns : Nat) (sh : Sh) (d : Dt), fX7_init_b49 (st 1) (st 2) x0 t0 t1 sz ns sh d = some (sz9, ns9, sh9, d9) → ∀ {cu su : Nat}, sz9 + cu = sz + mc → ns9 + su = ns + ms → ∀ {H : Heap} {locs : List Loc} {ls : Array Slot}, HW A D cy sz sh d H → va_S A s.heap H locs → lv_has ls 1 [(0, .ref x0)] → GA p l e s m args below meth c 1 20 mc ms A D cy none sz9 sh9 d9 H locs cu su 49 ls [.ref t1, .ref t0] := by
  have hx := C.1
  have hb := C.2.1
  intro x0 t0 t1 sz ns sh d hf cu su hcm hsm H locs ls hw hS hl
  have hm0 := mX7_init_b49 (st 1) (st 2) x0 t0 t1 sz ns sh d hf
  unfold fX7_init_b49 at hf
  obtain ⟨d1, hd1, hf⟩ := bd_s hf
  refine pt_296 C hw hS rfl rfl hd1 kw_805 dX7_init_49 (fun H locs hw hS => ?_)
  refine lv_aload_n hx hb dX7_init_52 rfl (lv_at hl 0 rfl) ?_
  refine lv_sipush (v := 400) hx hb dX7_init_53 (by decide) ?_
  obtain ⟨szq2, nsq2, shq2, dq2, hq2, hf⟩ := bw_s hf
  have hm := mX7_init_b58 (st 1) (st 2) x0 x0 sz szq2 nsq2 shq2 dq2 hf
  have hq := nwA_s hq2
  refine w_newI C hw hS kw_70 hq2 (by show _ ≤ mc; omega) (by show _ ≤ ms; omega) dX7_init_56 (fun H hw hS => ?_)
  exact wX7_init_b58 C x0 x0 sz szq2 nsq2 shq2 dq2 hf (by omega) (by omega) hw hS (lv_sub hl [0] rfl)

set_option maxRecDepth 100000 in
set_option maxHeartbeats 4000000 in
theorem wX7_init_b41 (C : mx p s m args meth c yX7_init cX7_init 1 none A D cy st) {sz9 ns9 : Nat} {sh9 : Sh} {d9 : Dt} {mc ms : Nat} : ∀ (x0 : Nat) (t0 : Nat) (t1 : Nat) (sz : Nat) (ns : Nat) (sh : Sh) (d : Dt), fX7_init_b41 (st 1) (st 2) x0 t0 t1 sz ns sh d = some (sz9, ns9, sh9, d9) → ∀ {cu su : Nat}, sz9 + cu = sz + mc → ns9 + su = ns + ms → ∀ {H : Heap} {locs : List Loc} {ls : Array Slot}, HW A D cy sz sh d H → va_S A s.heap H locs → lv_has ls 1 [(0, .ref x0)] → GA p l e s m args below meth c 1 20 mc ms A D cy none sz9 sh9 d9 H locs cu su 41 ls [.ref t1, .ref t0] := by
  have hx := C.1
  have hb := C.2.1
  intro x0 t0 t1 sz ns sh d hf cu su hcm hsm H locs ls hw hS hl
  have hm0 := mX7_init_b41 (st 1) (st 2) x0 t0 t1 sz ns sh d hf
  unfold fX7_init_b41 at hf
  obtain ⟨d1, hd1, hf⟩ := bd_s hf
  refine pt_294 C hw hS rfl rfl hd1 kw_803 dX7_init_41 (fun H locs hw hS => ?_)
  refine lv_aload_n hx hb dX7_init_44 rfl (lv_at hl 0 rfl) ?_
  refine lv_bipush (v := 10) hx hb dX7_init_45 (by decide) ?_
  obtain ⟨szq2, nsq2, shq2, dq2, hq2, hf⟩ := bw_s hf
  have hm := mX7_init_b49 (st 1) (st 2) x0 x0 sz szq2 nsq2 shq2 dq2 hf
  have hq := nwA_s hq2
  refine w_newI C hw hS kw_70 hq2 (by show _ ≤ mc; omega) (by show _ ≤ ms; omega) dX7_init_47 (fun H hw hS => ?_)
  exact wX7_init_b49 C x0 x0 sz szq2 nsq2 shq2 dq2 hf (by omega) (by omega) hw hS (lv_sub hl [0] rfl)

set_option maxRecDepth 100000 in
set_option maxHeartbeats 4000000 in
theorem wX7_init_b33 (C : mx p s m args meth c yX7_init cX7_init 1 none A D cy st) {sz9 ns9 : Nat} {sh9 : Sh} {d9 : Dt} {mc ms : Nat} : ∀ (x0 : Nat) (t0 : Nat) (t1 : Nat) (sz : Nat) (ns : Nat) (sh : Sh) (d : Dt), fX7_init_b33 (st 1) (st 2) x0 t0 t1 sz ns sh d = some (sz9, ns9, sh9, d9) → ∀ {cu su : Nat}, sz9 + cu = sz + mc → ns9 + su = ns + ms → ∀ {H : Heap} {locs : List Loc} {ls : Array Slot}, HW A D cy sz sh d H → va_S A s.heap H locs → lv_has ls 1 [(0, .ref x0)] → GA p l e s m args below meth c 1 20 mc ms A D cy none sz9 sh9 d9 H locs cu su 33 ls [.ref t1, .ref t0] := by
  have hx := C.1
  have hb := C.2.1
  intro x0 t0 t1 sz ns sh d hf cu su hcm hsm H locs ls hw hS hl
  have hm0 := mX7_init_b33 (st 1) (st 2) x0 t0 t1 sz ns sh d hf
  unfold fX7_init_b33 at hf
  obtain ⟨d1, hd1, hf⟩ := bd_s hf
  refine pt_293 C hw hS rfl rfl hd1 kw_802 dX7_init_33 (fun H locs hw hS => ?_)
  refine lv_aload_n hx hb dX7_init_36 rfl (lv_at hl 0 rfl) ?_
  refine lv_bipush (v := 6) hx hb dX7_init_37 (by decide) ?_
  obtain ⟨szq2, nsq2, shq2, dq2, hq2, hf⟩ := bw_s hf
  have hm := mX7_init_b41 (st 1) (st 2) x0 x0 sz szq2 nsq2 shq2 dq2 hf
  have hq := nwA_s hq2
  refine w_newI C hw hS kw_70 hq2 (by show _ ≤ mc; omega) (by show _ ≤ ms; omega) dX7_init_39 (fun H hw hS => ?_)
  exact wX7_init_b41 C x0 x0 sz szq2 nsq2 shq2 dq2 hf (by omega) (by omega) hw hS (lv_sub hl [0] rfl)

set_option maxRecDepth 100000 in
set_option maxHeartbeats 4000000 in
theorem wX7_init_b25 (C : mx p s m args meth c yX7_init cX7_init 1 none A D cy st) {sz9 ns9 : Nat} {sh9 : Sh} {d9 : Dt} {mc ms : Nat} : ∀ (x0 : Nat) (t0 : Nat) (t1 : Nat) (sz : Nat) (ns : Nat) (sh : Sh) (d : Dt), fX7_init_b25 (st 1) (st 2) x0 t0 t1 sz ns sh d = some (sz9, ns9, sh9, d9) → ∀ {cu su : Nat}, sz9 + cu = sz + mc → ns9 + su = ns + ms → ∀ {H : Heap} {locs : List Loc} {ls : Array Slot}, HW A D cy sz sh d H → va_S A s.heap H locs → lv_has ls 1 [(0, .ref x0)] → GA p l e s m args below meth c 1 20 mc ms A D cy none sz9 sh9 d9 H locs cu su 25 ls [.ref t1, .ref t0] := by
  have hx := C.1
  have hb := C.2.1
  intro x0 t0 t1 sz ns sh d hf cu su hcm hsm H locs ls hw hS hl
  have hm0 := mX7_init_b25 (st 1) (st 2) x0 t0 t1 sz ns sh d hf
  unfold fX7_init_b25 at hf
  obtain ⟨d1, hd1, hf⟩ := bd_s hf
  refine pt_292 C hw hS rfl rfl hd1 kw_801 dX7_init_25 (fun H locs hw hS => ?_)
  refine lv_aload_n hx hb dX7_init_28 rfl (lv_at hl 0 rfl) ?_
  refine lv_bipush (v := 60) hx hb dX7_init_29 (by decide) ?_
  obtain ⟨szq2, nsq2, shq2, dq2, hq2, hf⟩ := bw_s hf
  have hm := mX7_init_b33 (st 1) (st 2) x0 x0 sz szq2 nsq2 shq2 dq2 hf
  have hq := nwA_s hq2
  refine w_newZ C hw hS kw_147 hq2 (by show _ ≤ mc; omega) (by show _ ≤ ms; omega) dX7_init_31 (fun H hw hS => ?_)
  exact wX7_init_b33 C x0 x0 sz szq2 nsq2 shq2 dq2 hf (by omega) (by omega) hw hS (lv_sub hl [0] rfl)

set_option maxRecDepth 100000 in
set_option maxHeartbeats 4000000 in
theorem wX7_init_b17 (C : mx p s m args meth c yX7_init cX7_init 1 none A D cy st) {sz9 ns9 : Nat} {sh9 : Sh} {d9 : Dt} {mc ms : Nat} : ∀ (x0 : Nat) (t0 : Nat) (t1 : Nat) (sz : Nat) (ns : Nat) (sh : Sh) (d : Dt), fX7_init_b17 (st 1) (st 2) x0 t0 t1 sz ns sh d = some (sz9, ns9, sh9, d9) → ∀ {cu su : Nat}, sz9 + cu = sz + mc → ns9 + su = ns + ms → ∀ {H : Heap} {locs : List Loc} {ls : Array Slot}, HW A D cy sz sh d H → va_S A s.heap H locs → lv_has ls 1 [(0, .ref x0)] → GA p l e s m args below meth c 1 20 mc ms A D cy none sz9 sh9 d9 H locs cu su 17 ls [.ref t1, .ref t0] := by
  have hx := C.1
  have hb := C.2.1
  intro x0 t0 t1 sz ns sh d hf cu su hcm hsm H locs ls hw hS hl
  have hm0 := mX7_init_b17 (st 1) (st 2) x0 t0 t1 sz ns sh d hf
  unfold fX7_init_b17 at hf
  obtain ⟨d1, hd1, hf⟩ := bd_s hf
  refine pt_291 C hw hS rfl rfl hd1 kw_800 dX7_init_17 (fun H locs hw hS => ?_)
  refine lv_aload_n hx hb dX7_init_20 rfl (lv_at hl 0 rfl) ?_
  refine lv_bipush (v := 42) hx hb dX7_init_21 (by decide) ?_
  obtain ⟨szq2, nsq2, shq2, dq2, hq2, hf⟩ := bw_s hf
  have hm := mX7_init_b25 (st 1) (st 2) x0 x0 sz szq2 nsq2 shq2 dq2 hf
  have hq := nwA_s hq2
  refine w_newJ C hw hS kw_71 hq2 (by show _ ≤ mc; omega) (by show _ ≤ ms; omega) dX7_init_23 (fun H hw hS => ?_)
  exact wX7_init_b25 C x0 x0 sz szq2 nsq2 shq2 dq2 hf (by omega) (by omega) hw hS (lv_sub hl [0] rfl)

set_option maxRecDepth 100000 in
set_option maxHeartbeats 4000000 in
theorem wX7_init_b9 (C : mx p s m args meth c yX7_init cX7_init 1 none A D cy st) {sz9 ns9 : Nat} {sh9 : Sh} {d9 : Dt} {mc ms : Nat} : ∀ (x0 : Nat) (t0 : Nat) (t1 : Nat) (sz : Nat) (ns : Nat) (sh : Sh) (d : Dt), fX7_init_b9 (st 1) (st 2) x0 t0 t1 sz ns sh d = some (sz9, ns9, sh9, d9) → ∀ {cu su : Nat}, sz9 + cu = sz + mc → ns9 + su = ns + ms → ∀ {H : Heap} {locs : List Loc} {ls : Array Slot}, HW A D cy sz sh d H → va_S A s.heap H locs → lv_has ls 1 [(0, .ref x0)] → GA p l e s m args below meth c 1 20 mc ms A D cy none sz9 sh9 d9 H locs cu su 9 ls [.ref t1, .ref t0] := by
  have hx := C.1
  have hb := C.2.1
  intro x0 t0 t1 sz ns sh d hf cu su hcm hsm H locs ls hw hS hl
  have hm0 := mX7_init_b9 (st 1) (st 2) x0 t0 t1 sz ns sh d hf
  unfold fX7_init_b9 at hf
  obtain ⟨d1, hd1, hf⟩ := bd_s hf
  refine pt_289 C hw hS rfl rfl hd1 kw_798 dX7_init_9 (fun H locs hw hS => ?_)
  refine lv_aload_n hx hb dX7_init_12 rfl (lv_at hl 0 rfl) ?_
  refine lv_bipush (v := 42) hx hb dX7_init_13 (by decide) ?_
  obtain ⟨szq2, nsq2, shq2, dq2, hq2, hf⟩ := bw_s hf
  have hm := mX7_init_b17 (st 1) (st 2) x0 x0 sz szq2 nsq2 shq2 dq2 hf
  have hq := nwA_s hq2
  refine w_newJ C hw hS kw_71 hq2 (by show _ ≤ mc; omega) (by show _ ≤ ms; omega) dX7_init_15 (fun H hw hS => ?_)
  exact wX7_init_b17 C x0 x0 sz szq2 nsq2 shq2 dq2 hf (by omega) (by omega) hw hS (lv_sub hl [0] rfl)

set_option maxRecDepth 100000 in
set_option maxHeartbeats 4000000 in
theorem wX7_init_b0 (C : mx p s m args meth c yX7_init cX7_init 1 none A D cy st) {sz9 ns9 : Nat} {sh9 : Sh} {d9 : Dt} {mc ms : Nat} : ∀ (x0 : Nat) (sz : Nat) (ns : Nat) (sh : Sh) (d : Dt), fX7_init_b0 (st 1) (st 2) x0 sz ns sh d = some (sz9, ns9, sh9, d9) → ∀ {cu su : Nat}, sz9 + cu = sz + mc → ns9 + su = ns + ms → ∀ {H : Heap} {locs : List Loc} {ls : Array Slot}, HW A D cy sz sh d H → va_S A s.heap H locs → lv_has ls 1 [(0, .ref x0)] → GA p l e s m args below meth c 1 20 mc ms A D cy none sz9 sh9 d9 H locs cu su 0 ls [] := by
  have hx := C.1
  have hb := C.2.1
  intro x0 sz ns sh d hf cu su hcm hsm H locs ls hw hS hl
  have hm0 := mX7_init_b0 (st 1) (st 2) x0 sz ns sh d hf
  unfold fX7_init_b0 at hf
  refine lv_aload_n hx hb dX7_init_0 rfl (lv_at hl 0 rfl) ?_
  refine W.objInit hx hb C.2.2.2.2.2.1 (C.2.2.2.2.1 _ kw_796) (C.2.2.2.2.1 _ kw_24) (C.2.2.2.2.1 _ kw_25) rfl (hl.1.trans C.2.2.2.1.symm) rfl dX7_init_1 (Nat.le_of_ble_eq_true rfl) (Nat.le_of_ble_eq_true rfl) ?_
  refine W.eq (g2 := F0 m 4 ls []) rfl ?_
  refine lv_aload_n hx hb dX7_init_4 rfl (lv_at hl 0 rfl) ?_
  refine lv_bipush (v := 6) hx hb dX7_init_5 (by decide) ?_
  obtain ⟨szq1, nsq1, shq1, dq1, hq1, hf⟩ := bw_s hf
  have hm := mX7_init_b9 (st 1) (st 2) x0 x0 sz szq1 nsq1 shq1 dq1 hf
  have hq := nwA_s hq1
  refine w_newI C hw hS kw_70 hq1 (by show _ ≤ mc; omega) (by show _ ≤ ms; omega) dX7_init_7 (fun H hw hS => ?_)
  exact wX7_init_b9 C x0 x0 sz szq1 nsq1 shq1 dq1 hf (by omega) (by omega) hw hS (lv_sub hl [0] rfl)

set_option maxRecDepth 100000 in
set_option maxHeartbeats 4000000 in
theorem tX7_init (l : Launch) (A : Nat → Prop) (D : va_G) (cy : Nat → ClassId) (st : Nat → Nat) (x0 : Nat) (sz ns : Nat) (sh : Sh) (d : Dt) {sz9 ns9 : Nat} {sh9 : Sh} {d9 : Dt} (hf : fX7_init (st 1) (st 2) x0 sz ns sh d = some (sz9, ns9, sh9, d9)) : Ct l yX7_init cX7_init 1 none 1 20 (sz9 - sz) (ns9 - ns) A D cy st [.ref x0] sz sh d none sz9 sh9 d9 := by
  have hm := gX7_init (st 1) (st 2) x0 sz ns sh d hf
  exact ct_of (by decide) (Nat.le_of_ble_eq_true rfl) (fun p e s m args below meth c C hw hS ls hl => wX7_init_b0 C x0 sz ns sh d hf (by omega) (by omega) hw hS hl)
end
