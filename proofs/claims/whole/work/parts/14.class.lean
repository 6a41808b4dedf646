section
variable {p : Program} {l : Launch} {e : Env} {s : State} {m : MethodId} {args : Array Value} {below : List Frame} {meth : Method} {c : Code} {A : Nat → Prop} {D : va_G} {cy : Nat → ClassId} {st : Nat → Nat} {sz : Nat} {sh : Sh}
theorem dX6_init_0 : decode cX6_init 0 = .ok (.aload_n 0, 1) := by decide +kernel
theorem dX6_init_1 : decode cX6_init 1 = .ok (.invokespecial 1, 3) := by decide +kernel
theorem dX6_init_4 : decode cX6_init 4 = .ok (.aload_n 0, 1) := by decide +kernel
theorem dX6_init_5 : decode cX6_init 5 = .ok (.bipush 6, 2) := by decide +kernel
theorem dX6_init_7 : decode cX6_init 7 = .ok (.anewarray 9, 3) := by decide +kernel
theorem dX6_init_10 : decode cX6_init 10 = .ok (.putfield 11, 3) := by decide +kernel
theorem dX6_init_13 : decode cX6_init 13 = .ok (.aload_n 0, 1) := by decide +kernel
theorem dX6_init_14 : decode cX6_init 14 = .ok (.bipush 10, 2) := by decide +kernel
theorem dX6_init_16 : decode cX6_init 16 = .ok (.anewarray 15, 3) := by decide +kernel
theorem dX6_init_19 : decode cX6_init 19 = .ok (.putfield 17, 3) := by decide +kernel
theorem dX6_init_22 : decode cX6_init 22 = .ok (.aload_n 0, 1) := by decide +kernel
theorem dX6_init_23 : decode cX6_init 23 = .ok (.new 21, 3) := by decide +kernel
theorem dX6_init_26 : decode cX6_init 26 = .ok (.dup, 1) := by decide +kernel
theorem dX6_init_27 : decode cX6_init 27 = .ok (.invokespecial 23, 3) := by decide +kernel
theorem dX6_init_30 : decode cX6_init 30 = .ok (.putfield 24, 3) := by decide +kernel
theorem dX6_init_33 : decode cX6_init 33 = .ok (.aload_n 0, 1) := by decide +kernel
theorem dX6_init_34 : decode cX6_init 34 = .ok (.bipush 6, 2) := by decide +kernel
theorem dX6_init_36 : decode cX6_init 36 = .ok (.newarray .int, 2) := by decide +kernel
theorem dX6_init_38 : decode cX6_init 38 = .ok (.putfield 28, 3) := by decide +kernel
theorem dX6_init_41 : decode cX6_init 41 = .ok (.aload_n 0, 1) := by decide +kernel
theorem dX6_init_42 : decode cX6_init 42 = .ok (.new 32, 3) := by decide +kernel
theorem dX6_init_45 : decode cX6_init 45 = .ok (.dup, 1) := by decide +kernel
theorem dX6_init_46 : decode cX6_init 46 = .ok (.invokespecial 34, 3) := by decide +kernel
theorem dX6_init_49 : decode cX6_init 49 = .ok (.putfield 35, 3) := by decide +kernel
theorem dX6_init_52 : decode cX6_init 52 = .ok (.aload_n 0, 1) := by decide +kernel
theorem dX6_init_53 : decode cX6_init 53 = .ok (.new 32, 3) := by decide +kernel
theorem dX6_init_56 : decode cX6_init 56 = .ok (.dup, 1) := by decide +kernel
theorem dX6_init_57 : decode cX6_init 57 = .ok (.invokespecial 34, 3) := by decide +kernel
theorem dX6_init_60 : decode cX6_init 60 = .ok (.putfield 39, 3) := by decide +kernel
theorem dX6_init_63 : decode cX6_init 63 = .ok (.return_, 1) := by decide +kernel
theorem ckX6_init : CK yX6_init cX6_init 1 0 := ⟨rfl, kw_21, kw_1, kw_22, by decide +kernel, by decide +kernel, by decide +kernel⟩
def fX6_init_b60 (em mi : Nat) (t0 : Nat) (t1 : Nat) (sz : Nat) (ns : Nat) (sh : Sh) (d : Dt) : Option (Wl) := bd (pR sh d 8 261 t0 (some t1)) fun d1 => some (sz, ns, sh, d1)

def fX6_init_b56 (em mi : Nat) (t0 : Nat) (t1 : Nat) (sz : Nat) (ns : Nat) (sh : Sh) (d : Dt) : Option (Wl) := bw (fX5_init em mi t1 sz ns sh d) fun szq3 nsq3 shq3 dq3 => fX6_init_b60 em mi t0 t1 szq3 nsq3 shq3 dq3

def fX6_init_b49 (em mi : Nat) (x0 : Nat) (t0 : Nat) (t1 : Nat) (sz : Nat) (ns : Nat) (sh : Sh) (d : Dt) : Option (Wl) := bd (pR sh d 8 260 t0 (some t1)) fun d1 => bw (nwO sz ns sh d1 7 2) fun szq2 nsq2 shq2 dq2 => fX6_init_b56 em mi x0 sz szq2 nsq2 shq2 dq2

def fX6_init_b45 (em mi : Nat) (x0 : Nat) (t0 : Nat) (t1 : Nat) (sz : Nat) (ns : Nat) (sh : Sh) (d : Dt) : Option (Wl) := bw (fX5_init em mi t1 sz ns sh d) fun szq3 nsq3 shq3 dq3 => fX6_init_b49 em mi x0 t0 t1 szq3 nsq3 shq3 dq3

def fX6_init_b38 (em mi : Nat) (x0 : Nat) (t0 : Nat) (t1 : Nat) (sz : Nat) (ns : Nat) (sh : Sh) (d : Dt) : Option (Wl) := bd (pR sh d 8 259 t0 (some t1)) fun d1 => bw (nwO sz ns sh d1 7 2) fun szq2 nsq2 shq2 dq2 => fX6_init_b45 em mi x0 x0 sz szq2 nsq2 shq2 dq2

def fX6_init_b30 (em mi : Nat) (x0 : Nat) (t0 : Nat) (t1 : Nat) (sz : Nat) (ns : Nat) (sh : Sh) (d : Dt) : Option (Wl) := bd (pR sh d 8 258 t0 (some t1)) fun d1 => bw (nwA sz ns sh d1 20 (6 : Int32)) fun szq2 nsq2 shq2 dq2 => fX6_init_b38 em mi x0 x0 sz szq2 nsq2 shq2 dq2

def fX6_init_b26 (em mi : Nat) (x0 : Nat) (t0 : Nat) (t1 : Nat) (sz : Nat) (ns : Nat) (sh : Sh) (d : Dt) : Option (Wl) := bw (fJx4a65c_init_da8c8 em mi t1 sz ns sh d) fun szq3 nsq3 shq3 dq3 => fX6_init_b30 em mi x0 t0 t1 szq3 nsq3 shq3 dq3

def fX6_init_b19 (em mi : Nat) (x0 : Nat) (t0 : Nat) (t1 : Nat) (sz : Nat) (ns : Nat) (sh : Sh) (d : Dt) : Option (Wl) := bd (pR sh d 8 257 t0 (some t1)) fun d1 => bw (nwO sz ns sh d1 1 3) fun szq2 nsq2 shq2 dq2 => fX6_init_b26 em mi x0 x0 sz szq2 nsq2 shq2 dq2

def fX6_init_b10 (em mi : Nat) (x0 : Nat) (t0 : Nat) (t1 : Nat) (sz : Nat) (ns : Nat) (sh : Sh) (d : Dt) : Option (Wl) := bd (pR sh d 8 256 t0 (some t1)) fun d1 => bw (nwA sz ns sh d1 25 (10 : Int32)) fun szq2 nsq2 shq2 dq2 => fX6_init_b19 em mi x0 x0 sz szq2 nsq2 shq2 dq2

def fX6_init_b0 (em mi : Nat) (x0 : Nat) (sz : Nat) (ns : Nat) (sh : Sh) (d : Dt) : Option (Wl) := bw (nwA sz ns sh d 24 (6 : Int32)) fun szq1 nsq1 shq1 dq1 => fX6_init_b10 em mi x0 x0 sz szq1 nsq1 shq1 dq1

def fX6_init (em mi : Nat) (x0 : Nat) (sz ns : Nat) (sh : Sh) (d : Dt) : Option (Wl) := fX6_init_b0 em mi x0 sz ns sh d

set_option maxRecDepth 100000 in
set_option maxHeartbeats 4000000 in
theorem mX6_init_b60 (em mi : Nat) {sz9 ns9 : Nat} {sh9 : Sh} {d9 : Dt} : ∀ (t0 : Nat) (t1 : Nat) (sz : Nat) (ns : Nat) (sh : Sh) (d : Dt), fX6_init_b60 em mi t0 t1 sz ns sh d = some (sz9, ns9, sh9, d9) → sz ≤ sz9 ∧ ns ≤ ns9 := by
  intro t0 t1 sz ns sh d hf
  unfold fX6_init_b60 at hf
  obtain ⟨d1, hd1, hf⟩ := bd_s hf
  cases hf
  exact ⟨Nat.le_refl _, Nat.le_refl _⟩

set_option maxRecDepth 100000 in
set_option maxHeartbeats 4000000 in
theorem mX6_init_b56 (em mi : Nat) {sz9 ns9 : Nat} {sh9 : Sh} {d9 : Dt} : ∀ (t0 : Nat) (t1 : Nat) (sz : Nat) (ns : Nat) (sh : Sh) (d : Dt), fX6_init_b56 em mi t0 t1 sz ns sh d = some (sz9, ns9, sh9, d9) → sz ≤ sz9 ∧ ns ≤ ns9 := by
  intro t0 t1 sz ns sh d hf
  unfold fX6_init_b56 at hf
  obtain ⟨szq3, nsq3, shq3, dq3, h1, hf⟩ := bw_s hf
  have hq := gX5_init em mi t1 sz ns sh d h1
  have hm := mX6_init_b60 em mi t0 t1 szq3 nsq3 shq3 dq3 hf
  omega

set_option maxRecDepth 100000 in
set_option maxHeartbeats 4000000 in
theorem mX6_init_b49 (em mi : Nat) {sz9 ns9 : Nat} {sh9 : Sh} {d9 : Dt} : ∀ (x0 : Nat) (t0 : Nat) (t1 : Nat) (sz : Nat) (ns : Nat) (sh : Sh) (d : Dt), fX6_init_b49 em mi x0 t0 t1 sz ns sh d = some (sz9, ns9, sh9, d9) → sz ≤ sz9 ∧ ns ≤ ns9 := by
  intro x0 t0 t1 sz ns sh d hf
  unfold fX6_init_b49 at hf
  obtain ⟨d1, hd1, hf⟩ := bd_s hf
  obtain ⟨szq2, nsq2, shq2, dq2, hq2, hf⟩ := bw_s hf
  have hq := nwO_s hq2
  have hm := mX6_init_b56 em mi x0 sz szq2 nsq2 shq2 dq2 hf
  omega

set_option maxRecDepth 100000 in
set_option maxHeartbeats 4000000 in
theorem mX6_init_b45 (em mi : Nat) {sz9 ns9 : Nat} {sh9 : Sh} {d9 : Dt} : ∀ (x0 : Nat) (t0 : Nat) (t1 : Nat) (sz : Nat) (ns : Nat) (sh : Sh) (d : Dt), fX6_init_b45 em mi x0 t0 t1 sz ns sh d = some (sz9, ns9, sh9, d9) → sz ≤ sz9 ∧ ns ≤ ns9 := by
  intro x0 t0 t1 sz ns sh d hf
  unfold fX6_init_b45 at hf
  obtain ⟨szq3, nsq3, shq3, dq3, h1, hf⟩ := bw_s hf
  have hq := gX5_init em mi t1 sz ns sh d h1
  have hm := mX6_init_b49 em mi x0 t0 t1 szq3 nsq3 shq3 dq3 hf
  omega

set_option maxRecDepth 100000 in
set_option maxHeartbeats 4000000 in
theorem mX6_init_b38 (em mi : Nat) {sz9 ns9 : Nat} {sh9 : Sh} {d9 : Dt} : ∀ (x0 : Nat) (t0 : Nat) (t1 : Nat) (sz : Nat) (ns : Nat) (sh : Sh) (d : Dt), fX6_init_b38 em mi x0 t0 t1 sz ns sh d = some (sz9, ns9, sh9, d9) → sz ≤ sz9 ∧ ns ≤ ns9 := by
  intro x0 t0 t1 sz ns sh d hf
  unfold fX6_init_b38 at hf
  obtain ⟨d1, hd1, hf⟩ := bd_s hf
  obtain ⟨szq2, nsq2, shq2, dq2, hq2, hf⟩ := bw_s hf
  have hq := nwO_s hq2
  have hm := mX6_init_b45 em mi x0 x0 sz szq2 nsq2 shq2 dq2 hf
  omega

set_option maxRecDepth 100000 in
set_option maxHeartbeats 4000000 in
theorem mX6_init_b30 (em mi : Nat) {sz9 ns9 : Nat} {sh9 : Sh} {d9 : Dt} : ∀ (x0 : Nat) (t0 : Nat) (t1 : Nat) (sz : Nat) (ns : Nat) (sh : Sh) (d : Dt), fX6_init_b30 em mi x0 t0 t1 sz ns sh d = some (sz9, ns9, sh9, d9) → sz ≤ sz9 ∧ ns ≤ ns9 := by
  intro x0 t0 t1 sz ns sh d hf
  unfold fX6_init_b30 at hf
  obtain ⟨d1, hd1, hf⟩ := bd_s hf
  obtain ⟨szq2, nsq2, shq2, dq2, hq2, hf⟩ := bw_s hf
  have hq := nwA_s hq2
  have hm := mX6_init_b38 em mi x0 x0 sz szq2 nsq2 shq2 dq2 hf
  omega

set_option maxRecDepth 100000 in
set_option maxHeartbeats 4000000 in
theorem mX6_init_b26 (em mi : Nat) {sz9 ns9 : Nat} {sh9 : Sh} {d9 : Dt} : ∀ (x0 : Nat) (t0 : Nat) (t1 : Nat) (sz : Nat) (ns : Nat) (sh : Sh) (d : Dt), fX6_init_b26 em mi x0 t0 t1 sz ns sh d = some (sz9, ns9, sh9, d9) → sz ≤ sz9 ∧ ns ≤ ns9 := by
  intro x0 t0 t1 sz ns sh d hf
  unfold fX6_init_b26 at hf
  obtain ⟨szq3, nsq3, shq3, dq3, h1, hf⟩ := bw_s hf
  have hq := gJx4a65c_init_da8c8 em mi t1 sz ns sh d h1
  have hm := mX6_init_b30 em mi x0 t0 t1 szq3 nsq3 shq3 dq3 hf
  omega

set_option maxRecDepth 100000 in
set_option maxHeartbeats 4000000 in
theorem mX6_init_b19 (em mi : Nat) {sz9 ns9 : Nat} {sh9 : Sh} {d9 : Dt} : ∀ (x0 : Nat) (t0 : Nat) (t1 : Nat) (sz : Nat) (ns : Nat) (sh : Sh) (d : Dt), fX6_init_b19 em mi x0 t0 t1 sz ns sh d = some (sz9, ns9, sh9, d9) → sz ≤ sz9 ∧ ns ≤ ns9 := by
  intro x0 t0 t1 sz ns sh d hf
  unfold fX6_init_b19 at hf
  obtain ⟨d1, hd1, hf⟩ := bd_s hf
  obtain ⟨szq2, nsq2, shq2, dq2, hq2, hf⟩ := bw_s hf
  have hq := nwO_s hq2
  have hm := mX6_init_b26 em mi x0 x0 sz szq2 nsq2 shq2 dq2 hf
  omega

set_option maxRecDepth 100000 in
set_option maxHeartbeats 4000000 in
theorem mX6_init_b10 (em mi : Nat) {sz9 ns9 : Nat} {sh9 : Sh} {d9 : Dt} : ∀ (x0 : Nat) (t0 : Nat) (t1 : Nat) (sz : Nat) (ns : Nat) (sh : Sh) (d : Dt), fX6_init_b10 em mi x0 t0 t1 sz ns sh d = some (sz9, ns9, sh9, d9) → sz ≤ sz9 ∧ ns ≤ ns9 := by
  intro x0 t0 t1 sz ns sh d hf
  unfold fX6_init_b10 at hf
  obtain ⟨d1, hd1, hf⟩ := bd_s hf
  obtain ⟨szq2, nsq2, shq2, dq2, hq2, hf⟩ := bw_s hf
  have hq := nwA_s hq2
  have hm := mX6_init_b19 em mi x0 x0 sz szq2 nsq2 shq2 dq2 hf
  omega

set_option maxRecDepth 100000 in
set_option maxHeartbeats 4000000 in
theorem mX6_init_b0 (em mi : Nat) {sz9 ns9 : Nat} {sh9 : Sh} {d9 : Dt} : ∀ (x0 : Nat) (sz : Nat) (ns : Nat) (sh : Sh) (d : Dt), fX6_init_b0 em mi x0 sz ns sh d = some (sz9, ns9, sh9, d9) → sz ≤ sz9 ∧ ns ≤ ns9 := by
  intro x0 sz ns sh d hf
  unfold fX6_init_b0 at hf
  obtain ⟨szq1, nsq1, shq1, dq1, hq1, hf⟩ := bw_s hf
  have hq := nwA_s hq1
  have hm := mX6_init_b10 em mi x0 x0 sz szq1 nsq1 shq1 dq1 hf
  omega

theorem gX6_init (em mi : Nat) (x0 : Nat) (sz ns : Nat) (sh : Sh) (d : Dt) {sz9 ns9 : Nat} {sh9 : Sh} {d9 : Dt} (hf : fX6_init em mi x0 sz ns sh d = some (sz9, ns9, sh9, d9)) : sz ≤ sz9 ∧ ns ≤ ns9 := mX6_init_b0 em mi x0 sz ns sh d hf

set_option maxRecDepth 100000 in
set_option maxHeartbeats 4000000 in
theorem wX6_init_b60 (C : mx p s m args meth c yX6_init cX6_init 1 none A D cy st) {sz9 ns9 : Nat} {sh9 : Sh} {d9 : Dt} {mc ms : Nat} : ∀ (t0 : Nat) (t1 : Nat) (sz : Nat) (ns : Nat) (sh : Sh) (d : Dt), fX6_init_b60 (st 1) (st 2) t0 t1 sz ns sh d = some (sz9, ns9, sh9, d9) → ∀ {cu su : Nat}, sz9 + cu = sz + mc → ns9 + su = ns + ms → ∀ {H : Heap} {locs : List Loc} {ls : Array Slot}, HW A D cy sz sh d H → va_S A s.heap H locs → lv_has ls 1 [] → GA p l e s m args below meth c 4 80 mc ms A D cy none sz9 sh9 d9 H locs cu su 60 ls [.ref t1, .ref t0] := by
  have hx := C.1
  have hb := C.2.1
  intro t0 t1 sz ns sh d hf cu su hcm hsm H locs ls hw hS hl
  have hm0 := mX6_init_b60 (st 1) (st 2) t0 t1 sz ns sh d hf
  unfold fX6_init_b60 at hf
  obtain ⟨d1, hd1, hf⟩ := bd_s hf
  refine pt_261 C hw hS rfl rfl hd1 kw_77 dX6_init_60 (fun H locs hw hS => ?_)
  cases hf
  obtain rfl : mc = cu := by omega
  obtain rfl : ms = su := by omega
  exact rt_v C hw hS dX6_init_63

set_option maxRecDepth 100000 in
set_option maxHeartbeats 4000000 in
theorem wX6_init_b56 (C : mx p s m args meth c yX6_init cX6_init 1 none A D cy st) {sz9 ns9 : Nat} {sh9 : Sh} {d9 : Dt} {mc ms : Nat} : ∀ (t0 : Nat) (t1 : Nat) (sz : Nat) (ns : Nat) (sh : Sh) (d : Dt), fX6_init_b56 (st 1) (st 2) t0 t1 sz ns sh d = some (sz9, ns9, sh9, d9) → ∀ {cu su : Nat}, sz9 + cu = sz + mc → ns9 + su = ns + ms → ∀ {H : Heap} {locs : List Loc} {ls : Array Slot}, HW A D cy sz sh d H → va_S A s.heap H locs → lv_has ls 1 [] → GA p l e s m args below meth c 4 80 mc ms A D cy none sz9 sh9 d9 H locs cu su 56 ls [.ref t1, .ref t0] := by
  have hx := C.1
  have hb := C.2.1
  intro t0 t1 sz ns sh d hf cu su hcm hsm H locs ls hw hS hl
  have hm0 := mX6_init_b56 (st 1) (st 2) t0 t1 sz ns sh d hf
  unfold fX6_init_b56 at hf
  refine lv_dup hx hb dX6_init_56 rfl ?_
  obtain ⟨szq3, nsq3, shq3, dq3, h1, hf⟩ := bw_s hf
  have hm := mX6_init_b60 (st 1) (st 2) t0 t1 szq3 nsq3 shq3 dq3 hf
  have hq := gX5_init (st 1) (st 2) t1 sz ns sh d h1
  refine cl_IN (host := "ManyHands") C hw hS (tX5_init l A D cy st t1 sz ns sh d h1) ckX5_init (by decide +kernel) ⟨(Nat.le_of_ble_eq_true rfl), (Nat.le_of_ble_eq_true rfl)⟩ hl.1 rfl (Nat.le_of_ble_eq_true rfl) dX6_init_57 ⟨by show _ ≤ mc; omega, by show _ ≤ ms; omega⟩ (fun H locs hw hS => ?_)
  exact wX6_init_b60 C t0 t1 szq3 nsq3 shq3 dq3 hf (by omega) (by omega) hw hS (lv_sub hl [] rfl)

set_option maxRecDepth 100000 in
set_option maxHeartbeats 4000000 in
theorem wX6_init_b49 (C : mx p s m args meth c yX6_init cX6_init 1 none A D cy st) {sz9 ns9 : Nat} {sh9 : Sh} {d9 : Dt} {mc ms : Nat} : ∀ (x0 : Nat) (t0 : Nat) (t1 : Nat) (sz : Nat) (ns : Nat) (sh : Sh) (d : Dt), fX6_init_b49 (st 1) (st 2) x0 t0 t1 sz ns sh d = some (sz9, ns9, sh9, d9) → ∀ {cu su : Nat}, sz9 + cu = sz + mc → ns9 + su = ns + ms → ∀ {H : Heap} {locs : List Loc} {ls : Array Slot}, HW A D cy sz sh d H → va_S A s.heap H locs → lv_has ls 1 [(0, .ref x0)] → GA p l e s m args below meth c 4 80 mc ms A D cy none sz9 sh9 d9 H locs cu su 49 ls [.ref t1, .ref t0] := by
  have hx := C.1
  have hb := C.2.1
  intro x0 t0 t1 sz ns sh d hf cu su hcm hsm H locs ls hw hS hl
  have hm0 := mX6_init_b49 (st 1) (st 2) x0 t0 t1 sz ns sh d hf
  unfold fX6_init_b49 at hf
  obtain ⟨d1, hd1, hf⟩ := bd_s hf
  refine pt_260 C hw hS rfl rfl hd1 kw_76 dX6_init_49 (fun H locs hw hS => ?_)
  refine lv_aload_n hx hb dX6_init_52 rfl (lv_at hl 0 rfl) ?_
  obtain ⟨szq2, nsq2, shq2, dq2, hq2, hf⟩ := bw_s hf
  have hm := mX6_init_b56 (st 1) (st 2) x0 sz szq2 nsq2 shq2 dq2 hf
  have hq := nwO_s hq2
  refine w_new (ci := 6) C hw hS inX5 tyX5 tyX5_ok rfl (by decide) dfX5 kw_56 kw_57 kw_5 hq2 (by show _ ≤ mc; omega) (by show _ ≤ ms; omega) dX6_init_53 (fun H hw hS => ?_)
  exact wX6_init_b56 C x0 sz szq2 nsq2 shq2 dq2 hf (by omega) (by omega) hw hS (lv_sub hl [] rfl)

set_option maxRecDepth 100000 in
set_option maxHeartbeats 4000000 in
theorem wX6_init_b45 (C : mx p s m args meth c yX6_init cX6_init 1 none A D cy st) {sz9 ns9 : Nat} {sh9 : Sh} {d9 : Dt} {mc ms : Nat} : ∀ (x0 : Nat) (t0 : Nat) (t1 : Nat) (sz : Nat) (ns : Nat) (sh : Sh) (d : Dt), fX6_init_b45 (st 1) (st 2) x0 t0 t1 sz ns sh d = some (sz9, ns9, sh9, d9) → ∀ {cu su : Nat}, sz9 + cu = sz + mc → ns9 + su = ns + ms → ∀ {H : Heap} {locs : List Loc} {ls : Array Slot}, HW A D cy sz sh d H → va_S A s.heap H locs → lv_has ls 1 [(0, .ref x0)] → GA p l e s m args below meth c 4 80 mc ms A D cy none sz9 sh9 d9 H locs cu su 45 ls [.ref t1, .ref t0] := by
  have hx := C.1
  have hb := C.2.1
  intro x0 t0 t1 sz ns sh d hf cu su hcm hsm H locs ls hw hS hl
  have hm0 := mX6_init_b45 (st 1) (st 2) x0 t0 t1 sz ns sh d hf
  unfold fX6_init_b45 at hf
  refine lv_dup hx hb dX6_init_45 rfl ?_
  obtain ⟨szq3, nsq3, shq3, dq3, h1, hf⟩ := bw_s hf
  have hm := mX6_init_b49 (st 1) (st 2) x0 t0 t1 szq3 nsq3 shq3 dq3 hf
  have hq := gX5_init (st 1) (st 2) t1 sz ns sh d h1
  refine cl_IN (host := "ManyHands") C hw hS (tX5_init l A D cy st t1 sz ns sh d h1) ckX5_init (by decide +kernel) ⟨(Nat.le_of_ble_eq_true rfl), (Nat.le_of_ble_eq_true rfl)⟩ hl.1 rfl (Nat.le_of_ble_eq_true rfl) dX6_init_46 ⟨by show _ ≤ mc; omega, by show _ ≤ ms; omega⟩ (fun H locs hw hS => ?_)
  exact wX6_init_b49 C x0 t0 t1 szq3 nsq3 shq3 dq3 hf (by omega) (by omega) hw hS (lv_sub hl [0] rfl)

set_option maxRecDepth 100000 in
set_option maxHeartbeats 4000000 in
theorem wX6_init_b38 (C : mx p s m args meth c yX6_init cX6_init 1 none A D cy st) {sz9 ns9 : Nat} {sh9 : Sh} {d9 : Dt} {mc ms : Nat} : ∀ (x0 : Nat) (t0 : Nat) (t1 : Nat) (sz : Nat) (ns : Nat) (sh : Sh) (d : Dt), fX6_init_b38 (st 1) (st 2) x0 t0 t1 sz ns sh d = some (sz9, ns9, sh9, d9) → ∀ {cu su : Nat}, sz9 + cu = sz + mc → ns9 + su = ns + ms → ∀ {H : Heap} {locs : List Loc} {ls : Array Slot}, HW A D cy sz sh d H → va_S A s.heap H locs → lv_has ls 1 [(0, .ref x0)] → GA p l e s m args below meth c 4 80 mc ms A D cy none sz9 sh9 d9 H locs cu su 38 ls [.ref t1, .ref t0] := by
  have hx := C.1
  have hb := C.2.1
  intro x0 t0 t1 sz ns sh d hf cu su hcm hsm H locs ls hw hS hl
  have hm0 := mX6_init_b38 (st 1) (st 2) x0 t0 t1 sz ns sh d hf
  unfold fX6_init_b38 at hf
  obtain ⟨d1, hd1, hf⟩ := bd_s hf
  refine pt_259 C hw hS rfl rfl hd1 kw_75 dX6_init_38 (fun H locs hw hS => ?_)
  refine lv_aload_n hx hb dX6_init_41 rfl (lv_at hl 0 rfl) ?_
  obtain ⟨szq2, nsq2, shq2, dq2, hq2, hf⟩ := bw_s hf
  have hm := mX6_init_b45 (st 1) (st 2) x0 x0 sz szq2 nsq2 shq2 dq2 hf
  have hq := nwO_s hq2
  refine w_new (ci := 6) C hw hS inX5 tyX5 tyX5_ok rfl (by decide) dfX5 kw_56 kw_57 kw_5 hq2 (by show _ ≤ mc; omega) (by show _ ≤ ms; omega) dX6_init_42 (fun H hw hS => ?_)
  exact wX6_init_b45 C x0 x0 sz szq2 nsq2 shq2 dq2 hf (by omega) (by omega) hw hS (lv_sub hl [0] rfl)

set_option maxRecDepth 100000 in
set_option maxHeartbeats 4000000 in
theorem wX6_init_b30 (C : mx p s m args meth c yX6_init cX6_init 1 none A D cy st) {sz9 ns9 : Nat} {sh9 : Sh} {d9 : Dt} {mc ms : Nat} : ∀ (x0 : Nat) (t0 : Nat) (t1 : Nat) (sz : Nat) (ns : Nat) (sh : Sh) (d : Dt), fX6_init_b30 (st 1) (st 2) x0 t0 t1 sz ns sh d = some (sz9, ns9, sh9, d9) → ∀ {cu su : Nat}, sz9 + cu = sz + mc → ns9 + su = ns + ms → ∀ {H : Heap} {locs : List Loc} {ls : Array Slot}, HW A D cy sz sh d H → va_S A s.heap H locs → lv_has ls 1 [(0, .ref x0)] → GA p l e s m args below meth c 4 80 mc ms A D cy none sz9 sh9 d9 H locs cu su 30 ls [.ref t1, .ref t0] := by
  have hx := C.1
  have hb := C.2.1
  intro x0 t0 t1 sz ns sh d hf cu su hcm hsm H locs ls hw hS hl
  have hm0 := mX6_init_b30 (st 1) (st 2) x0 t0 t1 sz ns sh d hf
  unfold fX6_init_b30 at hf
  obtain ⟨d1, hd1, hf⟩ := bd_s hf
  refine pt_258 C hw hS rfl rfl hd1 kw_74 dX6_init_30 (fun H locs hw hS => ?_)
  refine lv_aload_n hx hb dX6_init_33 rfl (lv_at hl 0 rfl) ?_
  refine lv_bipush (v := 6) hx hb dX6_init_34 (by decide) ?_
  obtain ⟨szq2, nsq2, shq2, dq2, hq2, hf⟩ := bw_s hf
  have hm := mX6_init_b38 (st 1) (st 2) x0 x0 sz szq2 nsq2 shq2 dq2 hf
  have hq := nwA_s hq2
  refine w_newI C hw hS kw_70 hq2 (by show _ ≤ mc; omega) (by show _ ≤ ms; omega) dX6_init_36 (fun H hw hS => ?_)
  exact wX6_init_b38 C x0 x0 sz szq2 nsq2 shq2 dq2 hf (by omega) (by omega) hw hS (lv_sub hl [0] rfl)

set_option maxRecDepth 100000 in
set_option maxHeartbeats 4000000 in
theorem wX6_init_b26 (C : mx p s m args meth c yX6_init cX6_init 1 none A D cy st) {sz9 ns9 : Nat} {sh9 : Sh} {d9 : Dt} {mc ms : Nat} : ∀ (x0 : Nat) (t0 : Nat) (t1 : Nat) (sz : Nat) (ns : Nat) (sh : Sh) (d : Dt), fX6_init_b26 (st 1) (st 2) x0 t0 t1 sz ns sh d = some (sz9, ns9, sh9, d9) → ∀ {cu su : Nat}, sz9 + cu = sz + mc → ns9 + su = ns + ms → ∀ {H : Heap} {locs : List Loc} {ls : Array Slot}, HW A D cy sz sh d H → va_S A s.heap H locs → lv_has ls 1 [(0, .ref x0)] → GA p l e s m args below meth c 4 80 mc ms A D cy none sz9 sh9 d9 H locs cu su 26 ls [.ref t1, .ref t0] := by
  have hx := C.1
  have hb := C.2.1
  intro x0 t0 t1 sz ns sh d hf cu su hcm hsm H locs ls hw hS hl
  have hm0 := mX6_init_b26 (st 1) (st 2) x0 t0 t1 sz ns sh d hf
  unfold fX6_init_b26 at hf
  refine lv_dup hx hb dX6_init_26 rfl ?_
  obtain ⟨szq3, nsq3, shq3, dq3, h1, hf⟩ := bw_s hf
  have hm := mX6_init_b30 (st 1) (st 2) x0 t0 t1 szq3 nsq3 shq3 dq3 hf
  have hq := gJx4a65c_init_da8c8 (st 1) (st 2) t1 sz ns sh d h1
  refine cl_I C hw hS (tJx4a65c_init_da8c8 l A D cy st t1 sz ns sh d h1) ckJx4a65c_init_da8c8 kw_32 ⟨(Nat.le_of_ble_eq_true rfl), (Nat.le_of_ble_eq_true rfl)⟩ hl.1 rfl (Nat.le_of_ble_eq_true rfl) dX6_init_27 ⟨by show _ ≤ mc; omega, by show _ ≤ ms; omega⟩ (fun H locs hw hS => ?_)
  exact wX6_init_b30 C x0 t0 t1 szq3 nsq3 shq3 dq3 hf (by omega) (by omega) hw hS (lv_sub hl [0] rfl)

set_option maxRecDepth 100000 in
set_option maxHeartbeats 4000000 in
theorem wX6_init_b19 (C : mx p s m args meth c yX6_init cX6_init 1 none A D cy st) {sz9 ns9 : Nat} {sh9 : Sh} {d9 : Dt} {mc ms : Nat} : ∀ (x0 : Nat) (t0 : Nat) (t1 : Nat) (sz : Nat) (ns : Nat) (sh : Sh) (d : Dt), fX6_init_b19 (st 1) (st 2) x0 t0 t1 sz ns sh d = some (sz9, ns9, sh9, d9) → ∀ {cu su : Nat}, sz9 + cu = sz + mc → ns9 + su = ns + ms → ∀ {H : Heap} {locs : List Loc} {ls : Array Slot}, HW A D cy sz sh d H → va_S A s.heap H locs → lv_has ls 1 [(0, .ref x0)] → GA p l e s m args below meth c 4 80 mc ms A D cy none sz9 sh9 d9 H locs cu su 19 ls [.ref t1, .ref t0] := by
  have hx := C.1
  have hb := C.2.1
  intro x0 t0 t1 sz ns sh d hf cu su hcm hsm H locs ls hw hS hl
  have hm0 := mX6_init_b19 (st 1) (st 2) x0 t0 t1 sz ns sh d hf
  unfold fX6_init_b19 at hf
  obtain ⟨d1, hd1, hf⟩ := bd_s hf
  refine pt_257 C hw hS rfl rfl hd1 kw_73 dX6_init_19 (fun H locs hw hS => ?_)
  refine lv_aload_n hx hb dX6_init_22 rfl (lv_at hl 0 rfl) ?_
  obtain ⟨szq2, nsq2, shq2, dq2, hq2, hf⟩ := bw_s hf
  have hm := mX6_init_b26 (st 1) (st 2) x0 x0 sz szq2 nsq2 shq2 dq2 hf
  have hq := nwO_s hq2
  refine w_new (ci := 0) C hw hS inJx4a65c tyJx4a65c tyJx4a65c_ok rfl (by decide) dfJx4a65c kw_30 kw_31 kw_4 hq2 (by show _ ≤ mc; omega) (by show _ ≤ ms; omega) dX6_init_23 (fun H hw hS => ?_)
  exact wX6_init_b26 C x0 x0 sz szq2 nsq2 shq2 dq2 hf (by omega) (by omega) hw hS (lv_sub hl [0] rfl)

set_option maxRecDepth 100000 in
set_option maxHeartbeats 4000000 in
theorem wX6_init_b10 (C : mx p s m args meth c yX6_init cX6_init 1 none A D cy st) {sz9 ns9 : Nat} {sh9 : Sh} {d9 : Dt} {mc ms : Nat} : ∀ (x0 : Nat) (t0 : Nat) (t1 : Nat) (sz : Nat) (ns : Nat) (sh : Sh) (d : Dt), fX6_init_b10 (st 1) (st 2) x0 t0 t1 sz ns sh d = some (sz9, ns9, sh9, d9) → ∀ {cu su : Nat}, sz9 + cu = sz + mc → ns9 + su = ns + ms → ∀ {H : Heap} {locs : List Loc} {ls : Array Slot}, HW A D cy sz sh d H → va_S A s.heap H locs → lv_has ls 1 [(0, .ref x0)] → GA p l e s m args below meth c 4 80 mc ms A D cy none sz9 sh9 d9 H locs cu su 10 ls [.ref t1, .ref t0] := by
  have hx := C.1
  have hb := C.2.1
  intro x0 t0 t1 sz ns sh d hf cu su hcm hsm H locs ls hw hS hl
  have hm0 := mX6_init_b10 (st 1) (st 2) x0 t0 t1 sz ns sh d hf
  unfold fX6_init_b10 at hf
  obtain ⟨d1, hd1, hf⟩ := bd_s hf
  refine pt_256 C hw hS rfl rfl hd1 kw_72 dX6_init_10 (fun H locs hw hS => ?_)
  refine lv_aload_n hx hb dX6_init_13 rfl (lv_at hl 0 rfl) ?_
  refine lv_bipush (v := 10) hx hb dX6_init_14 (by decide) ?_
  obtain ⟨szq2, nsq2, shq2, dq2, hq2, hf⟩ := bw_s hf
  have hm := mX6_init_b19 (st 1) (st 2) x0 x0 sz szq2 nsq2 shq2 dq2 hf
  have hq := nwA_s hq2
  refine w_newq C hw hS 5 rfl (by decide) kw_28 C.2.2.2.2.2.2.2.1.2.2.1.2.2.1 rfl hq2 (by show _ ≤ mc; omega) (by show _ ≤ ms; omega) dX6_init_16 (fun H hw hS => ?_)
  exact wX6_init_b19 C x0 x0 sz szq2 nsq2 shq2 dq2 hf (by omega) (by omega) hw hS (lv_sub hl [0] rfl)

set_option maxRecDepth 100000 in
set_option maxHeartbeats 4000000 in
theorem wX6_init_b0 (C : mx p s m args meth c yX6_init cX6_init 1 none A D cy st) {sz9 ns9 : Nat} {sh9 : Sh} {d9 : Dt} {mc ms : Nat} : ∀ (x0 : Nat) (sz : Nat) (ns : Nat) (sh : Sh) (d : Dt), fX6_init_b0 (st 1) (st 2) x0 sz ns sh d = some (sz9, ns9, sh9, d9) → ∀ {cu su : Nat}, sz9 + cu = sz + mc → ns9 + su = ns + ms → ∀ {H : Heap} {locs : List Loc} {ls : Array Slot}, HW A D cy sz sh d H → va_S A s.heap H locs → lv_has ls 1 [(0, .ref x0)] → GA p l e s m args below meth c 4 80 mc ms A D cy none sz9 sh9 d9 H locs cu su 0 ls [] := by
  have hx := C.1
  have hb := C.2.1
  intro x0 sz ns sh d hf cu su hcm hsm H locs ls hw hS hl
  have hm0 := mX6_init_b0 (st 1) (st 2) x0 sz ns sh d hf
  unfold fX6_init_b0 at hf
  refine lv_aload_n hx hb dX6_init_0 rfl (lv_at hl 0 rfl) ?_
  refine W.objInit hx hb C.2.2.2.2.2.1 (C.2.2.2.2.1 _ kw_23) (C.2.2.2.2.1 _ kw_24) (C.2.2.2.2.1 _ kw_25) rfl (hl.1.trans C.2.2.2.1.symm) rfl dX6_init_1 (Nat.le_of_ble_eq_true rfl) (Nat.le_of_ble_eq_true rfl) ?_
  refine W.eq (g2 := F0 m 4 ls []) rfl ?_
  refine lv_aload_n hx hb dX6_init_4 rfl (lv_at hl 0 rfl) ?_
  refine lv_bipush (v := 6) hx hb dX6_init_5 (by decide) ?_
  obtain ⟨szq1, nsq1, shq1, dq1, hq1, hf⟩ := bw_s hf
  have hm := mX6_init_b10 (st 1) (st 2) x0 x0 sz szq1 nsq1 shq1 dq1 hf
  have hq := nwA_s hq1
  refine w_newq C hw hS 4 rfl (by decide) kw_26 C.2.2.2.2.2.2.2.1.2.2.1.2.1 rfl hq1 (by show _ ≤ mc; omega) (by show _ ≤ ms; omega) dX6_init_7 (fun H hw hS => ?_)
  exact wX6_init_b10 C x0 x0 sz szq1 nsq1 shq1 dq1 hf (by omega) (by omega) hw hS (lv_sub hl [0] rfl)

set_option maxRecDepth 100000 in
set_option maxHeartbeats 4000000 in
theorem tX6_init (l : Launch) (A : Nat → Prop) (D : va_G) (cy : Nat → ClassId) (st : Nat → Nat) (x0 : Nat) (sz ns : Nat) (sh : Sh) (d : Dt) {sz9 ns9 : Nat} {sh9 : Sh} {d9 : Dt} (hf : fX6_init (st 1) (st 2) x0 sz ns sh d = some (sz9, ns9, sh9, d9)) : Ct l yX6_init cX6_init 1 none 4 80 (sz9 - sz) (ns9 - ns) A D cy st [.ref x0] sz sh d none sz9 sh9 d9 := by
  have hm := gX6_init (st 1) (st 2) x0 sz ns sh d hf
  exact ct_of (by decide) (Nat.le_of_ble_eq_true rfl) (fun p e s m args below meth c C hw hS ls hl => wX6_init_b0 C x0 sz ns sh d hf (by omega) (by omega) hw hS hl)
theorem dX6_hand_0 : decode cX6_hand 0 = .ok (.aload_n 0, 1) := by decide +kernel
theorem dX6_hand_1 : decode cX6_hand 1 = .ok (.getfield 42, 3) := by decide +kernel
theorem dX6_hand_4 : decode cX6_hand 4 = .ok (.bipush 6, 2) := by decide +kernel
theorem dX6_hand_6 : decode cX6_hand 6 = .ok (.if_icmp .lt 6, 3) := by decide +kernel
theorem dX6_hand_9 : decode cX6_hand 9 = .ok (.bipush (-2), 2) := by decide +kernel
theorem dX6_hand_11 : decode cX6_hand 11 = .ok (.ireturn, 1) := by decide +kernel
theorem dX6_hand_12 : decode cX6_hand 12 = .ok (.aload_n 0, 1) := by decide +kernel
theorem dX6_hand_13 : decode cX6_hand 13 = .ok (.getfield 24, 3) := by decide +kernel
theorem dX6_hand_16 : decode cX6_hand 16 = .ok (.invokevirtual 46, 3) := by decide +kernel
theorem dX6_hand_19 : decode cX6_hand 19 = .ok (.ifCond .ne 6, 3) := by decide +kernel
theorem dX6_hand_22 : decode cX6_hand 22 = .ok (.bipush (-4), 2) := by decide +kernel
theorem dX6_hand_24 : decode cX6_hand 24 = .ok (.ireturn, 1) := by decide +kernel
theorem dX6_hand_25 : decode cX6_hand 25 = .ok (.aload_n 0, 1) := by decide +kernel
theorem dX6_hand_26 : decode cX6_hand 26 = .ok (.getfield 11, 3) := by decide +kernel
theorem dX6_hand_29 : decode cX6_hand 29 = .ok (.aload_n 0, 1) := by decide +kernel
theorem dX6_hand_30 : decode cX6_hand 30 = .ok (.getfield 42, 3) := by decide +kernel
theorem dX6_hand_33 : decode cX6_hand 33 = .ok (.new 9, 3) := by decide +kernel
theorem dX6_hand_36 : decode cX6_hand 36 = .ok (.dup, 1) := by decide +kernel
theorem dX6_hand_37 : decode cX6_hand 37 = .ok (.aload_n 0, 1) := by decide +kernel
theorem dX6_hand_38 : decode cX6_hand 38 = .ok (.getfield 42, 3) := by decide +kernel
theorem dX6_hand_41 : decode cX6_hand 41 = .ok (.invokespecial 50, 3) := by decide +kernel
theorem dX6_hand_44 : decode cX6_hand 44 = .ok (.aastore, 1) := by decide +kernel
theorem dX6_hand_45 : decode cX6_hand 45 = .ok (.aload_n 0, 1) := by decide +kernel
theorem dX6_hand_46 : decode cX6_hand 46 = .ok (.dup, 1) := by decide +kernel
theorem dX6_hand_47 : decode cX6_hand 47 = .ok (.getfield 42, 3) := by decide +kernel
theorem dX6_hand_50 : decode cX6_hand 50 = .ok (.iconst 1, 1) := by decide +kernel
theorem dX6_hand_51 : decode cX6_hand 51 = .ok (.iadd, 1) := by decide +kernel
theorem dX6_hand_52 : decode cX6_hand 52 = .ok (.putfield 42, 3) := by decide +kernel
theorem dX6_hand_55 : decode cX6_hand 55 = .ok (.aload_n 0, 1) := by decide +kernel
theorem dX6_hand_56 : decode cX6_hand 56 = .ok (.getfield 42, 3) := by decide +kernel
theorem dX6_hand_59 : decode cX6_hand 59 = .ok (.iconst 1, 1) := by decide +kernel
theorem dX6_hand_60 : decode cX6_hand 60 = .ok (.isub, 1) := by decide +kernel
theorem dX6_hand_61 : decode cX6_hand 61 = .ok (.ireturn, 1) := by decide +kernel
theorem cvX6_hand : CV yX6_hand cX6_hand 1 (some .int) 7 0 := ⟨kw_104, kw_105, kw_1, kw_106, ⟨_, _, rfl⟩, by decide, by decide +kernel, by decide +kernel, by decide +kernel⟩
def fX6_hand_b44 (em mi : Nat) (x0 : Nat) (t0 : Option Nat) (t1 : Int32) (t2 : Nat) (sz : Nat) (ns : Nat) (sh : Sh) (d : Dt) : Option (Int32 × Wl) := bd t0 fun a1 => bd (cst sh 3 (some t2)) fun _ => bd (sR sh d 24 a1 t1 (some t2)) fun d2 => bd (gI sh d2 8 262 x0) fun v3 => bd (pI sh d2 8 262 x0 (v3 + (1 : Int32))) fun d4 => bd (gI sh d4 8 262 x0) fun v5 => some ((v5 - (1 : Int32)), sz, ns, sh, d4)

def fX6_hand_b36 (em mi : Nat) (x0 : Nat) (t0 : Option Nat) (t1 : Int32) (t2 : Nat) (sz : Nat) (ns : Nat) (sh : Sh) (d : Dt) : Option (Int32 × Wl) := bd (gI sh d 8 262 x0) fun v1 => bw (fX1_init em mi t2 v1 sz ns sh d) fun szq4 nsq4 shq4 dq4 => fX6_hand_b44 em mi x0 t0 t1 t2 szq4 nsq4 shq4 dq4

def fX6_hand_b0 (em mi : Nat) (x0 : Nat) (sz : Nat) (ns : Nat) (sh : Sh) (d : Dt) : Option (Int32 × Wl) := bd (gI sh d 8 262 x0) fun v1 => if v1 < (6 : Int32) then (bd (gR sh d 8 258 x0) fun v3 => bd v3 fun a4 => bd (kc sh 1 a4) fun _ => bd (fJx4a65c_isEmpty_aae02 sh d a4) fun r7 => if (bI r7) = 0 then (some ((-4 : Int32), sz, ns, sh, d)) else (bd (gR sh d 8 256 x0) fun v9 => bd (gI sh d 8 262 x0) fun v10 => bw (nwO sz ns sh d 3 7) fun szq11 nsq11 shq11 dq11 => fX6_hand_b36 em mi x0 v9 v10 sz szq11 nsq11 shq11 dq11)) else (some ((-2 : Int32), sz, ns, sh, d))

def fX6_hand (em mi : Nat) (x0 : Nat) (sz ns : Nat) (sh : Sh) (d : Dt) : Option (Int32 × Wl) := fX6_hand_b0 em mi x0 sz ns sh d

set_option maxRecDepth 100000 in
set_option maxHeartbeats 4000000 in
theorem mX6_hand_b44 (em mi : Nat) {r : Int32} {sz9 ns9 : Nat} {sh9 : Sh} {d9 : Dt} : ∀ (x0 : Nat) (t0 : Option Nat) (t1 : Int32) (t2 : Nat) (sz : Nat) (ns : Nat) (sh : Sh) (d : Dt), fX6_hand_b44 em mi x0 t0 t1 t2 sz ns sh d = some (r, sz9, ns9, sh9, d9) → sz ≤ sz9 ∧ ns ≤ ns9 := by
  intro x0 t0 t1 t2 sz ns sh d hf
  unfold fX6_hand_b44 at hf
  obtain ⟨a1, ea1, hg⟩ := bd_s hf
  clear hf
  subst ea1
  have hf := hg
  clear hg
  obtain ⟨ud2, hud2, hf⟩ := bd_s hf
  obtain ⟨d2, hd2, hf⟩ := bd_s hf
  obtain ⟨v3, hv3, hf⟩ := bd_s hf
  obtain ⟨d4, hd4, hf⟩ := bd_s hf
  obtain ⟨v5, hv5, hf⟩ := bd_s hf
  cases hf
  exact ⟨Nat.le_refl _, Nat.le_refl _⟩

set_option maxRecDepth 100000 in
set_option maxHeartbeats 4000000 in
theorem mX6_hand_b36 (em mi : Nat) {r : Int32} {sz9 ns9 : Nat} {sh9 : Sh} {d9 : Dt} : ∀ (x0 : Nat) (t0 : Option Nat) (t1 : Int32) (t2 : Nat) (sz : Nat) (ns : Nat) (sh : Sh) (d : Dt), fX6_hand_b36 em mi x0 t0 t1 t2 sz ns sh d = some (r, sz9, ns9, sh9, d9) → sz ≤ sz9 ∧ ns ≤ ns9 := by
  intro x0 t0 t1 t2 sz ns sh d hf
  unfold fX6_hand_b36 at hf
  obtain ⟨v1, hv1, hf⟩ := bd_s hf
  obtain ⟨szq4, nsq4, shq4, dq4, h2, hf⟩ := bw_s hf
  have hq := gX1_init em mi t2 v1 sz ns sh d h2
  have hm := mX6_hand_b44 em mi x0 t0 t1 t2 szq4 nsq4 shq4 dq4 hf
  omega

set_option maxRecDepth 100000 in
set_option maxHeartbeats 4000000 in
theorem mX6_hand_b0 (em mi : Nat) {r : Int32} {sz9 ns9 : Nat} {sh9 : Sh} {d9 : Dt} : ∀ (x0 : Nat) (sz : Nat) (ns : Nat) (sh : Sh) (d : Dt), fX6_hand_b0 em mi x0 sz ns sh d = some (r, sz9, ns9, sh9, d9) → sz ≤ sz9 ∧ ns ≤ ns9 := by
  intro x0 sz ns sh d hf
  unfold fX6_hand_b0 at hf
  obtain ⟨v1, hv1, hf⟩ := bd_s hf
  by_cases c_2 : v1 < (6 : Int32)
  · have hf := if_t c_2 hf
    obtain ⟨v3, hv3, hf⟩ := bd_s hf
    obtain ⟨a4, ea4, hg⟩ := bd_s hf
    clear hf
    subst ea4
    have hf := hg
    clear hg
    obtain ⟨_, h5, hf⟩ := bd_s hf
    obtain ⟨r7, h6, hf⟩ := bd_s hf
    by_cases c_8 : (bI r7) = 0
    · have hf := if_t c_8 hf
      cases hf
      exact ⟨Nat.le_refl _, Nat.le_refl _⟩
    · have hf := if_f c_8 hf
      obtain ⟨v9, hv9, hf⟩ := bd_s hf
      obtain ⟨v10, hv10, hf⟩ := bd_s hf
      obtain ⟨szq11, nsq11, shq11, dq11, hq11, hf⟩ := bw_s hf
      have hq := nwO_s hq11
      have hm := mX6_hand_b36 em mi x0 v9 v10 sz szq11 nsq11 shq11 dq11 hf
      omega
  · have hf := if_f c_2 hf
    cases hf
    exact ⟨Nat.le_refl _, Nat.le_refl _⟩

theorem gX6_hand (em mi : Nat) (x0 : Nat) (sz ns : Nat) (sh : Sh) (d : Dt) {r : Int32} {sz9 ns9 : Nat} {sh9 : Sh} {d9 : Dt} (hf : fX6_hand em mi x0 sz ns sh d = some (r, sz9, ns9, sh9, d9)) : sz ≤ sz9 ∧ ns ≤ ns9 := mX6_hand_b0 em mi x0 sz ns sh d hf

set_option maxRecDepth 100000 in
set_option maxHeartbeats 4000000 in
theorem wX6_hand_b44 (C : mx p s m args meth c yX6_hand cX6_hand 1 (some .int) A D cy st) {r : Int32} {sz9 ns9 : Nat} {sh9 : Sh} {d9 : Dt} {mc ms : Nat} : ∀ (x0 : Nat) (t0 : Option Nat) (t1 : Int32) (t2 : Nat) (sz : Nat) (ns : Nat) (sh : Sh) (d : Dt), fX6_hand_b44 (st 1) (st 2) x0 t0 t1 t2 sz ns sh d = some (r, sz9, ns9, sh9, d9) → ∀ {cu su : Nat}, sz9 + cu = sz + mc → ns9 + su = ns + ms → ∀ {H : Heap} {locs : List Loc} {ls : Array Slot}, HW A D cy sz sh d H → va_S A s.heap H locs → lv_has ls 1 [(0, .ref x0)] → GA p l e s m args below meth c 5 101 mc ms A D cy (some (.int r)) sz9 sh9 d9 H locs cu su 44 ls [.ref t2, .int t1, va_rf t0] := by
  have hx := C.1
  have hb := C.2.1
  intro x0 t0 t1 t2 sz ns sh d hf cu su hcm hsm H locs ls hw hS hl
  have hm0 := mX6_hand_b44 (st 1) (st 2) x0 t0 t1 t2 sz ns sh d hf
  unfold fX6_hand_b44 at hf
  obtain ⟨a1, ea1, hg⟩ := bd_s hf
  clear hf
  subst ea1
  have hf := hg
  clear hg
  obtain ⟨ud2, hud2, hf⟩ := bd_s hf
  obtain ⟨d2, hd2, hf⟩ := bd_s hf
  refine w_aast (ci := 2) (v := (some t2)) C hw hS 4 rfl (by decide) rfl rfl (by decide) hud2 (fun a b h1 h2 => vb_asgS a b h1 h2) hd2 dX6_hand_44 (fun H locs hw hS => ?_)
  refine lv_aload_n hx hb dX6_hand_45 rfl (lv_at hl 0 rfl) ?_
  refine lv_dup hx hb dX6_hand_46 rfl ?_
  obtain ⟨v3, hv3, hf⟩ := bd_s hf
  refine gt_262 C hw hv3 kw_78 dX6_hand_47 ?_
  refine lv_iconst (v := 1) hx hb dX6_hand_50 (by decide) ?_
  refine lv_iadd hx hb dX6_hand_51 ?_
  obtain ⟨d4, hd4, hf⟩ := bd_s hf
  refine pt_262 C hw hS hd4 kw_78 dX6_hand_52 (fun H locs hw hS => ?_)
  refine lv_aload_n hx hb dX6_hand_55 rfl (lv_at hl 0 rfl) ?_
  obtain ⟨v5, hv5, hf⟩ := bd_s hf
  refine gt_262 C hw hv5 kw_78 dX6_hand_56 ?_
  refine lv_iconst (v := 1) hx hb dX6_hand_59 (by decide) ?_
  refine lv_isub hx hb dX6_hand_60 ?_
  cases hf
  obtain rfl : mc = cu := by omega
  obtain rfl : ms = su := by omega
  exact rt_i C hw hS dX6_hand_61

set_option maxRecDepth 100000 in
set_option maxHeartbeats 4000000 in
theorem wX6_hand_b36 (C : mx p s m args meth c yX6_hand cX6_hand 1 (some .int) A D cy st) {r : Int32} {sz9 ns9 : Nat} {sh9 : Sh} {d9 : Dt} {mc ms : Nat} : ∀ (x0 : Nat) (t0 : Option Nat) (t1 : Int32) (t2 : Nat) (sz : Nat) (ns : Nat) (sh : Sh) (d : Dt), fX6_hand_b36 (st 1) (st 2) x0 t0 t1 t2 sz ns sh d = some (r, sz9, ns9, sh9, d9) → ∀ {cu su : Nat}, sz9 + cu = sz + mc → ns9 + su = ns + ms → ∀ {H : Heap} {locs : List Loc} {ls : Array Slot}, HW A D cy sz sh d H → va_S A s.heap H locs → lv_has ls 1 [(0, .ref x0)] → GA p l e s m args below meth c 5 101 mc ms A D cy (some (.int r)) sz9 sh9 d9 H locs cu su 36 ls [.ref t2, .int t1, va_rf t0] := by
  have hx := C.1
  have hb := C.2.1
  intro x0 t0 t1 t2 sz ns sh d hf cu su hcm hsm H locs ls hw hS hl
  have hm0 := mX6_hand_b36 (st 1) (st 2) x0 t0 t1 t2 sz ns sh d hf
  unfold fX6_hand_b36 at hf
  refine lv_dup hx hb dX6_hand_36 rfl ?_
  refine lv_aload_n hx hb dX6_hand_37 rfl (lv_at hl 0 rfl) ?_
  obtain ⟨v1, hv1, hf⟩ := bd_s hf
  refine gt_262 C hw hv1 kw_78 dX6_hand_38 ?_
  obtain ⟨szq4, nsq4, shq4, dq4, h2, hf⟩ := bw_s hf
  have hm := mX6_hand_b44 (st 1) (st 2) x0 t0 t1 t2 szq4 nsq4 shq4 dq4 hf
  have hq := gX1_init (st 1) (st 2) t2 v1 sz ns sh d h2
  refine cl_I C hw hS (tX1_init l A D cy st t2 v1 sz ns sh d h2) ckX1_init kw_112 ⟨(Nat.le_of_ble_eq_true rfl), (Nat.le_of_ble_eq_true rfl)⟩ hl.1 rfl (by simp [va_rf_c, cat_i, cat_l, cat_r]) dX6_hand_41 ⟨by show _ ≤ mc; omega, by show _ ≤ ms; omega⟩ (fun H locs hw hS => ?_)
  exact wX6_hand_b44 C x0 t0 t1 t2 szq4 nsq4 shq4 dq4 hf (by omega) (by omega) hw hS (lv_sub hl [0] rfl)

set_option maxRecDepth 100000 in
set_option maxHeartbeats 4000000 in
theorem wX6_hand_b0 (C : mx p s m args meth c yX6_hand cX6_hand 1 (some .int) A D cy st) {r : Int32} {sz9 ns9 : Nat} {sh9 : Sh} {d9 : Dt} {mc ms : Nat} : ∀ (x0 : Nat) (sz : Nat) (ns : Nat) (sh : Sh) (d : Dt), fX6_hand_b0 (st 1) (st 2) x0 sz ns sh d = some (r, sz9, ns9, sh9, d9) → ∀ {cu su : Nat}, sz9 + cu = sz + mc → ns9 + su = ns + ms → ∀ {H : Heap} {locs : List Loc} {ls : Array Slot}, HW A D cy sz sh d H → va_S A s.heap H locs → lv_has ls 1 [(0, .ref x0)] → GA p l e s m args below meth c 5 101 mc ms A D cy (some (.int r)) sz9 sh9 d9 H locs cu su 0 ls [] := by
  have hx := C.1
  have hb := C.2.1
  intro x0 sz ns sh d hf cu su hcm hsm H locs ls hw hS hl
  have hm0 := mX6_hand_b0 (st 1) (st 2) x0 sz ns sh d hf
  unfold fX6_hand_b0 at hf
  refine lv_aload_n hx hb dX6_hand_0 rfl (lv_at hl 0 rfl) ?_
  obtain ⟨v1, hv1, hf⟩ := bd_s hf
  refine gt_262 C hw hv1 kw_78 dX6_hand_1 ?_
  refine lv_bipush (v := 6) hx hb dX6_hand_4 (by decide) ?_
  refine lv_icmp_lt (tgt := 12) hx hb dX6_hand_6 (by decide) (fun c_2 => ?_) (fun c_2 => ?_)
  · have hf := if_t c_2 hf
    refine lv_aload_n hx hb dX6_hand_12 rfl (lv_at hl 0 rfl) ?_
    obtain ⟨v3, hv3, hf⟩ := bd_s hf
    refine gt_258 C hw hv3 kw_74 dX6_hand_13 ?_
    obtain ⟨a4, ea4, hg⟩ := bd_s hf
    clear hf
    subst ea4
    have hf := hg
    clear hg
    obtain ⟨_, h5, hf⟩ := bd_s hf
    obtain ⟨r7, h6, hf⟩ := bd_s hf
    refine cl_V0 C hw hS (tJx4a65c_isEmpty_aae02 l A D cy st sz sh d a4 h6) cvJx4a65c_isEmpty_aae02 kw_107 (kc_k h5) ⟨(Nat.le_of_ble_eq_true rfl), (Nat.le_of_ble_eq_true rfl)⟩ hl.1 rfl (Nat.le_of_ble_eq_true rfl) dX6_hand_16 ⟨by show _ ≤ mc; omega, by show _ ≤ ms; omega⟩ (fun H locs hw hS => ?_)
    refine lv_if_ne (tgt := 25) hx hb dX6_hand_19 (by decide) (fun c_8 => ?_) (fun c_8 => ?_)
    · have hf := if_f c_8 hf
      refine lv_aload_n hx hb dX6_hand_25 rfl (lv_at hl 0 rfl) ?_
      obtain ⟨v9, hv9, hf⟩ := bd_s hf
      refine gt_256 C hw hv9 kw_72 dX6_hand_26 ?_
      refine lv_aload_n hx hb dX6_hand_29 rfl (lv_at hl 0 rfl) ?_
      obtain ⟨v10, hv10, hf⟩ := bd_s hf
      refine gt_262 C hw hv10 kw_78 dX6_hand_30 ?_
      obtain ⟨szq11, nsq11, shq11, dq11, hq11, hf⟩ := bw_s hf
      have hm := mX6_hand_b36 (st 1) (st 2) x0 v9 v10 sz szq11 nsq11 shq11 dq11 hf
      have hq := nwO_s hq11
      refine w_new (ci := 2) C hw hS inX1 tyX1 tyX1_ok rfl (by decide) dfX1 kw_26 kw_111 kw_7 hq11 (by show _ ≤ mc; omega) (by show _ ≤ ms; omega) dX6_hand_33 (fun H hw hS => ?_)
      exact wX6_hand_b36 C x0 v9 v10 sz szq11 nsq11 shq11 dq11 hf (by omega) (by omega) hw hS (lv_sub hl [0] rfl)
    · have hf := if_t c_8 hf
      refine lv_bipush (v := -4) hx hb dX6_hand_22 (by decide) ?_
      cases hf
      obtain rfl : mc = cu := by omega
      obtain rfl : ms = su := by omega
      exact rt_i C hw hS dX6_hand_24
  · have hf := if_f c_2 hf
    refine lv_bipush (v := -2) hx hb dX6_hand_9 (by decide) ?_
    cases hf
    obtain rfl : mc = cu := by omega
    obtain rfl : ms = su := by omega
    exact rt_i C hw hS dX6_hand_11

set_option maxRecDepth 100000 in
set_option maxHeartbeats 4000000 in
theorem tX6_hand (l : Launch) (A : Nat → Prop) (D : va_G) (cy : Nat → ClassId) (st : Nat → Nat) (x0 : Nat) (sz ns : Nat) (sh : Sh) (d : Dt) {r : Int32} {sz9 ns9 : Nat} {sh9 : Sh} {d9 : Dt} (hf : fX6_hand (st 1) (st 2) x0 sz ns sh d = some (r, sz9, ns9, sh9, d9)) : Ct l yX6_hand cX6_hand 1 (some .int) 5 101 (sz9 - sz) (ns9 - ns) A D cy st [.ref x0] sz sh d (some (.int r)) sz9 sh9 d9 := by
  have hm := gX6_hand (st 1) (st 2) x0 sz ns sh d hf
  exact ct_of (by decide) (Nat.le_of_ble_eq_true rfl) (fun p e s m args below meth c C hw hS ls hl => wX6_hand_b0 C x0 sz ns sh d hf (by omega) (by omega) hw hS hl)
theorem dX6_isKind_0 : decode cX6_isKind 0 = .ok (.iload_n 0, 1) := by decide +kernel
theorem dX6_isKind_1 : decode cX6_isKind 1 = .ok (.ifCond .lt 13, 3) := by decide +kernel
theorem dX6_isKind_4 : decode cX6_isKind 4 = .ok (.iload_n 0, 1) := by decide +kernel
theorem dX6_isKind_5 : decode cX6_isKind 5 = .ok (.bipush 7, 2) := by decide +kernel
theorem dX6_isKind_7 : decode cX6_isKind 7 = .ok (.if_icmp .gt 7, 3) := by decide +kernel
theorem dX6_isKind_10 : decode cX6_isKind 10 = .ok (.iconst 1, 1) := by decide +kernel
theorem dX6_isKind_11 : decode cX6_isKind 11 = .ok (.goto 4, 3) := by decide +kernel
theorem dX6_isKind_14 : decode cX6_isKind 14 = .ok (.iconst 0, 1) := by decide +kernel
theorem dX6_isKind_15 : decode cX6_isKind 15 = .ok (.ireturn, 1) := by decide +kernel
theorem csX6_isKind : CS yX6_isKind cX6_isKind 1 (some .boolean) 1 := ⟨kw_184, kw_1, kw_185, by decide +kernel, by decide +kernel, by decide +kernel⟩
def fX6_isKind_b0 (sh : Sh) (d : Dt) (x0 : Int32) : Option (Bool) := if x0 < 0 then (some false) else (if (7 : Int32) < x0 then (some false) else (some true))

def fX6_isKind (sh : Sh) (d : Dt) (x0 : Int32) : Option (Bool) := fX6_isKind_b0 sh d x0

set_option maxRecDepth 100000 in
set_option maxHeartbeats 4000000 in
theorem wX6_isKind_b0 (C : mx p s m args meth c yX6_isKind cX6_isKind 1 (some .boolean) A D cy st) {r : Bool} {d : Dt} : ∀ (x0 : Int32), fX6_isKind_b0 sh d x0 = some r → ∀ {H : Heap} {locs : List Loc} {ls : Array Slot}, HW A D cy sz sh d H → va_S A s.heap H locs → lv_has ls 1 [(0, .int x0)] → GL p l e s m args below meth c 0 0 A D cy (some (.int (bI r))) sz sh d H locs 0 ls [] := by
  have hx := C.1
  have hb := C.2.1
  intro x0 hf H locs ls hw hS hl
  unfold fX6_isKind_b0 at hf
  refine lv_iload_n hx hb dX6_isKind_0 rfl (lv_at hl 0 rfl) ?_
  refine lv_if_lt (tgt := 14) hx hb dX6_isKind_1 (by decide) (fun c_1 => ?_) (fun c_1 => ?_)
  · have hf := if_t c_1 hf
    refine lv_iconst (v := 0) hx hb dX6_isKind_14 (by decide) ?_
    cases hf
    exact rt_z C hw hS _ rfl dX6_isKind_15
  · have hf := if_f c_1 hf
    refine lv_iload_n hx hb dX6_isKind_4 rfl (lv_at hl 0 rfl) ?_
    refine lv_bipush (v := 7) hx hb dX6_isKind_5 (by decide) ?_
    refine lv_icmp_gt (tgt := 14) hx hb dX6_isKind_7 (by decide) (fun c_2 => ?_) (fun c_2 => ?_)
    · have hf := if_t c_2 hf
      refine lv_iconst (v := 0) hx hb dX6_isKind_14 (by decide) ?_
      cases hf
      exact rt_z C hw hS _ rfl dX6_isKind_15
    · have hf := if_f c_2 hf
      refine lv_iconst (v := 1) hx hb dX6_isKind_10 (by decide) ?_
      refine lv_goto (tgt := 15) hx hb dX6_isKind_11 (by decide) ?_
      cases hf
      exact rt_z C hw hS _ rfl dX6_isKind_15

set_option maxRecDepth 100000 in
set_option maxHeartbeats 4000000 in
theorem tX6_isKind (l : Launch) (A : Nat → Prop) (D : va_G) (cy : Nat → ClassId) (st : Nat → Nat) (sz : Nat) (sh : Sh) (d : Dt) (x0 : Int32) {r : Bool} (hf : fX6_isKind sh d x0 = some r) : Ct l yX6_isKind cX6_isKind 1 (some .boolean) 0 0 0 0 A D cy st [.int x0] sz sh d (some (.int (bI r))) sz sh d := ct_of (by decide) (Nat.le_of_ble_eq_true rfl) (fun p e s m args below meth c C hw hS ls hl => wX6_isKind_b0 C x0 hf hw hS hl)
theorem dX6_page_0 : decode cX6_page 0 = .ok (.iload_n 1, 1) := by decide +kernel
theorem dX6_page_1 : decode cX6_page 1 = .ok (.invokestatic 53, 3) := by decide +kernel
theorem dX6_page_4 : decode cX6_page 4 = .ok (.ifCond .ne 5, 3) := by decide +kernel
theorem dX6_page_7 : decode cX6_page 7 = .ok (.iconst (-1), 1) := by decide +kernel
theorem dX6_page_8 : decode cX6_page 8 = .ok (.ireturn, 1) := by decide +kernel
theorem dX6_page_9 : decode cX6_page 9 = .ok (.aload_n 0, 1) := by decide +kernel
theorem dX6_page_10 : decode cX6_page 10 = .ok (.getfield 57, 3) := by decide +kernel
theorem dX6_page_13 : decode cX6_page 13 = .ok (.bipush 10, 2) := by decide +kernel
theorem dX6_page_15 : decode cX6_page 15 = .ok (.if_icmp .lt 6, 3) := by decide +kernel
theorem dX6_page_18 : decode cX6_page 18 = .ok (.bipush (-2), 2) := by decide +kernel
theorem dX6_page_20 : decode cX6_page 20 = .ok (.ireturn, 1) := by decide +kernel
theorem dX6_page_21 : decode cX6_page 21 = .ok (.aload_n 0, 1) := by decide +kernel
theorem dX6_page_22 : decode cX6_page 22 = .ok (.getfield 17, 3) := by decide +kernel
theorem dX6_page_25 : decode cX6_page 25 = .ok (.aload_n 0, 1) := by decide +kernel
theorem dX6_page_26 : decode cX6_page 26 = .ok (.getfield 57, 3) := by decide +kernel
theorem dX6_page_29 : decode cX6_page 29 = .ok (.new 15, 3) := by decide +kernel
theorem dX6_page_32 : decode cX6_page 32 = .ok (.dup, 1) := by decide +kernel
theorem dX6_page_33 : decode cX6_page 33 = .ok (.aload_n 0, 1) := by decide +kernel
theorem dX6_page_34 : decode cX6_page 34 = .ok (.getfield 57, 3) := by decide +kernel
theorem dX6_page_37 : decode cX6_page 37 = .ok (.iload_n 1, 1) := by decide +kernel
theorem dX6_page_38 : decode cX6_page 38 = .ok (.invokespecial 60, 3) := by decide +kernel
theorem dX6_page_41 : decode cX6_page 41 = .ok (.aastore, 1) := by decide +kernel
theorem dX6_page_42 : decode cX6_page 42 = .ok (.aload_n 0, 1) := by decide +kernel
theorem dX6_page_43 : decode cX6_page 43 = .ok (.dup, 1) := by decide +kernel
theorem dX6_page_44 : decode cX6_page 44 = .ok (.getfield 57, 3) := by decide +kernel
theorem dX6_page_47 : decode cX6_page 47 = .ok (.iconst 1, 1) := by decide +kernel
theorem dX6_page_48 : decode cX6_page 48 = .ok (.iadd, 1) := by decide +kernel
theorem dX6_page_49 : decode cX6_page 49 = .ok (.putfield 57, 3) := by decide +kernel
theorem dX6_page_52 : decode cX6_page 52 = .ok (.aload_n 0, 1) := by decide +kernel
theorem dX6_page_53 : decode cX6_page 53 = .ok (.getfield 57, 3) := by decide +kernel
theorem dX6_page_56 : decode cX6_page 56 = .ok (.iconst 1, 1) := by decide +kernel
theorem dX6_page_57 : decode cX6_page 57 = .ok (.isub, 1) := by decide +kernel
theorem dX6_page_58 : decode cX6_page 58 = .ok (.ireturn, 1) := by decide +kernel
theorem cvX6_page : CV yX6_page cX6_page 2 (some .int) 7 1 := ⟨kw_180, kw_181, kw_1, kw_182, ⟨_, _, rfl⟩, by decide, by decide +kernel, by decide +kernel, by decide +kernel⟩
def fX6_page_b41 (em mi : Nat) (x0 : Nat) (t0 : Option Nat) (t1 : Int32) (t2 : Nat) (sz : Nat) (ns : Nat) (sh : Sh) (d : Dt) : Option (Int32 × Wl) := bd t0 fun a1 => bd (cst sh 5 (some t2)) fun _ => bd (sR sh d 25 a1 t1 (some t2)) fun d2 => bd (gI sh d2 8 263 x0) fun v3 => bd (pI sh d2 8 263 x0 (v3 + (1 : Int32))) fun d4 => bd (gI sh d4 8 263 x0) fun v5 => some ((v5 - (1 : Int32)), sz, ns, sh, d4)

def fX6_page_b32 (em mi : Nat) (x0 : Nat) (x1 : Int32) (t0 : Option Nat) (t1 : Int32) (t2 : Nat) (sz : Nat) (ns : Nat) (sh : Sh) (d : Dt) : Option (Int32 × Wl) := bd (gI sh d 8 263 x0) fun v1 => bw (fX3_init em mi t2 v1 x1 sz ns sh d) fun szq4 nsq4 shq4 dq4 => fX6_page_b41 em mi x0 t0 t1 t2 szq4 nsq4 shq4 dq4

def fX6_page_b0 (em mi : Nat) (x0 : Nat) (x1 : Int32) (sz : Nat) (ns : Nat) (sh : Sh) (d : Dt) : Option (Int32 × Wl) := bd (fX6_isKind sh d x1) fun r2 => if (bI r2) = 0 then (some ((-1 : Int32), sz, ns, sh, d)) else (bd (gI sh d 8 263 x0) fun v4 => if v4 < (10 : Int32) then (bd (gR sh d 8 257 x0) fun v6 => bd (gI sh d 8 263 x0) fun v7 => bw (nwO sz ns sh d 5 4) fun szq8 nsq8 shq8 dq8 => fX6_page_b32 em mi x0 x1 v6 v7 sz szq8 nsq8 shq8 dq8) else (some ((-2 : Int32), sz, ns, sh, d)))

def fX6_page (em mi : Nat) (x0 : Nat) (x1 : Int32) (sz ns : Nat) (sh : Sh) (d : Dt) : Option (Int32 × Wl) := fX6_page_b0 em mi x0 x1 sz ns sh d

set_option maxRecDepth 100000 in
set_option maxHeartbeats 4000000 in
theorem mX6_page_b41 (em mi : Nat) {r : Int32} {sz9 ns9 : Nat} {sh9 : Sh} {d9 : Dt} : ∀ (x0 : Nat) (t0 : Option Nat) (t1 : Int32) (t2 : Nat) (sz : Nat) (ns : Nat) (sh : Sh) (d : Dt), fX6_page_b41 em mi x0 t0 t1 t2 sz ns sh d = some (r, sz9, ns9, sh9, d9) → sz ≤ sz9 ∧ ns ≤ ns9 := by
  intro x0 t0 t1 t2 sz ns sh d hf
  unfold fX6_page_b41 at hf
  obtain ⟨a1, ea1, hg⟩ := bd_s hf
  clear hf
  subst ea1
  have hf := hg
  clear hg
  obtain ⟨ud2, hud2, hf⟩ := bd_s hf
  obtain ⟨d2, hd2, hf⟩ := bd_s hf
  obtain ⟨v3, hv3, hf⟩ := bd_s hf
  obtain ⟨d4, hd4, hf⟩ := bd_s hf
  obtain ⟨v5, hv5, hf⟩ := bd_s hf
  cases hf
  exact ⟨Nat.le_refl _, Nat.le_refl _⟩

set_option maxRecDepth 100000 in
set_option maxHeartbeats 4000000 in
theorem mX6_page_b32 (em mi : Nat) {r : Int32} {sz9 ns9 : Nat} {sh9 : Sh} {d9 : Dt} : ∀ (x0 : Nat) (x1 : Int32) (t0 : Option Nat) (t1 : Int32) (t2 : Nat) (sz : Nat) (ns : Nat) (sh : Sh) (d : Dt), fX6_page_b32 em mi x0 x1 t0 t1 t2 sz ns sh d = some (r, sz9, ns9, sh9, d9) → sz ≤ sz9 ∧ ns ≤ ns9 := by
  intro x0 x1 t0 t1 t2 sz ns sh d hf
  unfold fX6_page_b32 at hf
  obtain ⟨v1, hv1, hf⟩ := bd_s hf
  obtain ⟨szq4, nsq4, shq4, dq4, h2, hf⟩ := bw_s hf
  have hq := gX3_init em mi t2 v1 x1 sz ns sh d h2
  have hm := mX6_page_b41 em mi x0 t0 t1 t2 szq4 nsq4 shq4 dq4 hf
  omega

set_option maxRecDepth 100000 in
set_option maxHeartbeats 4000000 in
theorem mX6_page_b0 (em mi : Nat) {r : Int32} {sz9 ns9 : Nat} {sh9 : Sh} {d9 : Dt} : ∀ (x0 : Nat) (x1 : Int32) (sz : Nat) (ns : Nat) (sh : Sh) (d : Dt), fX6_page_b0 em mi x0 x1 sz ns sh d = some (r, sz9, ns9, sh9, d9) → sz ≤ sz9 ∧ ns ≤ ns9 := by
  intro x0 x1 sz ns sh d hf
  unfold fX6_page_b0 at hf
  obtain ⟨r2, h1, hf⟩ := bd_s hf
  by_cases c_3 : (bI r2) = 0
  · have hf := if_t c_3 hf
    cases hf
    exact ⟨Nat.le_refl _, Nat.le_refl _⟩
  · have hf := if_f c_3 hf
    obtain ⟨v4, hv4, hf⟩ := bd_s hf
    by_cases c_5 : v4 < (10 : Int32)
    · have hf := if_t c_5 hf
      obtain ⟨v6, hv6, hf⟩ := bd_s hf
      obtain ⟨v7, hv7, hf⟩ := bd_s hf
      obtain ⟨szq8, nsq8, shq8, dq8, hq8, hf⟩ := bw_s hf
      have hq := nwO_s hq8
      have hm := mX6_page_b32 em mi x0 x1 v6 v7 sz szq8 nsq8 shq8 dq8 hf
      omega
    · have hf := if_f c_5 hf
      cases hf
      exact ⟨Nat.le_refl _, Nat.le_refl _⟩

theorem gX6_page (em mi : Nat) (x0 : Nat) (x1 : Int32) (sz ns : Nat) (sh : Sh) (d : Dt) {r : Int32} {sz9 ns9 : Nat} {sh9 : Sh} {d9 : Dt} (hf : fX6_page em mi x0 x1 sz ns sh d = some (r, sz9, ns9, sh9, d9)) : sz ≤ sz9 ∧ ns ≤ ns9 := mX6_page_b0 em mi x0 x1 sz ns sh d hf

set_option maxRecDepth 100000 in
set_option maxHeartbeats 4000000 in
theorem wX6_page_b41 (C : mx p s m args meth c yX6_page cX6_page 2 (some .int) A D cy st) {r : Int32} {sz9 ns9 : Nat} {sh9 : Sh} {d9 : Dt} {mc ms : Nat} : ∀ (x0 : Nat) (t0 : Option Nat) (t1 : Int32) (t2 : Nat) (sz : Nat) (ns : Nat) (sh : Sh) (d : Dt), fX6_page_b41 (st 1) (st 2) x0 t0 t1 t2 sz ns sh d = some (r, sz9, ns9, sh9, d9) → ∀ {cu su : Nat}, sz9 + cu = sz + mc → ns9 + su = ns + ms → ∀ {H : Heap} {locs : List Loc} {ls : Array Slot}, HW A D cy sz sh d H → va_S A s.heap H locs → lv_has ls 2 [(0, .ref x0)] → GA p l e s m args below meth c 3 62 mc ms A D cy (some (.int r)) sz9 sh9 d9 H locs cu su 41 ls [.ref t2, .int t1, va_rf t0] := by
  have hx := C.1
  have hb := C.2.1
  intro x0 t0 t1 t2 sz ns sh d hf cu su hcm hsm H locs ls hw hS hl
  have hm0 := mX6_page_b41 (st 1) (st 2) x0 t0 t1 t2 sz ns sh d hf
  unfold fX6_page_b41 at hf
  obtain ⟨a1, ea1, hg⟩ := bd_s hf
  clear hf
  subst ea1
  have hf := hg
  clear hg
  obtain ⟨ud2, hud2, hf⟩ := bd_s hf
  obtain ⟨d2, hd2, hf⟩ := bd_s hf
  refine w_aast (ci := 4) (v := (some t2)) C hw hS 5 rfl (by decide) rfl rfl (by decide) hud2 (fun a b h1 h2 => vb_asgS a b h1 h2) hd2 dX6_page_41 (fun H locs hw hS => ?_)
  refine lv_aload_n hx hb dX6_page_42 rfl (lv_at hl 0 rfl) ?_
  refine lv_dup hx hb dX6_page_43 rfl ?_
  obtain ⟨v3, hv3, hf⟩ := bd_s hf
  refine gt_263 C hw hv3 kw_79 dX6_page_44 ?_
  refine lv_iconst (v := 1) hx hb dX6_page_47 (by decide) ?_
  refine lv_iadd hx hb dX6_page_48 ?_
  obtain ⟨d4, hd4, hf⟩ := bd_s hf
  refine pt_263 C hw hS hd4 kw_79 dX6_page_49 (fun H locs hw hS => ?_)
  refine lv_aload_n hx hb dX6_page_52 rfl (lv_at hl 0 rfl) ?_
  obtain ⟨v5, hv5, hf⟩ := bd_s hf
  refine gt_263 C hw hv5 kw_79 dX6_page_53 ?_
  refine lv_iconst (v := 1) hx hb dX6_page_56 (by decide) ?_
  refine lv_isub hx hb dX6_page_57 ?_
  cases hf
  obtain rfl : mc = cu := by omega
  obtain rfl : ms = su := by omega
  exact rt_i C hw hS dX6_page_58

set_option maxRecDepth 100000 in
set_option maxHeartbeats 4000000 in
theorem wX6_page_b32 (C : mx p s m args meth c yX6_page cX6_page 2 (some .int) A D cy st) {r : Int32} {sz9 ns9 : Nat} {sh9 : Sh} {d9 : Dt} {mc ms : Nat} : ∀ (x0 : Nat) (x1 : Int32) (t0 : Option Nat) (t1 : Int32) (t2 : Nat) (sz : Nat) (ns : Nat) (sh : Sh) (d : Dt), fX6_page_b32 (st 1) (st 2) x0 x1 t0 t1 t2 sz ns sh d = some (r, sz9, ns9, sh9, d9) → ∀ {cu su : Nat}, sz9 + cu = sz + mc → ns9 + su = ns + ms → ∀ {H : Heap} {locs : List Loc} {ls : Array Slot}, HW A D cy sz sh d H → va_S A s.heap H locs → lv_has ls 2 [(0, .ref x0), (1, .int x1)] → GA p l e s m args below meth c 3 62 mc ms A D cy (some (.int r)) sz9 sh9 d9 H locs cu su 32 ls [.ref t2, .int t1, va_rf t0] := by
  have hx := C.1
  have hb := C.2.1
  intro x0 x1 t0 t1 t2 sz ns sh d hf cu su hcm hsm H locs ls hw hS hl
  have hm0 := mX6_page_b32 (st 1) (st 2) x0 x1 t0 t1 t2 sz ns sh d hf
  unfold fX6_page_b32 at hf
  refine lv_dup hx hb dX6_page_32 rfl ?_
  refine lv_aload_n hx hb dX6_page_33 rfl (lv_at hl 0 rfl) ?_
  obtain ⟨v1, hv1, hf⟩ := bd_s hf
  refine gt_263 C hw hv1 kw_79 dX6_page_34 ?_
  refine lv_iload_n hx hb dX6_page_37 rfl (lv_at hl 1 rfl) ?_
  obtain ⟨szq4, nsq4, shq4, dq4, h2, hf⟩ := bw_s hf
  have hm := mX6_page_b41 (st 1) (st 2) x0 t0 t1 t2 szq4 nsq4 shq4 dq4 hf
  have hq := gX3_init (st 1) (st 2) t2 v1 x1 sz ns sh d h2
  refine cl_I C hw hS (tX3_init l A D cy st t2 v1 x1 sz ns sh d h2) ckX3_init kw_187 ⟨(Nat.le_of_ble_eq_true rfl), (Nat.le_of_ble_eq_true rfl)⟩ hl.1 rfl (by simp [va_rf_c, cat_i, cat_l, cat_r]) dX6_page_38 ⟨by show _ ≤ mc; omega, by show _ ≤ ms; omega⟩ (fun H locs hw hS => ?_)
  exact wX6_page_b41 C x0 t0 t1 t2 szq4 nsq4 shq4 dq4 hf (by omega) (by omega) hw hS (lv_sub hl [0] rfl)

set_option maxRecDepth 100000 in
set_option maxHeartbeats 4000000 in
theorem wX6_page_b0 (C : mx p s m args meth c yX6_page cX6_page 2 (some .int) A D cy st) {r : Int32} {sz9 ns9 : Nat} {sh9 : Sh} {d9 : Dt} {mc ms : Nat} : ∀ (x0 : Nat) (x1 : Int32) (sz : Nat) (ns : Nat) (sh : Sh) (d : Dt), fX6_page_b0 (st 1) (st 2) x0 x1 sz ns sh d = some (r, sz9, ns9, sh9, d9) → ∀ {cu su : Nat}, sz9 + cu = sz + mc → ns9 + su = ns + ms → ∀ {H : Heap} {locs : List Loc} {ls : Array Slot}, HW A D cy sz sh d H → va_S A s.heap H locs → lv_has ls 2 [(0, .ref x0), (1, .int x1)] → GA p l e s m args below meth c 3 62 mc ms A D cy (some (.int r)) sz9 sh9 d9 H locs cu su 0 ls [] := by
  have hx := C.1
  have hb := C.2.1
  intro x0 x1 sz ns sh d hf cu su hcm hsm H locs ls hw hS hl
  have hm0 := mX6_page_b0 (st 1) (st 2) x0 x1 sz ns sh d hf
  unfold fX6_page_b0 at hf
  refine lv_iload_n hx hb dX6_page_0 rfl (lv_at hl 1 rfl) ?_
  obtain ⟨r2, h1, hf⟩ := bd_s hf
  refine cl_S0 C hw hS (tX6_isKind l A D cy st sz sh d x1 h1) csX6_isKind kw_183 ⟨(Nat.le_of_ble_eq_true rfl), (Nat.le_of_ble_eq_true rfl)⟩ hl.1 rfl (Nat.le_of_ble_eq_true rfl) dX6_page_1 ⟨by show _ ≤ mc; omega, by show _ ≤ ms; omega⟩ (fun H locs hw hS => ?_)
  refine lv_if_ne (tgt := 9) hx hb dX6_page_4 (by decide) (fun c_3 => ?_) (fun c_3 => ?_)
  · have hf := if_f c_3 hf
    refine lv_aload_n hx hb dX6_page_9 rfl (lv_at hl 0 rfl) ?_
    obtain ⟨v4, hv4, hf⟩ := bd_s hf
    refine gt_263 C hw hv4 kw_79 dX6_page_10 ?_
    refine lv_bipush (v := 10) hx hb dX6_page_13 (by decide) ?_
    refine lv_icmp_lt (tgt := 21) hx hb dX6_page_15 (by decide) (fun c_5 => ?_) (fun c_5 => ?_)
    · have hf := if_t c_5 hf
      refine lv_aload_n hx hb dX6_page_21 rfl (lv_at hl 0 rfl) ?_
      obtain ⟨v6, hv6, hf⟩ := bd_s hf
      refine gt_257 C hw hv6 kw_73 dX6_page_22 ?_
      refine lv_aload_n hx hb dX6_page_25 rfl (lv_at hl 0 rfl) ?_
      obtain ⟨v7, hv7, hf⟩ := bd_s hf
      refine gt_263 C hw hv7 kw_79 dX6_page_26 ?_
      obtain ⟨szq8, nsq8, shq8, dq8, hq8, hf⟩ := bw_s hf
      have hm := mX6_page_b32 (st 1) (st 2) x0 x1 v6 v7 sz szq8 nsq8 shq8 dq8 hf
      have hq := nwO_s hq8
      refine w_new (ci := 4) C hw hS inX3 tyX3 tyX3_ok rfl (by decide) dfX3 kw_28 kw_186 kw_10 hq8 (by show _ ≤ mc; omega) (by show _ ≤ ms; omega) dX6_page_29 (fun H hw hS => ?_)
      exact wX6_page_b32 C x0 x1 v6 v7 sz szq8 nsq8 shq8 dq8 hf (by omega) (by omega) hw hS (lv_sub hl [0, 1] rfl)
    · have hf := if_f c_5 hf
      refine lv_bipush (v := -2) hx hb dX6_page_18 (by decide) ?_
      cases hf
      obtain rfl : mc = cu := by omega
      obtain rfl : ms = su := by omega
      exact rt_i C hw hS dX6_page_20
  · have hf := if_t c_3 hf
    refine lv_iconst (v := -1) hx hb dX6_page_7 (by decide) ?_
    cases hf
    obtain rfl : mc = cu := by omega
    obtain rfl : ms = su := by omega
    exact rt_i C hw hS dX6_page_8

set_option maxRecDepth 100000 in
set_option maxHeartbeats 4000000 in
theorem tX6_page (l : Launch) (A : Nat → Prop) (D : va_G) (cy : Nat → ClassId) (st : Nat → Nat) (x0 : Nat) (x1 : Int32) (sz ns : Nat) (sh : Sh) (d : Dt) {r : Int32} {sz9 ns9 : Nat} {sh9 : Sh} {d9 : Dt} (hf : fX6_page (st 1) (st 2) x0 x1 sz ns sh d = some (r, sz9, ns9, sh9, d9)) : Ct l yX6_page cX6_page 2 (some .int) 3 62 (sz9 - sz) (ns9 - ns) A D cy st [.ref x0, .int x1] sz sh d (some (.int r)) sz9 sh9 d9 := by
  have hm := gX6_page (st 1) (st 2) x0 x1 sz ns sh d hf
  exact ct_of (by decide) (Nat.le_of_ble_eq_true rfl) (fun p e s m args below meth c C hw hS ls hl => wX6_page_b0 C x0 x1 sz ns sh d hf (by omega) (by omega) hw hS hl)
theorem dX6_pageAt_0 : decode cX6_pageAt 0 = .ok (.iload_n 1, 1) := by decide +kernel
theorem dX6_pageAt_1 : decode cX6_pageAt 1 = .ok (.ifCond .lt 11, 3) := by decide +kernel
theorem dX6_pageAt_4 : decode cX6_pageAt 4 = .ok (.iload_n 1, 1) := by decide +kernel
theorem dX6_pageAt_5 : decode cX6_pageAt 5 = .ok (.aload_n 0, 1) := by decide +kernel
theorem dX6_pageAt_6 : decode cX6_pageAt 6 = .ok (.getfield 57, 3) := by decide +kernel
theorem dX6_pageAt_9 : decode cX6_pageAt 9 = .ok (.if_icmp .lt 7, 3) := by decide +kernel
theorem dX6_pageAt_12 : decode cX6_pageAt 12 = .ok (.aconst_null, 1) := by decide +kernel
theorem dX6_pageAt_13 : decode cX6_pageAt 13 = .ok (.goto 9, 3) := by decide +kernel
theorem dX6_pageAt_16 : decode cX6_pageAt 16 = .ok (.aload_n 0, 1) := by decide +kernel
theorem dX6_pageAt_17 : decode cX6_pageAt 17 = .ok (.getfield 17, 3) := by decide +kernel
theorem dX6_pageAt_20 : decode cX6_pageAt 20 = .ok (.iload_n 1, 1) := by decide +kernel
theorem dX6_pageAt_21 : decode cX6_pageAt 21 = .ok (.aaload, 1) := by decide +kernel
theorem dX6_pageAt_22 : decode cX6_pageAt 22 = .ok (.areturn, 1) := by decide +kernel
theorem cvX6_pageAt : CV yX6_pageAt cX6_pageAt 2 (some (.object "ManyHands$Page")) 7 1 := ⟨kw_218, ks_0, kw_1, kw_219, ⟨_, _, rfl⟩, by decide, by decide +kernel, by decide +kernel, by decide +kernel⟩
def fX6_pageAt_b12 (sh : Sh) (d : Dt) : Option (Option Nat) := some none

def fX6_pageAt_b0 (sh : Sh) (d : Dt) (x0 : Nat) (x1 : Int32) : Option (Option Nat) := if x1 < 0 then (fX6_pageAt_b12 sh d ) else (bd (gI sh d 8 263 x0) fun v2 => if x1 < v2 then (bd (gR sh d 8 257 x0) fun v4 => bd v4 fun a5 => bd (aR sh d 25 a5 x1) fun v6 => some v6) else (fX6_pageAt_b12 sh d ))

def fX6_pageAt (sh : Sh) (d : Dt) (x0 : Nat) (x1 : Int32) : Option (Option Nat) := fX6_pageAt_b0 sh d x0 x1

set_option maxRecDepth 100000 in
set_option maxHeartbeats 4000000 in
theorem wX6_pageAt_b12 (C : mx p s m args meth c yX6_pageAt cX6_pageAt 2 (some (.object "ManyHands$Page")) A D cy st) {r : Option Nat} {d : Dt} : fX6_pageAt_b12 sh d  = some r → ∀ {H : Heap} {locs : List Loc} {ls : Array Slot}, HW A D cy sz sh d H → va_S A s.heap H locs → lv_has ls 2 [] → GL p l e s m args below meth c 0 0 A D cy (some (va_rf r)) sz sh d H locs 12 ls [] := by
  have hx := C.1
  have hb := C.2.1
  intro  hf H locs ls hw hS hl
  unfold fX6_pageAt_b12 at hf
  refine lv_null hx hb dX6_pageAt_12 ?_
  refine lv_goto (tgt := 22) hx hb dX6_pageAt_13 (by decide) ?_
  cases hf
  exact rt_a C hw hS dX6_pageAt_22

set_option maxRecDepth 100000 in
set_option maxHeartbeats 4000000 in
theorem wX6_pageAt_b0 (C : mx p s m args meth c yX6_pageAt cX6_pageAt 2 (some (.object "ManyHands$Page")) A D cy st) {r : Option Nat} {d : Dt} : ∀ (x0 : Nat) (x1 : Int32), fX6_pageAt_b0 sh d x0 x1 = some r → ∀ {H : Heap} {locs : List Loc} {ls : Array Slot}, HW A D cy sz sh d H → va_S A s.heap H locs → lv_has ls 2 [(0, .ref x0), (1, .int x1)] → GL p l e s m args below meth c 0 0 A D cy (some (va_rf r)) sz sh d H locs 0 ls [] := by
  have hx := C.1
  have hb := C.2.1
  intro x0 x1 hf H locs ls hw hS hl
  unfold fX6_pageAt_b0 at hf
  refine lv_iload_n hx hb dX6_pageAt_0 rfl (lv_at hl 1 rfl) ?_
  refine lv_if_lt (tgt := 12) hx hb dX6_pageAt_1 (by decide) (fun c_1 => ?_) (fun c_1 => ?_)
  · have hf := if_t c_1 hf
    exact wX6_pageAt_b12 C  hf hw hS (lv_sub hl [] rfl)
  · have hf := if_f c_1 hf
    refine lv_iload_n hx hb dX6_pageAt_4 rfl (lv_at hl 1 rfl) ?_
    refine lv_aload_n hx hb dX6_pageAt_5 rfl (lv_at hl 0 rfl) ?_
    obtain ⟨v2, hv2, hf⟩ := bd_s hf
    refine gt_263 C hw hv2 kw_79 dX6_pageAt_6 ?_
    refine lv_icmp_lt (tgt := 16) hx hb dX6_pageAt_9 (by decide) (fun c_3 => ?_) (fun c_3 => ?_)
    · have hf := if_t c_3 hf
      refine lv_aload_n hx hb dX6_pageAt_16 rfl (lv_at hl 0 rfl) ?_
      obtain ⟨v4, hv4, hf⟩ := bd_s hf
      refine gt_257 C hw hv4 kw_73 dX6_pageAt_17 ?_
      refine lv_iload_n hx hb dX6_pageAt_20 rfl (lv_at hl 1 rfl) ?_
      obtain ⟨a5, ea5, hg⟩ := bd_s hf
      clear hf
      subst ea5
      have hf := hg
      clear hg
      obtain ⟨v6, hv6, hf⟩ := bd_s hf
      refine w_aald C hw 5 rfl (by decide) rfl hv6 dX6_pageAt_21 ?_
      cases hf
      exact rt_a C hw hS dX6_pageAt_22
    · have hf := if_f c_3 hf
      exact wX6_pageAt_b12 C  hf hw hS (lv_sub hl [] rfl)

set_option maxRecDepth 100000 in
set_option maxHeartbeats 4000000 in
theorem tX6_pageAt (l : Launch) (A : Nat → Prop) (D : va_G) (cy : Nat → ClassId) (st : Nat → Nat) (sz : Nat) (sh : Sh) (d : Dt) (x0 : Nat) (x1 : Int32) {r : Option Nat} (hf : fX6_pageAt sh d x0 x1 = some r) : Ct l yX6_pageAt cX6_pageAt 2 (some (.object "ManyHands$Page")) 0 0 0 0 A D cy st [.ref x0, .int x1] sz sh d (some (va_rf r)) sz sh d := ct_of (by decide) (Nat.le_of_ble_eq_true rfl) (fun p e s m args below meth c C hw hS ls hl => wX6_pageAt_b0 C x0 x1 hf hw hS hl)
theorem dX6_is_0 : decode cX6_is 0 = .ok (.aload_n 0, 1) := by decide +kernel
theorem dX6_is_1 : decode cX6_is 1 = .ok (.iload_n 1, 1) := by decide +kernel
theorem dX6_is_2 : decode cX6_is 2 = .ok (.invokevirtual 63, 3) := by decide +kernel
theorem dX6_is_5 : decode cX6_is 5 = .ok (.astore_n 3, 1) := by decide +kernel
theorem dX6_is_6 : decode cX6_is 6 = .ok (.aload_n 3, 1) := by decide +kernel
theorem dX6_is_7 : decode cX6_is 7 = .ok (.ifnull 10, 3) := by decide +kernel
theorem dX6_is_10 : decode cX6_is 10 = .ok (.iload_n 2, 1) := by decide +kernel
theorem dX6_is_11 : decode cX6_is 11 = .ok (.invokestatic 53, 3) := by decide +kernel
theorem dX6_is_14 : decode cX6_is 14 = .ok (.ifCond .ne 5, 3) := by decide +kernel
theorem dX6_is_17 : decode cX6_is 17 = .ok (.iconst (-1), 1) := by decide +kernel
theorem dX6_is_18 : decode cX6_is 18 = .ok (.ireturn, 1) := by decide +kernel
theorem dX6_is_19 : decode cX6_is 19 = .ok (.aload_n 3, 1) := by decide +kernel
theorem dX6_is_20 : decode cX6_is 20 = .ok (.iload_n 2, 1) := by decide +kernel
theorem dX6_is_21 : decode cX6_is 21 = .ok (.invokevirtual 67, 3) := by decide +kernel
theorem dX6_is_24 : decode cX6_is 24 = .ok (.invokestatic 70, 3) := by decide +kernel
theorem dX6_is_27 : decode cX6_is 27 = .ok (.ireturn, 1) := by decide +kernel
theorem cvX6_is : CV yX6_is cX6_is 4 (some .int) 7 2 := ⟨kw_213, kw_214, kw_1, kw_215, ⟨_, _, rfl⟩, by decide, by decide +kernel, by decide +kernel, by decide +kernel⟩
def fX6_is_b0 (sh : Sh) (d : Dt) (x0 : Nat) (x1 : Int32) (x2 : Int32) : Option (Int32) := bd (kc sh 8 x0) fun _ => bd (fX6_pageAt sh d x0 x1) fun r3 => on r3 (some (-1 : Int32)) (fun a4 => bd (fX6_isKind sh d x2) fun r6 => if (bI r6) = 0 then (some (-1 : Int32)) else (bd (kc sh 5 a4) fun _ => bd (fX3_isUnder sh d a4 x2) fun r10 => bd (fX6_oneIf sh d (bI r10)) fun r12 => some r12))

def fX6_is (sh : Sh) (d : Dt) (x0 : Nat) (x1 : Int32) (x2 : Int32) : Option (Int32) := fX6_is_b0 sh d x0 x1 x2

set_option maxRecDepth 100000 in
set_option maxHeartbeats 4000000 in
theorem wX6_is_b0 (C : mx p s m args meth c yX6_is cX6_is 4 (some .int) A D cy st) {r : Int32} {d : Dt} : ∀ (x0 : Nat) (x1 : Int32) (x2 : Int32), fX6_is_b0 sh d x0 x1 x2 = some r → ∀ {H : Heap} {locs : List Loc} {ls : Array Slot}, HW A D cy sz sh d H → va_S A s.heap H locs → lv_has ls 4 [(0, .ref x0), (1, .int x1), (2, .int x2)] → GL p l e s m args below meth c 1 21 A D cy (some (.int r)) sz sh d H locs 0 ls [] := by
  have hx := C.1
  have hb := C.2.1
  intro x0 x1 x2 hf H locs ls hw hS hl
  unfold fX6_is_b0 at hf
  refine lv_aload_n hx hb dX6_is_0 rfl (lv_at hl 0 rfl) ?_
  refine lv_iload_n hx hb dX6_is_1 rfl (lv_at hl 1 rfl) ?_
  obtain ⟨_, h1, hf⟩ := bd_s hf
  obtain ⟨r3, h2, hf⟩ := bd_s hf
  refine cl_V0 C hw hS (tX6_pageAt l A D cy st sz sh d x0 x1 h2) cvX6_pageAt kw_216 (kc_k h1) ⟨(Nat.le_of_ble_eq_true rfl), (Nat.le_of_ble_eq_true rfl)⟩ hl.1 rfl (Nat.le_of_ble_eq_true rfl) dX6_is_2 ⟨Nat.zero_le _, Nat.zero_le _⟩ (fun H locs hw hS => ?_)
  refine lq_astore_n (x := r3) (lv' := [(3, va_rf r3), (0, .ref x0), (1, .int x1), (2, .int x2)]) hx hb dX6_is_5 rfl hl (by decide) rfl (fun ls hl => ?_)
  refine lq_aload_n hx hb dX6_is_6 rfl (lv_at hl 0 rfl) ?_
  cases r3 with
  | none =>
    have hf := on_n hf
    refine lv_ifnullN (tgt := 17) hx hb dX6_is_7 (by decide) ?_
    refine lv_iconst (v := -1) hx hb dX6_is_17 (by decide) ?_
    cases hf
    exact rt_i C hw hS dX6_is_18
  | some a4 =>
    have hf := on_s hf
    refine lv_ifnull hx hb dX6_is_7 ?_
    refine lv_iload_n hx hb dX6_is_10 rfl (lv_at hl 3 rfl) ?_
    obtain ⟨r6, h5, hf⟩ := bd_s hf
    refine cl_S0 C hw hS (tX6_isKind l A D cy st sz sh d x2 h5) csX6_isKind kw_183 ⟨(Nat.le_of_ble_eq_true rfl), (Nat.le_of_ble_eq_true rfl)⟩ hl.1 rfl (Nat.le_of_ble_eq_true rfl) dX6_is_11 ⟨Nat.zero_le _, Nat.zero_le _⟩ (fun H locs hw hS => ?_)
    refine lv_if_ne (tgt := 19) hx hb dX6_is_14 (by decide) (fun c_7 => ?_) (fun c_7 => ?_)
    · have hf := if_f c_7 hf
      refine lq_aload_n hx hb dX6_is_19 rfl (lv_at hl 0 rfl) ?_
      refine lv_iload_n hx hb dX6_is_20 rfl (lv_at hl 3 rfl) ?_
      obtain ⟨_, h8, hf⟩ := bd_s hf
      obtain ⟨r10, h9, hf⟩ := bd_s hf
      refine cl_V0 C hw hS (tX3_isUnder l A D cy st sz sh d a4 x2 h9) cvX3_isUnder kw_220 (kc_k h8) ⟨(Nat.le_of_ble_eq_true rfl), (Nat.le_of_ble_eq_true rfl)⟩ hl.1 rfl (Nat.le_of_ble_eq_true rfl) dX6_is_21 ⟨Nat.zero_le _, Nat.zero_le _⟩ (fun H locs hw hS => ?_)
      obtain ⟨r12, h11, hf⟩ := bd_s hf
      refine cl_S0 C hw hS (tX6_oneIf l A D cy st sz sh d (bI r10) h11) csX6_oneIf kw_226 ⟨(Nat.le_of_ble_eq_true rfl), (Nat.le_of_ble_eq_true rfl)⟩ hl.1 rfl (Nat.le_of_ble_eq_true rfl) dX6_is_24 ⟨Nat.zero_le _, Nat.zero_le _⟩ (fun H locs hw hS => ?_)
      cases hf
      exact rt_i C hw hS dX6_is_27
    · have hf := if_t c_7 hf
      refine lv_iconst (v := -1) hx hb dX6_is_17 (by decide) ?_
      cases hf
      exact rt_i C hw hS dX6_is_18

set_option maxRecDepth 100000 in
set_option maxHeartbeats 4000000 in
theorem tX6_is (l : Launch) (A : Nat → Prop) (D : va_G) (cy : Nat → ClassId) (st : Nat → Nat) (sz : Nat) (sh : Sh) (d : Dt) (x0 : Nat) (x1 : Int32) (x2 : Int32) {r : Int32} (hf : fX6_is sh d x0 x1 x2 = some r) : Ct l yX6_is cX6_is 4 (some .int) 1 21 0 0 A D cy st [.ref x0, .int x1, .int x2] sz sh d (some (.int r)) sz sh d := ct_of (by decide) (Nat.le_of_ble_eq_true rfl) (fun p e s m args below meth c C hw hS ls hl => wX6_is_b0 C x0 x1 x2 hf hw hS hl)
theorem dX6_handAt_0 : decode cX6_handAt 0 = .ok (.iload_n 1, 1) := by decide +kernel
theorem dX6_handAt_1 : decode cX6_handAt 1 = .ok (.ifCond .lt 11, 3) := by decide +kernel
theorem dX6_handAt_4 : decode cX6_handAt 4 = .ok (.iload_n 1, 1) := by decide +kernel
theorem dX6_handAt_5 : decode cX6_handAt 5 = .ok (.aload_n 0, 1) := by decide +kernel
theorem dX6_handAt_6 : decode cX6_handAt 6 = .ok (.getfield 42, 3) := by decide +kernel
theorem dX6_handAt_9 : decode cX6_handAt 9 = .ok (.if_icmp .lt 7, 3) := by decide +kernel
theorem dX6_handAt_12 : decode cX6_handAt 12 = .ok (.aconst_null, 1) := by decide +kernel
theorem dX6_handAt_13 : decode cX6_handAt 13 = .ok (.goto 9, 3) := by decide +kernel
theorem dX6_handAt_16 : decode cX6_handAt 16 = .ok (.aload_n 0, 1) := by decide +kernel
theorem dX6_handAt_17 : decode cX6_handAt 17 = .ok (.getfield 11, 3) := by decide +kernel
theorem dX6_handAt_20 : decode cX6_handAt 20 = .ok (.iload_n 1, 1) := by decide +kernel
theorem dX6_handAt_21 : decode cX6_handAt 21 = .ok (.aaload, 1) := by decide +kernel
theorem dX6_handAt_22 : decode cX6_handAt 22 = .ok (.areturn, 1) := by decide +kernel
theorem cvX6_handAt : CV yX6_handAt cX6_handAt 2 (some (.object "ManyHands$Hand")) 7 1 := ⟨kw_235, ks_1, kw_1, kw_236, ⟨_, _, rfl⟩, by decide, by decide +kernel, by decide +kernel, by decide +kernel⟩
def fX6_handAt_b12 (sh : Sh) (d : Dt) : Option (Option Nat) := some none

def fX6_handAt_b0 (sh : Sh) (d : Dt) (x0 : Nat) (x1 : Int32) : Option (Option Nat) := if x1 < 0 then (fX6_handAt_b12 sh d ) else (bd (gI sh d 8 262 x0) fun v2 => if x1 < v2 then (bd (gR sh d 8 256 x0) fun v4 => bd v4 fun a5 => bd (aR sh d 24 a5 x1) fun v6 => some v6) else (fX6_handAt_b12 sh d ))

def fX6_handAt (sh : Sh) (d : Dt) (x0 : Nat) (x1 : Int32) : Option (Option Nat) := fX6_handAt_b0 sh d x0 x1

set_option maxRecDepth 100000 in
set_option maxHeartbeats 4000000 in
theorem wX6_handAt_b12 (C : mx p s m args meth c yX6_handAt cX6_handAt 2 (some (.object "ManyHands$Hand")) A D cy st) {r : Option Nat} {d : Dt} : fX6_handAt_b12 sh d  = some r → ∀ {H : Heap} {locs : List Loc} {ls : Array Slot}, HW A D cy sz sh d H → va_S A s.heap H locs → lv_has ls 2 [] → GL p l e s m args below meth c 0 0 A D cy (some (va_rf r)) sz sh d H locs 12 ls [] := by
  have hx := C.1
  have hb := C.2.1
  intro  hf H locs ls hw hS hl
  unfold fX6_handAt_b12 at hf
  refine lv_null hx hb dX6_handAt_12 ?_
  refine lv_goto (tgt := 22) hx hb dX6_handAt_13 (by decide) ?_
  cases hf
  exact rt_a C hw hS dX6_handAt_22

set_option maxRecDepth 100000 in
set_option maxHeartbeats 4000000 in
theorem wX6_handAt_b0 (C : mx p s m args meth c yX6_handAt cX6_handAt 2 (some (.object "ManyHands$Hand")) A D cy st) {r : Option Nat} {d : Dt} : ∀ (x0 : Nat) (x1 : Int32), fX6_handAt_b0 sh d x0 x1 = some r → ∀ {H : Heap} {locs : List Loc} {ls : Array Slot}, HW A D cy sz sh d H → va_S A s.heap H locs → lv_has ls 2 [(0, .ref x0), (1, .int x1)] → GL p l e s m args below meth c 0 0 A D cy (some (va_rf r)) sz sh d H locs 0 ls [] := by
  have hx := C.1
  have hb := C.2.1
  intro x0 x1 hf H locs ls hw hS hl
  unfold fX6_handAt_b0 at hf
  refine lv_iload_n hx hb dX6_handAt_0 rfl (lv_at hl 1 rfl) ?_
  refine lv_if_lt (tgt := 12) hx hb dX6_handAt_1 (by decide) (fun c_1 => ?_) (fun c_1 => ?_)
  · have hf := if_t c_1 hf
    exact wX6_handAt_b12 C  hf hw hS (lv_sub hl [] rfl)
  · have hf := if_f c_1 hf
    refine lv_iload_n hx hb dX6_handAt_4 rfl (lv_at hl 1 rfl) ?_
    refine lv_aload_n hx hb dX6_handAt_5 rfl (lv_at hl 0 rfl) ?_
    obtain ⟨v2, hv2, hf⟩ := bd_s hf
    refine gt_262 C hw hv2 kw_78 dX6_handAt_6 ?_
    refine lv_icmp_lt (tgt := 16) hx hb dX6_handAt_9 (by decide) (fun c_3 => ?_) (fun c_3 => ?_)
    · have hf := if_t c_3 hf
      refine lv_aload_n hx hb dX6_handAt_16 rfl (lv_at hl 0 rfl) ?_
      obtain ⟨v4, hv4, hf⟩ := bd_s hf
      refine gt_256 C hw hv4 kw_72 dX6_handAt_17 ?_
      refine lv_iload_n hx hb dX6_handAt_20 rfl (lv_at hl 1 rfl) ?_
      obtain ⟨a5, ea5, hg⟩ := bd_s hf
      clear hf
      subst ea5
      have hf := hg
      clear hg
      obtain ⟨v6, hv6, hf⟩ := bd_s hf
      refine w_aald C hw 4 rfl (by decide) rfl hv6 dX6_handAt_21 ?_
      cases hf
      exact rt_a C hw hS dX6_handAt_22
    · have hf := if_f c_3 hf
      exact wX6_handAt_b12 C  hf hw hS (lv_sub hl [] rfl)

set_option maxRecDepth 100000 in
set_option maxHeartbeats 4000000 in
theorem tX6_handAt (l : Launch) (A : Nat → Prop) (D : va_G) (cy : Nat → ClassId) (st : Nat → Nat) (sz : Nat) (sh : Sh) (d : Dt) (x0 : Nat) (x1 : Int32) {r : Option Nat} (hf : fX6_handAt sh d x0 x1 = some r) : Ct l yX6_handAt cX6_handAt 2 (some (.object "ManyHands$Hand")) 0 0 0 0 A D cy st [.ref x0, .int x1] sz sh d (some (va_rf r)) sz sh d := ct_of (by decide) (Nat.le_of_ble_eq_true rfl) (fun p e s m args below meth c C hw hS ls hl => wX6_handAt_b0 C x0 x1 hf hw hS hl)
theorem dX6_keep_0 : decode cX6_keep 0 = .ok (.aload_n 0, 1) := by decide +kernel
theorem dX6_keep_1 : decode cX6_keep 1 = .ok (.iload_n 1, 1) := by decide +kernel
theorem dX6_keep_2 : decode cX6_keep 2 = .ok (.invokevirtual 74, 3) := by decide +kernel
theorem dX6_keep_5 : decode cX6_keep 5 = .ok (.astore 4, 2) := by decide +kernel
theorem dX6_keep_7 : decode cX6_keep 7 = .ok (.aload_n 0, 1) := by decide +kernel
theorem dX6_keep_8 : decode cX6_keep 8 = .ok (.iload_n 2, 1) := by decide +kernel
theorem dX6_keep_9 : decode cX6_keep 9 = .ok (.invokevirtual 63, 3) := by decide +kernel
theorem dX6_keep_12 : decode cX6_keep 12 = .ok (.astore 5, 2) := by decide +kernel
theorem dX6_keep_14 : decode cX6_keep 14 = .ok (.aload 4, 2) := by decide +kernel
theorem dX6_keep_16 : decode cX6_keep 16 = .ok (.ifnull 8, 3) := by decide +kernel
theorem dX6_keep_19 : decode cX6_keep 19 = .ok (.aload 5, 2) := by decide +kernel
theorem dX6_keep_21 : decode cX6_keep 21 = .ok (.ifnonnull 5, 3) := by decide +kernel
theorem dX6_keep_24 : decode cX6_keep 24 = .ok (.iconst (-1), 1) := by decide +kernel
theorem dX6_keep_25 : decode cX6_keep 25 = .ok (.ireturn, 1) := by decide +kernel
theorem dX6_keep_26 : decode cX6_keep 26 = .ok (.aload 4, 2) := by decide +kernel
theorem dX6_keep_28 : decode cX6_keep 28 = .ok (.getfield 78, 3) := by decide +kernel
theorem dX6_keep_31 : decode cX6_keep 31 = .ok (.aload 5, 2) := by decide +kernel
theorem dX6_keep_33 : decode cX6_keep 33 = .ok (.getfield 82, 3) := by decide +kernel
theorem dX6_keep_36 : decode cX6_keep 36 = .ok (.baload, 1) := by decide +kernel
theorem dX6_keep_37 : decode cX6_keep 37 = .ok (.ifCond .ne 7, 3) := by decide +kernel
theorem dX6_keep_40 : decode cX6_keep 40 = .ok (.iconst 1, 1) := by decide +kernel
theorem dX6_keep_41 : decode cX6_keep 41 = .ok (.goto 4, 3) := by decide +kernel
theorem dX6_keep_44 : decode cX6_keep 44 = .ok (.iconst 0, 1) := by decide +kernel
theorem dX6_keep_45 : decode cX6_keep 45 = .ok (.istore 6, 2) := by decide +kernel
theorem dX6_keep_47 : decode cX6_keep 47 = .ok (.aload 4, 2) := by decide +kernel
theorem dX6_keep_49 : decode cX6_keep 49 = .ok (.getfield 78, 3) := by decide +kernel
theorem dX6_keep_52 : decode cX6_keep 52 = .ok (.aload 5, 2) := by decide +kernel
theorem dX6_keep_54 : decode cX6_keep 54 = .ok (.getfield 82, 3) := by decide +kernel
theorem dX6_keep_57 : decode cX6_keep 57 = .ok (.iload_n 3, 1) := by decide +kernel
theorem dX6_keep_58 : decode cX6_keep 58 = .ok (.ifCond .ne 7, 3) := by decide +kernel
theorem dX6_keep_61 : decode cX6_keep 61 = .ok (.iconst 1, 1) := by decide +kernel
theorem dX6_keep_62 : decode cX6_keep 62 = .ok (.goto 4, 3) := by decide +kernel
theorem dX6_keep_65 : decode cX6_keep 65 = .ok (.iconst 0, 1) := by decide +kernel
theorem dX6_keep_66 : decode cX6_keep 66 = .ok (.bastore, 1) := by decide +kernel
theorem dX6_keep_67 : decode cX6_keep 67 = .ok (.iload 6, 2) := by decide +kernel
theorem dX6_keep_69 : decode cX6_keep 69 = .ok (.invokestatic 70, 3) := by decide +kernel
theorem dX6_keep_72 : decode cX6_keep 72 = .ok (.ireturn, 1) := by decide +kernel
theorem cvX6_keep : CV yX6_keep cX6_keep 7 (some .int) 7 3 := ⟨kw_230, kw_231, kw_1, kw_232, ⟨_, _, rfl⟩, by decide, by decide +kernel, by decide +kernel, by decide +kernel⟩
def fX6_keep_b66 (sh : Sh) (x6 : Int32) (t0 : Option Nat) (t1 : Int32) (t2 : Int32) (d : Dt) : Option (Int32 × Dt) := bd t0 fun a1 => bd (sZ sh d 22 a1 t1 t2) fun d2 => bd (fX6_oneIf sh d2 x6) fun r4 => some (r4, d2)

def fX6_keep_b45 (sh : Sh) (x3 : Int32) (x4 : Option Nat) (x5 : Option Nat) (t0 : Int32) (d : Dt) : Option (Int32 × Dt) := bd x4 fun a1 => bd (gR sh d 3 100 a1) fun v2 => bd x5 fun a3 => bd (gI sh d 5 160 a3) fun v4 => if x3 = 0 then (fX6_keep_b66 sh t0 v2 v4 (1 : Int32) d) else (fX6_keep_b66 sh t0 v2 v4 (0 : Int32) d)

def fX6_keep_b0 (sh : Sh) (x0 : Nat) (x1 : Int32) (x2 : Int32) (x3 : Int32) (d : Dt) : Option (Int32 × Dt) := bd (kc sh 8 x0) fun _ => bd (fX6_handAt sh d x0 x1) fun r3 => bd (fX6_pageAt sh d x0 x2) fun r5 => on r3 (some ((-1 : Int32), d)) (fun a6 => on r5 (some ((-1 : Int32), d)) (fun a7 => bd (gR sh d 3 100 a6) fun v8 => bd (gI sh d 5 160 a7) fun v9 => bd v8 fun a10 => bd (aI sh d 22 a10 v9) fun v11 => if v11 = 0 then (fX6_keep_b45 sh x3 (some a6) (some a7) (1 : Int32) d) else (fX6_keep_b45 sh x3 (some a6) (some a7) (0 : Int32) d)))

def fX6_keep (sh : Sh) (d : Dt) (x0 : Nat) (x1 : Int32) (x2 : Int32) (x3 : Int32) : Option (Int32 × Dt) := fX6_keep_b0 sh x0 x1 x2 x3 d

set_option maxRecDepth 100000 in
set_option maxHeartbeats 4000000 in
theorem wX6_keep_b66 (C : mx p s m args meth c yX6_keep cX6_keep 7 (some .int) A D cy st) {r : Int32} {d9 : Dt} : ∀ (x6 : Int32) (t0 : Option Nat) (t1 : Int32) (t2 : Int32) (d : Dt), fX6_keep_b66 sh x6 t0 t1 t2 d = some (r, d9) → ∀ {H : Heap} {locs : List Loc} {ls : Array Slot}, HW A D cy sz sh d H → va_S A s.heap H locs → lv_has ls 7 [(6, .int x6)] → GL p l e s m args below meth c 1 21 A D cy (some (.int r)) sz sh d9 H locs 66 ls [.int t2, .int t1, va_rf t0] := by
  have hx := C.1
  have hb := C.2.1
  intro x6 t0 t1 t2 d hf H locs ls hw hS hl
  unfold fX6_keep_b66 at hf
  obtain ⟨a1, ea1, hg⟩ := bd_s hf
  clear hf
  subst ea1
  have hf := hg
  clear hg
  obtain ⟨d2, hd2, hf⟩ := bd_s hf
  refine w_zast C hw hS hd2 dX6_keep_66 (fun H locs hw hS => ?_)
  refine lv_iload hx hb dX6_keep_67 (lv_at hl 0 rfl) ?_
  obtain ⟨r4, h3, hf⟩ := bd_s hf
  refine cl_S0 C hw hS (tX6_oneIf l A D cy st sz sh d2 x6 h3) csX6_oneIf kw_226 ⟨(Nat.le_of_ble_eq_true rfl), (Nat.le_of_ble_eq_true rfl)⟩ hl.1 rfl (Nat.le_of_ble_eq_true rfl) dX6_keep_69 ⟨Nat.zero_le _, Nat.zero_le _⟩ (fun H locs hw hS => ?_)
  cases hf
  exact rt_i C hw hS dX6_keep_72

set_option maxRecDepth 100000 in
set_option maxHeartbeats 4000000 in
theorem wX6_keep_b45 (C : mx p s m args meth c yX6_keep cX6_keep 7 (some .int) A D cy st) {r : Int32} {d9 : Dt} : ∀ (x3 : Int32) (x4 : Option Nat) (x5 : Option Nat) (t0 : Int32) (d : Dt), fX6_keep_b45 sh x3 x4 x5 t0 d = some (r, d9) → ∀ {H : Heap} {locs : List Loc} {ls : Array Slot}, HW A D cy sz sh d H → va_S A s.heap H locs → lv_has ls 7 [(3, .int x3), (4, va_rf x4), (5, va_rf x5)] → GL p l e s m args below meth c 1 21 A D cy (some (.int r)) sz sh d9 H locs 45 ls [.int t0] := by
  have hx := C.1
  have hb := C.2.1
  intro x3 x4 x5 t0 d hf H locs ls hw hS hl
  unfold fX6_keep_b45 at hf
  refine lv_istore (i := 6) (lv' := [(6, .int t0), (3, .int x3), (4, va_rf x4), (5, va_rf x5)]) hx hb dX6_keep_45 hl (by decide) (by simp [va_rf_c, cat_i, cat_l, cat_r]) (fun ls hl => ?_)
  refine lq_aload hx hb dX6_keep_47 (lv_at hl 2 rfl) ?_
  obtain ⟨a1, ea1, hg⟩ := bd_s hf
  clear hf
  subst ea1
  have hf := hg
  clear hg
  obtain ⟨v2, hv2, hf⟩ := bd_s hf
  refine gt_100 C hw hv2 kw_159 dX6_keep_49 ?_
  refine lq_aload hx hb dX6_keep_52 (lv_at hl 3 rfl) ?_
  obtain ⟨a3, ea3, hg⟩ := bd_s hf
  clear hf
  subst ea3
  have hf := hg
  clear hg
  obtain ⟨v4, hv4, hf⟩ := bd_s hf
  refine gt_160 C hw hv4 kw_197 dX6_keep_54 ?_
  refine lv_iload_n hx hb dX6_keep_57 rfl (lv_at hl 1 rfl) ?_
  refine lv_if_ne (tgt := 65) hx hb dX6_keep_58 (by decide) (fun c_5 => ?_) (fun c_5 => ?_)
  · have hf := if_f c_5 hf
    refine lv_iconst (v := 0) hx hb dX6_keep_65 (by decide) ?_
    exact wX6_keep_b66 C t0 v2 v4 (0 : Int32) d hf hw hS (lv_sub hl [0] rfl)
  · have hf := if_t c_5 hf
    refine lv_iconst (v := 1) hx hb dX6_keep_61 (by decide) ?_
    refine lv_goto (tgt := 66) hx hb dX6_keep_62 (by decide) ?_
    exact wX6_keep_b66 C t0 v2 v4 (1 : Int32) d hf hw hS (lv_sub hl [0] rfl)

set_option maxRecDepth 100000 in
set_option maxHeartbeats 4000000 in
theorem wX6_keep_b0 (C : mx p s m args meth c yX6_keep cX6_keep 7 (some .int) A D cy st) {r : Int32} {d9 : Dt} : ∀ (x0 : Nat) (x1 : Int32) (x2 : Int32) (x3 : Int32) (d : Dt), fX6_keep_b0 sh x0 x1 x2 x3 d = some (r, d9) → ∀ {H : Heap} {locs : List Loc} {ls : Array Slot}, HW A D cy sz sh d H → va_S A s.heap H locs → lv_has ls 7 [(0, .ref x0), (1, .int x1), (2, .int x2), (3, .int x3)] → GL p l e s m args below meth c 1 21 A D cy (some (.int r)) sz sh d9 H locs 0 ls [] := by
  have hx := C.1
  have hb := C.2.1
  intro x0 x1 x2 x3 d hf H locs ls hw hS hl
  unfold fX6_keep_b0 at hf
  refine lv_aload_n hx hb dX6_keep_0 rfl (lv_at hl 0 rfl) ?_
  refine lv_iload_n hx hb dX6_keep_1 rfl (lv_at hl 1 rfl) ?_
  obtain ⟨_, h1, hf⟩ := bd_s hf
  obtain ⟨r3, h2, hf⟩ := bd_s hf
  refine cl_V0 C hw hS (tX6_handAt l A D cy st sz sh d x0 x1 h2) cvX6_handAt kw_233 (kc_k h1) ⟨(Nat.le_of_ble_eq_true rfl), (Nat.le_of_ble_eq_true rfl)⟩ hl.1 rfl (Nat.le_of_ble_eq_true rfl) dX6_keep_2 ⟨Nat.zero_le _, Nat.zero_le _⟩ (fun H locs hw hS => ?_)
  refine lq_astore (x := r3) (lv' := [(4, va_rf r3), (0, .ref x0), (1, .int x1), (2, .int x2), (3, .int x3)]) hx hb dX6_keep_5 hl (by decide) rfl (fun ls hl => ?_)
  refine lv_aload_n hx hb dX6_keep_7 rfl (lv_at hl 1 rfl) ?_
  refine lv_iload_n hx hb dX6_keep_8 rfl (lv_at hl 3 rfl) ?_
  obtain ⟨r5, h4, hf⟩ := bd_s hf
  refine cl_V0 C hw hS (tX6_pageAt l A D cy st sz sh d x0 x2 h4) cvX6_pageAt kw_216 (kc_k h1) ⟨(Nat.le_of_ble_eq_true rfl), (Nat.le_of_ble_eq_true rfl)⟩ hl.1 rfl (Nat.le_of_ble_eq_true rfl) dX6_keep_9 ⟨Nat.zero_le _, Nat.zero_le _⟩ (fun H locs hw hS => ?_)
  refine lq_astore (i := 5) (x := r5) (lv' := [(5, va_rf r5), (4, va_rf r3), (0, .ref x0), (1, .int x1), (2, .int x2), (3, .int x3)]) hx hb dX6_keep_12 hl (by decide) (by simp [va_rf_c, cat_i, cat_l, cat_r]) (fun ls hl => ?_)
  refine lq_aload hx hb dX6_keep_14 (lv_at hl 1 rfl) ?_
  cases r3 with
  | none =>
    have hf := on_n hf
    refine lv_ifnullN (tgt := 24) hx hb dX6_keep_16 (by decide) ?_
    refine lv_iconst (v := -1) hx hb dX6_keep_24 (by decide) ?_
    cases hf
    exact rt_i C hw hS dX6_keep_25
  | some a6 =>
    have hf := on_s hf
    refine lv_ifnull hx hb dX6_keep_16 ?_
    refine lq_aload hx hb dX6_keep_19 (lv_at hl 0 rfl) ?_
    cases r5 with
    | none =>
      have hf := on_n hf
      refine lv_ifnonnullN hx hb dX6_keep_21 ?_
      refine lv_iconst (v := -1) hx hb dX6_keep_24 (by decide) ?_
      cases hf
      exact rt_i C hw hS dX6_keep_25
    | some a7 =>
      have hf := on_s hf
      refine lv_ifnonnull (tgt := 26) hx hb dX6_keep_21 (by decide) ?_
      refine lq_aload hx hb dX6_keep_26 (lv_at hl 1 rfl) ?_
      obtain ⟨v8, hv8, hf⟩ := bd_s hf
      refine gt_100 C hw hv8 kw_159 dX6_keep_28 ?_
      refine lq_aload hx hb dX6_keep_31 (lv_at hl 0 rfl) ?_
      obtain ⟨v9, hv9, hf⟩ := bd_s hf
      refine gt_160 C hw hv9 kw_197 dX6_keep_33 ?_
      obtain ⟨a10, ea10, hg⟩ := bd_s hf
      clear hf
      subst ea10
      have hf := hg
      clear hg
      obtain ⟨v11, hv11, hf⟩ := bd_s hf
      refine w_zald C hw hv11 dX6_keep_36 ?_
      refine lv_if_ne (tgt := 44) hx hb dX6_keep_37 (by decide) (fun c_12 => ?_) (fun c_12 => ?_)
      · have hf := if_f c_12 hf
        refine lv_iconst (v := 0) hx hb dX6_keep_44 (by decide) ?_
        exact wX6_keep_b45 C x3 (some a6) (some a7) (0 : Int32) d hf hw hS (lv_sub hl [5, 1, 0] rfl)
      · have hf := if_t c_12 hf
        refine lv_iconst (v := 1) hx hb dX6_keep_40 (by decide) ?_
        refine lv_goto (tgt := 45) hx hb dX6_keep_41 (by decide) ?_
        exact wX6_keep_b45 C x3 (some a6) (some a7) (1 : Int32) d hf hw hS (lv_sub hl [5, 1, 0] rfl)

set_option maxRecDepth 100000 in
set_option maxHeartbeats 4000000 in
theorem tX6_keep (l : Launch) (A : Nat → Prop) (D : va_G) (cy : Nat → ClassId) (st : Nat → Nat) (sz : Nat) (sh : Sh) (d : Dt) (x0 : Nat) (x1 : Int32) (x2 : Int32) (x3 : Int32) {r : Int32} {d9 : Dt} (hf : fX6_keep sh d x0 x1 x2 x3 = some (r, d9)) : Ct l yX6_keep cX6_keep 7 (some .int) 1 21 0 0 A D cy st [.ref x0, .int x1, .int x2, .int x3] sz sh d (some (.int r)) sz sh d9 := ct_of (by decide) (Nat.le_of_ble_eq_true rfl) (fun p e s m args below meth c C hw hS ls hl => wX6_keep_b0 C x0 x1 x2 x3 d hf hw hS hl)
theorem dX6_found_0 : decode cX6_found 0 = .ok (.aload_n 0, 1) := by decide +kernel
theorem dX6_found_1 : decode cX6_found 1 = .ok (.iload_n 1, 1) := by decide +kernel
theorem dX6_found_2 : decode cX6_found 2 = .ok (.putfield 260, 3) := by decide +kernel
theorem dX6_found_5 : decode cX6_found 5 = .ok (.aload_n 0, 1) := by decide +kernel
theorem dX6_found_6 : decode cX6_found 6 = .ok (.getfield 28, 3) := by decide +kernel
theorem dX6_found_9 : decode cX6_found 9 = .ok (.iload_n 1, 1) := by decide +kernel
theorem dX6_found_10 : decode cX6_found 10 = .ok (.dup2, 1) := by decide +kernel
theorem dX6_found_11 : decode cX6_found 11 = .ok (.iaload, 1) := by decide +kernel
theorem dX6_found_12 : decode cX6_found 12 = .ok (.iconst 1, 1) := by decide +kernel
theorem dX6_found_13 : decode cX6_found 13 = .ok (.iadd, 1) := by decide +kernel
theorem dX6_found_14 : decode cX6_found 14 = .ok (.iastore, 1) := by decide +kernel
theorem dX6_found_15 : decode cX6_found 15 = .ok (.bipush (-3), 2) := by decide +kernel
theorem dX6_found_17 : decode cX6_found 17 = .ok (.ireturn, 1) := by decide +kernel
theorem cvX6_found : CV yX6_found cX6_found 2 (some .int) 7 1 := ⟨kw_260, ks_4, kw_1, kw_261, ⟨_, _, rfl⟩, by decide, by decide +kernel, by decide +kernel, by decide +kernel⟩
def fX6_found_b0 (sh : Sh) (x0 : Nat) (x1 : Int32) (d : Dt) : Option (Int32 × Dt) := bd (pI sh d 8 264 x0 x1) fun d1 => bd (gR sh d1 8 259 x0) fun v2 => bd v2 fun a3 => bd (aI sh d1 20 a3 x1) fun v4 => bd (sI sh d1 20 a3 x1 (v4 + (1 : Int32))) fun d5 => some ((-3 : Int32), d5)

def fX6_found (sh : Sh) (d : Dt) (x0 : Nat) (x1 : Int32) : Option (Int32 × Dt) := fX6_found_b0 sh x0 x1 d

set_option maxRecDepth 100000 in
set_option maxHeartbeats 4000000 in
theorem wX6_found_b0 (C : mx p s m args meth c yX6_found cX6_found 2 (some .int) A D cy st) {r : Int32} {d9 : Dt} : ∀ (x0 : Nat) (x1 : Int32) (d : Dt), fX6_found_b0 sh x0 x1 d = some (r, d9) → ∀ {H : Heap} {locs : List Loc} {ls : Array Slot}, HW A D cy sz sh d H → va_S A s.heap H locs → lv_has ls 2 [(0, .ref x0), (1, .int x1)] → GL p l e s m args below meth c 0 0 A D cy (some (.int r)) sz sh d9 H locs 0 ls [] := by
  have hx := C.1
  have hb := C.2.1
  intro x0 x1 d hf H locs ls hw hS hl
  unfold fX6_found_b0 at hf
  refine lv_aload_n hx hb dX6_found_0 rfl (lv_at hl 0 rfl) ?_
  refine lv_iload_n hx hb dX6_found_1 rfl (lv_at hl 1 rfl) ?_
  obtain ⟨d1, hd1, hf⟩ := bd_s hf
  refine pt_264 C hw hS hd1 kw_80 dX6_found_2 (fun H locs hw hS => ?_)
  refine lv_aload_n hx hb dX6_found_5 rfl (lv_at hl 0 rfl) ?_
  obtain ⟨v2, hv2, hf⟩ := bd_s hf
  refine gt_259 C hw hv2 kw_75 dX6_found_6 ?_
  refine lv_iload_n hx hb dX6_found_9 rfl (lv_at hl 1 rfl) ?_
  refine lv_dup2_11 hx hb dX6_found_10 rfl (va_rf_c _) ?_
  obtain ⟨a3, ea3, hg⟩ := bd_s hf
  clear hf
  subst ea3
  have hf := hg
  clear hg
  obtain ⟨v4, hv4, hf⟩ := bd_s hf
  refine w_iald C hw hv4 dX6_found_11 ?_
  refine lv_iconst (v := 1) hx hb dX6_found_12 (by decide) ?_
  refine lv_iadd hx hb dX6_found_13 ?_
  obtain ⟨d5, hd5, hf⟩ := bd_s hf
  refine w_iast C hw hS hd5 dX6_found_14 (fun H locs hw hS => ?_)
  refine lv_bipush (v := -3) hx hb dX6_found_15 (by decide) ?_
  cases hf
  exact rt_i C hw hS dX6_found_17

set_option maxRecDepth 100000 in
set_option maxHeartbeats 4000000 in
theorem tX6_found (l : Launch) (A : Nat → Prop) (D : va_G) (cy : Nat → ClassId) (st : Nat → Nat) (sz : Nat) (sh : Sh) (d : Dt) (x0 : Nat) (x1 : Int32) {r : Int32} {d9 : Dt} (hf : fX6_found sh d x0 x1 = some (r, d9)) : Ct l yX6_found cX6_found 2 (some .int) 0 0 0 0 A D cy st [.ref x0, .int x1] sz sh d (some (.int r)) sz sh d9 := ct_of (by decide) (Nat.le_of_ble_eq_true rfl) (fun p e s m args below meth c C hw hS ls hl => wX6_found_b0 C x0 x1 d hf hw hS hl)
theorem dX6_refusalToSee_0 : decode cX6_refusalToSee 0 = .ok (.aload_n 1, 1) := by decide +kernel
theorem dX6_refusalToSee_1 : decode cX6_refusalToSee 1 = .ok (.getfield 78, 3) := by decide +kernel
theorem dX6_refusalToSee_4 : decode cX6_refusalToSee 4 = .ok (.aload_n 2, 1) := by decide +kernel
theorem dX6_refusalToSee_5 : decode cX6_refusalToSee 5 = .ok (.getfield 82, 3) := by decide +kernel
theorem dX6_refusalToSee_8 : decode cX6_refusalToSee 8 = .ok (.baload, 1) := by decide +kernel
theorem dX6_refusalToSee_9 : decode cX6_refusalToSee 9 = .ok (.ifCond .eq 9, 3) := by decide +kernel
theorem dX6_refusalToSee_12 : decode cX6_refusalToSee 12 = .ok (.aload_n 0, 1) := by decide +kernel
theorem dX6_refusalToSee_13 : decode cX6_refusalToSee 13 = .ok (.iconst 1, 1) := by decide +kernel
theorem dX6_refusalToSee_14 : decode cX6_refusalToSee 14 = .ok (.invokevirtual 100, 3) := by decide +kernel
theorem dX6_refusalToSee_17 : decode cX6_refusalToSee 17 = .ok (.ireturn, 1) := by decide +kernel
theorem dX6_refusalToSee_18 : decode cX6_refusalToSee 18 = .ok (.aload_n 2, 1) := by decide +kernel
theorem dX6_refusalToSee_19 : decode cX6_refusalToSee 19 = .ok (.iload_n 3, 1) := by decide +kernel
theorem dX6_refusalToSee_20 : decode cX6_refusalToSee 20 = .ok (.invokevirtual 67, 3) := by decide +kernel
theorem dX6_refusalToSee_23 : decode cX6_refusalToSee 23 = .ok (.ifCond .eq 7, 3) := by decide +kernel
theorem dX6_refusalToSee_26 : decode cX6_refusalToSee 26 = .ok (.iconst 0, 1) := by decide +kernel
theorem dX6_refusalToSee_27 : decode cX6_refusalToSee 27 = .ok (.goto 8, 3) := by decide +kernel
theorem dX6_refusalToSee_30 : decode cX6_refusalToSee 30 = .ok (.aload_n 0, 1) := by decide +kernel
theorem dX6_refusalToSee_31 : decode cX6_refusalToSee 31 = .ok (.iconst 3, 1) := by decide +kernel
theorem dX6_refusalToSee_32 : decode cX6_refusalToSee 32 = .ok (.invokevirtual 100, 3) := by decide +kernel
theorem dX6_refusalToSee_35 : decode cX6_refusalToSee 35 = .ok (.ireturn, 1) := by decide +kernel
theorem cvX6_refusalToSee : CV yX6_refusalToSee cX6_refusalToSee 4 (some .int) 7 3 := ⟨kw_256, ks_3, kw_1, kw_257, ⟨_, _, rfl⟩, by decide, by decide +kernel, by decide +kernel, by decide +kernel⟩
def fX6_refusalToSee_b0 (sh : Sh) (x0 : Nat) (x1 : Option Nat) (x2 : Option Nat) (x3 : Int32) (d : Dt) : Option (Int32 × Dt) := bd x1 fun a1 => bd (gR sh d 3 100 a1) fun v2 => bd x2 fun a3 => bd (gI sh d 5 160 a3) fun v4 => bd v2 fun a5 => bd (aI sh d 22 a5 v4) fun v6 => if v6 = 0 then (bd (fX3_isUnder sh d a3 x3) fun r9 => if (bI r9) = 0 then (bd (kc sh 8 x0) fun _ => bd2 (fX6_found sh d x0 (3 : Int32)) fun r13 d14 => some (r13, d14)) else (some ((0 : Int32), d))) else (bd (kc sh 8 x0) fun _ => bd2 (fX6_found sh d x0 (1 : Int32)) fun r17 d18 => some (r17, d18))

def fX6_refusalToSee (sh : Sh) (d : Dt) (x0 : Nat) (x1 : Option Nat) (x2 : Option Nat) (x3 : Int32) : Option (Int32 × Dt) := fX6_refusalToSee_b0 sh x0 x1 x2 x3 d

set_option maxRecDepth 100000 in
set_option maxHeartbeats 4000000 in
theorem wX6_refusalToSee_b0 (C : mx p s m args meth c yX6_refusalToSee cX6_refusalToSee 4 (some .int) A D cy st) {r : Int32} {d9 : Dt} : ∀ (x0 : Nat) (x1 : Option Nat) (x2 : Option Nat) (x3 : Int32) (d : Dt), fX6_refusalToSee_b0 sh x0 x1 x2 x3 d = some (r, d9) → ∀ {H : Heap} {locs : List Loc} {ls : Array Slot}, HW A D cy sz sh d H → va_S A s.heap H locs → lv_has ls 4 [(0, .ref x0), (1, va_rf x1), (2, va_rf x2), (3, .int x3)] → GL p l e s m args below meth c 1 21 A D cy (some (.int r)) sz sh d9 H locs 0 ls [] := by
  have hx := C.1
  have hb := C.2.1
  intro x0 x1 x2 x3 d hf H locs ls hw hS hl
  unfold fX6_refusalToSee_b0 at hf
  refine lq_aload_n hx hb dX6_refusalToSee_0 rfl (lv_at hl 1 rfl) ?_
  obtain ⟨a1, ea1, hg⟩ := bd_s hf
  clear hf
  subst ea1
  have hf := hg
  clear hg
  obtain ⟨v2, hv2, hf⟩ := bd_s hf
  refine gt_100 C hw hv2 kw_159 dX6_refusalToSee_1 ?_
  refine lq_aload_n hx hb dX6_refusalToSee_4 rfl (lv_at hl 2 rfl) ?_
  obtain ⟨a3, ea3, hg⟩ := bd_s hf
  clear hf
  subst ea3
  have hf := hg
  clear hg
  obtain ⟨v4, hv4, hf⟩ := bd_s hf
  refine gt_160 C hw hv4 kw_197 dX6_refusalToSee_5 ?_
  obtain ⟨a5, ea5, hg⟩ := bd_s hf
  clear hf
  subst ea5
  have hf := hg
  clear hg
  obtain ⟨v6, hv6, hf⟩ := bd_s hf
  refine w_zald C hw hv6 dX6_refusalToSee_8 ?_
  refine lv_if_eq (tgt := 18) hx hb dX6_refusalToSee_9 (by decide) (fun c_7 => ?_) (fun c_7 => ?_)
  · have hf := if_t c_7 hf
    refine lq_aload_n hx hb dX6_refusalToSee_18 rfl (lv_at hl 2 rfl) ?_
    refine lv_iload_n hx hb dX6_refusalToSee_19 rfl (lv_at hl 3 rfl) ?_
    obtain ⟨r9, h8, hf⟩ := bd_s hf
    refine cl_V0 C hw hS (tX3_isUnder l A D cy st sz sh d a3 x3 h8) cvX3_isUnder kw_220 (gI_s hv4).1 ⟨(Nat.le_of_ble_eq_true rfl), (Nat.le_of_ble_eq_true rfl)⟩ hl.1 rfl (Nat.le_of_ble_eq_true rfl) dX6_refusalToSee_20 ⟨Nat.zero_le _, Nat.zero_le _⟩ (fun H locs hw hS => ?_)
    refine lv_if_eq (tgt := 30) hx hb dX6_refusalToSee_23 (by decide) (fun c_10 => ?_) (fun c_10 => ?_)
    · have hf := if_t c_10 hf
      refine lv_aload_n hx hb dX6_refusalToSee_30 rfl (lv_at hl 0 rfl) ?_
      refine lv_iconst (v := 3) hx hb dX6_refusalToSee_31 (by decide) ?_
      obtain ⟨_, h11, hf⟩ := bd_s hf
      obtain ⟨r13, d14, h12, hf⟩ := bd2_s hf
      refine cl_V0 C hw hS (tX6_found l A D cy st sz sh d x0 (3 : Int32) h12) cvX6_found kw_258 (kc_k h11) ⟨(Nat.le_of_ble_eq_true rfl), (Nat.le_of_ble_eq_true rfl)⟩ hl.1 rfl (Nat.le_of_ble_eq_true rfl) dX6_refusalToSee_32 ⟨Nat.zero_le _, Nat.zero_le _⟩ (fun H locs hw hS => ?_)
      cases hf
      exact rt_i C hw hS dX6_refusalToSee_35
    · have hf := if_f c_10 hf
      refine lv_iconst (v := 0) hx hb dX6_refusalToSee_26 (by decide) ?_
      refine lv_goto (tgt := 35) hx hb dX6_refusalToSee_27 (by decide) ?_
      cases hf
      exact rt_i C hw hS dX6_refusalToSee_35
  · have hf := if_f c_7 hf
    refine lv_aload_n hx hb dX6_refusalToSee_12 rfl (lv_at hl 0 rfl) ?_
    refine lv_iconst (v := 1) hx hb dX6_refusalToSee_13 (by decide) ?_
    obtain ⟨_, h15, hf⟩ := bd_s hf
    obtain ⟨r17, d18, h16, hf⟩ := bd2_s hf
    refine cl_V0 C hw hS (tX6_found l A D cy st sz sh d x0 (1 : Int32) h16) cvX6_found kw_258 (kc_k h15) ⟨(Nat.le_of_ble_eq_true rfl), (Nat.le_of_ble_eq_true rfl)⟩ hl.1 rfl (Nat.le_of_ble_eq_true rfl) dX6_refusalToSee_14 ⟨Nat.zero_le _, Nat.zero_le _⟩ (fun H locs hw hS => ?_)
    cases hf
    exact rt_i C hw hS dX6_refusalToSee_17

set_option maxRecDepth 100000 in
set_option maxHeartbeats 4000000 in
theorem tX6_refusalToSee (l : Launch) (A : Nat → Prop) (D : va_G) (cy : Nat → ClassId) (st : Nat → Nat) (sz : Nat) (sh : Sh) (d : Dt) (x0 : Nat) (x1 : Option Nat) (x2 : Option Nat) (x3 : Int32) {r : Int32} {d9 : Dt} (hf : fX6_refusalToSee sh d x0 x1 x2 x3 = some (r, d9)) : Ct l yX6_refusalToSee cX6_refusalToSee 4 (some .int) 1 21 0 0 A D cy st [.ref x0, va_rf x1, va_rf x2, .int x3] sz sh d (some (.int r)) sz sh d9 := ct_of (by decide) (by simp [lg_sl, va_rf_c, cat_i, cat_l, cat_r]) (fun p e s m args below meth c C hw hS ls hl => wX6_refusalToSee_b0 C x0 x1 x2 x3 d hf hw hS (by simpa [lv_args, va_rf_c, cat_i, cat_l, cat_r] using hl))
theorem dX6_refusalToChange_0 : decode cX6_refusalToChange 0 = .ok (.aload_n 0, 1) := by decide +kernel
theorem dX6_refusalToChange_1 : decode cX6_refusalToChange 1 = .ok (.getfield 24, 3) := by decide +kernel
theorem dX6_refusalToChange_4 : decode cX6_refusalToChange 4 = .ok (.invokevirtual 259, 3) := by decide +kernel
theorem dX6_refusalToChange_7 : decode cX6_refusalToChange 7 = .ok (.sipush 400, 3) := by decide +kernel
theorem dX6_refusalToChange_10 : decode cX6_refusalToChange 10 = .ok (.if_icmp .lt 6, 3) := by decide +kernel
theorem dX6_refusalToChange_13 : decode cX6_refusalToChange 13 = .ok (.bipush (-2), 2) := by decide +kernel
theorem dX6_refusalToChange_15 : decode cX6_refusalToChange 15 = .ok (.ireturn, 1) := by decide +kernel
theorem dX6_refusalToChange_16 : decode cX6_refusalToChange 16 = .ok (.aload_n 1, 1) := by decide +kernel
theorem dX6_refusalToChange_17 : decode cX6_refusalToChange 17 = .ok (.invokevirtual 282, 3) := by decide +kernel
theorem dX6_refusalToChange_20 : decode cX6_refusalToChange 20 = .ok (.ifCond .eq 13, 3) := by decide +kernel
theorem dX6_refusalToChange_23 : decode cX6_refusalToChange 23 = .ok (.aload_n 0, 1) := by decide +kernel
theorem dX6_refusalToChange_24 : decode cX6_refusalToChange 24 = .ok (.aload_n 1, 1) := by decide +kernel
theorem dX6_refusalToChange_25 : decode cX6_refusalToChange 25 = .ok (.aload_n 2, 1) := by decide +kernel
theorem dX6_refusalToChange_26 : decode cX6_refusalToChange 26 = .ok (.iload_n 3, 1) := by decide +kernel
theorem dX6_refusalToChange_27 : decode cX6_refusalToChange 27 = .ok (.invokevirtual 176, 3) := by decide +kernel
theorem dX6_refusalToChange_30 : decode cX6_refusalToChange 30 = .ok (.goto 5, 3) := by decide +kernel
theorem dX6_refusalToChange_33 : decode cX6_refusalToChange 33 = .ok (.bipush (-4), 2) := by decide +kernel
theorem dX6_refusalToChange_35 : decode cX6_refusalToChange 35 = .ok (.ireturn, 1) := by decide +kernel
theorem cvX6_refusalToChange : CV yX6_refusalToChange cX6_refusalToChange 4 (some .int) 7 3 := ⟨kw_243, ks_2, kw_1, kw_244, ⟨_, _, rfl⟩, by decide, by decide +kernel, by decide +kernel, by decide +kernel⟩
def fX6_refusalToChange_b0 (sh : Sh) (x0 : Nat) (x1 : Option Nat) (x2 : Option Nat) (x3 : Int32) (d : Dt) : Option (Int32 × Dt) := bd (gR sh d 8 258 x0) fun v1 => bd v1 fun a2 => bd (kc sh 1 a2) fun _ => bd (fJx4a65c_size_8abf5 sh d a2) fun r5 => if r5 < (400 : Int32) then (bd x1 fun a7 => bd (kc sh 3 a7) fun _ => bd (fX1_hasAllOwn sh d a7) fun r10 => if (bI r10) = 0 then (some ((-4 : Int32), d)) else (bd2 (fX6_refusalToSee sh d x0 (some a7) x2 x3) fun r13 d14 => some (r13, d14))) else (some ((-2 : Int32), d))

def fX6_refusalToChange (sh : Sh) (d : Dt) (x0 : Nat) (x1 : Option Nat) (x2 : Option Nat) (x3 : Int32) : Option (Int32 × Dt) := fX6_refusalToChange_b0 sh x0 x1 x2 x3 d

set_option maxRecDepth 100000 in
set_option maxHeartbeats 4000000 in
theorem wX6_refusalToChange_b0 (C : mx p s m args meth c yX6_refusalToChange cX6_refusalToChange 4 (some .int) A D cy st) {r : Int32} {d9 : Dt} : ∀ (x0 : Nat) (x1 : Option Nat) (x2 : Option Nat) (x3 : Int32) (d : Dt), fX6_refusalToChange_b0 sh x0 x1 x2 x3 d = some (r, d9) → ∀ {H : Heap} {locs : List Loc} {ls : Array Slot}, HW A D cy sz sh d H → va_S A s.heap H locs → lv_has ls 4 [(0, .ref x0), (1, va_rf x1), (2, va_rf x2), (3, .int x3)] → GL p l e s m args below meth c 2 44 A D cy (some (.int r)) sz sh d9 H locs 0 ls [] := by
  have hx := C.1
  have hb := C.2.1
  intro x0 x1 x2 x3 d hf H locs ls hw hS hl
  unfold fX6_refusalToChange_b0 at hf
  refine lv_aload_n hx hb dX6_refusalToChange_0 rfl (lv_at hl 0 rfl) ?_
  obtain ⟨v1, hv1, hf⟩ := bd_s hf
  refine gt_258 C hw hv1 kw_74 dX6_refusalToChange_1 ?_
  obtain ⟨a2, ea2, hg⟩ := bd_s hf
  clear hf
  subst ea2
  have hf := hg
  clear hg
  obtain ⟨_, h3, hf⟩ := bd_s hf
  obtain ⟨r5, h4, hf⟩ := bd_s hf
  refine cl_V0 C hw hS (tJx4a65c_size_8abf5 l A D cy st sz sh d a2 h4) cvJx4a65c_size_8abf5 kw_245 (kc_k h3) ⟨(Nat.le_of_ble_eq_true rfl), (Nat.le_of_ble_eq_true rfl)⟩ hl.1 rfl (Nat.le_of_ble_eq_true rfl) dX6_refusalToChange_4 ⟨Nat.zero_le _, Nat.zero_le _⟩ (fun H locs hw hS => ?_)
  refine lv_sipush (v := 400) hx hb dX6_refusalToChange_7 (by decide) ?_
  refine lv_icmp_lt (tgt := 16) hx hb dX6_refusalToChange_10 (by decide) (fun c_6 => ?_) (fun c_6 => ?_)
  · have hf := if_t c_6 hf
    refine lq_aload_n hx hb dX6_refusalToChange_16 rfl (lv_at hl 1 rfl) ?_
    obtain ⟨a7, ea7, hg⟩ := bd_s hf
    clear hf
    subst ea7
    have hf := hg
    clear hg
    obtain ⟨_, h8, hf⟩ := bd_s hf
    obtain ⟨r10, h9, hf⟩ := bd_s hf
    refine cl_V0 C hw hS (tX1_hasAllOwn l A D cy st sz sh d a7 h9) cvX1_hasAllOwn kw_249 (kc_k h8) ⟨(Nat.le_of_ble_eq_true rfl), (Nat.le_of_ble_eq_true rfl)⟩ hl.1 rfl (Nat.le_of_ble_eq_true rfl) dX6_refusalToChange_17 ⟨Nat.zero_le _, Nat.zero_le _⟩ (fun H locs hw hS => ?_)
    refine lv_if_eq (tgt := 33) hx hb dX6_refusalToChange_20 (by decide) (fun c_11 => ?_) (fun c_11 => ?_)
    · have hf := if_t c_11 hf
      refine lv_bipush (v := -4) hx hb dX6_refusalToChange_33 (by decide) ?_
      cases hf
      exact rt_i C hw hS dX6_refusalToChange_35
    · have hf := if_f c_11 hf
      refine lv_aload_n hx hb dX6_refusalToChange_23 rfl (lv_at hl 0 rfl) ?_
      refine lq_aload_n hx hb dX6_refusalToChange_24 rfl (lv_at hl 1 rfl) ?_
      refine lq_aload_n hx hb dX6_refusalToChange_25 rfl (lv_at hl 2 rfl) ?_
      refine lv_iload_n hx hb dX6_refusalToChange_26 rfl (lv_at hl 3 rfl) ?_
      obtain ⟨r13, d14, h12, hf⟩ := bd2_s hf
      refine cl_V0 C hw hS (tX6_refusalToSee l A D cy st sz sh d x0 (some a7) x2 x3 h12) cvX6_refusalToSee kw_254 (gR_s hv1).1 ⟨(Nat.le_of_ble_eq_true rfl), (Nat.le_of_ble_eq_true rfl)⟩ hl.1 rfl (Nat.le_of_ble_eq_true rfl) dX6_refusalToChange_27 ⟨Nat.zero_le _, Nat.zero_le _⟩ (fun H locs hw hS => ?_)
      refine lv_goto (tgt := 35) hx hb dX6_refusalToChange_30 (by decide) ?_
      cases hf
      exact rt_i C hw hS dX6_refusalToChange_35
  · have hf := if_f c_6 hf
    refine lv_bipush (v := -2) hx hb dX6_refusalToChange_13 (by decide) ?_
    cases hf
    exact rt_i C hw hS dX6_refusalToChange_15

set_option maxRecDepth 100000 in
set_option maxHeartbeats 4000000 in
theorem tX6_refusalToChange (l : Launch) (A : Nat → Prop) (D : va_G) (cy : Nat → ClassId) (st : Nat → Nat) (sz : Nat) (sh : Sh) (d : Dt) (x0 : Nat) (x1 : Option Nat) (x2 : Option Nat) (x3 : Int32) {r : Int32} {d9 : Dt} (hf : fX6_refusalToChange sh d x0 x1 x2 x3 = some (r, d9)) : Ct l yX6_refusalToChange cX6_refusalToChange 4 (some .int) 2 44 0 0 A D cy st [.ref x0, va_rf x1, va_rf x2, .int x3] sz sh d (some (.int r)) sz sh d9 := ct_of (by decide) (by simp [lg_sl, va_rf_c, cat_i, cat_l, cat_r]) (fun p e s m args below meth c C hw hS ls hl => wX6_refusalToChange_b0 C x0 x1 x2 x3 d hf hw hS (by simpa [lv_args, va_rf_c, cat_i, cat_l, cat_r] using hl))
theorem dX6_make_0 : decode cX6_make 0 = .ok (.new 123, 3) := by decide +kernel
theorem dX6_make_3 : decode cX6_make 3 = .ok (.dup, 1) := by decide +kernel
theorem dX6_make_4 : decode cX6_make 4 = .ok (.aload_n 0, 1) := by decide +kernel
theorem dX6_make_5 : decode cX6_make 5 = .ok (.getfield 24, 3) := by decide +kernel
theorem dX6_make_8 : decode cX6_make 8 = .ok (.invokevirtual 259, 3) := by decide +kernel
theorem dX6_make_11 : decode cX6_make 11 = .ok (.aload_n 1, 1) := by decide +kernel
theorem dX6_make_12 : decode cX6_make 12 = .ok (.aload_n 2, 1) := by decide +kernel
theorem dX6_make_13 : decode cX6_make 13 = .ok (.iload_n 3, 1) := by decide +kernel
theorem dX6_make_14 : decode cX6_make 14 = .ok (.iload 4, 2) := by decide +kernel
theorem dX6_make_16 : decode cX6_make 16 = .ok (.lload 5, 2) := by decide +kernel
theorem dX6_make_18 : decode cX6_make 18 = .ok (.invokespecial 289, 3) := by decide +kernel
theorem dX6_make_21 : decode cX6_make 21 = .ok (.astore 7, 2) := by decide +kernel
theorem dX6_make_23 : decode cX6_make 23 = .ok (.aload_n 0, 1) := by decide +kernel
theorem dX6_make_24 : decode cX6_make 24 = .ok (.getfield 24, 3) := by decide +kernel
theorem dX6_make_27 : decode cX6_make 27 = .ok (.aload 7, 2) := by decide +kernel
theorem dX6_make_29 : decode cX6_make 29 = .ok (.invokevirtual 292, 3) := by decide +kernel
theorem dX6_make_32 : decode cX6_make 32 = .ok (.pop, 1) := by decide +kernel
theorem dX6_make_33 : decode cX6_make 33 = .ok (.aload_n 2, 1) := by decide +kernel
theorem dX6_make_34 : decode cX6_make 34 = .ok (.aload 7, 2) := by decide +kernel
theorem dX6_make_36 : decode cX6_make 36 = .ok (.invokevirtual 296, 3) := by decide +kernel
theorem dX6_make_39 : decode cX6_make 39 = .ok (.aload_n 1, 1) := by decide +kernel
theorem dX6_make_40 : decode cX6_make 40 = .ok (.getfield 300, 3) := by decide +kernel
theorem dX6_make_43 : decode cX6_make 43 = .ok (.aload 7, 2) := by decide +kernel
theorem dX6_make_45 : decode cX6_make 45 = .ok (.invokevirtual 292, 3) := by decide +kernel
theorem dX6_make_48 : decode cX6_make 48 = .ok (.pop, 1) := by decide +kernel
theorem dX6_make_49 : decode cX6_make 49 = .ok (.aload_n 1, 1) := by decide +kernel
theorem dX6_make_50 : decode cX6_make 50 = .ok (.aload 7, 2) := by decide +kernel
theorem dX6_make_52 : decode cX6_make 52 = .ok (.invokevirtual 303, 3) := by decide +kernel
theorem dX6_make_55 : decode cX6_make 55 = .ok (.aload 7, 2) := by decide +kernel
theorem dX6_make_57 : decode cX6_make 57 = .ok (.getfield 187, 3) := by decide +kernel
theorem dX6_make_60 : decode cX6_make 60 = .ok (.ireturn, 1) := by decide +kernel
theorem cvX6_make : CV yX6_make cX6_make 8 (some .int) 7 5 := ⟨kw_264, ks_5, kw_1, kw_265, ⟨_, _, rfl⟩, by decide, by decide +kernel, by decide +kernel, by decide +kernel⟩
def fX6_make_b48 (em mi : Nat) (x1 : Option Nat) (x7 : Nat) (t0 : Int32) (sz : Nat) (ns : Nat) (sh : Sh) (d : Dt) : Option (Int32 × Wl) := bd x1 fun a1 => bd (kc sh 3 a1) fun _ => bd (fX1_include sh d a1 (some x7)) fun d5 => bd (gI sh d5 2 64 x7) fun v6 => some (v6, sz, ns, sh, d5)

def fX6_make_b32 (em mi : Nat) (x1 : Option Nat) (x2 : Option Nat) (x7 : Nat) (t0 : Int32) (sz : Nat) (ns : Nat) (sh : Sh) (d : Dt) : Option (Int32 × Wl) := bd x2 fun a1 => bd (kc sh 5 a1) fun _ => bd (fX3_append sh d a1 (some x7)) fun d5 => bd x1 fun a6 => bd (gR sh d5 3 98 a6) fun v7 => bd v7 fun a8 => bd (kc sh 1 a8) fun _ => bw2 (fJx4a65c_add_9ea2d em mi a8 (some x7) sz ns sh d5) fun r11 szq12 nsq12 shq12 dq12 => fX6_make_b48 em mi (some a6) x7 (bI r11) szq12 nsq12 shq12 dq12

def fX6_make_b21 (em mi : Nat) (x0 : Nat) (x1 : Option Nat) (x2 : Option Nat) (t0 : Nat) (sz : Nat) (ns : Nat) (sh : Sh) (d : Dt) : Option (Int32 × Wl) := bd (gR sh d 8 258 x0) fun v1 => bd v1 fun a2 => bd (kc sh 1 a2) fun _ => bw2 (fJx4a65c_add_9ea2d em mi a2 (some t0) sz ns sh d) fun r5 szq6 nsq6 shq6 dq6 => fX6_make_b32 em mi x1 x2 t0 (bI r5) szq6 nsq6 shq6 dq6

def fX6_make_b3 (em mi : Nat) (x0 : Nat) (x1 : Option Nat) (x2 : Option Nat) (x3 : Int32) (x4 : Int32) (x5 : Int64) (t0 : Nat) (sz : Nat) (ns : Nat) (sh : Sh) (d : Dt) : Option (Int32 × Wl) := bd (gR sh d 8 258 x0) fun v1 => bd v1 fun a2 => bd (kc sh 1 a2) fun _ => bd (fJx4a65c_size_8abf5 sh d a2) fun r5 => bw (fX0_init em mi t0 r5 x1 x2 x3 x4 x5 sz ns sh d) fun szq8 nsq8 shq8 dq8 => fX6_make_b21 em mi x0 x1 x2 t0 szq8 nsq8 shq8 dq8

def fX6_make_b0 (em mi : Nat) (x0 : Nat) (x1 : Option Nat) (x2 : Option Nat) (x3 : Int32) (x4 : Int32) (x5 : Int64) (sz : Nat) (ns : Nat) (sh : Sh) (d : Dt) : Option (Int32 × Wl) := bw (nwO sz ns sh d 2 10) fun szq1 nsq1 shq1 dq1 => fX6_make_b3 em mi x0 x1 x2 x3 x4 x5 sz szq1 nsq1 shq1 dq1

def fX6_make (em mi : Nat) (x0 : Nat) (x1 : Option Nat) (x2 : Option Nat) (x3 : Int32) (x4 : Int32) (x5 : Int64) (sz ns : Nat) (sh : Sh) (d : Dt) : Option (Int32 × Wl) := fX6_make_b0 em mi x0 x1 x2 x3 x4 x5 sz ns sh d

set_option maxRecDepth 100000 in
set_option maxHeartbeats 4000000 in
theorem mX6_make_b48 (em mi : Nat) {r : Int32} {sz9 ns9 : Nat} {sh9 : Sh} {d9 : Dt} : ∀ (x1 : Option Nat) (x7 : Nat) (t0 : Int32) (sz : Nat) (ns : Nat) (sh : Sh) (d : Dt), fX6_make_b48 em mi x1 x7 t0 sz ns sh d = some (r, sz9, ns9, sh9, d9) → sz ≤ sz9 ∧ ns ≤ ns9 := by
  intro x1 x7 t0 sz ns sh d hf
  unfold fX6_make_b48 at hf
  obtain ⟨a1, ea1, hg⟩ := bd_s hf
  clear hf
  subst ea1
  have hf := hg
  clear hg
  obtain ⟨_, h2, hf⟩ := bd_s hf
  obtain ⟨d5, h3, hf⟩ := bd_s hf
  obtain ⟨v6, hv6, hf⟩ := bd_s hf
  cases hf
  exact ⟨Nat.le_refl _, Nat.le_refl _⟩

set_option maxRecDepth 100000 in
set_option maxHeartbeats 4000000 in
theorem mX6_make_b32 (em mi : Nat) {r : Int32} {sz9 ns9 : Nat} {sh9 : Sh} {d9 : Dt} : ∀ (x1 : Option Nat) (x2 : Option Nat) (x7 : Nat) (t0 : Int32) (sz : Nat) (ns : Nat) (sh : Sh) (d : Dt), fX6_make_b32 em mi x1 x2 x7 t0 sz ns sh d = some (r, sz9, ns9, sh9, d9) → sz ≤ sz9 ∧ ns ≤ ns9 := by
  intro x1 x2 x7 t0 sz ns sh d hf
  unfold fX6_make_b32 at hf
  obtain ⟨a1, ea1, hg⟩ := bd_s hf
  clear hf
  subst ea1
  have hf := hg
  clear hg
  obtain ⟨_, h2, hf⟩ := bd_s hf
  obtain ⟨d5, h3, hf⟩ := bd_s hf
  obtain ⟨a6, ea6, hg⟩ := bd_s hf
  clear hf
  subst ea6
  have hf := hg
  clear hg
  obtain ⟨v7, hv7, hf⟩ := bd_s hf
  obtain ⟨a8, ea8, hg⟩ := bd_s hf
  clear hf
  subst ea8
  have hf := hg
  clear hg
  obtain ⟨_, h9, hf⟩ := bd_s hf
  obtain ⟨r11, szq12, nsq12, shq12, dq12, h10, hf⟩ := bw2_s hf
  have hq := gJx4a65c_add_9ea2d em mi a8 (some x7) sz ns sh d5 h10
  have hm := mX6_make_b48 em mi (some a6) x7 (bI r11) szq12 nsq12 shq12 dq12 hf
  omega

set_option maxRecDepth 100000 in
set_option maxHeartbeats 4000000 in
theorem mX6_make_b21 (em mi : Nat) {r : Int32} {sz9 ns9 : Nat} {sh9 : Sh} {d9 : Dt} : ∀ (x0 : Nat) (x1 : Option Nat) (x2 : Option Nat) (t0 : Nat) (sz : Nat) (ns : Nat) (sh : Sh) (d : Dt), fX6_make_b21 em mi x0 x1 x2 t0 sz ns sh d = some (r, sz9, ns9, sh9, d9) → sz ≤ sz9 ∧ ns ≤ ns9 := by
  intro x0 x1 x2 t0 sz ns sh d hf
  unfold fX6_make_b21 at hf
  obtain ⟨v1, hv1, hf⟩ := bd_s hf
  obtain ⟨a2, ea2, hg⟩ := bd_s hf
  clear hf
  subst ea2
  have hf := hg
  clear hg
  obtain ⟨_, h3, hf⟩ := bd_s hf
  obtain ⟨r5, szq6, nsq6, shq6, dq6, h4, hf⟩ := bw2_s hf
  have hq := gJx4a65c_add_9ea2d em mi a2 (some t0) sz ns sh d h4
  have hm := mX6_make_b32 em mi x1 x2 t0 (bI r5) szq6 nsq6 shq6 dq6 hf
  omega

set_option maxRecDepth 100000 in
set_option maxHeartbeats 4000000 in
theorem mX6_make_b3 (em mi : Nat) {r : Int32} {sz9 ns9 : Nat} {sh9 : Sh} {d9 : Dt} : ∀ (x0 : Nat) (x1 : Option Nat) (x2 : Option Nat) (x3 : Int32) (x4 : Int32) (x5 : Int64) (t0 : Nat) (sz : Nat) (ns : Nat) (sh : Sh) (d : Dt), fX6_make_b3 em mi x0 x1 x2 x3 x4 x5 t0 sz ns sh d = some (r, sz9, ns9, sh9, d9) → sz ≤ sz9 ∧ ns ≤ ns9 := by
  intro x0 x1 x2 x3 x4 x5 t0 sz ns sh d hf
  unfold fX6_make_b3 at hf
  obtain ⟨v1, hv1, hf⟩ := bd_s hf
  obtain ⟨a2, ea2, hg⟩ := bd_s hf
  clear hf
  subst ea2
  have hf := hg
  clear hg
  obtain ⟨_, h3, hf⟩ := bd_s hf
  obtain ⟨r5, h4, hf⟩ := bd_s hf
  obtain ⟨szq8, nsq8, shq8, dq8, h6, hf⟩ := bw_s hf
  have hq := gX0_init em mi t0 r5 x1 x2 x3 x4 x5 sz ns sh d h6
  have hm := mX6_make_b21 em mi x0 x1 x2 t0 szq8 nsq8 shq8 dq8 hf
  omega

set_option maxRecDepth 100000 in
set_option maxHeartbeats 4000000 in
theorem mX6_make_b0 (em mi : Nat) {r : Int32} {sz9 ns9 : Nat} {sh9 : Sh} {d9 : Dt} : ∀ (x0 : Nat) (x1 : Option Nat) (x2 : Option Nat) (x3 : Int32) (x4 : Int32) (x5 : Int64) (sz : Nat) (ns : Nat) (sh : Sh) (d : Dt), fX6_make_b0 em mi x0 x1 x2 x3 x4 x5 sz ns sh d = some (r, sz9, ns9, sh9, d9) → sz ≤ sz9 ∧ ns ≤ ns9 := by
  intro x0 x1 x2 x3 x4 x5 sz ns sh d hf
  unfold fX6_make_b0 at hf
  obtain ⟨szq1, nsq1, shq1, dq1, hq1, hf⟩ := bw_s hf
  have hq := nwO_s hq1
  have hm := mX6_make_b3 em mi x0 x1 x2 x3 x4 x5 sz szq1 nsq1 shq1 dq1 hf
  omega

theorem gX6_make (em mi : Nat) (x0 : Nat) (x1 : Option Nat) (x2 : Option Nat) (x3 : Int32) (x4 : Int32) (x5 : Int64) (sz ns : Nat) (sh : Sh) (d : Dt) {r : Int32} {sz9 ns9 : Nat} {sh9 : Sh} {d9 : Dt} (hf : fX6_make em mi x0 x1 x2 x3 x4 x5 sz ns sh d = some (r, sz9, ns9, sh9, d9)) : sz ≤ sz9 ∧ ns ≤ ns9 := mX6_make_b0 em mi x0 x1 x2 x3 x4 x5 sz ns sh d hf

set_option maxRecDepth 100000 in
set_option maxHeartbeats 4000000 in
theorem wX6_make_b48 (C : mx p s m args meth c yX6_make cX6_make 8 (some .int) A D cy st) {r : Int32} {sz9 ns9 : Nat} {sh9 : Sh} {d9 : Dt} {mc ms : Nat} : ∀ (x1 : Option Nat) (x7 : Nat) (t0 : Int32) (sz : Nat) (ns : Nat) (sh : Sh) (d : Dt), fX6_make_b48 (st 1) (st 2) x1 x7 t0 sz ns sh d = some (r, sz9, ns9, sh9, d9) → ∀ {cu su : Nat}, sz9 + cu = sz + mc → ns9 + su = ns + ms → ∀ {H : Heap} {locs : List Loc} {ls : Array Slot}, HW A D cy sz sh d H → va_S A s.heap H locs → lv_has ls 8 [(1, va_rf x1), (7, .ref x7)] → GA p l e s m args below meth c 7 161 mc ms A D cy (some (.int r)) sz9 sh9 d9 H locs cu su 48 ls [.int t0] := by
  have hx := C.1
  have hb := C.2.1
  intro x1 x7 t0 sz ns sh d hf cu su hcm hsm H locs ls hw hS hl
  have hm0 := mX6_make_b48 (st 1) (st 2) x1 x7 t0 sz ns sh d hf
  unfold fX6_make_b48 at hf
  refine lv_pop hx hb dX6_make_48 rfl ?_
  refine lq_aload_n hx hb dX6_make_49 rfl (lv_at hl 0 rfl) ?_
  refine lv_aload hx hb dX6_make_50 (lv_at hl 1 rfl) ?_
  obtain ⟨a1, ea1, hg⟩ := bd_s hf
  clear hf
  subst ea1
  have hf := hg
  clear hg
  obtain ⟨_, h2, hf⟩ := bd_s hf
  obtain ⟨d5, h3, hf⟩ := bd_s hf
  refine cl_V0 C hw hS (tX1_include l A D cy st sz sh d a1 (some x7) h3) cvX1_include kw_394 (kc_k h2) ⟨(Nat.le_of_ble_eq_true rfl), (Nat.le_of_ble_eq_true rfl)⟩ hl.1 rfl (Nat.le_of_ble_eq_true rfl) dX6_make_52 ⟨by show _ ≤ mc; omega, by show _ ≤ ms; omega⟩ (fun H locs hw hS => ?_)
  refine lv_aload hx hb dX6_make_55 (lv_at hl 1 rfl) ?_
  obtain ⟨v6, hv6, hf⟩ := bd_s hf
  refine gt_64 C hw hv6 kw_286 dX6_make_57 ?_
  cases hf
  obtain rfl : mc = cu := by omega
  obtain rfl : ms = su := by omega
  exact rt_i C hw hS dX6_make_60

set_option maxRecDepth 100000 in
set_option maxHeartbeats 4000000 in
theorem wX6_make_b32 (C : mx p s m args meth c yX6_make cX6_make 8 (some .int) A D cy st) {r : Int32} {sz9 ns9 : Nat} {sh9 : Sh} {d9 : Dt} {mc ms : Nat} : ∀ (x1 : Option Nat) (x2 : Option Nat) (x7 : Nat) (t0 : Int32) (sz : Nat) (ns : Nat) (sh : Sh) (d : Dt), fX6_make_b32 (st 1) (st 2) x1 x2 x7 t0 sz ns sh d = some (r, sz9, ns9, sh9, d9) → ∀ {cu su : Nat}, sz9 + cu = sz + mc → ns9 + su = ns + ms → ∀ {H : Heap} {locs : List Loc} {ls : Array Slot}, HW A D cy sz sh d H → va_S A s.heap H locs → lv_has ls 8 [(1, va_rf x1), (2, va_rf x2), (7, .ref x7)] → GA p l e s m args below meth c 7 161 mc ms A D cy (some (.int r)) sz9 sh9 d9 H locs cu su 32 ls [.int t0] := by
  have hx := C.1
  have hb := C.2.1
  intro x1 x2 x7 t0 sz ns sh d hf cu su hcm hsm H locs ls hw hS hl
  have hm0 := mX6_make_b32 (st 1) (st 2) x1 x2 x7 t0 sz ns sh d hf
  unfold fX6_make_b32 at hf
  refine lv_pop hx hb dX6_make_32 rfl ?_
  refine lq_aload_n hx hb dX6_make_33 rfl (lv_at hl 1 rfl) ?_
  refine lv_aload hx hb dX6_make_34 (lv_at hl 2 rfl) ?_
  obtain ⟨a1, ea1, hg⟩ := bd_s hf
  clear hf
  subst ea1
  have hf := hg
  clear hg
  obtain ⟨_, h2, hf⟩ := bd_s hf
  obtain ⟨d5, h3, hf⟩ := bd_s hf
  refine cl_V0 C hw hS (tX3_append l A D cy st sz sh d a1 (some x7) h3) cvX3_append kw_389 (kc_k h2) ⟨(Nat.le_of_ble_eq_true rfl), (Nat.le_of_ble_eq_true rfl)⟩ hl.1 rfl (Nat.le_of_ble_eq_true rfl) dX6_make_36 ⟨by show _ ≤ mc; omega, by show _ ≤ ms; omega⟩ (fun H locs hw hS => ?_)
  refine lq_aload_n hx hb dX6_make_39 rfl (lv_at hl 0 rfl) ?_
  obtain ⟨a6, ea6, hg⟩ := bd_s hf
  clear hf
  subst ea6
  have hf := hg
  clear hg
  obtain ⟨v7, hv7, hf⟩ := bd_s hf
  refine gt_98 C hw hv7 kw_156 dX6_make_40 ?_
  refine lv_aload hx hb dX6_make_43 (lv_at hl 2 rfl) ?_
  obtain ⟨a8, ea8, hg⟩ := bd_s hf
  clear hf
  subst ea8
  have hf := hg
  clear hg
  obtain ⟨_, h9, hf⟩ := bd_s hf
  obtain ⟨r11, szq12, nsq12, shq12, dq12, h10, hf⟩ := bw2_s hf
  have hm := mX6_make_b48 (st 1) (st 2) (some a6) x7 (bI r11) szq12 nsq12 shq12 dq12 hf
  have hq := gJx4a65c_add_9ea2d (st 1) (st 2) a8 (some x7) sz ns sh d5 h10
  refine cl_V C hw hS (tJx4a65c_add_9ea2d l A D cy st a8 (some x7) sz ns sh d5 h10) cvJx4a65c_add_9ea2d kw_333 (kc_k h9) ⟨(Nat.le_of_ble_eq_true rfl), (Nat.le_of_ble_eq_true rfl)⟩ hl.1 rfl (Nat.le_of_ble_eq_true rfl) dX6_make_45 ⟨by show _ ≤ mc; omega, by show _ ≤ ms; omega⟩ (fun H locs hw hS => ?_)
  exact wX6_make_b48 C (some a6) x7 (bI r11) szq12 nsq12 shq12 dq12 hf (by omega) (by omega) hw hS (lv_sub hl [0, 2] rfl)

set_option maxRecDepth 100000 in
set_option maxHeartbeats 4000000 in
theorem wX6_make_b21 (C : mx p s m args meth c yX6_make cX6_make 8 (some .int) A D cy st) {r : Int32} {sz9 ns9 : Nat} {sh9 : Sh} {d9 : Dt} {mc ms : Nat} : ∀ (x0 : Nat) (x1 : Option Nat) (x2 : Option Nat) (t0 : Nat) (sz : Nat) (ns : Nat) (sh : Sh) (d : Dt), fX6_make_b21 (st 1) (st 2) x0 x1 x2 t0 sz ns sh d = some (r, sz9, ns9, sh9, d9) → ∀ {cu su : Nat}, sz9 + cu = sz + mc → ns9 + su = ns + ms → ∀ {H : Heap} {locs : List Loc} {ls : Array Slot}, HW A D cy sz sh d H → va_S A s.heap H locs → lv_has ls 8 [(0, .ref x0), (1, va_rf x1), (2, va_rf x2)] → GA p l e s m args below meth c 7 161 mc ms A D cy (some (.int r)) sz9 sh9 d9 H locs cu su 21 ls [.ref t0] := by
  have hx := C.1
  have hb := C.2.1
  intro x0 x1 x2 t0 sz ns sh d hf cu su hcm hsm H locs ls hw hS hl
  have hm0 := mX6_make_b21 (st 1) (st 2) x0 x1 x2 t0 sz ns sh d hf
  unfold fX6_make_b21 at hf
  refine lv_astore (lv' := [(7, .ref t0), (0, .ref x0), (1, va_rf x1), (2, va_rf x2)]) hx hb dX6_make_21 hl (by decide) rfl (fun ls hl => ?_)
  refine lv_aload_n hx hb dX6_make_23 rfl (lv_at hl 1 rfl) ?_
  obtain ⟨v1, hv1, hf⟩ := bd_s hf
  refine gt_258 C hw hv1 kw_74 dX6_make_24 ?_
  refine lv_aload hx hb dX6_make_27 (lv_at hl 0 rfl) ?_
  obtain ⟨a2, ea2, hg⟩ := bd_s hf
  clear hf
  subst ea2
  have hf := hg
  clear hg
  obtain ⟨_, h3, hf⟩ := bd_s hf
  obtain ⟨r5, szq6, nsq6, shq6, dq6, h4, hf⟩ := bw2_s hf
  have hm := mX6_make_b32 (st 1) (st 2) x1 x2 t0 (bI r5) szq6 nsq6 shq6 dq6 hf
  have hq := gJx4a65c_add_9ea2d (st 1) (st 2) a2 (some t0) sz ns sh d h4
  refine cl_V C hw hS (tJx4a65c_add_9ea2d l A D cy st a2 (some t0) sz ns sh d h4) cvJx4a65c_add_9ea2d kw_333 (kc_k h3) ⟨(Nat.le_of_ble_eq_true rfl), (Nat.le_of_ble_eq_true rfl)⟩ hl.1 rfl (Nat.le_of_ble_eq_true rfl) dX6_make_29 ⟨by show _ ≤ mc; omega, by show _ ≤ ms; omega⟩ (fun H locs hw hS => ?_)
  exact wX6_make_b32 C x1 x2 t0 (bI r5) szq6 nsq6 shq6 dq6 hf (by omega) (by omega) hw hS (lv_sub hl [2, 3, 0] rfl)

set_option maxRecDepth 100000 in
set_option maxHeartbeats 4000000 in
theorem wX6_make_b3 (C : mx p s m args meth c yX6_make cX6_make 8 (some .int) A D cy st) {r : Int32} {sz9 ns9 : Nat} {sh9 : Sh} {d9 : Dt} {mc ms : Nat} : ∀ (x0 : Nat) (x1 : Option Nat) (x2 : Option Nat) (x3 : Int32) (x4 : Int32) (x5 : Int64) (t0 : Nat) (sz : Nat) (ns : Nat) (sh : Sh) (d : Dt), fX6_make_b3 (st 1) (st 2) x0 x1 x2 x3 x4 x5 t0 sz ns sh d = some (r, sz9, ns9, sh9, d9) → ∀ {cu su : Nat}, sz9 + cu = sz + mc → ns9 + su = ns + ms → ∀ {H : Heap} {locs : List Loc} {ls : Array Slot}, HW A D cy sz sh d H → va_S A s.heap H locs → lv_has ls 8 [(0, .ref x0), (1, va_rf x1), (2, va_rf x2), (3, .int x3), (4, .int x4), (5, .long x5)] → GA p l e s m args below meth c 7 161 mc ms A D cy (some (.int r)) sz9 sh9 d9 H locs cu su 3 ls [.ref t0] := by
  have hx := C.1
  have hb := C.2.1
  intro x0 x1 x2 x3 x4 x5 t0 sz ns sh d hf cu su hcm hsm H locs ls hw hS hl
  have hm0 := mX6_make_b3 (st 1) (st 2) x0 x1 x2 x3 x4 x5 t0 sz ns sh d hf
  unfold fX6_make_b3 at hf
  refine lv_dup hx hb dX6_make_3 rfl ?_
  refine lv_aload_n hx hb dX6_make_4 rfl (lv_at hl 0 rfl) ?_
  obtain ⟨v1, hv1, hf⟩ := bd_s hf
  refine gt_258 C hw hv1 kw_74 dX6_make_5 ?_
  obtain ⟨a2, ea2, hg⟩ := bd_s hf
  clear hf
  subst ea2
  have hf := hg
  clear hg
  obtain ⟨_, h3, hf⟩ := bd_s hf
  obtain ⟨r5, h4, hf⟩ := bd_s hf
  refine cl_V0 C hw hS (tJx4a65c_size_8abf5 l A D cy st sz sh d a2 h4) cvJx4a65c_size_8abf5 kw_245 (kc_k h3) ⟨(Nat.le_of_ble_eq_true rfl), (Nat.le_of_ble_eq_true rfl)⟩ hl.1 rfl (Nat.le_of_ble_eq_true rfl) dX6_make_8 ⟨by show _ ≤ mc; omega, by show _ ≤ ms; omega⟩ (fun H locs hw hS => ?_)
  refine lq_aload_n hx hb dX6_make_11 rfl (lv_at hl 1 rfl) ?_
  refine lq_aload_n hx hb dX6_make_12 rfl (lv_at hl 2 rfl) ?_
  refine lv_iload_n hx hb dX6_make_13 rfl (lv_at hl 3 rfl) ?_
  refine lv_iload hx hb dX6_make_14 (lv_at hl 4 rfl) ?_
  refine lv_lload hx hb dX6_make_16 (lv_at hl 5 rfl) ?_
  obtain ⟨szq8, nsq8, shq8, dq8, h6, hf⟩ := bw_s hf
  have hm := mX6_make_b21 (st 1) (st 2) x0 x1 x2 t0 szq8 nsq8 shq8 dq8 hf
  have hq := gX0_init (st 1) (st 2) t0 r5 x1 x2 x3 x4 x5 sz ns sh d h6
  refine cl_I C hw hS (tX0_init l A D cy st t0 r5 x1 x2 x3 x4 x5 sz ns sh d h6) ckX0_init kw_268 ⟨(Nat.le_of_ble_eq_true rfl), (Nat.le_of_ble_eq_true rfl)⟩ hl.1 rfl (Nat.le_of_ble_eq_true rfl) dX6_make_18 ⟨by show _ ≤ mc; omega, by show _ ≤ ms; omega⟩ (fun H locs hw hS => ?_)
  exact wX6_make_b21 C x0 x1 x2 t0 szq8 nsq8 shq8 dq8 hf (by omega) (by omega) hw hS (lv_sub hl [0, 1, 2] rfl)

set_option maxRecDepth 100000 in
set_option maxHeartbeats 4000000 in
theorem wX6_make_b0 (C : mx p s m args meth c yX6_make cX6_make 8 (some .int) A D cy st) {r : Int32} {sz9 ns9 : Nat} {sh9 : Sh} {d9 : Dt} {mc ms : Nat} : ∀ (x0 : Nat) (x1 : Option Nat) (x2 : Option Nat) (x3 : Int32) (x4 : Int32) (x5 : Int64) (sz : Nat) (ns : Nat) (sh : Sh) (d : Dt), fX6_make_b0 (st 1) (st 2) x0 x1 x2 x3 x4 x5 sz ns sh d = some (r, sz9, ns9, sh9, d9) → ∀ {cu su : Nat}, sz9 + cu = sz + mc → ns9 + su = ns + ms → ∀ {H : Heap} {locs : List Loc} {ls : Array Slot}, HW A D cy sz sh d H → va_S A s.heap H locs → lv_has ls 8 [(0, .ref x0), (1, va_rf x1), (2, va_rf x2), (3, .int x3), (4, .int x4), (5, .long x5)] → GA p l e s m args below meth c 7 161 mc ms A D cy (some (.int r)) sz9 sh9 d9 H locs cu su 0 ls [] := by
  have hx := C.1
  have hb := C.2.1
  intro x0 x1 x2 x3 x4 x5 sz ns sh d hf cu su hcm hsm H locs ls hw hS hl
  have hm0 := mX6_make_b0 (st 1) (st 2) x0 x1 x2 x3 x4 x5 sz ns sh d hf
  unfold fX6_make_b0 at hf
  obtain ⟨szq1, nsq1, shq1, dq1, hq1, hf⟩ := bw_s hf
  have hm := mX6_make_b3 (st 1) (st 2) x0 x1 x2 x3 x4 x5 sz szq1 nsq1 shq1 dq1 hf
  have hq := nwO_s hq1
  refine w_new (ci := 1) C hw hS inX0 tyX0 tyX0_ok rfl (by decide) dfX0 kw_266 kw_267 kw_11 hq1 (by show _ ≤ mc; omega) (by show _ ≤ ms; omega) dX6_make_0 (fun H hw hS => ?_)
  exact wX6_make_b3 C x0 x1 x2 x3 x4 x5 sz szq1 nsq1 shq1 dq1 hf (by omega) (by omega) hw hS (lv_sub hl [0, 1, 2, 3, 4, 5] rfl)

set_option maxRecDepth 100000 in
set_option maxHeartbeats 4000000 in
theorem tX6_make (l : Launch) (A : Nat → Prop) (D : va_G) (cy : Nat → ClassId) (st : Nat → Nat) (x0 : Nat) (x1 : Option Nat) (x2 : Option Nat) (x3 : Int32) (x4 : Int32) (x5 : Int64) (sz ns : Nat) (sh : Sh) (d : Dt) {r : Int32} {sz9 ns9 : Nat} {sh9 : Sh} {d9 : Dt} (hf : fX6_make (st 1) (st 2) x0 x1 x2 x3 x4 x5 sz ns sh d = some (r, sz9, ns9, sh9, d9)) : Ct l yX6_make cX6_make 8 (some .int) 7 161 (sz9 - sz) (ns9 - ns) A D cy st [.ref x0, va_rf x1, va_rf x2, .int x3, .int x4, .long x5] sz sh d (some (.int r)) sz9 sh9 d9 := by
  have hm := gX6_make (st 1) (st 2) x0 x1 x2 x3 x4 x5 sz ns sh d hf
  exact ct_of (by decide) (by simp [lg_sl, va_rf_c, cat_i, cat_l, cat_r]) (fun p e s m args below meth c C hw hS ls hl => wX6_make_b0 C x0 x1 x2 x3 x4 x5 sz ns sh d hf (by omega) (by omega) hw hS (by simpa [lv_args, va_rf_c, cat_i, cat_l, cat_r] using hl))
theorem dX6_write_0 : decode cX6_write 0 = .ok (.aload_n 0, 1) := by decide +kernel
theorem dX6_write_1 : decode cX6_write 1 = .ok (.iload_n 1, 1) := by decide +kernel
theorem dX6_write_2 : decode cX6_write 2 = .ok (.invokevirtual 74, 3) := by decide +kernel
theorem dX6_write_5 : decode cX6_write 5 = .ok (.astore 5, 2) := by decide +kernel
theorem dX6_write_7 : decode cX6_write 7 = .ok (.aload_n 0, 1) := by decide +kernel
theorem dX6_write_8 : decode cX6_write 8 = .ok (.iload_n 2, 1) := by decide +kernel
theorem dX6_write_9 : decode cX6_write 9 = .ok (.invokevirtual 63, 3) := by decide +kernel
theorem dX6_write_12 : decode cX6_write 12 = .ok (.astore 6, 2) := by decide +kernel
theorem dX6_write_14 : decode cX6_write 14 = .ok (.aload 5, 2) := by decide +kernel
theorem dX6_write_16 : decode cX6_write 16 = .ok (.ifnull 8, 3) := by decide +kernel
theorem dX6_write_19 : decode cX6_write 19 = .ok (.aload 6, 2) := by decide +kernel
theorem dX6_write_21 : decode cX6_write 21 = .ok (.ifnonnull 5, 3) := by decide +kernel
theorem dX6_write_24 : decode cX6_write 24 = .ok (.iconst (-1), 1) := by decide +kernel
theorem dX6_write_25 : decode cX6_write 25 = .ok (.ireturn, 1) := by decide +kernel
theorem dX6_write_26 : decode cX6_write 26 = .ok (.aload_n 0, 1) := by decide +kernel
theorem dX6_write_27 : decode cX6_write 27 = .ok (.aload 5, 2) := by decide +kernel
theorem dX6_write_29 : decode cX6_write 29 = .ok (.aload 6, 2) := by decide +kernel
theorem dX6_write_31 : decode cX6_write 31 = .ok (.iconst 0, 1) := by decide +kernel
theorem dX6_write_32 : decode cX6_write 32 = .ok (.invokevirtual 85, 3) := by decide +kernel
theorem dX6_write_35 : decode cX6_write 35 = .ok (.istore 7, 2) := by decide +kernel
theorem dX6_write_37 : decode cX6_write 37 = .ok (.iload 7, 2) := by decide +kernel
theorem dX6_write_39 : decode cX6_write 39 = .ok (.ifCond .eq 8, 3) := by decide +kernel
theorem dX6_write_42 : decode cX6_write 42 = .ok (.iload 7, 2) := by decide +kernel
theorem dX6_write_44 : decode cX6_write 44 = .ok (.goto 14, 3) := by decide +kernel
theorem dX6_write_47 : decode cX6_write 47 = .ok (.aload_n 0, 1) := by decide +kernel
theorem dX6_write_48 : decode cX6_write 48 = .ok (.aload 5, 2) := by decide +kernel
theorem dX6_write_50 : decode cX6_write 50 = .ok (.aload 6, 2) := by decide +kernel
theorem dX6_write_52 : decode cX6_write 52 = .ok (.iconst 0, 1) := by decide +kernel
theorem dX6_write_53 : decode cX6_write 53 = .ok (.iconst 0, 1) := by decide +kernel
theorem dX6_write_54 : decode cX6_write 54 = .ok (.lload_n 3, 1) := by decide +kernel
theorem dX6_write_55 : decode cX6_write 55 = .ok (.invokevirtual 89, 3) := by decide +kernel
theorem dX6_write_58 : decode cX6_write 58 = .ok (.ireturn, 1) := by decide +kernel
theorem cvX6_write : CV yX6_write cX6_write 8 (some .int) 7 3 := ⟨kw_238, kw_239, kw_1, kw_240, ⟨_, _, rfl⟩, by decide, by decide +kernel, by decide +kernel, by decide +kernel⟩
def fX6_write_b58 (em mi : Nat) (t0 : Int32) (sz : Nat) (ns : Nat) (sh : Sh) (d : Dt) : Option (Int32 × Wl) := some (t0, sz, ns, sh, d)

def fX6_write_b0 (em mi : Nat) (x0 : Nat) (x1 : Int32) (x2 : Int32) (x3 : Int64) (sz : Nat) (ns : Nat) (sh : Sh) (d : Dt) : Option (Int32 × Wl) := bd (kc sh 8 x0) fun _ => bd (fX6_handAt sh d x0 x1) fun r3 => bd (fX6_pageAt sh d x0 x2) fun r5 => on r3 (some ((-1 : Int32), sz, ns, sh, d)) (fun a6 => on r5 (some ((-1 : Int32), sz, ns, sh, d)) (fun a7 => bd2 (fX6_refusalToChange sh d x0 (some a6) (some a7) (0 : Int32)) fun r9 d10 => if r9 = 0 then (bw2 (fX6_make em mi x0 (some a6) (some a7) (0 : Int32) (0 : Int32) x3 sz ns sh d10) fun r13 szq14 nsq14 shq14 dq14 => fX6_write_b58 em mi r13 szq14 nsq14 shq14 dq14) else (fX6_write_b58 em mi r9 sz ns sh d10)))

def fX6_write (em mi : Nat) (x0 : Nat) (x1 : Int32) (x2 : Int32) (x3 : Int64) (sz ns : Nat) (sh : Sh) (d : Dt) : Option (Int32 × Wl) := fX6_write_b0 em mi x0 x1 x2 x3 sz ns sh d

set_option maxRecDepth 100000 in
set_option maxHeartbeats 4000000 in
theorem mX6_write_b58 (em mi : Nat) {r : Int32} {sz9 ns9 : Nat} {sh9 : Sh} {d9 : Dt} : ∀ (t0 : Int32) (sz : Nat) (ns : Nat) (sh : Sh) (d : Dt), fX6_write_b58 em mi t0 sz ns sh d = some (r, sz9, ns9, sh9, d9) → sz ≤ sz9 ∧ ns ≤ ns9 := by
  intro t0 sz ns sh d hf
  unfold fX6_write_b58 at hf
  cases hf
  exact ⟨Nat.le_refl _, Nat.le_refl _⟩

set_option maxRecDepth 100000 in
set_option maxHeartbeats 4000000 in
theorem mX6_write_b0 (em mi : Nat) {r : Int32} {sz9 ns9 : Nat} {sh9 : Sh} {d9 : Dt} : ∀ (x0 : Nat) (x1 : Int32) (x2 : Int32) (x3 : Int64) (sz : Nat) (ns : Nat) (sh : Sh) (d : Dt), fX6_write_b0 em mi x0 x1 x2 x3 sz ns sh d = some (r, sz9, ns9, sh9, d9) → sz ≤ sz9 ∧ ns ≤ ns9 := by
  intro x0 x1 x2 x3 sz ns sh d hf
  unfold fX6_write_b0 at hf
  obtain ⟨_, h1, hf⟩ := bd_s hf
  obtain ⟨r3, h2, hf⟩ := bd_s hf
  obtain ⟨r5, h4, hf⟩ := bd_s hf
  cases r3 with
  | none =>
    have hf := on_n hf
    cases hf
    exact ⟨Nat.le_refl _, Nat.le_refl _⟩
  | some a6 =>
    have hf := on_s hf
    cases r5 with
    | none =>
      have hf := on_n hf
      cases hf
      exact ⟨Nat.le_refl _, Nat.le_refl _⟩
    | some a7 =>
      have hf := on_s hf
      obtain ⟨r9, d10, h8, hf⟩ := bd2_s hf
      by_cases c_11 : r9 = 0
      · have hf := if_t c_11 hf
        obtain ⟨r13, szq14, nsq14, shq14, dq14, h12, hf⟩ := bw2_s hf
        have hq := gX6_make em mi x0 (some a6) (some a7) (0 : Int32) (0 : Int32) x3 sz ns sh d10 h12
        have hm := mX6_write_b58 em mi r13 szq14 nsq14 shq14 dq14 hf
        omega
      · have hf := if_f c_11 hf
        have hm := mX6_write_b58 em mi r9 sz ns sh d10 hf
        omega

theorem gX6_write (em mi : Nat) (x0 : Nat) (x1 : Int32) (x2 : Int32) (x3 : Int64) (sz ns : Nat) (sh : Sh) (d : Dt) {r : Int32} {sz9 ns9 : Nat} {sh9 : Sh} {d9 : Dt} (hf : fX6_write em mi x0 x1 x2 x3 sz ns sh d = some (r, sz9, ns9, sh9, d9)) : sz ≤ sz9 ∧ ns ≤ ns9 := mX6_write_b0 em mi x0 x1 x2 x3 sz ns sh d hf

set_option maxRecDepth 100000 in
set_option maxHeartbeats 4000000 in
theorem wX6_write_b58 (C : mx p s m args meth c yX6_write cX6_write 8 (some .int) A D cy st) {r : Int32} {sz9 ns9 : Nat} {sh9 : Sh} {d9 : Dt} {mc ms : Nat} : ∀ (t0 : Int32) (sz : Nat) (ns : Nat) (sh : Sh) (d : Dt), fX6_write_b58 (st 1) (st 2) t0 sz ns sh d = some (r, sz9, ns9, sh9, d9) → ∀ {cu su : Nat}, sz9 + cu = sz + mc → ns9 + su = ns + ms → ∀ {H : Heap} {locs : List Loc} {ls : Array Slot}, HW A D cy sz sh d H → va_S A s.heap H locs → lv_has ls 8 [] → GA p l e s m args below meth c 8 188 mc ms A D cy (some (.int r)) sz9 sh9 d9 H locs cu su 58 ls [.int t0] := by
  have hx := C.1
  have hb := C.2.1
  intro t0 sz ns sh d hf cu su hcm hsm H locs ls hw hS hl
  have hm0 := mX6_write_b58 (st 1) (st 2) t0 sz ns sh d hf
  unfold fX6_write_b58 at hf
  cases hf
  obtain rfl : mc = cu := by omega
  obtain rfl : ms = su := by omega
  exact rt_i C hw hS dX6_write_58

set_option maxRecDepth 100000 in
set_option maxHeartbeats 4000000 in
theorem wX6_write_b0 (C : mx p s m args meth c yX6_write cX6_write 8 (some .int) A D cy st) {r : Int32} {sz9 ns9 : Nat} {sh9 : Sh} {d9 : Dt} {mc ms : Nat} : ∀ (x0 : Nat) (x1 : Int32) (x2 : Int32) (x3 : Int64) (sz : Nat) (ns : Nat) (sh : Sh) (d : Dt), fX6_write_b0 (st 1) (st 2) x0 x1 x2 x3 sz ns sh d = some (r, sz9, ns9, sh9, d9) → ∀ {cu su : Nat}, sz9 + cu = sz + mc → ns9 + su = ns + ms → ∀ {H : Heap} {locs : List Loc} {ls : Array Slot}, HW A D cy sz sh d H → va_S A s.heap H locs → lv_has ls 8 [(0, .ref x0), (1, .int x1), (2, .int x2), (3, .long x3)] → GA p l e s m args below meth c 8 188 mc ms A D cy (some (.int r)) sz9 sh9 d9 H locs cu su 0 ls [] := by
  have hx := C.1
  have hb := C.2.1
  intro x0 x1 x2 x3 sz ns sh d hf cu su hcm hsm H locs ls hw hS hl
  have hm0 := mX6_write_b0 (st 1) (st 2) x0 x1 x2 x3 sz ns sh d hf
  unfold fX6_write_b0 at hf
  refine lv_aload_n hx hb dX6_write_0 rfl (lv_at hl 0 rfl) ?_
  refine lv_iload_n hx hb dX6_write_1 rfl (lv_at hl 1 rfl) ?_
  obtain ⟨_, h1, hf⟩ := bd_s hf
  obtain ⟨r3, h2, hf⟩ := bd_s hf
  refine cl_V0 C hw hS (tX6_handAt l A D cy st sz sh d x0 x1 h2) cvX6_handAt kw_233 (kc_k h1) ⟨(Nat.le_of_ble_eq_true rfl), (Nat.le_of_ble_eq_true rfl)⟩ hl.1 rfl (Nat.le_of_ble_eq_true rfl) dX6_write_2 ⟨by show _ ≤ mc; omega, by show _ ≤ ms; omega⟩ (fun H locs hw hS => ?_)
  refine lq_astore (x := r3) (lv' := [(5, va_rf r3), (0, .ref x0), (1, .int x1), (2, .int x2), (3, .long x3)]) hx hb dX6_write_5 hl (by decide) rfl (fun ls hl => ?_)
  refine lv_aload_n hx hb dX6_write_7 rfl (lv_at hl 1 rfl) ?_
  refine lv_iload_n hx hb dX6_write_8 rfl (lv_at hl 3 rfl) ?_
  obtain ⟨r5, h4, hf⟩ := bd_s hf
  refine cl_V0 C hw hS (tX6_pageAt l A D cy st sz sh d x0 x2 h4) cvX6_pageAt kw_216 (kc_k h1) ⟨(Nat.le_of_ble_eq_true rfl), (Nat.le_of_ble_eq_true rfl)⟩ hl.1 rfl (Nat.le_of_ble_eq_true rfl) dX6_write_9 ⟨by show _ ≤ mc; omega, by show _ ≤ ms; omega⟩ (fun H locs hw hS => ?_)
  refine lq_astore (i := 6) (x := r5) (lv' := [(6, va_rf r5), (5, va_rf r3), (0, .ref x0), (1, .int x1), (2, .int x2), (3, .long x3)]) hx hb dX6_write_12 hl (by decide) (by simp [va_rf_c, cat_i, cat_l, cat_r]) (fun ls hl => ?_)
  refine lq_aload hx hb dX6_write_14 (lv_at hl 1 rfl) ?_
  cases r3 with
  | none =>
    have hf := on_n hf
    refine lv_ifnullN (tgt := 24) hx hb dX6_write_16 (by decide) ?_
    refine lv_iconst (v := -1) hx hb dX6_write_24 (by decide) ?_
    cases hf
    obtain rfl : mc = cu := by omega
    obtain rfl : ms = su := by omega
    exact rt_i C hw hS dX6_write_25
  | some a6 =>
    have hf := on_s hf
    refine lv_ifnull hx hb dX6_write_16 ?_
    refine lq_aload hx hb dX6_write_19 (lv_at hl 0 rfl) ?_
    cases r5 with
    | none =>
      have hf := on_n hf
      refine lv_ifnonnullN hx hb dX6_write_21 ?_
      refine lv_iconst (v := -1) hx hb dX6_write_24 (by decide) ?_
      cases hf
      obtain rfl : mc = cu := by omega
      obtain rfl : ms = su := by omega
      exact rt_i C hw hS dX6_write_25
    | some a7 =>
      have hf := on_s hf
      refine lv_ifnonnull (tgt := 26) hx hb dX6_write_21 (by decide) ?_
      refine lv_aload_n hx hb dX6_write_26 rfl (lv_at hl 2 rfl) ?_
      refine lq_aload hx hb dX6_write_27 (lv_at hl 1 rfl) ?_
      refine lq_aload hx hb dX6_write_29 (lv_at hl 0 rfl) ?_
      refine lv_iconst (v := 0) hx hb dX6_write_31 (by decide) ?_
      obtain ⟨r9, d10, h8, hf⟩ := bd2_s hf
      refine cl_V0 C hw hS (tX6_refusalToChange l A D cy st sz sh d x0 (some a6) (some a7) (0 : Int32) h8) cvX6_refusalToChange kw_241 (kc_k h1) ⟨(Nat.le_of_ble_eq_true rfl), (Nat.le_of_ble_eq_true rfl)⟩ hl.1 rfl (Nat.le_of_ble_eq_true rfl) dX6_write_32 ⟨by show _ ≤ mc; omega, by show _ ≤ ms; omega⟩ (fun H locs hw hS => ?_)
      refine lv_istore (i := 7) (lv' := [(7, .int r9), (6, va_rf (some a7)), (5, va_rf (some a6)), (0, .ref x0), (1, .int x1), (2, .int x2), (3, .long x3)]) hx hb dX6_write_35 hl (by decide) (by simp [va_rf_c, cat_i, cat_l, cat_r]) (fun ls hl => ?_)
      refine lv_iload hx hb dX6_write_37 (lv_at hl 0 rfl) ?_
      refine lv_if_eq (tgt := 47) hx hb dX6_write_39 (by decide) (fun c_11 => ?_) (fun c_11 => ?_)
      · have hf := if_t c_11 hf
        refine lv_aload_n hx hb dX6_write_47 rfl (lv_at hl 3 rfl) ?_
        refine lq_aload hx hb dX6_write_48 (lv_at hl 2 rfl) ?_
        refine lq_aload hx hb dX6_write_50 (lv_at hl 1 rfl) ?_
        refine lv_iconst (v := 0) hx hb dX6_write_52 (by decide) ?_
        refine lv_iconst (v := 0) hx hb dX6_write_53 (by decide) ?_
        refine lv_lload_n hx hb dX6_write_54 rfl (lv_at hl 6 rfl) ?_
        obtain ⟨r13, szq14, nsq14, shq14, dq14, h12, hf⟩ := bw2_s hf
        have hm := mX6_write_b58 (st 1) (st 2) r13 szq14 nsq14 shq14 dq14 hf
        have hq := gX6_make (st 1) (st 2) x0 (some a6) (some a7) (0 : Int32) (0 : Int32) x3 sz ns sh d10 h12
        refine cl_V C hw hS (tX6_make l A D cy st x0 (some a6) (some a7) (0 : Int32) (0 : Int32) x3 sz ns sh d10 h12) cvX6_make kw_262 (kc_k h1) ⟨(Nat.le_of_ble_eq_true rfl), (Nat.le_of_ble_eq_true rfl)⟩ hl.1 rfl (Nat.le_of_ble_eq_true rfl) dX6_write_55 ⟨by show _ ≤ mc; omega, by show _ ≤ ms; omega⟩ (fun H locs hw hS => ?_)
        exact wX6_write_b58 C r13 szq14 nsq14 shq14 dq14 hf (by omega) (by omega) hw hS (lv_sub hl [] rfl)
      · have hf := if_f c_11 hf
        refine lv_iload hx hb dX6_write_42 (lv_at hl 0 rfl) ?_
        refine lv_goto (tgt := 58) hx hb dX6_write_44 (by decide) ?_
        exact wX6_write_b58 C r9 sz ns sh d10 hf (by omega) (by omega) hw hS (lv_sub hl [] rfl)

set_option maxRecDepth 100000 in
set_option maxHeartbeats 4000000 in
theorem tX6_write (l : Launch) (A : Nat → Prop) (D : va_G) (cy : Nat → ClassId) (st : Nat → Nat) (x0 : Nat) (x1 : Int32) (x2 : Int32) (x3 : Int64) (sz ns : Nat) (sh : Sh) (d : Dt) {r : Int32} {sz9 ns9 : Nat} {sh9 : Sh} {d9 : Dt} (hf : fX6_write (st 1) (st 2) x0 x1 x2 x3 sz ns sh d = some (r, sz9, ns9, sh9, d9)) : Ct l yX6_write cX6_write 8 (some .int) 8 188 (sz9 - sz) (ns9 - ns) A D cy st [.ref x0, .int x1, .int x2, .long x3] sz sh d (some (.int r)) sz9 sh9 d9 := by
  have hm := gX6_write (st 1) (st 2) x0 x1 x2 x3 sz ns sh d hf
  exact ct_of (by decide) (Nat.le_of_ble_eq_true rfl) (fun p e s m args below meth c C hw hS ls hl => wX6_write_b0 C x0 x1 x2 x3 sz ns sh d hf (by omega) (by omega) hw hS hl)
theorem dX6_isAmount_0 : decode cX6_isAmount 0 = .ok (.lload_n 0, 1) := by decide +kernel
theorem dX6_isAmount_1 : decode cX6_isAmount 1 = .ok (.lconst 0, 1) := by decide +kernel
theorem dX6_isAmount_2 : decode cX6_isAmount 2 = .ok (.lcmp, 1) := by decide +kernel
theorem dX6_isAmount_3 : decode cX6_isAmount 3 = .ok (.ifCond .lt 15, 3) := by decide +kernel
theorem dX6_isAmount_6 : decode cX6_isAmount 6 = .ok (.lload_n 0, 1) := by decide +kernel
theorem dX6_isAmount_7 : decode cX6_isAmount 7 = .ok (.ldc2_w 278, 3) := by decide +kernel
theorem dX6_isAmount_10 : decode cX6_isAmount 10 = .ok (.lcmp, 1) := by decide +kernel
theorem dX6_isAmount_11 : decode cX6_isAmount 11 = .ok (.ifCond .gt 7, 3) := by decide +kernel
theorem dX6_isAmount_14 : decode cX6_isAmount 14 = .ok (.iconst 1, 1) := by decide +kernel
theorem dX6_isAmount_15 : decode cX6_isAmount 15 = .ok (.goto 4, 3) := by decide +kernel
theorem dX6_isAmount_18 : decode cX6_isAmount 18 = .ok (.iconst 0, 1) := by decide +kernel
theorem dX6_isAmount_19 : decode cX6_isAmount 19 = .ok (.ireturn, 1) := by decide +kernel
theorem csX6_isAmount : CS yX6_isAmount cX6_isAmount 2 (some .boolean) 1 := ⟨kw_404, kw_1, kw_405, by decide +kernel, by decide +kernel, by decide +kernel⟩
def fX6_isAmount_b0 (sh : Sh) (d : Dt) (x0 : Int64) : Option (Bool) := if (lg_cmp x0 (0 : Int64)) < 0 then (some false) else (if 0 < (lg_cmp x0 (1000000000 : Int64)) then (some false) else (some true))

def fX6_isAmount (sh : Sh) (d : Dt) (x0 : Int64) : Option (Bool) := fX6_isAmount_b0 sh d x0

set_option maxRecDepth 100000 in
set_option maxHeartbeats 4000000 in
theorem wX6_isAmount_b0 (C : mx p s m args meth c yX6_isAmount cX6_isAmount 2 (some .boolean) A D cy st) {r : Bool} {d : Dt} : ∀ (x0 : Int64), fX6_isAmount_b0 sh d x0 = some r → ∀ {H : Heap} {locs : List Loc} {ls : Array Slot}, HW A D cy sz sh d H → va_S A s.heap H locs → lv_has ls 2 [(0, .long x0)] → GL p l e s m args below meth c 0 0 A D cy (some (.int (bI r))) sz sh d H locs 0 ls [] := by
  have hx := C.1
  have hb := C.2.1
  intro x0 hf H locs ls hw hS hl
  unfold fX6_isAmount_b0 at hf
  refine lv_lload_n hx hb dX6_isAmount_0 rfl (lv_at hl 0 rfl) ?_
  refine lv_lconst (v := 0) hx hb dX6_isAmount_1 (by decide) ?_
  refine W.lcmp hx hb dX6_isAmount_2 ?_
  refine lv_if_lt (tgt := 18) hx hb dX6_isAmount_3 (by decide) (fun c_1 => ?_) (fun c_1 => ?_)
  · have hf := if_t c_1 hf
    refine lv_iconst (v := 0) hx hb dX6_isAmount_18 (by decide) ?_
    cases hf
    exact rt_z C hw hS _ rfl dX6_isAmount_19
  · have hf := if_f c_1 hf
    refine lv_lload_n hx hb dX6_isAmount_6 rfl (lv_at hl 0 rfl) ?_
    refine lv_ldc2 (v := 1000000000) hx hb C.2.2.2.2.2.1 (C.2.2.2.2.1 _ kw_406) dX6_isAmount_7 ?_
    refine W.lcmp hx hb dX6_isAmount_10 ?_
    refine lv_if_gt (tgt := 18) hx hb dX6_isAmount_11 (by decide) (fun c_2 => ?_) (fun c_2 => ?_)
    · have hf := if_t c_2 hf
      refine lv_iconst (v := 0) hx hb dX6_isAmount_18 (by decide) ?_
      cases hf
      exact rt_z C hw hS _ rfl dX6_isAmount_19
    · have hf := if_f c_2 hf
      refine lv_iconst (v := 1) hx hb dX6_isAmount_14 (by decide) ?_
      refine lv_goto (tgt := 19) hx hb dX6_isAmount_15 (by decide) ?_
      cases hf
      exact rt_z C hw hS _ rfl dX6_isAmount_19

set_option maxRecDepth 100000 in
set_option maxHeartbeats 4000000 in
theorem tX6_isAmount (l : Launch) (A : Nat → Prop) (D : va_G) (cy : Nat → ClassId) (st : Nat → Nat) (sz : Nat) (sh : Sh) (d : Dt) (x0 : Int64) {r : Bool} (hf : fX6_isAmount sh d x0 = some r) : Ct l yX6_isAmount cX6_isAmount 2 (some .boolean) 0 0 0 0 A D cy st [.long x0] sz sh d (some (.int (bI r))) sz sh d := ct_of (by decide) (Nat.le_of_ble_eq_true rfl) (fun p e s m args below meth c C hw hS ls hl => wX6_isAmount_b0 C x0 hf hw hS hl)
theorem dX6_add_0 : decode cX6_add 0 = .ok (.aload_n 0, 1) := by decide +kernel
theorem dX6_add_1 : decode cX6_add 1 = .ok (.iload_n 1, 1) := by decide +kernel
theorem dX6_add_2 : decode cX6_add 2 = .ok (.invokevirtual 74, 3) := by decide +kernel
theorem dX6_add_5 : decode cX6_add 5 = .ok (.astore 5, 2) := by decide +kernel
theorem dX6_add_7 : decode cX6_add 7 = .ok (.aload_n 0, 1) := by decide +kernel
theorem dX6_add_8 : decode cX6_add 8 = .ok (.iload_n 2, 1) := by decide +kernel
theorem dX6_add_9 : decode cX6_add 9 = .ok (.invokevirtual 63, 3) := by decide +kernel
theorem dX6_add_12 : decode cX6_add 12 = .ok (.astore 6, 2) := by decide +kernel
theorem dX6_add_14 : decode cX6_add 14 = .ok (.aload 5, 2) := by decide +kernel
theorem dX6_add_16 : decode cX6_add 16 = .ok (.ifnull 8, 3) := by decide +kernel
theorem dX6_add_19 : decode cX6_add 19 = .ok (.aload 6, 2) := by decide +kernel
theorem dX6_add_21 : decode cX6_add 21 = .ok (.ifnonnull 5, 3) := by decide +kernel
theorem dX6_add_24 : decode cX6_add 24 = .ok (.iconst (-1), 1) := by decide +kernel
theorem dX6_add_25 : decode cX6_add 25 = .ok (.ireturn, 1) := by decide +kernel
theorem dX6_add_26 : decode cX6_add 26 = .ok (.aload_n 0, 1) := by decide +kernel
theorem dX6_add_27 : decode cX6_add 27 = .ok (.aload 5, 2) := by decide +kernel
theorem dX6_add_29 : decode cX6_add 29 = .ok (.aload 6, 2) := by decide +kernel
theorem dX6_add_31 : decode cX6_add 31 = .ok (.iconst 2, 1) := by decide +kernel
theorem dX6_add_32 : decode cX6_add 32 = .ok (.invokevirtual 85, 3) := by decide +kernel
theorem dX6_add_35 : decode cX6_add 35 = .ok (.istore 7, 2) := by decide +kernel
theorem dX6_add_37 : decode cX6_add 37 = .ok (.iload 7, 2) := by decide +kernel
theorem dX6_add_39 : decode cX6_add 39 = .ok (.ifCond .eq 6, 3) := by decide +kernel
theorem dX6_add_42 : decode cX6_add 42 = .ok (.iload 7, 2) := by decide +kernel
theorem dX6_add_44 : decode cX6_add 44 = .ok (.ireturn, 1) := by decide +kernel
theorem dX6_add_45 : decode cX6_add 45 = .ok (.aload 6, 2) := by decide +kernel
theorem dX6_add_47 : decode cX6_add 47 = .ok (.getfield 93, 3) := by decide +kernel
theorem dX6_add_50 : decode cX6_add 50 = .ok (.iconst 5, 1) := by decide +kernel
theorem dX6_add_51 : decode cX6_add 51 = .ok (.if_icmp .ne 16, 3) := by decide +kernel
theorem dX6_add_54 : decode cX6_add 54 = .ok (.lload_n 3, 1) := by decide +kernel
theorem dX6_add_55 : decode cX6_add 55 = .ok (.invokestatic 96, 3) := by decide +kernel
theorem dX6_add_58 : decode cX6_add 58 = .ok (.ifCond .ne 9, 3) := by decide +kernel
theorem dX6_add_61 : decode cX6_add 61 = .ok (.aload_n 0, 1) := by decide +kernel
theorem dX6_add_62 : decode cX6_add 62 = .ok (.iconst 2, 1) := by decide +kernel
theorem dX6_add_63 : decode cX6_add 63 = .ok (.invokevirtual 100, 3) := by decide +kernel
theorem dX6_add_66 : decode cX6_add 66 = .ok (.ireturn, 1) := by decide +kernel
theorem dX6_add_67 : decode cX6_add 67 = .ok (.aload_n 0, 1) := by decide +kernel
theorem dX6_add_68 : decode cX6_add 68 = .ok (.aload 5, 2) := by decide +kernel
theorem dX6_add_70 : decode cX6_add 70 = .ok (.aload 6, 2) := by decide +kernel
theorem dX6_add_72 : decode cX6_add 72 = .ok (.iconst 1, 1) := by decide +kernel
theorem dX6_add_73 : decode cX6_add 73 = .ok (.iconst 0, 1) := by decide +kernel
theorem dX6_add_74 : decode cX6_add 74 = .ok (.lload_n 3, 1) := by decide +kernel
theorem dX6_add_75 : decode cX6_add 75 = .ok (.invokevirtual 89, 3) := by decide +kernel
theorem dX6_add_78 : decode cX6_add 78 = .ok (.ireturn, 1) := by decide +kernel
theorem cvX6_add : CV yX6_add cX6_add 8 (some .int) 7 3 := ⟨kw_400, kw_401, kw_1, kw_402, ⟨_, _, rfl⟩, by decide, by decide +kernel, by decide +kernel, by decide +kernel⟩
def fX6_add_b78 (em mi : Nat) (t0 : Int32) (sz : Nat) (ns : Nat) (sh : Sh) (d : Dt) : Option (Int32 × Wl) := some (t0, sz, ns, sh, d)

def fX6_add_b67 (em mi : Nat) (x0 : Nat) (x3 : Int64) (x5 : Option Nat) (x6 : Option Nat) (sz : Nat) (ns : Nat) (sh : Sh) (d : Dt) : Option (Int32 × Wl) := bd (kc sh 8 x0) fun _ => bw2 (fX6_make em mi x0 x5 x6 (1 : Int32) (0 : Int32) x3 sz ns sh d) fun r3 szq4 nsq4 shq4 dq4 => fX6_add_b78 em mi r3 szq4 nsq4 shq4 dq4

def fX6_add_b0 (em mi : Nat) (x0 : Nat) (x1 : Int32) (x2 : Int32) (x3 : Int64) (sz : Nat) (ns : Nat) (sh : Sh) (d : Dt) : Option (Int32 × Wl) := bd (kc sh 8 x0) fun _ => bd (fX6_handAt sh d x0 x1) fun r3 => bd (fX6_pageAt sh d x0 x2) fun r5 => on r3 (some ((-1 : Int32), sz, ns, sh, d)) (fun a6 => on r5 (some ((-1 : Int32), sz, ns, sh, d)) (fun a7 => bd2 (fX6_refusalToChange sh d x0 (some a6) (some a7) (2 : Int32)) fun r9 d10 => if r9 = 0 then (bd (gI sh d10 5 161 a7) fun v12 => if v12 = (5 : Int32) then (bd (fX6_isAmount sh d10 x3) fun r15 => if (bI r15) = 0 then (bd2 (fX6_found sh d10 x0 (2 : Int32)) fun r18 d19 => some (r18, sz, ns, sh, d19)) else (fX6_add_b67 em mi x0 x3 (some a6) (some a7) sz ns sh d10)) else (fX6_add_b67 em mi x0 x3 (some a6) (some a7) sz ns sh d10)) else (some (r9, sz, ns, sh, d10))))

def fX6_add (em mi : Nat) (x0 : Nat) (x1 : Int32) (x2 : Int32) (x3 : Int64) (sz ns : Nat) (sh : Sh) (d : Dt) : Option (Int32 × Wl) := fX6_add_b0 em mi x0 x1 x2 x3 sz ns sh d

set_option maxRecDepth 100000 in
set_option maxHeartbeats 4000000 in
theorem mX6_add_b78 (em mi : Nat) {r : Int32} {sz9 ns9 : Nat} {sh9 : Sh} {d9 : Dt} : ∀ (t0 : Int32) (sz : Nat) (ns : Nat) (sh : Sh) (d : Dt), fX6_add_b78 em mi t0 sz ns sh d = some (r, sz9, ns9, sh9, d9) → sz ≤ sz9 ∧ ns ≤ ns9 := by
  intro t0 sz ns sh d hf
  unfold fX6_add_b78 at hf
  cases hf
  exact ⟨Nat.le_refl _, Nat.le_refl _⟩

set_option maxRecDepth 100000 in
set_option maxHeartbeats 4000000 in
theorem mX6_add_b67 (em mi : Nat) {r : Int32} {sz9 ns9 : Nat} {sh9 : Sh} {d9 : Dt} : ∀ (x0 : Nat) (x3 : Int64) (x5 : Option Nat) (x6 : Option Nat) (sz : Nat) (ns : Nat) (sh : Sh) (d : Dt), fX6_add_b67 em mi x0 x3 x5 x6 sz ns sh d = some (r, sz9, ns9, sh9, d9) → sz ≤ sz9 ∧ ns ≤ ns9 := by
  intro x0 x3 x5 x6 sz ns sh d hf
  unfold fX6_add_b67 at hf
  obtain ⟨_, h1, hf⟩ := bd_s hf
  obtain ⟨r3, szq4, nsq4, shq4, dq4, h2, hf⟩ := bw2_s hf
  have hq := gX6_make em mi x0 x5 x6 (1 : Int32) (0 : Int32) x3 sz ns sh d h2
  have hm := mX6_add_b78 em mi r3 szq4 nsq4 shq4 dq4 hf
  omega

set_option maxRecDepth 100000 in
set_option maxHeartbeats 4000000 in
theorem mX6_add_b0 (em mi : Nat) {r : Int32} {sz9 ns9 : Nat} {sh9 : Sh} {d9 : Dt} : ∀ (x0 : Nat) (x1 : Int32) (x2 : Int32) (x3 : Int64) (sz : Nat) (ns : Nat) (sh : Sh) (d : Dt), fX6_add_b0 em mi x0 x1 x2 x3 sz ns sh d = some (r, sz9, ns9, sh9, d9) → sz ≤ sz9 ∧ ns ≤ ns9 := by
  intro x0 x1 x2 x3 sz ns sh d hf
  unfold fX6_add_b0 at hf
  obtain ⟨_, h1, hf⟩ := bd_s hf
  obtain ⟨r3, h2, hf⟩ := bd_s hf
  obtain ⟨r5, h4, hf⟩ := bd_s hf
  cases r3 with
  | none =>
    have hf := on_n hf
    cases hf
    exact ⟨Nat.le_refl _, Nat.le_refl _⟩
  | some a6 =>
    have hf := on_s hf
    cases r5 with
    | none =>
      have hf := on_n hf
      cases hf
      exact ⟨Nat.le_refl _, Nat.le_refl _⟩
    | some a7 =>
      have hf := on_s hf
      obtain ⟨r9, d10, h8, hf⟩ := bd2_s hf
      by_cases c_11 : r9 = 0
      · have hf := if_t c_11 hf
        obtain ⟨v12, hv12, hf⟩ := bd_s hf
        by_cases c_13 : v12 = (5 : Int32)
        · have hf := if_t c_13 hf
          obtain ⟨r15, h14, hf⟩ := bd_s hf
          by_cases c_16 : (bI r15) = 0
          · have hf := if_t c_16 hf
            obtain ⟨r18, d19, h17, hf⟩ := bd2_s hf
            cases hf
            exact ⟨Nat.le_refl _, Nat.le_refl _⟩
          · have hf := if_f c_16 hf
            have hm := mX6_add_b67 em mi x0 x3 (some a6) (some a7) sz ns sh d10 hf
            omega
        · have hf := if_f c_13 hf
          have hm := mX6_add_b67 em mi x0 x3 (some a6) (some a7) sz ns sh d10 hf
          omega
      · have hf := if_f c_11 hf
        cases hf
        exact ⟨Nat.le_refl _, Nat.le_refl _⟩

theorem gX6_add (em mi : Nat) (x0 : Nat) (x1 : Int32) (x2 : Int32) (x3 : Int64) (sz ns : Nat) (sh : Sh) (d : Dt) {r : Int32} {sz9 ns9 : Nat} {sh9 : Sh} {d9 : Dt} (hf : fX6_add em mi x0 x1 x2 x3 sz ns sh d = some (r, sz9, ns9, sh9, d9)) : sz ≤ sz9 ∧ ns ≤ ns9 := mX6_add_b0 em mi x0 x1 x2 x3 sz ns sh d hf

set_option maxRecDepth 100000 in
set_option maxHeartbeats 4000000 in
theorem wX6_add_b78 (C : mx p s m args meth c yX6_add cX6_add 8 (some .int) A D cy st) {r : Int32} {sz9 ns9 : Nat} {sh9 : Sh} {d9 : Dt} {mc ms : Nat} : ∀ (t0 : Int32) (sz : Nat) (ns : Nat) (sh : Sh) (d : Dt), fX6_add_b78 (st 1) (st 2) t0 sz ns sh d = some (r, sz9, ns9, sh9, d9) → ∀ {cu su : Nat}, sz9 + cu = sz + mc → ns9 + su = ns + ms → ∀ {H : Heap} {locs : List Loc} {ls : Array Slot}, HW A D cy sz sh d H → va_S A s.heap H locs → lv_has ls 8 [] → GA p l e s m args below meth c 8 188 mc ms A D cy (some (.int r)) sz9 sh9 d9 H locs cu su 78 ls [.int t0] := by
  have hx := C.1
  have hb := C.2.1
  intro t0 sz ns sh d hf cu su hcm hsm H locs ls hw hS hl
  have hm0 := mX6_add_b78 (st 1) (st 2) t0 sz ns sh d hf
  unfold fX6_add_b78 at hf
  cases hf
  obtain rfl : mc = cu := by omega
  obtain rfl : ms = su := by omega
  exact rt_i C hw hS dX6_add_78

set_option maxRecDepth 100000 in
set_option maxHeartbeats 4000000 in
theorem wX6_add_b67 (C : mx p s m args meth c yX6_add cX6_add 8 (some .int) A D cy st) {r : Int32} {sz9 ns9 : Nat} {sh9 : Sh} {d9 : Dt} {mc ms : Nat} : ∀ (x0 : Nat) (x3 : Int64) (x5 : Option Nat) (x6 : Option Nat) (sz : Nat) (ns : Nat) (sh : Sh) (d : Dt), fX6_add_b67 (st 1) (st 2) x0 x3 x5 x6 sz ns sh d = some (r, sz9, ns9, sh9, d9) → ∀ {cu su : Nat}, sz9 + cu = sz + mc → ns9 + su = ns + ms → ∀ {H : Heap} {locs : List Loc} {ls : Array Slot}, HW A D cy sz sh d H → va_S A s.heap H locs → lv_has ls 8 [(0, .ref x0), (3, .long x3), (5, va_rf x5), (6, va_rf x6)] → GA p l e s m args below meth c 8 188 mc ms A D cy (some (.int r)) sz9 sh9 d9 H locs cu su 67 ls [] := by
  have hx := C.1
  have hb := C.2.1
  intro x0 x3 x5 x6 sz ns sh d hf cu su hcm hsm H locs ls hw hS hl
  have hm0 := mX6_add_b67 (st 1) (st 2) x0 x3 x5 x6 sz ns sh d hf
  unfold fX6_add_b67 at hf
  refine lv_aload_n hx hb dX6_add_67 rfl (lv_at hl 0 rfl) ?_
  refine lq_aload hx hb dX6_add_68 (lv_at hl 2 rfl) ?_
  refine lq_aload hx hb dX6_add_70 (lv_at hl 3 rfl) ?_
  refine lv_iconst (v := 1) hx hb dX6_add_72 (by decide) ?_
  refine lv_iconst (v := 0) hx hb dX6_add_73 (by decide) ?_
  refine lv_lload_n hx hb dX6_add_74 rfl (lv_at hl 1 rfl) ?_
  obtain ⟨_, h1, hf⟩ := bd_s hf
  obtain ⟨r3, szq4, nsq4, shq4, dq4, h2, hf⟩ := bw2_s hf
  have hm := mX6_add_b78 (st 1) (st 2) r3 szq4 nsq4 shq4 dq4 hf
  have hq := gX6_make (st 1) (st 2) x0 x5 x6 (1 : Int32) (0 : Int32) x3 sz ns sh d h2
  refine cl_V C hw hS (tX6_make l A D cy st x0 x5 x6 (1 : Int32) (0 : Int32) x3 sz ns sh d h2) cvX6_make kw_262 (kc_k h1) ⟨(Nat.le_of_ble_eq_true rfl), (Nat.le_of_ble_eq_true rfl)⟩ hl.1 rfl (Nat.le_of_ble_eq_true rfl) dX6_add_75 ⟨by show _ ≤ mc; omega, by show _ ≤ ms; omega⟩ (fun H locs hw hS => ?_)
  exact wX6_add_b78 C r3 szq4 nsq4 shq4 dq4 hf (by omega) (by omega) hw hS (lv_sub hl [] rfl)

set_option maxRecDepth 100000 in
set_option maxHeartbeats 4000000 in
theorem wX6_add_b0 (C : mx p s m args meth c yX6_add cX6_add 8 (some .int) A D cy st) {r : Int32} {sz9 ns9 : Nat} {sh9 : Sh} {d9 : Dt} {mc ms : Nat} : ∀ (x0 : Nat) (x1 : Int32) (x2 : Int32) (x3 : Int64) (sz : Nat) (ns : Nat) (sh : Sh) (d : Dt), fX6_add_b0 (st 1) (st 2) x0 x1 x2 x3 sz ns sh d = some (r, sz9, ns9, sh9, d9) → ∀ {cu su : Nat}, sz9 + cu = sz + mc → ns9 + su = ns + ms → ∀ {H : Heap} {locs : List Loc} {ls : Array Slot}, HW A D cy sz sh d H → va_S A s.heap H locs → lv_has ls 8 [(0, .ref x0), (1, .int x1), (2, .int x2), (3, .long x3)] → GA p l e s m args below meth c 8 188 mc ms A D cy (some (.int r)) sz9 sh9 d9 H locs cu su 0 ls [] := by
  have hx := C.1
  have hb := C.2.1
  intro x0 x1 x2 x3 sz ns sh d hf cu su hcm hsm H locs ls hw hS hl
  have hm0 := mX6_add_b0 (st 1) (st 2) x0 x1 x2 x3 sz ns sh d hf
  unfold fX6_add_b0 at hf
  refine lv_aload_n hx hb dX6_add_0 rfl (lv_at hl 0 rfl) ?_
  refine lv_iload_n hx hb dX6_add_1 rfl (lv_at hl 1 rfl) ?_
  obtain ⟨_, h1, hf⟩ := bd_s hf
  obtain ⟨r3, h2, hf⟩ := bd_s hf
  refine cl_V0 C hw hS (tX6_handAt l A D cy st sz sh d x0 x1 h2) cvX6_handAt kw_233 (kc_k h1) ⟨(Nat.le_of_ble_eq_true rfl), (Nat.le_of_ble_eq_true rfl)⟩ hl.1 rfl (Nat.le_of_ble_eq_true rfl) dX6_add_2 ⟨by show _ ≤ mc; omega, by show _ ≤ ms; omega⟩ (fun H locs hw hS => ?_)
  refine lq_astore (x := r3) (lv' := [(5, va_rf r3), (0, .ref x0), (1, .int x1), (2, .int x2), (3, .long x3)]) hx hb dX6_add_5 hl (by decide) rfl (fun ls hl => ?_)
  refine lv_aload_n hx hb dX6_add_7 rfl (lv_at hl 1 rfl) ?_
  refine lv_iload_n hx hb dX6_add_8 rfl (lv_at hl 3 rfl) ?_
  obtain ⟨r5, h4, hf⟩ := bd_s hf
  refine cl_V0 C hw hS (tX6_pageAt l A D cy st sz sh d x0 x2 h4) cvX6_pageAt kw_216 (kc_k h1) ⟨(Nat.le_of_ble_eq_true rfl), (Nat.le_of_ble_eq_true rfl)⟩ hl.1 rfl (Nat.le_of_ble_eq_true rfl) dX6_add_9 ⟨by show _ ≤ mc; omega, by show _ ≤ ms; omega⟩ (fun H locs hw hS => ?_)
  refine lq_astore (i := 6) (x := r5) (lv' := [(6, va_rf r5), (5, va_rf r3), (0, .ref x0), (1, .int x1), (2, .int x2), (3, .long x3)]) hx hb dX6_add_12 hl (by decide) (by simp [va_rf_c, cat_i, cat_l, cat_r]) (fun ls hl => ?_)
  refine lq_aload hx hb dX6_add_14 (lv_at hl 1 rfl) ?_
  cases r3 with
  | none =>
    have hf := on_n hf
    refine lv_ifnullN (tgt := 24) hx hb dX6_add_16 (by decide) ?_
    refine lv_iconst (v := -1) hx hb dX6_add_24 (by decide) ?_
    cases hf
    obtain rfl : mc = cu := by omega
    obtain rfl : ms = su := by omega
    exact rt_i C hw hS dX6_add_25
  | some a6 =>
    have hf := on_s hf
    refine lv_ifnull hx hb dX6_add_16 ?_
    refine lq_aload hx hb dX6_add_19 (lv_at hl 0 rfl) ?_
    cases r5 with
    | none =>
      have hf := on_n hf
      refine lv_ifnonnullN hx hb dX6_add_21 ?_
      refine lv_iconst (v := -1) hx hb dX6_add_24 (by decide) ?_
      cases hf
      obtain rfl : mc = cu := by omega
      obtain rfl : ms = su := by omega
      exact rt_i C hw hS dX6_add_25
    | some a7 =>
      have hf := on_s hf
      refine lv_ifnonnull (tgt := 26) hx hb dX6_add_21 (by decide) ?_
      refine lv_aload_n hx hb dX6_add_26 rfl (lv_at hl 2 rfl) ?_
      refine lq_aload hx hb dX6_add_27 (lv_at hl 1 rfl) ?_
      refine lq_aload hx hb dX6_add_29 (lv_at hl 0 rfl) ?_
      refine lv_iconst (v := 2) hx hb dX6_add_31 (by decide) ?_
      obtain ⟨r9, d10, h8, hf⟩ := bd2_s hf
      refine cl_V0 C hw hS (tX6_refusalToChange l A D cy st sz sh d x0 (some a6) (some a7) (2 : Int32) h8) cvX6_refusalToChange kw_241 (kc_k h1) ⟨(Nat.le_of_ble_eq_true rfl), (Nat.le_of_ble_eq_true rfl)⟩ hl.1 rfl (Nat.le_of_ble_eq_true rfl) dX6_add_32 ⟨by show _ ≤ mc; omega, by show _ ≤ ms; omega⟩ (fun H locs hw hS => ?_)
      refine lv_istore (i := 7) (lv' := [(7, .int r9), (6, va_rf (some a7)), (5, va_rf (some a6)), (0, .ref x0), (1, .int x1), (2, .int x2), (3, .long x3)]) hx hb dX6_add_35 hl (by decide) (by simp [va_rf_c, cat_i, cat_l, cat_r]) (fun ls hl => ?_)
      refine lv_iload hx hb dX6_add_37 (lv_at hl 0 rfl) ?_
      refine lv_if_eq (tgt := 45) hx hb dX6_add_39 (by decide) (fun c_11 => ?_) (fun c_11 => ?_)
      · have hf := if_t c_11 hf
        refine lq_aload hx hb dX6_add_45 (lv_at hl 1 rfl) ?_
        obtain ⟨v12, hv12, hf⟩ := bd_s hf
        refine gt_161 C hw hv12 kw_199 dX6_add_47 ?_
        refine lv_iconst (v := 5) hx hb dX6_add_50 (by decide) ?_
        refine lv_icmp_ne (tgt := 67) hx hb dX6_add_51 (by decide) (fun c_13 => ?_) (fun c_13 => ?_)
        · have hf := if_f c_13 hf
          exact wX6_add_b67 C x0 x3 (some a6) (some a7) sz ns sh d10 hf (by omega) (by omega) hw hS (lv_sub hl [3, 6, 2, 1] rfl)
        · have hf := if_t c_13 hf
          refine lv_lload_n hx hb dX6_add_54 rfl (lv_at hl 6 rfl) ?_
          obtain ⟨r15, h14, hf⟩ := bd_s hf
          refine cl_S0 C hw hS (tX6_isAmount l A D cy st sz sh d10 x3 h14) csX6_isAmount kw_403 ⟨(Nat.le_of_ble_eq_true rfl), (Nat.le_of_ble_eq_true rfl)⟩ hl.1 rfl (Nat.le_of_ble_eq_true rfl) dX6_add_55 ⟨by show _ ≤ mc; omega, by show _ ≤ ms; omega⟩ (fun H locs hw hS => ?_)
          refine lv_if_ne (tgt := 67) hx hb dX6_add_58 (by decide) (fun c_16 => ?_) (fun c_16 => ?_)
          · have hf := if_f c_16 hf
            exact wX6_add_b67 C x0 x3 (some a6) (some a7) sz ns sh d10 hf (by omega) (by omega) hw hS (lv_sub hl [3, 6, 2, 1] rfl)
          · have hf := if_t c_16 hf
            refine lv_aload_n hx hb dX6_add_61 rfl (lv_at hl 3 rfl) ?_
            refine lv_iconst (v := 2) hx hb dX6_add_62 (by decide) ?_
            obtain ⟨r18, d19, h17, hf⟩ := bd2_s hf
            refine cl_V0 C hw hS (tX6_found l A D cy st sz sh d10 x0 (2 : Int32) h17) cvX6_found kw_258 (kc_k h1) ⟨(Nat.le_of_ble_eq_true rfl), (Nat.le_of_ble_eq_true rfl)⟩ hl.1 rfl (Nat.le_of_ble_eq_true rfl) dX6_add_63 ⟨by show _ ≤ mc; omega, by show _ ≤ ms; omega⟩ (fun H locs hw hS => ?_)
            cases hf
            obtain rfl : mc = cu := by omega
            obtain rfl : ms = su := by omega
            exact rt_i C hw hS dX6_add_66
      · have hf := if_f c_11 hf
        refine lv_iload hx hb dX6_add_42 (lv_at hl 0 rfl) ?_
        cases hf
        obtain rfl : mc = cu := by omega
        obtain rfl : ms = su := by omega
        exact rt_i C hw hS dX6_add_44

set_option maxRecDepth 100000 in
set_option maxHeartbeats 4000000 in
theorem tX6_add (l : Launch) (A : Nat → Prop) (D : va_G) (cy : Nat → ClassId) (st : Nat → Nat) (x0 : Nat) (x1 : Int32) (x2 : Int32) (x3 : Int64) (sz ns : Nat) (sh : Sh) (d : Dt) {r : Int32} {sz9 ns9 : Nat} {sh9 : Sh} {d9 : Dt} (hf : fX6_add (st 1) (st 2) x0 x1 x2 x3 sz ns sh d = some (r, sz9, ns9, sh9, d9)) : Ct l yX6_add cX6_add 8 (some .int) 8 188 (sz9 - sz) (ns9 - ns) A D cy st [.ref x0, .int x1, .int x2, .long x3] sz sh d (some (.int r)) sz9 sh9 d9 := by
  have hm := gX6_add (st 1) (st 2) x0 x1 x2 x3 sz ns sh d hf
  exact ct_of (by decide) (Nat.le_of_ble_eq_true rfl) (fun p e s m args below meth c C hw hS ls hl => wX6_add_b0 C x0 x1 x2 x3 sz ns sh d hf (by omega) (by omega) hw hS hl)
theorem dX6_isThing_0 : decode cX6_isThing 0 = .ok (.iload_n 0, 1) := by decide +kernel
theorem dX6_isThing_1 : decode cX6_isThing 1 = .ok (.ifCond .lt 13, 3) := by decide +kernel
theorem dX6_isThing_4 : decode cX6_isThing 4 = .ok (.iload_n 0, 1) := by decide +kernel
theorem dX6_isThing_5 : decode cX6_isThing 5 = .ok (.bipush 64, 2) := by decide +kernel
theorem dX6_isThing_7 : decode cX6_isThing 7 = .ok (.if_icmp .ge 7, 3) := by decide +kernel
theorem dX6_isThing_10 : decode cX6_isThing 10 = .ok (.iconst 1, 1) := by decide +kernel
theorem dX6_isThing_11 : decode cX6_isThing 11 = .ok (.goto 4, 3) := by decide +kernel
theorem dX6_isThing_14 : decode cX6_isThing 14 = .ok (.iconst 0, 1) := by decide +kernel
theorem dX6_isThing_15 : decode cX6_isThing 15 = .ok (.ireturn, 1) := by decide +kernel
theorem csX6_isThing : CS yX6_isThing cX6_isThing 1 (some .boolean) 1 := ⟨kw_412, kw_1, kw_413, by decide +kernel, by decide +kernel, by decide +kernel⟩
def fX6_isThing_b0 (sh : Sh) (d : Dt) (x0 : Int32) : Option (Bool) := if x0 < 0 then (some false) else (if (64 : Int32) ≤ x0 then (some false) else (some true))

def fX6_isThing (sh : Sh) (d : Dt) (x0 : Int32) : Option (Bool) := fX6_isThing_b0 sh d x0

set_option maxRecDepth 100000 in
set_option maxHeartbeats 4000000 in
theorem wX6_isThing_b0 (C : mx p s m args meth c yX6_isThing cX6_isThing 1 (some .boolean) A D cy st) {r : Bool} {d : Dt} : ∀ (x0 : Int32), fX6_isThing_b0 sh d x0 = some r → ∀ {H : Heap} {locs : List Loc} {ls : Array Slot}, HW A D cy sz sh d H → va_S A s.heap H locs → lv_has ls 1 [(0, .int x0)] → GL p l e s m args below meth c 0 0 A D cy (some (.int (bI r))) sz sh d H locs 0 ls [] := by
  have hx := C.1
  have hb := C.2.1
  intro x0 hf H locs ls hw hS hl
  unfold fX6_isThing_b0 at hf
  refine lv_iload_n hx hb dX6_isThing_0 rfl (lv_at hl 0 rfl) ?_
  refine lv_if_lt (tgt := 14) hx hb dX6_isThing_1 (by decide) (fun c_1 => ?_) (fun c_1 => ?_)
  · have hf := if_t c_1 hf
    refine lv_iconst (v := 0) hx hb dX6_isThing_14 (by decide) ?_
    cases hf
    exact rt_z C hw hS _ rfl dX6_isThing_15
  · have hf := if_f c_1 hf
    refine lv_iload_n hx hb dX6_isThing_4 rfl (lv_at hl 0 rfl) ?_
    refine lv_bipush (v := 64) hx hb dX6_isThing_5 (by decide) ?_
    refine lv_icmp_ge (tgt := 14) hx hb dX6_isThing_7 (by decide) (fun c_2 => ?_) (fun c_2 => ?_)
    · have hf := if_t c_2 hf
      refine lv_iconst (v := 0) hx hb dX6_isThing_14 (by decide) ?_
      cases hf
      exact rt_z C hw hS _ rfl dX6_isThing_15
    · have hf := if_f c_2 hf
      refine lv_iconst (v := 1) hx hb dX6_isThing_10 (by decide) ?_
      refine lv_goto (tgt := 15) hx hb dX6_isThing_11 (by decide) ?_
      cases hf
      exact rt_z C hw hS _ rfl dX6_isThing_15

set_option maxRecDepth 100000 in
set_option maxHeartbeats 4000000 in
theorem tX6_isThing (l : Launch) (A : Nat → Prop) (D : va_G) (cy : Nat → ClassId) (st : Nat → Nat) (sz : Nat) (sh : Sh) (d : Dt) (x0 : Int32) {r : Bool} (hf : fX6_isThing sh d x0 = some r) : Ct l yX6_isThing cX6_isThing 1 (some .boolean) 0 0 0 0 A D cy st [.int x0] sz sh d (some (.int (bI r))) sz sh d := ct_of (by decide) (Nat.le_of_ble_eq_true rfl) (fun p e s m args below meth c C hw hS ls hl => wX6_isThing_b0 C x0 hf hw hS hl)
theorem dX6_put_0 : decode cX6_put 0 = .ok (.aload_n 0, 1) := by decide +kernel
theorem dX6_put_1 : decode cX6_put 1 = .ok (.iload_n 1, 1) := by decide +kernel
theorem dX6_put_2 : decode cX6_put 2 = .ok (.invokevirtual 74, 3) := by decide +kernel
theorem dX6_put_5 : decode cX6_put 5 = .ok (.astore 4, 2) := by decide +kernel
theorem dX6_put_7 : decode cX6_put 7 = .ok (.aload_n 0, 1) := by decide +kernel
theorem dX6_put_8 : decode cX6_put 8 = .ok (.iload_n 2, 1) := by decide +kernel
theorem dX6_put_9 : decode cX6_put 9 = .ok (.invokevirtual 63, 3) := by decide +kernel
theorem dX6_put_12 : decode cX6_put 12 = .ok (.astore 5, 2) := by decide +kernel
theorem dX6_put_14 : decode cX6_put 14 = .ok (.aload 4, 2) := by decide +kernel
theorem dX6_put_16 : decode cX6_put 16 = .ok (.ifnull 15, 3) := by decide +kernel
theorem dX6_put_19 : decode cX6_put 19 = .ok (.aload 5, 2) := by decide +kernel
theorem dX6_put_21 : decode cX6_put 21 = .ok (.ifnull 10, 3) := by decide +kernel
theorem dX6_put_24 : decode cX6_put 24 = .ok (.iload_n 3, 1) := by decide +kernel
theorem dX6_put_25 : decode cX6_put 25 = .ok (.invokestatic 104, 3) := by decide +kernel
theorem dX6_put_28 : decode cX6_put 28 = .ok (.ifCond .ne 5, 3) := by decide +kernel
theorem dX6_put_31 : decode cX6_put 31 = .ok (.iconst (-1), 1) := by decide +kernel
theorem dX6_put_32 : decode cX6_put 32 = .ok (.ireturn, 1) := by decide +kernel
theorem dX6_put_33 : decode cX6_put 33 = .ok (.aload_n 0, 1) := by decide +kernel
theorem dX6_put_34 : decode cX6_put 34 = .ok (.aload 4, 2) := by decide +kernel
theorem dX6_put_36 : decode cX6_put 36 = .ok (.aload 5, 2) := by decide +kernel
theorem dX6_put_38 : decode cX6_put 38 = .ok (.iconst 3, 1) := by decide +kernel
theorem dX6_put_39 : decode cX6_put 39 = .ok (.invokevirtual 85, 3) := by decide +kernel
theorem dX6_put_42 : decode cX6_put 42 = .ok (.istore 6, 2) := by decide +kernel
theorem dX6_put_44 : decode cX6_put 44 = .ok (.iload 6, 2) := by decide +kernel
theorem dX6_put_46 : decode cX6_put 46 = .ok (.ifCond .eq 8, 3) := by decide +kernel
theorem dX6_put_49 : decode cX6_put 49 = .ok (.iload 6, 2) := by decide +kernel
theorem dX6_put_51 : decode cX6_put 51 = .ok (.goto 14, 3) := by decide +kernel
theorem dX6_put_54 : decode cX6_put 54 = .ok (.aload_n 0, 1) := by decide +kernel
theorem dX6_put_55 : decode cX6_put 55 = .ok (.aload 4, 2) := by decide +kernel
theorem dX6_put_57 : decode cX6_put 57 = .ok (.aload 5, 2) := by decide +kernel
theorem dX6_put_59 : decode cX6_put 59 = .ok (.iconst 4, 1) := by decide +kernel
theorem dX6_put_60 : decode cX6_put 60 = .ok (.iload_n 3, 1) := by decide +kernel
theorem dX6_put_61 : decode cX6_put 61 = .ok (.lconst 0, 1) := by decide +kernel
theorem dX6_put_62 : decode cX6_put 62 = .ok (.invokevirtual 89, 3) := by decide +kernel
theorem dX6_put_65 : decode cX6_put 65 = .ok (.ireturn, 1) := by decide +kernel
theorem cvX6_put : CV yX6_put cX6_put 7 (some .int) 7 3 := ⟨kw_408, kw_409, kw_1, kw_410, ⟨_, _, rfl⟩, by decide, by decide +kernel, by decide +kernel, by decide +kernel⟩
def fX6_put_b65 (em mi : Nat) (t0 : Int32) (sz : Nat) (ns : Nat) (sh : Sh) (d : Dt) : Option (Int32 × Wl) := some (t0, sz, ns, sh, d)

def fX6_put_b0 (em mi : Nat) (x0 : Nat) (x1 : Int32) (x2 : Int32) (x3 : Int32) (sz : Nat) (ns : Nat) (sh : Sh) (d : Dt) : Option (Int32 × Wl) := bd (kc sh 8 x0) fun _ => bd (fX6_handAt sh d x0 x1) fun r3 => bd (fX6_pageAt sh d x0 x2) fun r5 => on r3 (some ((-1 : Int32), sz, ns, sh, d)) (fun a6 => on r5 (some ((-1 : Int32), sz, ns, sh, d)) (fun a7 => bd (fX6_isThing sh d x3) fun r9 => if (bI r9) = 0 then (some ((-1 : Int32), sz, ns, sh, d)) else (bd2 (fX6_refusalToChange sh d x0 (some a6) (some a7) (3 : Int32)) fun r12 d13 => if r12 = 0 then (bw2 (fX6_make em mi x0 (some a6) (some a7) (4 : Int32) x3 (0 : Int64) sz ns sh d13) fun r16 szq17 nsq17 shq17 dq17 => fX6_put_b65 em mi r16 szq17 nsq17 shq17 dq17) else (fX6_put_b65 em mi r12 sz ns sh d13))))

def fX6_put (em mi : Nat) (x0 : Nat) (x1 : Int32) (x2 : Int32) (x3 : Int32) (sz ns : Nat) (sh : Sh) (d : Dt) : Option (Int32 × Wl) := fX6_put_b0 em mi x0 x1 x2 x3 sz ns sh d

set_option maxRecDepth 100000 in
set_option maxHeartbeats 4000000 in
theorem mX6_put_b65 (em mi : Nat) {r : Int32} {sz9 ns9 : Nat} {sh9 : Sh} {d9 : Dt} : ∀ (t0 : Int32) (sz : Nat) (ns : Nat) (sh : Sh) (d : Dt), fX6_put_b65 em mi t0 sz ns sh d = some (r, sz9, ns9, sh9, d9) → sz ≤ sz9 ∧ ns ≤ ns9 := by
  intro t0 sz ns sh d hf
  unfold fX6_put_b65 at hf
  cases hf
  exact ⟨Nat.le_refl _, Nat.le_refl _⟩

set_option maxRecDepth 100000 in
set_option maxHeartbeats 4000000 in
theorem mX6_put_b0 (em mi : Nat) {r : Int32} {sz9 ns9 : Nat} {sh9 : Sh} {d9 : Dt} : ∀ (x0 : Nat) (x1 : Int32) (x2 : Int32) (x3 : Int32) (sz : Nat) (ns : Nat) (sh : Sh) (d : Dt), fX6_put_b0 em mi x0 x1 x2 x3 sz ns sh d = some (r, sz9, ns9, sh9, d9) → sz ≤ sz9 ∧ ns ≤ ns9 := by
  intro x0 x1 x2 x3 sz ns sh d hf
  unfold fX6_put_b0 at hf
  obtain ⟨_, h1, hf⟩ := bd_s hf
  obtain ⟨r3, h2, hf⟩ := bd_s hf
  obtain ⟨r5, h4, hf⟩ := bd_s hf
  cases r3 with
  | none =>
    have hf := on_n hf
    cases hf
    exact ⟨Nat.le_refl _, Nat.le_refl _⟩
  | some a6 =>
    have hf := on_s hf
    cases r5 with
    | none =>
      have hf := on_n hf
      cases hf
      exact ⟨Nat.le_refl _, Nat.le_refl _⟩
    | some a7 =>
      have hf := on_s hf
      obtain ⟨r9, h8, hf⟩ := bd_s hf
      by_cases c_10 : (bI r9) = 0
      · have hf := if_t c_10 hf
        cases hf
        exact ⟨Nat.le_refl _, Nat.le_refl _⟩
      · have hf := if_f c_10 hf
        obtain ⟨r12, d13, h11, hf⟩ := bd2_s hf
        by_cases c_14 : r12 = 0
        · have hf := if_t c_14 hf
          obtain ⟨r16, szq17, nsq17, shq17, dq17, h15, hf⟩ := bw2_s hf
          have hq := gX6_make em mi x0 (some a6) (some a7) (4 : Int32) x3 (0 : Int64) sz ns sh d13 h15
          have hm := mX6_put_b65 em mi r16 szq17 nsq17 shq17 dq17 hf
          omega
        · have hf := if_f c_14 hf
          have hm := mX6_put_b65 em mi r12 sz ns sh d13 hf
          omega

theorem gX6_put (em mi : Nat) (x0 : Nat) (x1 : Int32) (x2 : Int32) (x3 : Int32) (sz ns : Nat) (sh : Sh) (d : Dt) {r : Int32} {sz9 ns9 : Nat} {sh9 : Sh} {d9 : Dt} (hf : fX6_put em mi x0 x1 x2 x3 sz ns sh d = some (r, sz9, ns9, sh9, d9)) : sz ≤ sz9 ∧ ns ≤ ns9 := mX6_put_b0 em mi x0 x1 x2 x3 sz ns sh d hf

set_option maxRecDepth 100000 in
set_option maxHeartbeats 4000000 in
theorem wX6_put_b65 (C : mx p s m args meth c yX6_put cX6_put 7 (some .int) A D cy st) {r : Int32} {sz9 ns9 : Nat} {sh9 : Sh} {d9 : Dt} {mc ms : Nat} : ∀ (t0 : Int32) (sz : Nat) (ns : Nat) (sh : Sh) (d : Dt), fX6_put_b65 (st 1) (st 2) t0 sz ns sh d = some (r, sz9, ns9, sh9, d9) → ∀ {cu su : Nat}, sz9 + cu = sz + mc → ns9 + su = ns + ms → ∀ {H : Heap} {locs : List Loc} {ls : Array Slot}, HW A D cy sz sh d H → va_S A s.heap H locs → lv_has ls 7 [] → GA p l e s m args below meth c 8 188 mc ms A D cy (some (.int r)) sz9 sh9 d9 H locs cu su 65 ls [.int t0] := by
  have hx := C.1
  have hb := C.2.1
  intro t0 sz ns sh d hf cu su hcm hsm H locs ls hw hS hl
  have hm0 := mX6_put_b65 (st 1) (st 2) t0 sz ns sh d hf
  unfold fX6_put_b65 at hf
  cases hf
  obtain rfl : mc = cu := by omega
  obtain rfl : ms = su := by omega
  exact rt_i C hw hS dX6_put_65

set_option maxRecDepth 100000 in
set_option maxHeartbeats 4000000 in
theorem wX6_put_b0 (C : mx p s m args meth c yX6_put cX6_put 7 (some .int) A D cy st) {r : Int32} {sz9 ns9 : Nat} {sh9 : Sh} {d9 : Dt} {mc ms : Nat} : ∀ (x0 : Nat) (x1 : Int32) (x2 : Int32) (x3 : Int32) (sz : Nat) (ns : Nat) (sh : Sh) (d : Dt), fX6_put_b0 (st 1) (st 2) x0 x1 x2 x3 sz ns sh d = some (r, sz9, ns9, sh9, d9) → ∀ {cu su : Nat}, sz9 + cu = sz + mc → ns9 + su = ns + ms → ∀ {H : Heap} {locs : List Loc} {ls : Array Slot}, HW A D cy sz sh d H → va_S A s.heap H locs → lv_has ls 7 [(0, .ref x0), (1, .int x1), (2, .int x2), (3, .int x3)] → GA p l e s m args below meth c 8 188 mc ms A D cy (some (.int r)) sz9 sh9 d9 H locs cu su 0 ls [] := by
  have hx := C.1
  have hb := C.2.1
  intro x0 x1 x2 x3 sz ns sh d hf cu su hcm hsm H locs ls hw hS hl
  have hm0 := mX6_put_b0 (st 1) (st 2) x0 x1 x2 x3 sz ns sh d hf
  unfold fX6_put_b0 at hf
  refine lv_aload_n hx hb dX6_put_0 rfl (lv_at hl 0 rfl) ?_
  refine lv_iload_n hx hb dX6_put_1 rfl (lv_at hl 1 rfl) ?_
  obtain ⟨_, h1, hf⟩ := bd_s hf
  obtain ⟨r3, h2, hf⟩ := bd_s hf
  refine cl_V0 C hw hS (tX6_handAt l A D cy st sz sh d x0 x1 h2) cvX6_handAt kw_233 (kc_k h1) ⟨(Nat.le_of_ble_eq_true rfl), (Nat.le_of_ble_eq_true rfl)⟩ hl.1 rfl (Nat.le_of_ble_eq_true rfl) dX6_put_2 ⟨by show _ ≤ mc; omega, by show _ ≤ ms; omega⟩ (fun H locs hw hS => ?_)
  refine lq_astore (x := r3) (lv' := [(4, va_rf r3), (0, .ref x0), (1, .int x1), (2, .int x2), (3, .int x3)]) hx hb dX6_put_5 hl (by decide) rfl (fun ls hl => ?_)
  refine lv_aload_n hx hb dX6_put_7 rfl (lv_at hl 1 rfl) ?_
  refine lv_iload_n hx hb dX6_put_8 rfl (lv_at hl 3 rfl) ?_
  obtain ⟨r5, h4, hf⟩ := bd_s hf
  refine cl_V0 C hw hS (tX6_pageAt l A D cy st sz sh d x0 x2 h4) cvX6_pageAt kw_216 (kc_k h1) ⟨(Nat.le_of_ble_eq_true rfl), (Nat.le_of_ble_eq_true rfl)⟩ hl.1 rfl (Nat.le_of_ble_eq_true rfl) dX6_put_9 ⟨by show _ ≤ mc; omega, by show _ ≤ ms; omega⟩ (fun H locs hw hS => ?_)
  refine lq_astore (i := 5) (x := r5) (lv' := [(5, va_rf r5), (4, va_rf r3), (0, .ref x0), (1, .int x1), (2, .int x2), (3, .int x3)]) hx hb dX6_put_12 hl (by decide) (by simp [va_rf_c, cat_i, cat_l, cat_r]) (fun ls hl => ?_)
  refine lq_aload hx hb dX6_put_14 (lv_at hl 1 rfl) ?_
  cases r3 with
  | none =>
    have hf := on_n hf
    refine lv_ifnullN (tgt := 31) hx hb dX6_put_16 (by decide) ?_
    refine lv_iconst (v := -1) hx hb dX6_put_31 (by decide) ?_
    cases hf
    obtain rfl : mc = cu := by omega
    obtain rfl : ms = su := by omega
    exact rt_i C hw hS dX6_put_32
  | some a6 =>
    have hf := on_s hf
    refine lv_ifnull hx hb dX6_put_16 ?_
    refine lq_aload hx hb dX6_put_19 (lv_at hl 0 rfl) ?_
    cases r5 with
    | none =>
      have hf := on_n hf
      refine lv_ifnullN (tgt := 31) hx hb dX6_put_21 (by decide) ?_
      refine lv_iconst (v := -1) hx hb dX6_put_31 (by decide) ?_
      cases hf
      obtain rfl : mc = cu := by omega
      obtain rfl : ms = su := by omega
      exact rt_i C hw hS dX6_put_32
    | some a7 =>
      have hf := on_s hf
      refine lv_ifnull hx hb dX6_put_21 ?_
      refine lv_iload_n hx hb dX6_put_24 rfl (lv_at hl 5 rfl) ?_
      obtain ⟨r9, h8, hf⟩ := bd_s hf
      refine cl_S0 C hw hS (tX6_isThing l A D cy st sz sh d x3 h8) csX6_isThing kw_411 ⟨(Nat.le_of_ble_eq_true rfl), (Nat.le_of_ble_eq_true rfl)⟩ hl.1 rfl (Nat.le_of_ble_eq_true rfl) dX6_put_25 ⟨by show _ ≤ mc; omega, by show _ ≤ ms; omega⟩ (fun H locs hw hS => ?_)
      refine lv_if_ne (tgt := 33) hx hb dX6_put_28 (by decide) (fun c_10 => ?_) (fun c_10 => ?_)
      · have hf := if_f c_10 hf
        refine lv_aload_n hx hb dX6_put_33 rfl (lv_at hl 2 rfl) ?_
        refine lq_aload hx hb dX6_put_34 (lv_at hl 1 rfl) ?_
        refine lq_aload hx hb dX6_put_36 (lv_at hl 0 rfl) ?_
        refine lv_iconst (v := 3) hx hb dX6_put_38 (by decide) ?_
        obtain ⟨r12, d13, h11, hf⟩ := bd2_s hf
        refine cl_V0 C hw hS (tX6_refusalToChange l A D cy st sz sh d x0 (some a6) (some a7) (3 : Int32) h11) cvX6_refusalToChange kw_241 (kc_k h1) ⟨(Nat.le_of_ble_eq_true rfl), (Nat.le_of_ble_eq_true rfl)⟩ hl.1 rfl (Nat.le_of_ble_eq_true rfl) dX6_put_39 ⟨by show _ ≤ mc; omega, by show _ ≤ ms; omega⟩ (fun H locs hw hS => ?_)
        refine lv_istore (i := 6) (lv' := [(6, .int r12), (5, va_rf (some a7)), (4, va_rf (some a6)), (0, .ref x0), (1, .int x1), (2, .int x2), (3, .int x3)]) hx hb dX6_put_42 hl (by decide) (by simp [va_rf_c, cat_i, cat_l, cat_r]) (fun ls hl => ?_)
        refine lv_iload hx hb dX6_put_44 (lv_at hl 0 rfl) ?_
        refine lv_if_eq (tgt := 54) hx hb dX6_put_46 (by decide) (fun c_14 => ?_) (fun c_14 => ?_)
        · have hf := if_t c_14 hf
          refine lv_aload_n hx hb dX6_put_54 rfl (lv_at hl 3 rfl) ?_
          refine lq_aload hx hb dX6_put_55 (lv_at hl 2 rfl) ?_
          refine lq_aload hx hb dX6_put_57 (lv_at hl 1 rfl) ?_
          refine lv_iconst (v := 4) hx hb dX6_put_59 (by decide) ?_
          refine lv_iload_n hx hb dX6_put_60 rfl (lv_at hl 6 rfl) ?_
          refine lv_lconst (v := 0) hx hb dX6_put_61 (by decide) ?_
          obtain ⟨r16, szq17, nsq17, shq17, dq17, h15, hf⟩ := bw2_s hf
          have hm := mX6_put_b65 (st 1) (st 2) r16 szq17 nsq17 shq17 dq17 hf
          have hq := gX6_make (st 1) (st 2) x0 (some a6) (some a7) (4 : Int32) x3 (0 : Int64) sz ns sh d13 h15
          refine cl_V C hw hS (tX6_make l A D cy st x0 (some a6) (some a7) (4 : Int32) x3 (0 : Int64) sz ns sh d13 h15) cvX6_make kw_262 (kc_k h1) ⟨(Nat.le_of_ble_eq_true rfl), (Nat.le_of_ble_eq_true rfl)⟩ hl.1 rfl (Nat.le_of_ble_eq_true rfl) dX6_put_62 ⟨by show _ ≤ mc; omega, by show _ ≤ ms; omega⟩ (fun H locs hw hS => ?_)
          exact wX6_put_b65 C r16 szq17 nsq17 shq17 dq17 hf (by omega) (by omega) hw hS (lv_sub hl [] rfl)
        · have hf := if_f c_14 hf
          refine lv_iload hx hb dX6_put_49 (lv_at hl 0 rfl) ?_
          refine lv_goto (tgt := 65) hx hb dX6_put_51 (by decide) ?_
          exact wX6_put_b65 C r12 sz ns sh d13 hf (by omega) (by omega) hw hS (lv_sub hl [] rfl)
      · have hf := if_t c_10 hf
        refine lv_iconst (v := -1) hx hb dX6_put_31 (by decide) ?_
        cases hf
        obtain rfl : mc = cu := by omega
        obtain rfl : ms = su := by omega
        exact rt_i C hw hS dX6_put_32

set_option maxRecDepth 100000 in
set_option maxHeartbeats 4000000 in
theorem tX6_put (l : Launch) (A : Nat → Prop) (D : va_G) (cy : Nat → ClassId) (st : Nat → Nat) (x0 : Nat) (x1 : Int32) (x2 : Int32) (x3 : Int32) (sz ns : Nat) (sh : Sh) (d : Dt) {r : Int32} {sz9 ns9 : Nat} {sh9 : Sh} {d9 : Dt} (hf : fX6_put (st 1) (st 2) x0 x1 x2 x3 sz ns sh d = some (r, sz9, ns9, sh9, d9)) : Ct l yX6_put cX6_put 7 (some .int) 8 188 (sz9 - sz) (ns9 - ns) A D cy st [.ref x0, .int x1, .int x2, .int x3] sz sh d (some (.int r)) sz9 sh9 d9 := by
  have hm := gX6_put (st 1) (st 2) x0 x1 x2 x3 sz ns sh d hf
  exact ct_of (by decide) (Nat.le_of_ble_eq_true rfl) (fun p e s m args below meth c C hw hS ls hl => wX6_put_b0 C x0 x1 x2 x3 sz ns sh d hf (by omega) (by omega) hw hS hl)
theorem dX6_take_0 : decode cX6_take 0 = .ok (.aload_n 0, 1) := by decide +kernel
theorem dX6_take_1 : decode cX6_take 1 = .ok (.iload_n 1, 1) := by decide +kernel
theorem dX6_take_2 : decode cX6_take 2 = .ok (.invokevirtual 74, 3) := by decide +kernel
theorem dX6_take_5 : decode cX6_take 5 = .ok (.astore 4, 2) := by decide +kernel
theorem dX6_take_7 : decode cX6_take 7 = .ok (.aload_n 0, 1) := by decide +kernel
theorem dX6_take_8 : decode cX6_take 8 = .ok (.iload_n 2, 1) := by decide +kernel
theorem dX6_take_9 : decode cX6_take 9 = .ok (.invokevirtual 63, 3) := by decide +kernel
theorem dX6_take_12 : decode cX6_take 12 = .ok (.astore 5, 2) := by decide +kernel
theorem dX6_take_14 : decode cX6_take 14 = .ok (.aload 4, 2) := by decide +kernel
theorem dX6_take_16 : decode cX6_take 16 = .ok (.ifnull 15, 3) := by decide +kernel
theorem dX6_take_19 : decode cX6_take 19 = .ok (.aload 5, 2) := by decide +kernel
theorem dX6_take_21 : decode cX6_take 21 = .ok (.ifnull 10, 3) := by decide +kernel
theorem dX6_take_24 : decode cX6_take 24 = .ok (.iload_n 3, 1) := by decide +kernel
theorem dX6_take_25 : decode cX6_take 25 = .ok (.invokestatic 104, 3) := by decide +kernel
theorem dX6_take_28 : decode cX6_take 28 = .ok (.ifCond .ne 5, 3) := by decide +kernel
theorem dX6_take_31 : decode cX6_take 31 = .ok (.iconst (-1), 1) := by decide +kernel
theorem dX6_take_32 : decode cX6_take 32 = .ok (.ireturn, 1) := by decide +kernel
theorem dX6_take_33 : decode cX6_take 33 = .ok (.aload_n 0, 1) := by decide +kernel
theorem dX6_take_34 : decode cX6_take 34 = .ok (.aload 4, 2) := by decide +kernel
theorem dX6_take_36 : decode cX6_take 36 = .ok (.aload 5, 2) := by decide +kernel
theorem dX6_take_38 : decode cX6_take 38 = .ok (.iconst 3, 1) := by decide +kernel
theorem dX6_take_39 : decode cX6_take 39 = .ok (.invokevirtual 85, 3) := by decide +kernel
theorem dX6_take_42 : decode cX6_take 42 = .ok (.istore 6, 2) := by decide +kernel
theorem dX6_take_44 : decode cX6_take 44 = .ok (.iload 6, 2) := by decide +kernel
theorem dX6_take_46 : decode cX6_take 46 = .ok (.ifCond .eq 6, 3) := by decide +kernel
theorem dX6_take_49 : decode cX6_take 49 = .ok (.iload 6, 2) := by decide +kernel
theorem dX6_take_51 : decode cX6_take 51 = .ok (.ireturn, 1) := by decide +kernel
theorem dX6_take_52 : decode cX6_take 52 = .ok (.aload 5, 2) := by decide +kernel
theorem dX6_take_54 : decode cX6_take 54 = .ok (.aload 4, 2) := by decide +kernel
theorem dX6_take_56 : decode cX6_take 56 = .ok (.getfield 107, 3) := by decide +kernel
theorem dX6_take_59 : decode cX6_take 59 = .ok (.iload_n 3, 1) := by decide +kernel
theorem dX6_take_60 : decode cX6_take 60 = .ok (.invokevirtual 111, 3) := by decide +kernel
theorem dX6_take_63 : decode cX6_take 63 = .ok (.ifCond .ne 9, 3) := by decide +kernel
theorem dX6_take_66 : decode cX6_take 66 = .ok (.aload_n 0, 1) := by decide +kernel
theorem dX6_take_67 : decode cX6_take 67 = .ok (.iconst 2, 1) := by decide +kernel
theorem dX6_take_68 : decode cX6_take 68 = .ok (.invokevirtual 100, 3) := by decide +kernel
theorem dX6_take_71 : decode cX6_take 71 = .ok (.ireturn, 1) := by decide +kernel
theorem dX6_take_72 : decode cX6_take 72 = .ok (.aload_n 0, 1) := by decide +kernel
theorem dX6_take_73 : decode cX6_take 73 = .ok (.aload 4, 2) := by decide +kernel
theorem dX6_take_75 : decode cX6_take 75 = .ok (.aload 5, 2) := by decide +kernel
theorem dX6_take_77 : decode cX6_take 77 = .ok (.iconst 5, 1) := by decide +kernel
theorem dX6_take_78 : decode cX6_take 78 = .ok (.iload_n 3, 1) := by decide +kernel
theorem dX6_take_79 : decode cX6_take 79 = .ok (.lconst 0, 1) := by decide +kernel
theorem dX6_take_80 : decode cX6_take 80 = .ok (.invokevirtual 89, 3) := by decide +kernel
theorem dX6_take_83 : decode cX6_take 83 = .ok (.ireturn, 1) := by decide +kernel
theorem cvX6_take : CV yX6_take cX6_take 7 (some .int) 7 3 := ⟨kw_415, kw_416, kw_1, kw_417, ⟨_, _, rfl⟩, by decide, by decide +kernel, by decide +kernel, by decide +kernel⟩
def fX6_take_b83 (em mi : Nat) (t0 : Int32) (sz : Nat) (ns : Nat) (sh : Sh) (d : Dt) : Option (Int32 × Wl) := some (t0, sz, ns, sh, d)

def fX6_take_b0 (em mi : Nat) (x0 : Nat) (x1 : Int32) (x2 : Int32) (x3 : Int32) (sz : Nat) (ns : Nat) (sh : Sh) (d : Dt) : Option (Int32 × Wl) := bd (kc sh 8 x0) fun _ => bd (fX6_handAt sh d x0 x1) fun r3 => bd (fX6_pageAt sh d x0 x2) fun r5 => on r3 (some ((-1 : Int32), sz, ns, sh, d)) (fun a6 => on r5 (some ((-1 : Int32), sz, ns, sh, d)) (fun a7 => bd (fX6_isThing sh d x3) fun r9 => if (bI r9) = 0 then (some ((-1 : Int32), sz, ns, sh, d)) else (bd2 (fX6_refusalToChange sh d x0 (some a6) (some a7) (3 : Int32)) fun r12 d13 => if r12 = 0 then (bd (gR sh d13 3 97 a6) fun v15 => bd (kc sh 5 a7) fun _ => bd2 (fX3_timesIn sh d13 a7 v15 x3) fun r18 d19 => if r18 = 0 then (bd2 (fX6_found sh d19 x0 (2 : Int32)) fun r25 d26 => some (r25, sz, ns, sh, d26)) else (bw2 (fX6_make em mi x0 (some a6) (some a7) (5 : Int32) x3 (0 : Int64) sz ns sh d19) fun r22 szq23 nsq23 shq23 dq23 => fX6_take_b83 em mi r22 szq23 nsq23 shq23 dq23)) else (some (r12, sz, ns, sh, d13)))))

def fX6_take (em mi : Nat) (x0 : Nat) (x1 : Int32) (x2 : Int32) (x3 : Int32) (sz ns : Nat) (sh : Sh) (d : Dt) : Option (Int32 × Wl) := fX6_take_b0 em mi x0 x1 x2 x3 sz ns sh d

set_option maxRecDepth 100000 in
set_option maxHeartbeats 4000000 in
theorem mX6_take_b83 (em mi : Nat) {r : Int32} {sz9 ns9 : Nat} {sh9 : Sh} {d9 : Dt} : ∀ (t0 : Int32) (sz : Nat) (ns : Nat) (sh : Sh) (d : Dt), fX6_take_b83 em mi t0 sz ns sh d = some (r, sz9, ns9, sh9, d9) → sz ≤ sz9 ∧ ns ≤ ns9 := by
  intro t0 sz ns sh d hf
  unfold fX6_take_b83 at hf
  cases hf
  exact ⟨Nat.le_refl _, Nat.le_refl _⟩

set_option maxRecDepth 100000 in
set_option maxHeartbeats 4000000 in
theorem mX6_take_b0 (em mi : Nat) {r : Int32} {sz9 ns9 : Nat} {sh9 : Sh} {d9 : Dt} : ∀ (x0 : Nat) (x1 : Int32) (x2 : Int32) (x3 : Int32) (sz : Nat) (ns : Nat) (sh : Sh) (d : Dt), fX6_take_b0 em mi x0 x1 x2 x3 sz ns sh d = some (r, sz9, ns9, sh9, d9) → sz ≤ sz9 ∧ ns ≤ ns9 := by
  intro x0 x1 x2 x3 sz ns sh d hf
  unfold fX6_take_b0 at hf
  obtain ⟨_, h1, hf⟩ := bd_s hf
  obtain ⟨r3, h2, hf⟩ := bd_s hf
  obtain ⟨r5, h4, hf⟩ := bd_s hf
  cases r3 with
  | none =>
    have hf := on_n hf
    cases hf
    exact ⟨Nat.le_refl _, Nat.le_refl _⟩
  | some a6 =>
    have hf := on_s hf
    cases r5 with
    | none =>
      have hf := on_n hf
      cases hf
      exact ⟨Nat.le_refl _, Nat.le_refl _⟩
    | some a7 =>
      have hf := on_s hf
      obtain ⟨r9, h8, hf⟩ := bd_s hf
      by_cases c_10 : (bI r9) = 0
      · have hf := if_t c_10 hf
        cases hf
        exact ⟨Nat.le_refl _, Nat.le_refl _⟩
      · have hf := if_f c_10 hf
        obtain ⟨r12, d13, h11, hf⟩ := bd2_s hf
        by_cases c_14 : r12 = 0
        · have hf := if_t c_14 hf
          obtain ⟨v15, hv15, hf⟩ := bd_s hf
          obtain ⟨_, h16, hf⟩ := bd_s hf
          obtain ⟨r18, d19, h17, hf⟩ := bd2_s hf
          by_cases c_20 : r18 = 0
          · have hf := if_t c_20 hf
            obtain ⟨r25, d26, h24, hf⟩ := bd2_s hf
            cases hf
            exact ⟨Nat.le_refl _, Nat.le_refl _⟩
          · have hf := if_f c_20 hf
            obtain ⟨r22, szq23, nsq23, shq23, dq23, h21, hf⟩ := bw2_s hf
            have hq := gX6_make em mi x0 (some a6) (some a7) (5 : Int32) x3 (0 : Int64) sz ns sh d19 h21
            have hm := mX6_take_b83 em mi r22 szq23 nsq23 shq23 dq23 hf
            omega
        · have hf := if_f c_14 hf
          cases hf
          exact ⟨Nat.le_refl _, Nat.le_refl _⟩

theorem gX6_take (em mi : Nat) (x0 : Nat) (x1 : Int32) (x2 : Int32) (x3 : Int32) (sz ns : Nat) (sh : Sh) (d : Dt) {r : Int32} {sz9 ns9 : Nat} {sh9 : Sh} {d9 : Dt} (hf : fX6_take em mi x0 x1 x2 x3 sz ns sh d = some (r, sz9, ns9, sh9, d9)) : sz ≤ sz9 ∧ ns ≤ ns9 := mX6_take_b0 em mi x0 x1 x2 x3 sz ns sh d hf

set_option maxRecDepth 100000 in
set_option maxHeartbeats 4000000 in
theorem wX6_take_b83 (C : mx p s m args meth c yX6_take cX6_take 7 (some .int) A D cy st) {r : Int32} {sz9 ns9 : Nat} {sh9 : Sh} {d9 : Dt} {mc ms : Nat} : ∀ (t0 : Int32) (sz : Nat) (ns : Nat) (sh : Sh) (d : Dt), fX6_take_b83 (st 1) (st 2) t0 sz ns sh d = some (r, sz9, ns9, sh9, d9) → ∀ {cu su : Nat}, sz9 + cu = sz + mc → ns9 + su = ns + ms → ∀ {H : Heap} {locs : List Loc} {ls : Array Slot}, HW A D cy sz sh d H → va_S A s.heap H locs → lv_has ls 7 [] → GA p l e s m args below meth c 8 188 mc ms A D cy (some (.int r)) sz9 sh9 d9 H locs cu su 83 ls [.int t0] := by
  have hx := C.1
  have hb := C.2.1
  intro t0 sz ns sh d hf cu su hcm hsm H locs ls hw hS hl
  have hm0 := mX6_take_b83 (st 1) (st 2) t0 sz ns sh d hf
  unfold fX6_take_b83 at hf
  cases hf
  obtain rfl : mc = cu := by omega
  obtain rfl : ms = su := by omega
  exact rt_i C hw hS dX6_take_83

set_option maxRecDepth 100000 in
set_option maxHeartbeats 4000000 in
theorem wX6_take_b0 (C : mx p s m args meth c yX6_take cX6_take 7 (some .int) A D cy st) {r : Int32} {sz9 ns9 : Nat} {sh9 : Sh} {d9 : Dt} {mc ms : Nat} : ∀ (x0 : Nat) (x1 : Int32) (x2 : Int32) (x3 : Int32) (sz : Nat) (ns : Nat) (sh : Sh) (d : Dt), fX6_take_b0 (st 1) (st 2) x0 x1 x2 x3 sz ns sh d = some (r, sz9, ns9, sh9, d9) → ∀ {cu su : Nat}, sz9 + cu = sz + mc → ns9 + su = ns + ms → ∀ {H : Heap} {locs : List Loc} {ls : Array Slot}, HW A D cy sz sh d H → va_S A s.heap H locs → lv_has ls 7 [(0, .ref x0), (1, .int x1), (2, .int x2), (3, .int x3)] → GA p l e s m args below meth c 8 188 mc ms A D cy (some (.int r)) sz9 sh9 d9 H locs cu su 0 ls [] := by
  have hx := C.1
  have hb := C.2.1
  intro x0 x1 x2 x3 sz ns sh d hf cu su hcm hsm H locs ls hw hS hl
  have hm0 := mX6_take_b0 (st 1) (st 2) x0 x1 x2 x3 sz ns sh d hf
  unfold fX6_take_b0 at hf
  refine lv_aload_n hx hb dX6_take_0 rfl (lv_at hl 0 rfl) ?_
  refine lv_iload_n hx hb dX6_take_1 rfl (lv_at hl 1 rfl) ?_
  obtain ⟨_, h1, hf⟩ := bd_s hf
  obtain ⟨r3, h2, hf⟩ := bd_s hf
  refine cl_V0 C hw hS (tX6_handAt l A D cy st sz sh d x0 x1 h2) cvX6_handAt kw_233 (kc_k h1) ⟨(Nat.le_of_ble_eq_true rfl), (Nat.le_of_ble_eq_true rfl)⟩ hl.1 rfl (Nat.le_of_ble_eq_true rfl) dX6_take_2 ⟨by show _ ≤ mc; omega, by show _ ≤ ms; omega⟩ (fun H locs hw hS => ?_)
  refine lq_astore (x := r3) (lv' := [(4, va_rf r3), (0, .ref x0), (1, .int x1), (2, .int x2), (3, .int x3)]) hx hb dX6_take_5 hl (by decide) rfl (fun ls hl => ?_)
  refine lv_aload_n hx hb dX6_take_7 rfl (lv_at hl 1 rfl) ?_
  refine lv_iload_n hx hb dX6_take_8 rfl (lv_at hl 3 rfl) ?_
  obtain ⟨r5, h4, hf⟩ := bd_s hf
  refine cl_V0 C hw hS (tX6_pageAt l A D cy st sz sh d x0 x2 h4) cvX6_pageAt kw_216 (kc_k h1) ⟨(Nat.le_of_ble_eq_true rfl), (Nat.le_of_ble_eq_true rfl)⟩ hl.1 rfl (Nat.le_of_ble_eq_true rfl) dX6_take_9 ⟨by show _ ≤ mc; omega, by show _ ≤ ms; omega⟩ (fun H locs hw hS => ?_)
  refine lq_astore (i := 5) (x := r5) (lv' := [(5, va_rf r5), (4, va_rf r3), (0, .ref x0), (1, .int x1), (2, .int x2), (3, .int x3)]) hx hb dX6_take_12 hl (by decide) (by simp [va_rf_c, cat_i, cat_l, cat_r]) (fun ls hl => ?_)
  refine lq_aload hx hb dX6_take_14 (lv_at hl 1 rfl) ?_
  cases r3 with
  | none =>
    have hf := on_n hf
    refine lv_ifnullN (tgt := 31) hx hb dX6_take_16 (by decide) ?_
    refine lv_iconst (v := -1) hx hb dX6_take_31 (by decide) ?_
    cases hf
    obtain rfl : mc = cu := by omega
    obtain rfl : ms = su := by omega
    exact rt_i C hw hS dX6_take_32
  | some a6 =>
    have hf := on_s hf
    refine lv_ifnull hx hb dX6_take_16 ?_
    refine lq_aload hx hb dX6_take_19 (lv_at hl 0 rfl) ?_
    cases r5 with
    | none =>
      have hf := on_n hf
      refine lv_ifnullN (tgt := 31) hx hb dX6_take_21 (by decide) ?_
      refine lv_iconst (v := -1) hx hb dX6_take_31 (by decide) ?_
      cases hf
      obtain rfl : mc = cu := by omega
      obtain rfl : ms = su := by omega
      exact rt_i C hw hS dX6_take_32
    | some a7 =>
      have hf := on_s hf
      refine lv_ifnull hx hb dX6_take_21 ?_
      refine lv_iload_n hx hb dX6_take_24 rfl (lv_at hl 5 rfl) ?_
      obtain ⟨r9, h8, hf⟩ := bd_s hf
      refine cl_S0 C hw hS (tX6_isThing l A D cy st sz sh d x3 h8) csX6_isThing kw_411 ⟨(Nat.le_of_ble_eq_true rfl), (Nat.le_of_ble_eq_true rfl)⟩ hl.1 rfl (Nat.le_of_ble_eq_true rfl) dX6_take_25 ⟨by show _ ≤ mc; omega, by show _ ≤ ms; omega⟩ (fun H locs hw hS => ?_)
      refine lv_if_ne (tgt := 33) hx hb dX6_take_28 (by decide) (fun c_10 => ?_) (fun c_10 => ?_)
      · have hf := if_f c_10 hf
        refine lv_aload_n hx hb dX6_take_33 rfl (lv_at hl 2 rfl) ?_
        refine lq_aload hx hb dX6_take_34 (lv_at hl 1 rfl) ?_
        refine lq_aload hx hb dX6_take_36 (lv_at hl 0 rfl) ?_
        refine lv_iconst (v := 3) hx hb dX6_take_38 (by decide) ?_
        obtain ⟨r12, d13, h11, hf⟩ := bd2_s hf
        refine cl_V0 C hw hS (tX6_refusalToChange l A D cy st sz sh d x0 (some a6) (some a7) (3 : Int32) h11) cvX6_refusalToChange kw_241 (kc_k h1) ⟨(Nat.le_of_ble_eq_true rfl), (Nat.le_of_ble_eq_true rfl)⟩ hl.1 rfl (Nat.le_of_ble_eq_true rfl) dX6_take_39 ⟨by show _ ≤ mc; omega, by show _ ≤ ms; omega⟩ (fun H locs hw hS => ?_)
        refine lv_istore (i := 6) (lv' := [(6, .int r12), (5, va_rf (some a7)), (4, va_rf (some a6)), (0, .ref x0), (1, .int x1), (2, .int x2), (3, .int x3)]) hx hb dX6_take_42 hl (by decide) (by simp [va_rf_c, cat_i, cat_l, cat_r]) (fun ls hl => ?_)
        refine lv_iload hx hb dX6_take_44 (lv_at hl 0 rfl) ?_
        refine lv_if_eq (tgt := 52) hx hb dX6_take_46 (by decide) (fun c_14 => ?_) (fun c_14 => ?_)
        · have hf := if_t c_14 hf
          refine lq_aload hx hb dX6_take_52 (lv_at hl 1 rfl) ?_
          refine lq_aload hx hb dX6_take_54 (lv_at hl 2 rfl) ?_
          obtain ⟨v15, hv15, hf⟩ := bd_s hf
          refine gt_97 C hw hv15 kw_153 dX6_take_56 ?_
          refine lv_iload_n hx hb dX6_take_59 rfl (lv_at hl 6 rfl) ?_
          obtain ⟨_, h16, hf⟩ := bd_s hf
          obtain ⟨r18, d19, h17, hf⟩ := bd2_s hf
          refine cl_V0 C hw hS (tX3_timesIn l A D cy st sz sh d13 a7 v15 x3 h17) cvX3_timesIn kw_418 (kc_k h16) ⟨(Nat.le_of_ble_eq_true rfl), (Nat.le_of_ble_eq_true rfl)⟩ hl.1 rfl (Nat.le_of_ble_eq_true rfl) dX6_take_60 ⟨by show _ ≤ mc; omega, by show _ ≤ ms; omega⟩ (fun H locs hw hS => ?_)
          refine lv_if_ne (tgt := 72) hx hb dX6_take_63 (by decide) (fun c_20 => ?_) (fun c_20 => ?_)
          · have hf := if_f c_20 hf
            refine lv_aload_n hx hb dX6_take_72 rfl (lv_at hl 3 rfl) ?_
            refine lq_aload hx hb dX6_take_73 (lv_at hl 2 rfl) ?_
            refine lq_aload hx hb dX6_take_75 (lv_at hl 1 rfl) ?_
            refine lv_iconst (v := 5) hx hb dX6_take_77 (by decide) ?_
            refine lv_iload_n hx hb dX6_take_78 rfl (lv_at hl 6 rfl) ?_
            refine lv_lconst (v := 0) hx hb dX6_take_79 (by decide) ?_
            obtain ⟨r22, szq23, nsq23, shq23, dq23, h21, hf⟩ := bw2_s hf
            have hm := mX6_take_b83 (st 1) (st 2) r22 szq23 nsq23 shq23 dq23 hf
            have hq := gX6_make (st 1) (st 2) x0 (some a6) (some a7) (5 : Int32) x3 (0 : Int64) sz ns sh d19 h21
            refine cl_V C hw hS (tX6_make l A D cy st x0 (some a6) (some a7) (5 : Int32) x3 (0 : Int64) sz ns sh d19 h21) cvX6_make kw_262 (kc_k h1) ⟨(Nat.le_of_ble_eq_true rfl), (Nat.le_of_ble_eq_true rfl)⟩ hl.1 rfl (Nat.le_of_ble_eq_true rfl) dX6_take_80 ⟨by show _ ≤ mc; omega, by show _ ≤ ms; omega⟩ (fun H locs hw hS => ?_)
            exact wX6_take_b83 C r22 szq23 nsq23 shq23 dq23 hf (by omega) (by omega) hw hS (lv_sub hl [] rfl)
          · have hf := if_t c_20 hf
            refine lv_aload_n hx hb dX6_take_66 rfl (lv_at hl 3 rfl) ?_
            refine lv_iconst (v := 2) hx hb dX6_take_67 (by decide) ?_
            obtain ⟨r25, d26, h24, hf⟩ := bd2_s hf
            refine cl_V0 C hw hS (tX6_found l A D cy st sz sh d19 x0 (2 : Int32) h24) cvX6_found kw_258 (kc_k h1) ⟨(Nat.le_of_ble_eq_true rfl), (Nat.le_of_ble_eq_true rfl)⟩ hl.1 rfl (Nat.le_of_ble_eq_true rfl) dX6_take_68 ⟨by show _ ≤ mc; omega, by show _ ≤ ms; omega⟩ (fun H locs hw hS => ?_)
            cases hf
            obtain rfl : mc = cu := by omega
            obtain rfl : ms = su := by omega
            exact rt_i C hw hS dX6_take_71
        · have hf := if_f c_14 hf
          refine lv_iload hx hb dX6_take_49 (lv_at hl 0 rfl) ?_
          cases hf
          obtain rfl : mc = cu := by omega
          obtain rfl : ms = su := by omega
          exact rt_i C hw hS dX6_take_51
      · have hf := if_t c_10 hf
        refine lv_iconst (v := -1) hx hb dX6_take_31 (by decide) ?_
        cases hf
        obtain rfl : mc = cu := by omega
        obtain rfl : ms = su := by omega
        exact rt_i C hw hS dX6_take_32

set_option maxRecDepth 100000 in
set_option maxHeartbeats 4000000 in
theorem tX6_take (l : Launch) (A : Nat → Prop) (D : va_G) (cy : Nat → ClassId) (st : Nat → Nat) (x0 : Nat) (x1 : Int32) (x2 : Int32) (x3 : Int32) (sz ns : Nat) (sh : Sh) (d : Dt) {r : Int32} {sz9 ns9 : Nat} {sh9 : Sh} {d9 : Dt} (hf : fX6_take (st 1) (st 2) x0 x1 x2 x3 sz ns sh d = some (r, sz9, ns9, sh9, d9)) : Ct l yX6_take cX6_take 7 (some .int) 8 188 (sz9 - sz) (ns9 - ns) A D cy st [.ref x0, .int x1, .int x2, .int x3] sz sh d (some (.int r)) sz9 sh9 d9 := by
  have hm := gX6_take (st 1) (st 2) x0 x1 x2 x3 sz ns sh d hf
  exact ct_of (by decide) (Nat.le_of_ble_eq_true rfl) (fun p e s m args below meth c C hw hS ls hl => wX6_take_b0 C x0 x1 x2 x3 sz ns sh d hf (by omega) (by omega) hw hS hl)
theorem dX6_makeOfRights_0 : decode cX6_makeOfRights 0 = .ok (.aload_n 0, 1) := by decide +kernel
theorem dX6_makeOfRights_1 : decode cX6_makeOfRights 1 = .ok (.aload_n 1, 1) := by decide +kernel
theorem dX6_makeOfRights_2 : decode cX6_makeOfRights 2 = .ok (.aload_n 2, 1) := by decide +kernel
theorem dX6_makeOfRights_3 : decode cX6_makeOfRights 3 = .ok (.iconst 5, 1) := by decide +kernel
theorem dX6_makeOfRights_4 : decode cX6_makeOfRights 4 = .ok (.invokevirtual 85, 3) := by decide +kernel
theorem dX6_makeOfRights_7 : decode cX6_makeOfRights 7 = .ok (.istore 7, 2) := by decide +kernel
theorem dX6_makeOfRights_9 : decode cX6_makeOfRights 9 = .ok (.iload 7, 2) := by decide +kernel
theorem dX6_makeOfRights_11 : decode cX6_makeOfRights 11 = .ok (.ifCond .eq 6, 3) := by decide +kernel
theorem dX6_makeOfRights_14 : decode cX6_makeOfRights 14 = .ok (.iload 7, 2) := by decide +kernel
theorem dX6_makeOfRights_16 : decode cX6_makeOfRights 16 = .ok (.ireturn, 1) := by decide +kernel
theorem dX6_makeOfRights_17 : decode cX6_makeOfRights 17 = .ok (.aload_n 2, 1) := by decide +kernel
theorem dX6_makeOfRights_18 : decode cX6_makeOfRights 18 = .ok (.aload_n 1, 1) := by decide +kernel
theorem dX6_makeOfRights_19 : decode cX6_makeOfRights 19 = .ok (.getfield 107, 3) := by decide +kernel
theorem dX6_makeOfRights_22 : decode cX6_makeOfRights 22 = .ok (.aload_n 1, 1) := by decide +kernel
theorem dX6_makeOfRights_23 : decode cX6_makeOfRights 23 = .ok (.getfield 288, 3) := by decide +kernel
theorem dX6_makeOfRights_26 : decode cX6_makeOfRights 26 = .ok (.invokevirtual 209, 3) := by decide +kernel
theorem dX6_makeOfRights_29 : decode cX6_makeOfRights 29 = .ok (.lload 5, 2) := by decide +kernel
theorem dX6_makeOfRights_31 : decode cX6_makeOfRights 31 = .ok (.lcmp, 1) := by decide +kernel
theorem dX6_makeOfRights_32 : decode cX6_makeOfRights 32 = .ok (.ifCond .ge 9, 3) := by decide +kernel
theorem dX6_makeOfRights_35 : decode cX6_makeOfRights 35 = .ok (.aload_n 0, 1) := by decide +kernel
theorem dX6_makeOfRights_36 : decode cX6_makeOfRights 36 = .ok (.iconst 2, 1) := by decide +kernel
theorem dX6_makeOfRights_37 : decode cX6_makeOfRights 37 = .ok (.invokevirtual 100, 3) := by decide +kernel
theorem dX6_makeOfRights_40 : decode cX6_makeOfRights 40 = .ok (.ireturn, 1) := by decide +kernel
theorem dX6_makeOfRights_41 : decode cX6_makeOfRights 41 = .ok (.aload_n 0, 1) := by decide +kernel
theorem dX6_makeOfRights_42 : decode cX6_makeOfRights 42 = .ok (.aload_n 1, 1) := by decide +kernel
theorem dX6_makeOfRights_43 : decode cX6_makeOfRights 43 = .ok (.aload_n 2, 1) := by decide +kernel
theorem dX6_makeOfRights_44 : decode cX6_makeOfRights 44 = .ok (.iload_n 3, 1) := by decide +kernel
theorem dX6_makeOfRights_45 : decode cX6_makeOfRights 45 = .ok (.iload 4, 2) := by decide +kernel
theorem dX6_makeOfRights_47 : decode cX6_makeOfRights 47 = .ok (.lload 5, 2) := by decide +kernel
theorem dX6_makeOfRights_49 : decode cX6_makeOfRights 49 = .ok (.invokevirtual 89, 3) := by decide +kernel
theorem dX6_makeOfRights_52 : decode cX6_makeOfRights 52 = .ok (.ireturn, 1) := by decide +kernel
theorem cvX6_makeOfRights : CV yX6_makeOfRights cX6_makeOfRights 8 (some .int) 7 5 := ⟨kw_445, ks_11, kw_1, kw_446, ⟨_, _, rfl⟩, by decide, by decide +kernel, by decide +kernel, by decide +kernel⟩
def fX6_makeOfRights_b52 (em mi : Nat) (t0 : Int32) (sz : Nat) (ns : Nat) (sh : Sh) (d : Dt) : Option (Int32 × Wl) := some (t0, sz, ns, sh, d)

def fX6_makeOfRights_b0 (em mi : Nat) (x0 : Nat) (x1 : Option Nat) (x2 : Option Nat) (x3 : Int32) (x4 : Int32) (x5 : Int64) (sz : Nat) (ns : Nat) (sh : Sh) (d : Dt) : Option (Int32 × Wl) := bd (kc sh 8 x0) fun _ => bd2 (fX6_refusalToChange sh d x0 x1 x2 (5 : Int32)) fun r3 d4 => if r3 = 0 then (bd x1 fun a6 => bd (gR sh d4 3 97 a6) fun v7 => bd (gI sh d4 3 96 a6) fun v8 => bd x2 fun a9 => bd (kc sh 5 a9) fun _ => bd (fX3_rightsOf sh d4 a9 v7 v8) fun r12 => if 0 ≤ (lg_cmp r12 x5) then (bw2 (fX6_make em mi x0 (some a6) (some a9) x3 x4 x5 sz ns sh d4) fun r15 szq16 nsq16 shq16 dq16 => fX6_makeOfRights_b52 em mi r15 szq16 nsq16 shq16 dq16) else (bd2 (fX6_found sh d4 x0 (2 : Int32)) fun r18 d19 => some (r18, sz, ns, sh, d19))) else (some (r3, sz, ns, sh, d4))

def fX6_makeOfRights (em mi : Nat) (x0 : Nat) (x1 : Option Nat) (x2 : Option Nat) (x3 : Int32) (x4 : Int32) (x5 : Int64) (sz ns : Nat) (sh : Sh) (d : Dt) : Option (Int32 × Wl) := fX6_makeOfRights_b0 em mi x0 x1 x2 x3 x4 x5 sz ns sh d

set_option maxRecDepth 100000 in
set_option maxHeartbeats 4000000 in
theorem mX6_makeOfRights_b52 (em mi : Nat) {r : Int32} {sz9 ns9 : Nat} {sh9 : Sh} {d9 : Dt} : ∀ (t0 : Int32) (sz : Nat) (ns : Nat) (sh : Sh) (d : Dt), fX6_makeOfRights_b52 em mi t0 sz ns sh d = some (r, sz9, ns9, sh9, d9) → sz ≤ sz9 ∧ ns ≤ ns9 := by
  intro t0 sz ns sh d hf
  unfold fX6_makeOfRights_b52 at hf
  cases hf
  exact ⟨Nat.le_refl _, Nat.le_refl _⟩

set_option maxRecDepth 100000 in
set_option maxHeartbeats 4000000 in
theorem mX6_makeOfRights_b0 (em mi : Nat) {r : Int32} {sz9 ns9 : Nat} {sh9 : Sh} {d9 : Dt} : ∀ (x0 : Nat) (x1 : Option Nat) (x2 : Option Nat) (x3 : Int32) (x4 : Int32) (x5 : Int64) (sz : Nat) (ns : Nat) (sh : Sh) (d : Dt), fX6_makeOfRights_b0 em mi x0 x1 x2 x3 x4 x5 sz ns sh d = some (r, sz9, ns9, sh9, d9) → sz ≤ sz9 ∧ ns ≤ ns9 := by
  intro x0 x1 x2 x3 x4 x5 sz ns sh d hf
  unfold fX6_makeOfRights_b0 at hf
  obtain ⟨_, h1, hf⟩ := bd_s hf
  obtain ⟨r3, d4, h2, hf⟩ := bd2_s hf
  by_cases c_5 : r3 = 0
  · have hf := if_t c_5 hf
    obtain ⟨a6, ea6, hg⟩ := bd_s hf
    clear hf
    subst ea6
    have hf := hg
    clear hg
    obtain ⟨v7, hv7, hf⟩ := bd_s hf
    obtain ⟨v8, hv8, hf⟩ := bd_s hf
    obtain ⟨a9, ea9, hg⟩ := bd_s hf
    clear hf
    subst ea9
    have hf := hg
    clear hg
    obtain ⟨_, h10, hf⟩ := bd_s hf
    obtain ⟨r12, h11, hf⟩ := bd_s hf
    by_cases c_13 : 0 ≤ (lg_cmp r12 x5)
    · have hf := if_t c_13 hf
      obtain ⟨r15, szq16, nsq16, shq16, dq16, h14, hf⟩ := bw2_s hf
      have hq := gX6_make em mi x0 (some a6) (some a9) x3 x4 x5 sz ns sh d4 h14
      have hm := mX6_makeOfRights_b52 em mi r15 szq16 nsq16 shq16 dq16 hf
      omega
    · have hf := if_f c_13 hf
      obtain ⟨r18, d19, h17, hf⟩ := bd2_s hf
      cases hf
      exact ⟨Nat.le_refl _, Nat.le_refl _⟩
  · have hf := if_f c_5 hf
    cases hf
    exact ⟨Nat.le_refl _, Nat.le_refl _⟩

theorem gX6_makeOfRights (em mi : Nat) (x0 : Nat) (x1 : Option Nat) (x2 : Option Nat) (x3 : Int32) (x4 : Int32) (x5 : Int64) (sz ns : Nat) (sh : Sh) (d : Dt) {r : Int32} {sz9 ns9 : Nat} {sh9 : Sh} {d9 : Dt} (hf : fX6_makeOfRights em mi x0 x1 x2 x3 x4 x5 sz ns sh d = some (r, sz9, ns9, sh9, d9)) : sz ≤ sz9 ∧ ns ≤ ns9 := mX6_makeOfRights_b0 em mi x0 x1 x2 x3 x4 x5 sz ns sh d hf

set_option maxRecDepth 100000 in
set_option maxHeartbeats 4000000 in
theorem wX6_makeOfRights_b52 (C : mx p s m args meth c yX6_makeOfRights cX6_makeOfRights 8 (some .int) A D cy st) {r : Int32} {sz9 ns9 : Nat} {sh9 : Sh} {d9 : Dt} {mc ms : Nat} : ∀ (t0 : Int32) (sz : Nat) (ns : Nat) (sh : Sh) (d : Dt), fX6_makeOfRights_b52 (st 1) (st 2) t0 sz ns sh d = some (r, sz9, ns9, sh9, d9) → ∀ {cu su : Nat}, sz9 + cu = sz + mc → ns9 + su = ns + ms → ∀ {H : Heap} {locs : List Loc} {ls : Array Slot}, HW A D cy sz sh d H → va_S A s.heap H locs → lv_has ls 8 [] → GA p l e s m args below meth c 8 188 mc ms A D cy (some (.int r)) sz9 sh9 d9 H locs cu su 52 ls [.int t0] := by
  have hx := C.1
  have hb := C.2.1
  intro t0 sz ns sh d hf cu su hcm hsm H locs ls hw hS hl
  have hm0 := mX6_makeOfRights_b52 (st 1) (st 2) t0 sz ns sh d hf
  unfold fX6_makeOfRights_b52 at hf
  cases hf
  obtain rfl : mc = cu := by omega
  obtain rfl : ms = su := by omega
  exact rt_i C hw hS dX6_makeOfRights_52

set_option maxRecDepth 100000 in
set_option maxHeartbeats 4000000 in
theorem wX6_makeOfRights_b0 (C : mx p s m args meth c yX6_makeOfRights cX6_makeOfRights 8 (some .int) A D cy st) {r : Int32} {sz9 ns9 : Nat} {sh9 : Sh} {d9 : Dt} {mc ms : Nat} : ∀ (x0 : Nat) (x1 : Option Nat) (x2 : Option Nat) (x3 : Int32) (x4 : Int32) (x5 : Int64) (sz : Nat) (ns : Nat) (sh : Sh) (d : Dt), fX6_makeOfRights_b0 (st 1) (st 2) x0 x1 x2 x3 x4 x5 sz ns sh d = some (r, sz9, ns9, sh9, d9) → ∀ {cu su : Nat}, sz9 + cu = sz + mc → ns9 + su = ns + ms → ∀ {H : Heap} {locs : List Loc} {ls : Array Slot}, HW A D cy sz sh d H → va_S A s.heap H locs → lv_has ls 8 [(0, .ref x0), (1, va_rf x1), (2, va_rf x2), (3, .int x3), (4, .int x4), (5, .long x5)] → GA p l e s m args below meth c 8 188 mc ms A D cy (some (.int r)) sz9 sh9 d9 H locs cu su 0 ls [] := by
  have hx := C.1
  have hb := C.2.1
  intro x0 x1 x2 x3 x4 x5 sz ns sh d hf cu su hcm hsm H locs ls hw hS hl
  have hm0 := mX6_makeOfRights_b0 (st 1) (st 2) x0 x1 x2 x3 x4 x5 sz ns sh d hf
  unfold fX6_makeOfRights_b0 at hf
  refine lv_aload_n hx hb dX6_makeOfRights_0 rfl (lv_at hl 0 rfl) ?_
  refine lq_aload_n hx hb dX6_makeOfRights_1 rfl (lv_at hl 1 rfl) ?_
  refine lq_aload_n hx hb dX6_makeOfRights_2 rfl (lv_at hl 2 rfl) ?_
  refine lv_iconst (v := 5) hx hb dX6_makeOfRights_3 (by decide) ?_
  obtain ⟨_, h1, hf⟩ := bd_s hf
  obtain ⟨r3, d4, h2, hf⟩ := bd2_s hf
  refine cl_V0 C hw hS (tX6_refusalToChange l A D cy st sz sh d x0 x1 x2 (5 : Int32) h2) cvX6_refusalToChange kw_241 (kc_k h1) ⟨(Nat.le_of_ble_eq_true rfl), (Nat.le_of_ble_eq_true rfl)⟩ hl.1 rfl (Nat.le_of_ble_eq_true rfl) dX6_makeOfRights_4 ⟨by show _ ≤ mc; omega, by show _ ≤ ms; omega⟩ (fun H locs hw hS => ?_)
  refine lv_istore (lv' := [(7, .int r3), (0, .ref x0), (1, va_rf x1), (2, va_rf x2), (3, .int x3), (4, .int x4), (5, .long x5)]) hx hb dX6_makeOfRights_7 hl (by decide) rfl (fun ls hl => ?_)
  refine lv_iload hx hb dX6_makeOfRights_9 (lv_at hl 0 rfl) ?_
  refine lv_if_eq (tgt := 17) hx hb dX6_makeOfRights_11 (by decide) (fun c_5 => ?_) (fun c_5 => ?_)
  · have hf := if_t c_5 hf
    refine lq_aload_n hx hb dX6_makeOfRights_17 rfl (lv_at hl 3 rfl) ?_
    refine lq_aload_n hx hb dX6_makeOfRights_18 rfl (lv_at hl 2 rfl) ?_
    obtain ⟨a6, ea6, hg⟩ := bd_s hf
    clear hf
    subst ea6
    have hf := hg
    clear hg
    obtain ⟨v7, hv7, hf⟩ := bd_s hf
    refine gt_97 C hw hv7 kw_153 dX6_makeOfRights_19 ?_
    refine lq_aload_n hx hb dX6_makeOfRights_22 rfl (lv_at hl 2 rfl) ?_
    obtain ⟨v8, hv8, hf⟩ := bd_s hf
    refine gt_96 C hw hv8 kw_150 dX6_makeOfRights_23 ?_
    obtain ⟨a9, ea9, hg⟩ := bd_s hf
    clear hf
    subst ea9
    have hf := hg
    clear hg
    obtain ⟨_, h10, hf⟩ := bd_s hf
    obtain ⟨r12, h11, hf⟩ := bd_s hf
    refine cl_V0 C hw hS (tX3_rightsOf l A D cy st sz sh d4 a9 v7 v8 h11) cvX3_rightsOf kw_447 (kc_k h10) ⟨(Nat.le_of_ble_eq_true rfl), (Nat.le_of_ble_eq_true rfl)⟩ hl.1 rfl (Nat.le_of_ble_eq_true rfl) dX6_makeOfRights_26 ⟨by show _ ≤ mc; omega, by show _ ≤ ms; omega⟩ (fun H locs hw hS => ?_)
    refine lv_lload hx hb dX6_makeOfRights_29 (lv_at hl 6 rfl) ?_
    refine W.lcmp hx hb dX6_makeOfRights_31 ?_
    refine lv_if_ge (tgt := 41) hx hb dX6_makeOfRights_32 (by decide) (fun c_13 => ?_) (fun c_13 => ?_)
    · have hf := if_t c_13 hf
      refine lv_aload_n hx hb dX6_makeOfRights_41 rfl (lv_at hl 1 rfl) ?_
      refine lq_aload_n hx hb dX6_makeOfRights_42 rfl (lv_at hl 2 rfl) ?_
      refine lq_aload_n hx hb dX6_makeOfRights_43 rfl (lv_at hl 3 rfl) ?_
      refine lv_iload_n hx hb dX6_makeOfRights_44 rfl (lv_at hl 4 rfl) ?_
      refine lv_iload hx hb dX6_makeOfRights_45 (lv_at hl 5 rfl) ?_
      refine lv_lload hx hb dX6_makeOfRights_47 (lv_at hl 6 rfl) ?_
      obtain ⟨r15, szq16, nsq16, shq16, dq16, h14, hf⟩ := bw2_s hf
      have hm := mX6_makeOfRights_b52 (st 1) (st 2) r15 szq16 nsq16 shq16 dq16 hf
      have hq := gX6_make (st 1) (st 2) x0 (some a6) (some a9) x3 x4 x5 sz ns sh d4 h14
      refine cl_V C hw hS (tX6_make l A D cy st x0 (some a6) (some a9) x3 x4 x5 sz ns sh d4 h14) cvX6_make kw_262 (kc_k h1) ⟨(Nat.le_of_ble_eq_true rfl), (Nat.le_of_ble_eq_true rfl)⟩ hl.1 rfl (Nat.le_of_ble_eq_true rfl) dX6_makeOfRights_49 ⟨by show _ ≤ mc; omega, by show _ ≤ ms; omega⟩ (fun H locs hw hS => ?_)
      exact wX6_makeOfRights_b52 C r15 szq16 nsq16 shq16 dq16 hf (by omega) (by omega) hw hS (lv_sub hl [] rfl)
    · have hf := if_f c_13 hf
      refine lv_aload_n hx hb dX6_makeOfRights_35 rfl (lv_at hl 1 rfl) ?_
      refine lv_iconst (v := 2) hx hb dX6_makeOfRights_36 (by decide) ?_
      obtain ⟨r18, d19, h17, hf⟩ := bd2_s hf
      refine cl_V0 C hw hS (tX6_found l A D cy st sz sh d4 x0 (2 : Int32) h17) cvX6_found kw_258 (kc_k h1) ⟨(Nat.le_of_ble_eq_true rfl), (Nat.le_of_ble_eq_true rfl)⟩ hl.1 rfl (Nat.le_of_ble_eq_true rfl) dX6_makeOfRights_37 ⟨by show _ ≤ mc; omega, by show _ ≤ ms; omega⟩ (fun H locs hw hS => ?_)
      cases hf
      obtain rfl : mc = cu := by omega
      obtain rfl : ms = su := by omega
      exact rt_i C hw hS dX6_makeOfRights_40
  · have hf := if_f c_5 hf
    refine lv_iload hx hb dX6_makeOfRights_14 (lv_at hl 0 rfl) ?_
    cases hf
    obtain rfl : mc = cu := by omega
    obtain rfl : ms = su := by omega
    exact rt_i C hw hS dX6_makeOfRights_16

set_option maxRecDepth 100000 in
set_option maxHeartbeats 4000000 in
theorem tX6_makeOfRights (l : Launch) (A : Nat → Prop) (D : va_G) (cy : Nat → ClassId) (st : Nat → Nat) (x0 : Nat) (x1 : Option Nat) (x2 : Option Nat) (x3 : Int32) (x4 : Int32) (x5 : Int64) (sz ns : Nat) (sh : Sh) (d : Dt) {r : Int32} {sz9 ns9 : Nat} {sh9 : Sh} {d9 : Dt} (hf : fX6_makeOfRights (st 1) (st 2) x0 x1 x2 x3 x4 x5 sz ns sh d = some (r, sz9, ns9, sh9, d9)) : Ct l yX6_makeOfRights cX6_makeOfRights 8 (some .int) 8 188 (sz9 - sz) (ns9 - ns) A D cy st [.ref x0, va_rf x1, va_rf x2, .int x3, .int x4, .long x5] sz sh d (some (.int r)) sz9 sh9 d9 := by
  have hm := gX6_makeOfRights (st 1) (st 2) x0 x1 x2 x3 x4 x5 sz ns sh d hf
  exact ct_of (by decide) (by simp [lg_sl, va_rf_c, cat_i, cat_l, cat_r]) (fun p e s m args below meth c C hw hS ls hl => wX6_makeOfRights_b0 C x0 x1 x2 x3 x4 x5 sz ns sh d hf (by omega) (by omega) hw hS (by simpa [lv_args, va_rf_c, cat_i, cat_l, cat_r] using hl))
theorem dX6_give_0 : decode cX6_give 0 = .ok (.aload_n 0, 1) := by decide +kernel
theorem dX6_give_1 : decode cX6_give 1 = .ok (.iload_n 1, 1) := by decide +kernel
theorem dX6_give_2 : decode cX6_give 2 = .ok (.invokevirtual 74, 3) := by decide +kernel
theorem dX6_give_5 : decode cX6_give 5 = .ok (.astore 6, 2) := by decide +kernel
theorem dX6_give_7 : decode cX6_give 7 = .ok (.aload_n 0, 1) := by decide +kernel
theorem dX6_give_8 : decode cX6_give 8 = .ok (.iload_n 2, 1) := by decide +kernel
theorem dX6_give_9 : decode cX6_give 9 = .ok (.invokevirtual 63, 3) := by decide +kernel
theorem dX6_give_12 : decode cX6_give 12 = .ok (.astore 7, 2) := by decide +kernel
theorem dX6_give_14 : decode cX6_give 14 = .ok (.aload 6, 2) := by decide +kernel
theorem dX6_give_16 : decode cX6_give 16 = .ok (.ifnull 29, 3) := by decide +kernel
theorem dX6_give_19 : decode cX6_give 19 = .ok (.aload 7, 2) := by decide +kernel
theorem dX6_give_21 : decode cX6_give 21 = .ok (.ifnull 24, 3) := by decide +kernel
theorem dX6_give_24 : decode cX6_give 24 = .ok (.aload_n 0, 1) := by decide +kernel
theorem dX6_give_25 : decode cX6_give 25 = .ok (.iload_n 3, 1) := by decide +kernel
theorem dX6_give_26 : decode cX6_give 26 = .ok (.invokevirtual 74, 3) := by decide +kernel
theorem dX6_give_29 : decode cX6_give 29 = .ok (.ifnull 16, 3) := by decide +kernel
theorem dX6_give_32 : decode cX6_give 32 = .ok (.iload_n 1, 1) := by decide +kernel
theorem dX6_give_33 : decode cX6_give 33 = .ok (.iload_n 3, 1) := by decide +kernel
theorem dX6_give_34 : decode cX6_give 34 = .ok (.if_icmp .eq 11, 3) := by decide +kernel
theorem dX6_give_37 : decode cX6_give 37 = .ok (.lload 4, 2) := by decide +kernel
theorem dX6_give_39 : decode cX6_give 39 = .ok (.invokestatic 96, 3) := by decide +kernel
theorem dX6_give_42 : decode cX6_give 42 = .ok (.ifCond .ne 5, 3) := by decide +kernel
theorem dX6_give_45 : decode cX6_give 45 = .ok (.iconst (-1), 1) := by decide +kernel
theorem dX6_give_46 : decode cX6_give 46 = .ok (.ireturn, 1) := by decide +kernel
theorem dX6_give_47 : decode cX6_give 47 = .ok (.aload_n 0, 1) := by decide +kernel
theorem dX6_give_48 : decode cX6_give 48 = .ok (.aload 6, 2) := by decide +kernel
theorem dX6_give_50 : decode cX6_give 50 = .ok (.aload 7, 2) := by decide +kernel
theorem dX6_give_52 : decode cX6_give 52 = .ok (.iconst 2, 1) := by decide +kernel
theorem dX6_give_53 : decode cX6_give 53 = .ok (.iload_n 3, 1) := by decide +kernel
theorem dX6_give_54 : decode cX6_give 54 = .ok (.lload 4, 2) := by decide +kernel
theorem dX6_give_56 : decode cX6_give 56 = .ok (.invokevirtual 115, 3) := by decide +kernel
theorem dX6_give_59 : decode cX6_give 59 = .ok (.ireturn, 1) := by decide +kernel
theorem cvX6_give : CV yX6_give cX6_give 8 (some .int) 7 4 := ⟨kw_440, kw_441, kw_1, kw_442, ⟨_, _, rfl⟩, by decide, by decide +kernel, by decide +kernel, by decide +kernel⟩
def fX6_give_b59 (em mi : Nat) (t0 : Int32) (sz : Nat) (ns : Nat) (sh : Sh) (d : Dt) : Option (Int32 × Wl) := some (t0, sz, ns, sh, d)

def fX6_give_b0 (em mi : Nat) (x0 : Nat) (x1 : Int32) (x2 : Int32) (x3 : Int32) (x4 : Int64) (sz : Nat) (ns : Nat) (sh : Sh) (d : Dt) : Option (Int32 × Wl) := bd (kc sh 8 x0) fun _ => bd (fX6_handAt sh d x0 x1) fun r3 => bd (fX6_pageAt sh d x0 x2) fun r5 => on r3 (some ((-1 : Int32), sz, ns, sh, d)) (fun a6 => on r5 (some ((-1 : Int32), sz, ns, sh, d)) (fun a7 => bd (fX6_handAt sh d x0 x3) fun r9 => on r9 (some ((-1 : Int32), sz, ns, sh, d)) (fun a10 => if x1 = x3 then (some ((-1 : Int32), sz, ns, sh, d)) else (bd (fX6_isAmount sh d x4) fun r13 => if (bI r13) = 0 then (some ((-1 : Int32), sz, ns, sh, d)) else (bw2 (fX6_makeOfRights em mi x0 (some a6) (some a7) (2 : Int32) x3 x4 sz ns sh d) fun r16 szq17 nsq17 shq17 dq17 => fX6_give_b59 em mi r16 szq17 nsq17 shq17 dq17)))))

def fX6_give (em mi : Nat) (x0 : Nat) (x1 : Int32) (x2 : Int32) (x3 : Int32) (x4 : Int64) (sz ns : Nat) (sh : Sh) (d : Dt) : Option (Int32 × Wl) := fX6_give_b0 em mi x0 x1 x2 x3 x4 sz ns sh d

set_option maxRecDepth 100000 in
set_option maxHeartbeats 4000000 in
theorem mX6_give_b59 (em mi : Nat) {r : Int32} {sz9 ns9 : Nat} {sh9 : Sh} {d9 : Dt} : ∀ (t0 : Int32) (sz : Nat) (ns : Nat) (sh : Sh) (d : Dt), fX6_give_b59 em mi t0 sz ns sh d = some (r, sz9, ns9, sh9, d9) → sz ≤ sz9 ∧ ns ≤ ns9 := by
  intro t0 sz ns sh d hf
  unfold fX6_give_b59 at hf
  cases hf
  exact ⟨Nat.le_refl _, Nat.le_refl _⟩

set_option maxRecDepth 100000 in
set_option maxHeartbeats 4000000 in
theorem mX6_give_b0 (em mi : Nat) {r : Int32} {sz9 ns9 : Nat} {sh9 : Sh} {d9 : Dt} : ∀ (x0 : Nat) (x1 : Int32) (x2 : Int32) (x3 : Int32) (x4 : Int64) (sz : Nat) (ns : Nat) (sh : Sh) (d : Dt), fX6_give_b0 em mi x0 x1 x2 x3 x4 sz ns sh d = some (r, sz9, ns9, sh9, d9) → sz ≤ sz9 ∧ ns ≤ ns9 := by
  intro x0 x1 x2 x3 x4 sz ns sh d hf
  unfold fX6_give_b0 at hf
  obtain ⟨_, h1, hf⟩ := bd_s hf
  obtain ⟨r3, h2, hf⟩ := bd_s hf
  obtain ⟨r5, h4, hf⟩ := bd_s hf
  cases r3 with
  | none =>
    have hf := on_n hf
    cases hf
    exact ⟨Nat.le_refl _, Nat.le_refl _⟩
  | some a6 =>
    have hf := on_s hf
    cases r5 with
    | none =>
      have hf := on_n hf
      cases hf
      exact ⟨Nat.le_refl _, Nat.le_refl _⟩
    | some a7 =>
      have hf := on_s hf
      obtain ⟨r9, h8, hf⟩ := bd_s hf
      cases r9 with
      | none =>
        have hf := on_n hf
        cases hf
        exact ⟨Nat.le_refl _, Nat.le_refl _⟩
      | some a10 =>
        have hf := on_s hf
        by_cases c_11 : x1 = x3
        · have hf := if_t c_11 hf
          cases hf
          exact ⟨Nat.le_refl _, Nat.le_refl _⟩
        · have hf := if_f c_11 hf
          obtain ⟨r13, h12, hf⟩ := bd_s hf
          by_cases c_14 : (bI r13) = 0
          · have hf := if_t c_14 hf
            cases hf
            exact ⟨Nat.le_refl _, Nat.le_refl _⟩
          · have hf := if_f c_14 hf
            obtain ⟨r16, szq17, nsq17, shq17, dq17, h15, hf⟩ := bw2_s hf
            have hq := gX6_makeOfRights em mi x0 (some a6) (some a7) (2 : Int32) x3 x4 sz ns sh d h15
            have hm := mX6_give_b59 em mi r16 szq17 nsq17 shq17 dq17 hf
            omega

theorem gX6_give (em mi : Nat) (x0 : Nat) (x1 : Int32) (x2 : Int32) (x3 : Int32) (x4 : Int64) (sz ns : Nat) (sh : Sh) (d : Dt) {r : Int32} {sz9 ns9 : Nat} {sh9 : Sh} {d9 : Dt} (hf : fX6_give em mi x0 x1 x2 x3 x4 sz ns sh d = some (r, sz9, ns9, sh9, d9)) : sz ≤ sz9 ∧ ns ≤ ns9 := mX6_give_b0 em mi x0 x1 x2 x3 x4 sz ns sh d hf

set_option maxRecDepth 100000 in
set_option maxHeartbeats 4000000 in
theorem wX6_give_b59 (C : mx p s m args meth c yX6_give cX6_give 8 (some .int) A D cy st) {r : Int32} {sz9 ns9 : Nat} {sh9 : Sh} {d9 : Dt} {mc ms : Nat} : ∀ (t0 : Int32) (sz : Nat) (ns : Nat) (sh : Sh) (d : Dt), fX6_give_b59 (st 1) (st 2) t0 sz ns sh d = some (r, sz9, ns9, sh9, d9) → ∀ {cu su : Nat}, sz9 + cu = sz + mc → ns9 + su = ns + ms → ∀ {H : Heap} {locs : List Loc} {ls : Array Slot}, HW A D cy sz sh d H → va_S A s.heap H locs → lv_has ls 8 [] → GA p l e s m args below meth c 9 215 mc ms A D cy (some (.int r)) sz9 sh9 d9 H locs cu su 59 ls [.int t0] := by
  have hx := C.1
  have hb := C.2.1
  intro t0 sz ns sh d hf cu su hcm hsm H locs ls hw hS hl
  have hm0 := mX6_give_b59 (st 1) (st 2) t0 sz ns sh d hf
  unfold fX6_give_b59 at hf
  cases hf
  obtain rfl : mc = cu := by omega
  obtain rfl : ms = su := by omega
  exact rt_i C hw hS dX6_give_59

set_option maxRecDepth 100000 in
set_option maxHeartbeats 4000000 in
theorem wX6_give_b0 (C : mx p s m args meth c yX6_give cX6_give 8 (some .int) A D cy st) {r : Int32} {sz9 ns9 : Nat} {sh9 : Sh} {d9 : Dt} {mc ms : Nat} : ∀ (x0 : Nat) (x1 : Int32) (x2 : Int32) (x3 : Int32) (x4 : Int64) (sz : Nat) (ns : Nat) (sh : Sh) (d : Dt), fX6_give_b0 (st 1) (st 2) x0 x1 x2 x3 x4 sz ns sh d = some (r, sz9, ns9, sh9, d9) → ∀ {cu su : Nat}, sz9 + cu = sz + mc → ns9 + su = ns + ms → ∀ {H : Heap} {locs : List Loc} {ls : Array Slot}, HW A D cy sz sh d H → va_S A s.heap H locs → lv_has ls 8 [(0, .ref x0), (1, .int x1), (2, .int x2), (3, .int x3), (4, .long x4)] → GA p l e s m args below meth c 9 215 mc ms A D cy (some (.int r)) sz9 sh9 d9 H locs cu su 0 ls [] := by
  have hx := C.1
  have hb := C.2.1
  intro x0 x1 x2 x3 x4 sz ns sh d hf cu su hcm hsm H locs ls hw hS hl
  have hm0 := mX6_give_b0 (st 1) (st 2) x0 x1 x2 x3 x4 sz ns sh d hf
  unfold fX6_give_b0 at hf
  refine lv_aload_n hx hb dX6_give_0 rfl (lv_at hl 0 rfl) ?_
  refine lv_iload_n hx hb dX6_give_1 rfl (lv_at hl 1 rfl) ?_
  obtain ⟨_, h1, hf⟩ := bd_s hf
  obtain ⟨r3, h2, hf⟩ := bd_s hf
  refine cl_V0 C hw hS (tX6_handAt l A D cy st sz sh d x0 x1 h2) cvX6_handAt kw_233 (kc_k h1) ⟨(Nat.le_of_ble_eq_true rfl), (Nat.le_of_ble_eq_true rfl)⟩ hl.1 rfl (Nat.le_of_ble_eq_true rfl) dX6_give_2 ⟨by show _ ≤ mc; omega, by show _ ≤ ms; omega⟩ (fun H locs hw hS => ?_)
  refine lq_astore (x := r3) (lv' := [(6, va_rf r3), (0, .ref x0), (1, .int x1), (2, .int x2), (3, .int x3), (4, .long x4)]) hx hb dX6_give_5 hl (by decide) rfl (fun ls hl => ?_)
  refine lv_aload_n hx hb dX6_give_7 rfl (lv_at hl 1 rfl) ?_
  refine lv_iload_n hx hb dX6_give_8 rfl (lv_at hl 3 rfl) ?_
  obtain ⟨r5, h4, hf⟩ := bd_s hf
  refine cl_V0 C hw hS (tX6_pageAt l A D cy st sz sh d x0 x2 h4) cvX6_pageAt kw_216 (kc_k h1) ⟨(Nat.le_of_ble_eq_true rfl), (Nat.le_of_ble_eq_true rfl)⟩ hl.1 rfl (Nat.le_of_ble_eq_true rfl) dX6_give_9 ⟨by show _ ≤ mc; omega, by show _ ≤ ms; omega⟩ (fun H locs hw hS => ?_)
  refine lq_astore (i := 7) (x := r5) (lv' := [(7, va_rf r5), (6, va_rf r3), (0, .ref x0), (1, .int x1), (2, .int x2), (3, .int x3), (4, .long x4)]) hx hb dX6_give_12 hl (by decide) (by simp [va_rf_c, cat_i, cat_l, cat_r]) (fun ls hl => ?_)
  refine lq_aload hx hb dX6_give_14 (lv_at hl 1 rfl) ?_
  cases r3 with
  | none =>
    have hf := on_n hf
    refine lv_ifnullN (tgt := 45) hx hb dX6_give_16 (by decide) ?_
    refine lv_iconst (v := -1) hx hb dX6_give_45 (by decide) ?_
    cases hf
    obtain rfl : mc = cu := by omega
    obtain rfl : ms = su := by omega
    exact rt_i C hw hS dX6_give_46
  | some a6 =>
    have hf := on_s hf
    refine lv_ifnull hx hb dX6_give_16 ?_
    refine lq_aload hx hb dX6_give_19 (lv_at hl 0 rfl) ?_
    cases r5 with
    | none =>
      have hf := on_n hf
      refine lv_ifnullN (tgt := 45) hx hb dX6_give_21 (by decide) ?_
      refine lv_iconst (v := -1) hx hb dX6_give_45 (by decide) ?_
      cases hf
      obtain rfl : mc = cu := by omega
      obtain rfl : ms = su := by omega
      exact rt_i C hw hS dX6_give_46
    | some a7 =>
      have hf := on_s hf
      refine lv_ifnull hx hb dX6_give_21 ?_
      refine lv_aload_n hx hb dX6_give_24 rfl (lv_at hl 2 rfl) ?_
      refine lv_iload_n hx hb dX6_give_25 rfl (lv_at hl 5 rfl) ?_
      obtain ⟨r9, h8, hf⟩ := bd_s hf
      refine cl_V0 C hw hS (tX6_handAt l A D cy st sz sh d x0 x3 h8) cvX6_handAt kw_233 (kc_k h1) ⟨(Nat.le_of_ble_eq_true rfl), (Nat.le_of_ble_eq_true rfl)⟩ hl.1 rfl (Nat.le_of_ble_eq_true rfl) dX6_give_26 ⟨by show _ ≤ mc; omega, by show _ ≤ ms; omega⟩ (fun H locs hw hS => ?_)
      cases r9 with
      | none =>
        have hf := on_n hf
        refine lv_ifnullN (tgt := 45) hx hb dX6_give_29 (by decide) ?_
        refine lv_iconst (v := -1) hx hb dX6_give_45 (by decide) ?_
        cases hf
        obtain rfl : mc = cu := by omega
        obtain rfl : ms = su := by omega
        exact rt_i C hw hS dX6_give_46
      | some a10 =>
        have hf := on_s hf
        refine lv_ifnull hx hb dX6_give_29 ?_
        refine lv_iload_n hx hb dX6_give_32 rfl (lv_at hl 3 rfl) ?_
        refine lv_iload_n hx hb dX6_give_33 rfl (lv_at hl 5 rfl) ?_
        refine lv_icmp_eq (tgt := 45) hx hb dX6_give_34 (by decide) (fun c_11 => ?_) (fun c_11 => ?_)
        · have hf := if_t c_11 hf
          refine lv_iconst (v := -1) hx hb dX6_give_45 (by decide) ?_
          cases hf
          obtain rfl : mc = cu := by omega
          obtain rfl : ms = su := by omega
          exact rt_i C hw hS dX6_give_46
        · have hf := if_f c_11 hf
          refine lv_lload hx hb dX6_give_37 (lv_at hl 6 rfl) ?_
          obtain ⟨r13, h12, hf⟩ := bd_s hf
          refine cl_S0 C hw hS (tX6_isAmount l A D cy st sz sh d x4 h12) csX6_isAmount kw_403 ⟨(Nat.le_of_ble_eq_true rfl), (Nat.le_of_ble_eq_true rfl)⟩ hl.1 rfl (Nat.le_of_ble_eq_true rfl) dX6_give_39 ⟨by show _ ≤ mc; omega, by show _ ≤ ms; omega⟩ (fun H locs hw hS => ?_)
          refine lv_if_ne (tgt := 47) hx hb dX6_give_42 (by decide) (fun c_14 => ?_) (fun c_14 => ?_)
          · have hf := if_f c_14 hf
            refine lv_aload_n hx hb dX6_give_47 rfl (lv_at hl 2 rfl) ?_
            refine lq_aload hx hb dX6_give_48 (lv_at hl 1 rfl) ?_
            refine lq_aload hx hb dX6_give_50 (lv_at hl 0 rfl) ?_
            refine lv_iconst (v := 2) hx hb dX6_give_52 (by decide) ?_
            refine lv_iload_n hx hb dX6_give_53 rfl (lv_at hl 5 rfl) ?_
            refine lv_lload hx hb dX6_give_54 (lv_at hl 6 rfl) ?_
            obtain ⟨r16, szq17, nsq17, shq17, dq17, h15, hf⟩ := bw2_s hf
            have hm := mX6_give_b59 (st 1) (st 2) r16 szq17 nsq17 shq17 dq17 hf
            have hq := gX6_makeOfRights (st 1) (st 2) x0 (some a6) (some a7) (2 : Int32) x3 x4 sz ns sh d h15
            refine cl_V C hw hS (tX6_makeOfRights l A D cy st x0 (some a6) (some a7) (2 : Int32) x3 x4 sz ns sh d h15) cvX6_makeOfRights kw_443 (kc_k h1) ⟨(Nat.le_of_ble_eq_true rfl), (Nat.le_of_ble_eq_true rfl)⟩ hl.1 rfl (Nat.le_of_ble_eq_true rfl) dX6_give_56 ⟨by show _ ≤ mc; omega, by show _ ≤ ms; omega⟩ (fun H locs hw hS => ?_)
            exact wX6_give_b59 C r16 szq17 nsq17 shq17 dq17 hf (by omega) (by omega) hw hS (lv_sub hl [] rfl)
          · have hf := if_t c_14 hf
            refine lv_iconst (v := -1) hx hb dX6_give_45 (by decide) ?_
            cases hf
            obtain rfl : mc = cu := by omega
            obtain rfl : ms = su := by omega
            exact rt_i C hw hS dX6_give_46

set_option maxRecDepth 100000 in
set_option maxHeartbeats 4000000 in
theorem tX6_give (l : Launch) (A : Nat → Prop) (D : va_G) (cy : Nat → ClassId) (st : Nat → Nat) (x0 : Nat) (x1 : Int32) (x2 : Int32) (x3 : Int32) (x4 : Int64) (sz ns : Nat) (sh : Sh) (d : Dt) {r : Int32} {sz9 ns9 : Nat} {sh9 : Sh} {d9 : Dt} (hf : fX6_give (st 1) (st 2) x0 x1 x2 x3 x4 sz ns sh d = some (r, sz9, ns9, sh9, d9)) : Ct l yX6_give cX6_give 8 (some .int) 9 215 (sz9 - sz) (ns9 - ns) A D cy st [.ref x0, .int x1, .int x2, .int x3, .long x4] sz sh d (some (.int r)) sz9 sh9 d9 := by
  have hm := gX6_give (st 1) (st 2) x0 x1 x2 x3 x4 sz ns sh d hf
  exact ct_of (by decide) (Nat.le_of_ble_eq_true rfl) (fun p e s m args below meth c C hw hS ls hl => wX6_give_b0 C x0 x1 x2 x3 x4 sz ns sh d hf (by omega) (by omega) hw hS hl)
theorem dX6_spend_0 : decode cX6_spend 0 = .ok (.aload_n 0, 1) := by decide +kernel
theorem dX6_spend_1 : decode cX6_spend 1 = .ok (.iload_n 1, 1) := by decide +kernel
theorem dX6_spend_2 : decode cX6_spend 2 = .ok (.invokevirtual 74, 3) := by decide +kernel
theorem dX6_spend_5 : decode cX6_spend 5 = .ok (.astore 5, 2) := by decide +kernel
theorem dX6_spend_7 : decode cX6_spend 7 = .ok (.aload_n 0, 1) := by decide +kernel
theorem dX6_spend_8 : decode cX6_spend 8 = .ok (.iload_n 2, 1) := by decide +kernel
theorem dX6_spend_9 : decode cX6_spend 9 = .ok (.invokevirtual 63, 3) := by decide +kernel
theorem dX6_spend_12 : decode cX6_spend 12 = .ok (.astore 6, 2) := by decide +kernel
theorem dX6_spend_14 : decode cX6_spend 14 = .ok (.aload 5, 2) := by decide +kernel
theorem dX6_spend_16 : decode cX6_spend 16 = .ok (.ifnull 15, 3) := by decide +kernel
theorem dX6_spend_19 : decode cX6_spend 19 = .ok (.aload 6, 2) := by decide +kernel
theorem dX6_spend_21 : decode cX6_spend 21 = .ok (.ifnull 10, 3) := by decide +kernel
theorem dX6_spend_24 : decode cX6_spend 24 = .ok (.lload_n 3, 1) := by decide +kernel
theorem dX6_spend_25 : decode cX6_spend 25 = .ok (.invokestatic 96, 3) := by decide +kernel
theorem dX6_spend_28 : decode cX6_spend 28 = .ok (.ifCond .ne 5, 3) := by decide +kernel
theorem dX6_spend_31 : decode cX6_spend 31 = .ok (.iconst (-1), 1) := by decide +kernel
theorem dX6_spend_32 : decode cX6_spend 32 = .ok (.ireturn, 1) := by decide +kernel
theorem dX6_spend_33 : decode cX6_spend 33 = .ok (.aload_n 0, 1) := by decide +kernel
theorem dX6_spend_34 : decode cX6_spend 34 = .ok (.aload 5, 2) := by decide +kernel
theorem dX6_spend_36 : decode cX6_spend 36 = .ok (.aload 6, 2) := by decide +kernel
theorem dX6_spend_38 : decode cX6_spend 38 = .ok (.iconst 3, 1) := by decide +kernel
theorem dX6_spend_39 : decode cX6_spend 39 = .ok (.iconst 0, 1) := by decide +kernel
theorem dX6_spend_40 : decode cX6_spend 40 = .ok (.lload_n 3, 1) := by decide +kernel
theorem dX6_spend_41 : decode cX6_spend 41 = .ok (.invokevirtual 115, 3) := by decide +kernel
theorem dX6_spend_44 : decode cX6_spend 44 = .ok (.ireturn, 1) := by decide +kernel
theorem cvX6_spend : CV yX6_spend cX6_spend 7 (some .int) 7 3 := ⟨kw_456, kw_457, kw_1, kw_458, ⟨_, _, rfl⟩, by decide, by decide +kernel, by decide +kernel, by decide +kernel⟩
def fX6_spend_b44 (em mi : Nat) (t0 : Int32) (sz : Nat) (ns : Nat) (sh : Sh) (d : Dt) : Option (Int32 × Wl) := some (t0, sz, ns, sh, d)

def fX6_spend_b0 (em mi : Nat) (x0 : Nat) (x1 : Int32) (x2 : Int32) (x3 : Int64) (sz : Nat) (ns : Nat) (sh : Sh) (d : Dt) : Option (Int32 × Wl) := bd (kc sh 8 x0) fun _ => bd (fX6_handAt sh d x0 x1) fun r3 => bd (fX6_pageAt sh d x0 x2) fun r5 => on r3 (some ((-1 : Int32), sz, ns, sh, d)) (fun a6 => on r5 (some ((-1 : Int32), sz, ns, sh, d)) (fun a7 => bd (fX6_isAmount sh d x3) fun r9 => if (bI r9) = 0 then (some ((-1 : Int32), sz, ns, sh, d)) else (bw2 (fX6_makeOfRights em mi x0 (some a6) (some a7) (3 : Int32) (0 : Int32) x3 sz ns sh d) fun r12 szq13 nsq13 shq13 dq13 => fX6_spend_b44 em mi r12 szq13 nsq13 shq13 dq13)))

def fX6_spend (em mi : Nat) (x0 : Nat) (x1 : Int32) (x2 : Int32) (x3 : Int64) (sz ns : Nat) (sh : Sh) (d : Dt) : Option (Int32 × Wl) := fX6_spend_b0 em mi x0 x1 x2 x3 sz ns sh d

set_option maxRecDepth 100000 in
set_option maxHeartbeats 4000000 in
theorem mX6_spend_b44 (em mi : Nat) {r : Int32} {sz9 ns9 : Nat} {sh9 : Sh} {d9 : Dt} : ∀ (t0 : Int32) (sz : Nat) (ns : Nat) (sh : Sh) (d : Dt), fX6_spend_b44 em mi t0 sz ns sh d = some (r, sz9, ns9, sh9, d9) → sz ≤ sz9 ∧ ns ≤ ns9 := by
  intro t0 sz ns sh d hf
  unfold fX6_spend_b44 at hf
  cases hf
  exact ⟨Nat.le_refl _, Nat.le_refl _⟩

set_option maxRecDepth 100000 in
set_option maxHeartbeats 4000000 in
theorem mX6_spend_b0 (em mi : Nat) {r : Int32} {sz9 ns9 : Nat} {sh9 : Sh} {d9 : Dt} : ∀ (x0 : Nat) (x1 : Int32) (x2 : Int32) (x3 : Int64) (sz : Nat) (ns : Nat) (sh : Sh) (d : Dt), fX6_spend_b0 em mi x0 x1 x2 x3 sz ns sh d = some (r, sz9, ns9, sh9, d9) → sz ≤ sz9 ∧ ns ≤ ns9 := by
  intro x0 x1 x2 x3 sz ns sh d hf
  unfold fX6_spend_b0 at hf
  obtain ⟨_, h1, hf⟩ := bd_s hf
  obtain ⟨r3, h2, hf⟩ := bd_s hf
  obtain ⟨r5, h4, hf⟩ := bd_s hf
  cases r3 with
  | none =>
    have hf := on_n hf
    cases hf
    exact ⟨Nat.le_refl _, Nat.le_refl _⟩
  | some a6 =>
    have hf := on_s hf
    cases r5 with
    | none =>
      have hf := on_n hf
      cases hf
      exact ⟨Nat.le_refl _, Nat.le_refl _⟩
    | some a7 =>
      have hf := on_s hf
      obtain ⟨r9, h8, hf⟩ := bd_s hf
      by_cases c_10 : (bI r9) = 0
      · have hf := if_t c_10 hf
        cases hf
        exact ⟨Nat.le_refl _, Nat.le_refl _⟩
      · have hf := if_f c_10 hf
        obtain ⟨r12, szq13, nsq13, shq13, dq13, h11, hf⟩ := bw2_s hf
        have hq := gX6_makeOfRights em mi x0 (some a6) (some a7) (3 : Int32) (0 : Int32) x3 sz ns sh d h11
        have hm := mX6_spend_b44 em mi r12 szq13 nsq13 shq13 dq13 hf
        omega

theorem gX6_spend (em mi : Nat) (x0 : Nat) (x1 : Int32) (x2 : Int32) (x3 : Int64) (sz ns : Nat) (sh : Sh) (d : Dt) {r : Int32} {sz9 ns9 : Nat} {sh9 : Sh} {d9 : Dt} (hf : fX6_spend em mi x0 x1 x2 x3 sz ns sh d = some (r, sz9, ns9, sh9, d9)) : sz ≤ sz9 ∧ ns ≤ ns9 := mX6_spend_b0 em mi x0 x1 x2 x3 sz ns sh d hf

set_option maxRecDepth 100000 in
set_option maxHeartbeats 4000000 in
theorem wX6_spend_b44 (C : mx p s m args meth c yX6_spend cX6_spend 7 (some .int) A D cy st) {r : Int32} {sz9 ns9 : Nat} {sh9 : Sh} {d9 : Dt} {mc ms : Nat} : ∀ (t0 : Int32) (sz : Nat) (ns : Nat) (sh : Sh) (d : Dt), fX6_spend_b44 (st 1) (st 2) t0 sz ns sh d = some (r, sz9, ns9, sh9, d9) → ∀ {cu su : Nat}, sz9 + cu = sz + mc → ns9 + su = ns + ms → ∀ {H : Heap} {locs : List Loc} {ls : Array Slot}, HW A D cy sz sh d H → va_S A s.heap H locs → lv_has ls 7 [] → GA p l e s m args below meth c 9 215 mc ms A D cy (some (.int r)) sz9 sh9 d9 H locs cu su 44 ls [.int t0] := by
  have hx := C.1
  have hb := C.2.1
  intro t0 sz ns sh d hf cu su hcm hsm H locs ls hw hS hl
  have hm0 := mX6_spend_b44 (st 1) (st 2) t0 sz ns sh d hf
  unfold fX6_spend_b44 at hf
  cases hf
  obtain rfl : mc = cu := by omega
  obtain rfl : ms = su := by omega
  exact rt_i C hw hS dX6_spend_44

set_option maxRecDepth 100000 in
set_option maxHeartbeats 4000000 in
theorem wX6_spend_b0 (C : mx p s m args meth c yX6_spend cX6_spend 7 (some .int) A D cy st) {r : Int32} {sz9 ns9 : Nat} {sh9 : Sh} {d9 : Dt} {mc ms : Nat} : ∀ (x0 : Nat) (x1 : Int32) (x2 : Int32) (x3 : Int64) (sz : Nat) (ns : Nat) (sh : Sh) (d : Dt), fX6_spend_b0 (st 1) (st 2) x0 x1 x2 x3 sz ns sh d = some (r, sz9, ns9, sh9, d9) → ∀ {cu su : Nat}, sz9 + cu = sz + mc → ns9 + su = ns + ms → ∀ {H : Heap} {locs : List Loc} {ls : Array Slot}, HW A D cy sz sh d H → va_S A s.heap H locs → lv_has ls 7 [(0, .ref x0), (1, .int x1), (2, .int x2), (3, .long x3)] → GA p l e s m args below meth c 9 215 mc ms A D cy (some (.int r)) sz9 sh9 d9 H locs cu su 0 ls [] := by
  have hx := C.1
  have hb := C.2.1
  intro x0 x1 x2 x3 sz ns sh d hf cu su hcm hsm H locs ls hw hS hl
  have hm0 := mX6_spend_b0 (st 1) (st 2) x0 x1 x2 x3 sz ns sh d hf
  unfold fX6_spend_b0 at hf
  refine lv_aload_n hx hb dX6_spend_0 rfl (lv_at hl 0 rfl) ?_
  refine lv_iload_n hx hb dX6_spend_1 rfl (lv_at hl 1 rfl) ?_
  obtain ⟨_, h1, hf⟩ := bd_s hf
  obtain ⟨r3, h2, hf⟩ := bd_s hf
  refine cl_V0 C hw hS (tX6_handAt l A D cy st sz sh d x0 x1 h2) cvX6_handAt kw_233 (kc_k h1) ⟨(Nat.le_of_ble_eq_true rfl), (Nat.le_of_ble_eq_true rfl)⟩ hl.1 rfl (Nat.le_of_ble_eq_true rfl) dX6_spend_2 ⟨by show _ ≤ mc; omega, by show _ ≤ ms; omega⟩ (fun H locs hw hS => ?_)
  refine lq_astore (x := r3) (lv' := [(5, va_rf r3), (0, .ref x0), (1, .int x1), (2, .int x2), (3, .long x3)]) hx hb dX6_spend_5 hl (by decide) rfl (fun ls hl => ?_)
  refine lv_aload_n hx hb dX6_spend_7 rfl (lv_at hl 1 rfl) ?_
  refine lv_iload_n hx hb dX6_spend_8 rfl (lv_at hl 3 rfl) ?_
  obtain ⟨r5, h4, hf⟩ := bd_s hf
  refine cl_V0 C hw hS (tX6_pageAt l A D cy st sz sh d x0 x2 h4) cvX6_pageAt kw_216 (kc_k h1) ⟨(Nat.le_of_ble_eq_true rfl), (Nat.le_of_ble_eq_true rfl)⟩ hl.1 rfl (Nat.le_of_ble_eq_true rfl) dX6_spend_9 ⟨by show _ ≤ mc; omega, by show _ ≤ ms; omega⟩ (fun H locs hw hS => ?_)
  refine lq_astore (i := 6) (x := r5) (lv' := [(6, va_rf r5), (5, va_rf r3), (0, .ref x0), (1, .int x1), (2, .int x2), (3, .long x3)]) hx hb dX6_spend_12 hl (by decide) (by simp [va_rf_c, cat_i, cat_l, cat_r]) (fun ls hl => ?_)
  refine lq_aload hx hb dX6_spend_14 (lv_at hl 1 rfl) ?_
  cases r3 with
  | none =>
    have hf := on_n hf
    refine lv_ifnullN (tgt := 31) hx hb dX6_spend_16 (by decide) ?_
    refine lv_iconst (v := -1) hx hb dX6_spend_31 (by decide) ?_
    cases hf
    obtain rfl : mc = cu := by omega
    obtain rfl : ms = su := by omega
    exact rt_i C hw hS dX6_spend_32
  | some a6 =>
    have hf := on_s hf
    refine lv_ifnull hx hb dX6_spend_16 ?_
    refine lq_aload hx hb dX6_spend_19 (lv_at hl 0 rfl) ?_
    cases r5 with
    | none =>
      have hf := on_n hf
      refine lv_ifnullN (tgt := 31) hx hb dX6_spend_21 (by decide) ?_
      refine lv_iconst (v := -1) hx hb dX6_spend_31 (by decide) ?_
      cases hf
      obtain rfl : mc = cu := by omega
      obtain rfl : ms = su := by omega
      exact rt_i C hw hS dX6_spend_32
    | some a7 =>
      have hf := on_s hf
      refine lv_ifnull hx hb dX6_spend_21 ?_
      refine lv_lload_n hx hb dX6_spend_24 rfl (lv_at hl 5 rfl) ?_
      obtain ⟨r9, h8, hf⟩ := bd_s hf
      refine cl_S0 C hw hS (tX6_isAmount l A D cy st sz sh d x3 h8) csX6_isAmount kw_403 ⟨(Nat.le_of_ble_eq_true rfl), (Nat.le_of_ble_eq_true rfl)⟩ hl.1 rfl (Nat.le_of_ble_eq_true rfl) dX6_spend_25 ⟨by show _ ≤ mc; omega, by show _ ≤ ms; omega⟩ (fun H locs hw hS => ?_)
      refine lv_if_ne (tgt := 33) hx hb dX6_spend_28 (by decide) (fun c_10 => ?_) (fun c_10 => ?_)
      · have hf := if_f c_10 hf
        refine lv_aload_n hx hb dX6_spend_33 rfl (lv_at hl 2 rfl) ?_
        refine lq_aload hx hb dX6_spend_34 (lv_at hl 1 rfl) ?_
        refine lq_aload hx hb dX6_spend_36 (lv_at hl 0 rfl) ?_
        refine lv_iconst (v := 3) hx hb dX6_spend_38 (by decide) ?_
        refine lv_iconst (v := 0) hx hb dX6_spend_39 (by decide) ?_
        refine lv_lload_n hx hb dX6_spend_40 rfl (lv_at hl 5 rfl) ?_
        obtain ⟨r12, szq13, nsq13, shq13, dq13, h11, hf⟩ := bw2_s hf
        have hm := mX6_spend_b44 (st 1) (st 2) r12 szq13 nsq13 shq13 dq13 hf
        have hq := gX6_makeOfRights (st 1) (st 2) x0 (some a6) (some a7) (3 : Int32) (0 : Int32) x3 sz ns sh d h11
        refine cl_V C hw hS (tX6_makeOfRights l A D cy st x0 (some a6) (some a7) (3 : Int32) (0 : Int32) x3 sz ns sh d h11) cvX6_makeOfRights kw_443 (kc_k h1) ⟨(Nat.le_of_ble_eq_true rfl), (Nat.le_of_ble_eq_true rfl)⟩ hl.1 rfl (Nat.le_of_ble_eq_true rfl) dX6_spend_41 ⟨by show _ ≤ mc; omega, by show _ ≤ ms; omega⟩ (fun H locs hw hS => ?_)
        exact wX6_spend_b44 C r12 szq13 nsq13 shq13 dq13 hf (by omega) (by omega) hw hS (lv_sub hl [] rfl)
      · have hf := if_t c_10 hf
        refine lv_iconst (v := -1) hx hb dX6_spend_31 (by decide) ?_
        cases hf
        obtain rfl : mc = cu := by omega
        obtain rfl : ms = su := by omega
        exact rt_i C hw hS dX6_spend_32

set_option maxRecDepth 100000 in
set_option maxHeartbeats 4000000 in
theorem tX6_spend (l : Launch) (A : Nat → Prop) (D : va_G) (cy : Nat → ClassId) (st : Nat → Nat) (x0 : Nat) (x1 : Int32) (x2 : Int32) (x3 : Int64) (sz ns : Nat) (sh : Sh) (d : Dt) {r : Int32} {sz9 ns9 : Nat} {sh9 : Sh} {d9 : Dt} (hf : fX6_spend (st 1) (st 2) x0 x1 x2 x3 sz ns sh d = some (r, sz9, ns9, sh9, d9)) : Ct l yX6_spend cX6_spend 7 (some .int) 9 215 (sz9 - sz) (ns9 - ns) A D cy st [.ref x0, .int x1, .int x2, .long x3] sz sh d (some (.int r)) sz9 sh9 d9 := by
  have hm := gX6_spend (st 1) (st 2) x0 x1 x2 x3 sz ns sh d hf
  exact ct_of (by decide) (Nat.le_of_ble_eq_true rfl) (fun p e s m args below meth c C hw hS ls hl => wX6_spend_b0 C x0 x1 x2 x3 sz ns sh d hf (by omega) (by omega) hw hS hl)
theorem dX6_raise_0 : decode cX6_raise 0 = .ok (.aload_n 0, 1) := by decide +kernel
theorem dX6_raise_1 : decode cX6_raise 1 = .ok (.iload_n 1, 1) := by decide +kernel
theorem dX6_raise_2 : decode cX6_raise 2 = .ok (.invokevirtual 74, 3) := by decide +kernel
theorem dX6_raise_5 : decode cX6_raise 5 = .ok (.astore 4, 2) := by decide +kernel
theorem dX6_raise_7 : decode cX6_raise 7 = .ok (.aload_n 0, 1) := by decide +kernel
theorem dX6_raise_8 : decode cX6_raise 8 = .ok (.iload_n 2, 1) := by decide +kernel
theorem dX6_raise_9 : decode cX6_raise 9 = .ok (.invokevirtual 63, 3) := by decide +kernel
theorem dX6_raise_12 : decode cX6_raise 12 = .ok (.astore 5, 2) := by decide +kernel
theorem dX6_raise_14 : decode cX6_raise 14 = .ok (.aload 4, 2) := by decide +kernel
theorem dX6_raise_16 : decode cX6_raise 16 = .ok (.ifnull 8, 3) := by decide +kernel
theorem dX6_raise_19 : decode cX6_raise 19 = .ok (.aload 5, 2) := by decide +kernel
theorem dX6_raise_21 : decode cX6_raise 21 = .ok (.ifnonnull 5, 3) := by decide +kernel
theorem dX6_raise_24 : decode cX6_raise 24 = .ok (.iconst (-1), 1) := by decide +kernel
theorem dX6_raise_25 : decode cX6_raise 25 = .ok (.ireturn, 1) := by decide +kernel
theorem dX6_raise_26 : decode cX6_raise 26 = .ok (.aload_n 0, 1) := by decide +kernel
theorem dX6_raise_27 : decode cX6_raise 27 = .ok (.aload 4, 2) := by decide +kernel
theorem dX6_raise_29 : decode cX6_raise 29 = .ok (.aload 5, 2) := by decide +kernel
theorem dX6_raise_31 : decode cX6_raise 31 = .ok (.bipush 6, 2) := by decide +kernel
theorem dX6_raise_33 : decode cX6_raise 33 = .ok (.invokevirtual 85, 3) := by decide +kernel
theorem dX6_raise_36 : decode cX6_raise 36 = .ok (.istore 6, 2) := by decide +kernel
theorem dX6_raise_38 : decode cX6_raise 38 = .ok (.iload 6, 2) := by decide +kernel
theorem dX6_raise_40 : decode cX6_raise 40 = .ok (.ifCond .eq 8, 3) := by decide +kernel
theorem dX6_raise_43 : decode cX6_raise 43 = .ok (.iload 6, 2) := by decide +kernel
theorem dX6_raise_45 : decode cX6_raise 45 = .ok (.goto 24, 3) := by decide +kernel
theorem dX6_raise_48 : decode cX6_raise 48 = .ok (.aload_n 0, 1) := by decide +kernel
theorem dX6_raise_49 : decode cX6_raise 49 = .ok (.aload 4, 2) := by decide +kernel
theorem dX6_raise_51 : decode cX6_raise 51 = .ok (.aload 5, 2) := by decide +kernel
theorem dX6_raise_53 : decode cX6_raise 53 = .ok (.iload_n 3, 1) := by decide +kernel
theorem dX6_raise_54 : decode cX6_raise 54 = .ok (.ifCond .eq 8, 3) := by decide +kernel
theorem dX6_raise_57 : decode cX6_raise 57 = .ok (.bipush 6, 2) := by decide +kernel
theorem dX6_raise_59 : decode cX6_raise 59 = .ok (.goto 5, 3) := by decide +kernel
theorem dX6_raise_62 : decode cX6_raise 62 = .ok (.bipush 7, 2) := by decide +kernel
theorem dX6_raise_64 : decode cX6_raise 64 = .ok (.iconst 0, 1) := by decide +kernel
theorem dX6_raise_65 : decode cX6_raise 65 = .ok (.lconst 0, 1) := by decide +kernel
theorem dX6_raise_66 : decode cX6_raise 66 = .ok (.invokevirtual 89, 3) := by decide +kernel
theorem dX6_raise_69 : decode cX6_raise 69 = .ok (.ireturn, 1) := by decide +kernel
theorem cvX6_raise : CV yX6_raise cX6_raise 7 (some .int) 7 3 := ⟨kw_460, kw_461, kw_1, kw_462, ⟨_, _, rfl⟩, by decide, by decide +kernel, by decide +kernel, by decide +kernel⟩
def fX6_raise_b69 (em mi : Nat) (t0 : Int32) (sz : Nat) (ns : Nat) (sh : Sh) (d : Dt) : Option (Int32 × Wl) := some (t0, sz, ns, sh, d)

def fX6_raise_b64 (em mi : Nat) (t0 : Nat) (t1 : Option Nat) (t2 : Option Nat) (t3 : Int32) (sz : Nat) (ns : Nat) (sh : Sh) (d : Dt) : Option (Int32 × Wl) := bd (kc sh 8 t0) fun _ => bw2 (fX6_make em mi t0 t1 t2 t3 (0 : Int32) (0 : Int64) sz ns sh d) fun r3 szq4 nsq4 shq4 dq4 => fX6_raise_b69 em mi r3 szq4 nsq4 shq4 dq4

def fX6_raise_b0 (em mi : Nat) (x0 : Nat) (x1 : Int32) (x2 : Int32) (x3 : Int32) (sz : Nat) (ns : Nat) (sh : Sh) (d : Dt) : Option (Int32 × Wl) := bd (kc sh 8 x0) fun _ => bd (fX6_handAt sh d x0 x1) fun r3 => bd (fX6_pageAt sh d x0 x2) fun r5 => on r3 (some ((-1 : Int32), sz, ns, sh, d)) (fun a6 => on r5 (some ((-1 : Int32), sz, ns, sh, d)) (fun a7 => bd2 (fX6_refusalToChange sh d x0 (some a6) (some a7) (6 : Int32)) fun r9 d10 => if r9 = 0 then (if x3 = 0 then (fX6_raise_b64 em mi x0 (some a6) (some a7) (7 : Int32) sz ns sh d10) else (fX6_raise_b64 em mi x0 (some a6) (some a7) (6 : Int32) sz ns sh d10)) else (fX6_raise_b69 em mi r9 sz ns sh d10)))

def fX6_raise (em mi : Nat) (x0 : Nat) (x1 : Int32) (x2 : Int32) (x3 : Int32) (sz ns : Nat) (sh : Sh) (d : Dt) : Option (Int32 × Wl) := fX6_raise_b0 em mi x0 x1 x2 x3 sz ns sh d

set_option maxRecDepth 100000 in
set_option maxHeartbeats 4000000 in
theorem mX6_raise_b69 (em mi : Nat) {r : Int32} {sz9 ns9 : Nat} {sh9 : Sh} {d9 : Dt} : ∀ (t0 : Int32) (sz : Nat) (ns : Nat) (sh : Sh) (d : Dt), fX6_raise_b69 em mi t0 sz ns sh d = some (r, sz9, ns9, sh9, d9) → sz ≤ sz9 ∧ ns ≤ ns9 := by
  intro t0 sz ns sh d hf
  unfold fX6_raise_b69 at hf
  cases hf
  exact ⟨Nat.le_refl _, Nat.le_refl _⟩

set_option maxRecDepth 100000 in
set_option maxHeartbeats 4000000 in
theorem mX6_raise_b64 (em mi : Nat) {r : Int32} {sz9 ns9 : Nat} {sh9 : Sh} {d9 : Dt} : ∀ (t0 : Nat) (t1 : Option Nat) (t2 : Option Nat) (t3 : Int32) (sz : Nat) (ns : Nat) (sh : Sh) (d : Dt), fX6_raise_b64 em mi t0 t1 t2 t3 sz ns sh d = some (r, sz9, ns9, sh9, d9) → sz ≤ sz9 ∧ ns ≤ ns9 := by
  intro t0 t1 t2 t3 sz ns sh d hf
  unfold fX6_raise_b64 at hf
  obtain ⟨_, h1, hf⟩ := bd_s hf
  obtain ⟨r3, szq4, nsq4, shq4, dq4, h2, hf⟩ := bw2_s hf
  have hq := gX6_make em mi t0 t1 t2 t3 (0 : Int32) (0 : Int64) sz ns sh d h2
  have hm := mX6_raise_b69 em mi r3 szq4 nsq4 shq4 dq4 hf
  omega

set_option maxRecDepth 100000 in
set_option maxHeartbeats 4000000 in
theorem mX6_raise_b0 (em mi : Nat) {r : Int32} {sz9 ns9 : Nat} {sh9 : Sh} {d9 : Dt} : ∀ (x0 : Nat) (x1 : Int32) (x2 : Int32) (x3 : Int32) (sz : Nat) (ns : Nat) (sh : Sh) (d : Dt), fX6_raise_b0 em mi x0 x1 x2 x3 sz ns sh d = some (r, sz9, ns9, sh9, d9) → sz ≤ sz9 ∧ ns ≤ ns9 := by
  intro x0 x1 x2 x3 sz ns sh d hf
  unfold fX6_raise_b0 at hf
  obtain ⟨_, h1, hf⟩ := bd_s hf
  obtain ⟨r3, h2, hf⟩ := bd_s hf
  obtain ⟨r5, h4, hf⟩ := bd_s hf
  cases r3 with
  | none =>
    have hf := on_n hf
    cases hf
    exact ⟨Nat.le_refl _, Nat.le_refl _⟩
  | some a6 =>
    have hf := on_s hf
    cases r5 with
    | none =>
      have hf := on_n hf
      cases hf
      exact ⟨Nat.le_refl _, Nat.le_refl _⟩
    | some a7 =>
      have hf := on_s hf
      obtain ⟨r9, d10, h8, hf⟩ := bd2_s hf
      by_cases c_11 : r9 = 0
      · have hf := if_t c_11 hf
        by_cases c_12 : x3 = 0
        · have hf := if_t c_12 hf
          have hm := mX6_raise_b64 em mi x0 (some a6) (some a7) (7 : Int32) sz ns sh d10 hf
          omega
        · have hf := if_f c_12 hf
          have hm := mX6_raise_b64 em mi x0 (some a6) (some a7) (6 : Int32) sz ns sh d10 hf
          omega
      · have hf := if_f c_11 hf
        have hm := mX6_raise_b69 em mi r9 sz ns sh d10 hf
        omega

theorem gX6_raise (em mi : Nat) (x0 : Nat) (x1 : Int32) (x2 : Int32) (x3 : Int32) (sz ns : Nat) (sh : Sh) (d : Dt) {r : Int32} {sz9 ns9 : Nat} {sh9 : Sh} {d9 : Dt} (hf : fX6_raise em mi x0 x1 x2 x3 sz ns sh d = some (r, sz9, ns9, sh9, d9)) : sz ≤ sz9 ∧ ns ≤ ns9 := mX6_raise_b0 em mi x0 x1 x2 x3 sz ns sh d hf

set_option maxRecDepth 100000 in
set_option maxHeartbeats 4000000 in
theorem wX6_raise_b69 (C : mx p s m args meth c yX6_raise cX6_raise 7 (some .int) A D cy st) {r : Int32} {sz9 ns9 : Nat} {sh9 : Sh} {d9 : Dt} {mc ms : Nat} : ∀ (t0 : Int32) (sz : Nat) (ns : Nat) (sh : Sh) (d : Dt), fX6_raise_b69 (st 1) (st 2) t0 sz ns sh d = some (r, sz9, ns9, sh9, d9) → ∀ {cu su : Nat}, sz9 + cu = sz + mc → ns9 + su = ns + ms → ∀ {H : Heap} {locs : List Loc} {ls : Array Slot}, HW A D cy sz sh d H → va_S A s.heap H locs → lv_has ls 7 [] → GA p l e s m args below meth c 8 188 mc ms A D cy (some (.int r)) sz9 sh9 d9 H locs cu su 69 ls [.int t0] := by
  have hx := C.1
  have hb := C.2.1
  intro t0 sz ns sh d hf cu su hcm hsm H locs ls hw hS hl
  have hm0 := mX6_raise_b69 (st 1) (st 2) t0 sz ns sh d hf
  unfold fX6_raise_b69 at hf
  cases hf
  obtain rfl : mc = cu := by omega
  obtain rfl : ms = su := by omega
  exact rt_i C hw hS dX6_raise_69

set_option maxRecDepth 100000 in
set_option maxHeartbeats 4000000 in
theorem wX6_raise_b64 (C : mx p s m args meth c yX6_raise cX6_raise 7 (some .int) A D cy st) {r : Int32} {sz9 ns9 : Nat} {sh9 : Sh} {d9 : Dt} {mc ms : Nat} : ∀ (t0 : Nat) (t1 : Option Nat) (t2 : Option Nat) (t3 : Int32) (sz : Nat) (ns : Nat) (sh : Sh) (d : Dt), fX6_raise_b64 (st 1) (st 2) t0 t1 t2 t3 sz ns sh d = some (r, sz9, ns9, sh9, d9) → ∀ {cu su : Nat}, sz9 + cu = sz + mc → ns9 + su = ns + ms → ∀ {H : Heap} {locs : List Loc} {ls : Array Slot}, HW A D cy sz sh d H → va_S A s.heap H locs → lv_has ls 7 [] → GA p l e s m args below meth c 8 188 mc ms A D cy (some (.int r)) sz9 sh9 d9 H locs cu su 64 ls [.int t3, va_rf t2, va_rf t1, .ref t0] := by
  have hx := C.1
  have hb := C.2.1
  intro t0 t1 t2 t3 sz ns sh d hf cu su hcm hsm H locs ls hw hS hl
  have hm0 := mX6_raise_b64 (st 1) (st 2) t0 t1 t2 t3 sz ns sh d hf
  unfold fX6_raise_b64 at hf
  refine lv_iconst (v := 0) hx hb dX6_raise_64 (by decide) ?_
  refine lv_lconst (v := 0) hx hb dX6_raise_65 (by decide) ?_
  obtain ⟨_, h1, hf⟩ := bd_s hf
  obtain ⟨r3, szq4, nsq4, shq4, dq4, h2, hf⟩ := bw2_s hf
  have hm := mX6_raise_b69 (st 1) (st 2) r3 szq4 nsq4 shq4 dq4 hf
  have hq := gX6_make (st 1) (st 2) t0 t1 t2 t3 (0 : Int32) (0 : Int64) sz ns sh d h2
  refine cl_V C hw hS (tX6_make l A D cy st t0 t1 t2 t3 (0 : Int32) (0 : Int64) sz ns sh d h2) cvX6_make kw_262 (kc_k h1) ⟨(Nat.le_of_ble_eq_true rfl), (Nat.le_of_ble_eq_true rfl)⟩ hl.1 rfl (Nat.le_of_ble_eq_true rfl) dX6_raise_66 ⟨by show _ ≤ mc; omega, by show _ ≤ ms; omega⟩ (fun H locs hw hS => ?_)
  exact wX6_raise_b69 C r3 szq4 nsq4 shq4 dq4 hf (by omega) (by omega) hw hS (lv_sub hl [] rfl)

set_option maxRecDepth 100000 in
set_option maxHeartbeats 4000000 in
theorem wX6_raise_b0 (C : mx p s m args meth c yX6_raise cX6_raise 7 (some .int) A D cy st) {r : Int32} {sz9 ns9 : Nat} {sh9 : Sh} {d9 : Dt} {mc ms : Nat} : ∀ (x0 : Nat) (x1 : Int32) (x2 : Int32) (x3 : Int32) (sz : Nat) (ns : Nat) (sh : Sh) (d : Dt), fX6_raise_b0 (st 1) (st 2) x0 x1 x2 x3 sz ns sh d = some (r, sz9, ns9, sh9, d9) → ∀ {cu su : Nat}, sz9 + cu = sz + mc → ns9 + su = ns + ms → ∀ {H : Heap} {locs : List Loc} {ls : Array Slot}, HW A D cy sz sh d H → va_S A s.heap H locs → lv_has ls 7 [(0, .ref x0), (1, .int x1), (2, .int x2), (3, .int x3)] → GA p l e s m args below meth c 8 188 mc ms A D cy (some (.int r)) sz9 sh9 d9 H locs cu su 0 ls [] := by
  have hx := C.1
  have hb := C.2.1
  intro x0 x1 x2 x3 sz ns sh d hf cu su hcm hsm H locs ls hw hS hl
  have hm0 := mX6_raise_b0 (st 1) (st 2) x0 x1 x2 x3 sz ns sh d hf
  unfold fX6_raise_b0 at hf
  refine lv_aload_n hx hb dX6_raise_0 rfl (lv_at hl 0 rfl) ?_
  refine lv_iload_n hx hb dX6_raise_1 rfl (lv_at hl 1 rfl) ?_
  obtain ⟨_, h1, hf⟩ := bd_s hf
  obtain ⟨r3, h2, hf⟩ := bd_s hf
  refine cl_V0 C hw hS (tX6_handAt l A D cy st sz sh d x0 x1 h2) cvX6_handAt kw_233 (kc_k h1) ⟨(Nat.le_of_ble_eq_true rfl), (Nat.le_of_ble_eq_true rfl)⟩ hl.1 rfl (Nat.le_of_ble_eq_true rfl) dX6_raise_2 ⟨by show _ ≤ mc; omega, by show _ ≤ ms; omega⟩ (fun H locs hw hS => ?_)
  refine lq_astore (x := r3) (lv' := [(4, va_rf r3), (0, .ref x0), (1, .int x1), (2, .int x2), (3, .int x3)]) hx hb dX6_raise_5 hl (by decide) rfl (fun ls hl => ?_)
  refine lv_aload_n hx hb dX6_raise_7 rfl (lv_at hl 1 rfl) ?_
  refine lv_iload_n hx hb dX6_raise_8 rfl (lv_at hl 3 rfl) ?_
  obtain ⟨r5, h4, hf⟩ := bd_s hf
  refine cl_V0 C hw hS (tX6_pageAt l A D cy st sz sh d x0 x2 h4) cvX6_pageAt kw_216 (kc_k h1) ⟨(Nat.le_of_ble_eq_true rfl), (Nat.le_of_ble_eq_true rfl)⟩ hl.1 rfl (Nat.le_of_ble_eq_true rfl) dX6_raise_9 ⟨by show _ ≤ mc; omega, by show _ ≤ ms; omega⟩ (fun H locs hw hS => ?_)
  refine lq_astore (i := 5) (x := r5) (lv' := [(5, va_rf r5), (4, va_rf r3), (0, .ref x0), (1, .int x1), (2, .int x2), (3, .int x3)]) hx hb dX6_raise_12 hl (by decide) (by simp [va_rf_c, cat_i, cat_l, cat_r]) (fun ls hl => ?_)
  refine lq_aload hx hb dX6_raise_14 (lv_at hl 1 rfl) ?_
  cases r3 with
  | none =>
    have hf := on_n hf
    refine lv_ifnullN (tgt := 24) hx hb dX6_raise_16 (by decide) ?_
    refine lv_iconst (v := -1) hx hb dX6_raise_24 (by decide) ?_
    cases hf
    obtain rfl : mc = cu := by omega
    obtain rfl : ms = su := by omega
    exact rt_i C hw hS dX6_raise_25
  | some a6 =>
    have hf := on_s hf
    refine lv_ifnull hx hb dX6_raise_16 ?_
    refine lq_aload hx hb dX6_raise_19 (lv_at hl 0 rfl) ?_
    cases r5 with
    | none =>
      have hf := on_n hf
      refine lv_ifnonnullN hx hb dX6_raise_21 ?_
      refine lv_iconst (v := -1) hx hb dX6_raise_24 (by decide) ?_
      cases hf
      obtain rfl : mc = cu := by omega
      obtain rfl : ms = su := by omega
      exact rt_i C hw hS dX6_raise_25
    | some a7 =>
      have hf := on_s hf
      refine lv_ifnonnull (tgt := 26) hx hb dX6_raise_21 (by decide) ?_
      refine lv_aload_n hx hb dX6_raise_26 rfl (lv_at hl 2 rfl) ?_
      refine lq_aload hx hb dX6_raise_27 (lv_at hl 1 rfl) ?_
      refine lq_aload hx hb dX6_raise_29 (lv_at hl 0 rfl) ?_
      refine lv_bipush (v := 6) hx hb dX6_raise_31 (by decide) ?_
      obtain ⟨r9, d10, h8, hf⟩ := bd2_s hf
      refine cl_V0 C hw hS (tX6_refusalToChange l A D cy st sz sh d x0 (some a6) (some a7) (6 : Int32) h8) cvX6_refusalToChange kw_241 (kc_k h1) ⟨(Nat.le_of_ble_eq_true rfl), (Nat.le_of_ble_eq_true rfl)⟩ hl.1 rfl (Nat.le_of_ble_eq_true rfl) dX6_raise_33 ⟨by show _ ≤ mc; omega, by show _ ≤ ms; omega⟩ (fun H locs hw hS => ?_)
      refine lv_istore (i := 6) (lv' := [(6, .int r9), (5, va_rf (some a7)), (4, va_rf (some a6)), (0, .ref x0), (1, .int x1), (2, .int x2), (3, .int x3)]) hx hb dX6_raise_36 hl (by decide) (by simp [va_rf_c, cat_i, cat_l, cat_r]) (fun ls hl => ?_)
      refine lv_iload hx hb dX6_raise_38 (lv_at hl 0 rfl) ?_
      refine lv_if_eq (tgt := 48) hx hb dX6_raise_40 (by decide) (fun c_11 => ?_) (fun c_11 => ?_)
      · have hf := if_t c_11 hf
        refine lv_aload_n hx hb dX6_raise_48 rfl (lv_at hl 3 rfl) ?_
        refine lq_aload hx hb dX6_raise_49 (lv_at hl 2 rfl) ?_
        refine lq_aload hx hb dX6_raise_51 (lv_at hl 1 rfl) ?_
        refine lv_iload_n hx hb dX6_raise_53 rfl (lv_at hl 6 rfl) ?_
        refine lv_if_eq (tgt := 62) hx hb dX6_raise_54 (by decide) (fun c_12 => ?_) (fun c_12 => ?_)
        · have hf := if_t c_12 hf
          refine lv_bipush (v := 7) hx hb dX6_raise_62 (by decide) ?_
          exact wX6_raise_b64 C x0 (some a6) (some a7) (7 : Int32) sz ns sh d10 hf (by omega) (by omega) hw hS (lv_sub hl [] rfl)
        · have hf := if_f c_12 hf
          refine lv_bipush (v := 6) hx hb dX6_raise_57 (by decide) ?_
          refine lv_goto (tgt := 64) hx hb dX6_raise_59 (by decide) ?_
          exact wX6_raise_b64 C x0 (some a6) (some a7) (6 : Int32) sz ns sh d10 hf (by omega) (by omega) hw hS (lv_sub hl [] rfl)
      · have hf := if_f c_11 hf
        refine lv_iload hx hb dX6_raise_43 (lv_at hl 0 rfl) ?_
        refine lv_goto (tgt := 69) hx hb dX6_raise_45 (by decide) ?_
        exact wX6_raise_b69 C r9 sz ns sh d10 hf (by omega) (by omega) hw hS (lv_sub hl [] rfl)

set_option maxRecDepth 100000 in
set_option maxHeartbeats 4000000 in
theorem tX6_raise (l : Launch) (A : Nat → Prop) (D : va_G) (cy : Nat → ClassId) (st : Nat → Nat) (x0 : Nat) (x1 : Int32) (x2 : Int32) (x3 : Int32) (sz ns : Nat) (sh : Sh) (d : Dt) {r : Int32} {sz9 ns9 : Nat} {sh9 : Sh} {d9 : Dt} (hf : fX6_raise (st 1) (st 2) x0 x1 x2 x3 sz ns sh d = some (r, sz9, ns9, sh9, d9)) : Ct l yX6_raise cX6_raise 7 (some .int) 8 188 (sz9 - sz) (ns9 - ns) A D cy st [.ref x0, .int x1, .int x2, .int x3] sz sh d (some (.int r)) sz9 sh9 d9 := by
  have hm := gX6_raise (st 1) (st 2) x0 x1 x2 x3 sz ns sh d hf
  exact ct_of (by decide) (Nat.le_of_ble_eq_true rfl) (fun p e s m args below meth c C hw hS ls hl => wX6_raise_b0 C x0 x1 x2 x3 sz ns sh d hf (by omega) (by omega) hw hS hl)
theorem dX6_entryAt_0 : decode cX6_entryAt 0 = .ok (.iload_n 1, 1) := by decide +kernel
theorem dX6_entryAt_1 : decode cX6_entryAt 1 = .ok (.ifCond .lt 14, 3) := by decide +kernel
theorem dX6_entryAt_4 : decode cX6_entryAt 4 = .ok (.iload_n 1, 1) := by decide +kernel
theorem dX6_entryAt_5 : decode cX6_entryAt 5 = .ok (.aload_n 0, 1) := by decide +kernel
theorem dX6_entryAt_6 : decode cX6_entryAt 6 = .ok (.getfield 24, 3) := by decide +kernel
theorem dX6_entryAt_9 : decode cX6_entryAt 9 = .ok (.invokevirtual 259, 3) := by decide +kernel
theorem dX6_entryAt_12 : decode cX6_entryAt 12 = .ok (.if_icmp .lt 7, 3) := by decide +kernel
theorem dX6_entryAt_15 : decode cX6_entryAt 15 = .ok (.aconst_null, 1) := by decide +kernel
theorem dX6_entryAt_16 : decode cX6_entryAt 16 = .ok (.goto 14, 3) := by decide +kernel
theorem dX6_entryAt_19 : decode cX6_entryAt 19 = .ok (.aload_n 0, 1) := by decide +kernel
theorem dX6_entryAt_20 : decode cX6_entryAt 20 = .ok (.getfield 24, 3) := by decide +kernel
theorem dX6_entryAt_23 : decode cX6_entryAt 23 = .ok (.iload_n 1, 1) := by decide +kernel
theorem dX6_entryAt_24 : decode cX6_entryAt 24 = .ok (.invokevirtual 274, 3) := by decide +kernel
theorem dX6_entryAt_27 : decode cX6_entryAt 27 = .ok (.checkcast 123, 3) := by decide +kernel
theorem dX6_entryAt_30 : decode cX6_entryAt 30 = .ok (.areturn, 1) := by decide +kernel
theorem cvX6_entryAt : CV yX6_entryAt cX6_entryAt 2 (some (.object "ManyHands$Entry")) 7 1 := ⟨kw_469, ks_12, kw_1, kw_470, ⟨_, _, rfl⟩, by decide, by decide +kernel, by decide +kernel, by decide +kernel⟩
def fX6_entryAt_b15 (sh : Sh) (d : Dt) : Option (Option Nat) := some none

def fX6_entryAt_b0 (sh : Sh) (d : Dt) (x0 : Nat) (x1 : Int32) : Option (Option Nat) := if x1 < 0 then (fX6_entryAt_b15 sh d ) else (bd (gR sh d 8 258 x0) fun v2 => bd v2 fun a3 => bd (kc sh 1 a3) fun _ => bd (fJx4a65c_size_8abf5 sh d a3) fun r6 => if x1 < r6 then (bd (gR sh d 8 258 x0) fun v8 => bd v8 fun a9 => bd (kc sh 1 a9) fun _ => bd (fJx4a65c_get_915e3 sh d a9 x1) fun r12 => bd (cst sh 2 r12) fun _ => some r12) else (fX6_entryAt_b15 sh d ))

def fX6_entryAt (sh : Sh) (d : Dt) (x0 : Nat) (x1 : Int32) : Option (Option Nat) := fX6_entryAt_b0 sh d x0 x1

set_option maxRecDepth 100000 in
set_option maxHeartbeats 4000000 in
theorem wX6_entryAt_b15 (C : mx p s m args meth c yX6_entryAt cX6_entryAt 2 (some (.object "ManyHands$Entry")) A D cy st) {r : Option Nat} {d : Dt} : fX6_entryAt_b15 sh d  = some r → ∀ {H : Heap} {locs : List Loc} {ls : Array Slot}, HW A D cy sz sh d H → va_S A s.heap H locs → lv_has ls 2 [] → GL p l e s m args below meth c 3 64 A D cy (some (va_rf r)) sz sh d H locs 15 ls [] := by
  have hx := C.1
  have hb := C.2.1
  intro  hf H locs ls hw hS hl
  unfold fX6_entryAt_b15 at hf
  refine lv_null hx hb dX6_entryAt_15 ?_
  refine lv_goto (tgt := 30) hx hb dX6_entryAt_16 (by decide) ?_
  cases hf
  exact rt_a C hw hS dX6_entryAt_30

set_option maxRecDepth 100000 in
set_option maxHeartbeats 4000000 in
theorem wX6_entryAt_b0 (C : mx p s m args meth c yX6_entryAt cX6_entryAt 2 (some (.object "ManyHands$Entry")) A D cy st) {r : Option Nat} {d : Dt} : ∀ (x0 : Nat) (x1 : Int32), fX6_entryAt_b0 sh d x0 x1 = some r → ∀ {H : Heap} {locs : List Loc} {ls : Array Slot}, HW A D cy sz sh d H → va_S A s.heap H locs → lv_has ls 2 [(0, .ref x0), (1, .int x1)] → GL p l e s m args below meth c 3 64 A D cy (some (va_rf r)) sz sh d H locs 0 ls [] := by
  have hx := C.1
  have hb := C.2.1
  intro x0 x1 hf H locs ls hw hS hl
  unfold fX6_entryAt_b0 at hf
  refine lv_iload_n hx hb dX6_entryAt_0 rfl (lv_at hl 1 rfl) ?_
  refine lv_if_lt (tgt := 15) hx hb dX6_entryAt_1 (by decide) (fun c_1 => ?_) (fun c_1 => ?_)
  · have hf := if_t c_1 hf
    exact wX6_entryAt_b15 C  hf hw hS (lv_sub hl [] rfl)
  · have hf := if_f c_1 hf
    refine lv_iload_n hx hb dX6_entryAt_4 rfl (lv_at hl 1 rfl) ?_
    refine lv_aload_n hx hb dX6_entryAt_5 rfl (lv_at hl 0 rfl) ?_
    obtain ⟨v2, hv2, hf⟩ := bd_s hf
    refine gt_258 C hw hv2 kw_74 dX6_entryAt_6 ?_
    obtain ⟨a3, ea3, hg⟩ := bd_s hf
    clear hf
    subst ea3
    have hf := hg
    clear hg
    obtain ⟨_, h4, hf⟩ := bd_s hf
    obtain ⟨r6, h5, hf⟩ := bd_s hf
    refine cl_V0 C hw hS (tJx4a65c_size_8abf5 l A D cy st sz sh d a3 h5) cvJx4a65c_size_8abf5 kw_245 (kc_k h4) ⟨(Nat.le_of_ble_eq_true rfl), (Nat.le_of_ble_eq_true rfl)⟩ hl.1 rfl (Nat.le_of_ble_eq_true rfl) dX6_entryAt_9 ⟨Nat.zero_le _, Nat.zero_le _⟩ (fun H locs hw hS => ?_)
    refine lv_icmp_lt (tgt := 19) hx hb dX6_entryAt_12 (by decide) (fun c_7 => ?_) (fun c_7 => ?_)
    · have hf := if_t c_7 hf
      refine lv_aload_n hx hb dX6_entryAt_19 rfl (lv_at hl 0 rfl) ?_
      obtain ⟨v8, hv8, hf⟩ := bd_s hf
      refine gt_258 C hw hv8 kw_74 dX6_entryAt_20 ?_
      refine lv_iload_n hx hb dX6_entryAt_23 rfl (lv_at hl 1 rfl) ?_
      obtain ⟨a9, ea9, hg⟩ := bd_s hf
      clear hf
      subst ea9
      have hf := hg
      clear hg
      obtain ⟨_, h10, hf⟩ := bd_s hf
      obtain ⟨r12, h11, hf⟩ := bd_s hf
      refine cl_V0 C hw hS (tJx4a65c_get_915e3 l A D cy st sz sh d a9 x1 h11) cvJx4a65c_get_915e3 kw_471 (kc_k h10) ⟨(Nat.le_of_ble_eq_true rfl), (Nat.le_of_ble_eq_true rfl)⟩ hl.1 rfl (Nat.le_of_ble_eq_true rfl) dX6_entryAt_24 ⟨Nat.zero_le _, Nat.zero_le _⟩ (fun H locs hw hS => ?_)
      obtain ⟨uh13, h13, hf⟩ := bd_s hf
      refine w_cast (ci := 1) (v := r12) C hw rfl (by decide) h13 kw_266 (by decide +kernel) dX6_entryAt_27 ?_
      cases hf
      exact rt_a C hw hS dX6_entryAt_30
    · have hf := if_f c_7 hf
      exact wX6_entryAt_b15 C  hf hw hS (lv_sub hl [] rfl)

set_option maxRecDepth 100000 in
set_option maxHeartbeats 4000000 in
theorem tX6_entryAt (l : Launch) (A : Nat → Prop) (D : va_G) (cy : Nat → ClassId) (st : Nat → Nat) (sz : Nat) (sh : Sh) (d : Dt) (x0 : Nat) (x1 : Int32) {r : Option Nat} (hf : fX6_entryAt sh d x0 x1 = some r) : Ct l yX6_entryAt cX6_entryAt 2 (some (.object "ManyHands$Entry")) 3 64 0 0 A D cy st [.ref x0, .int x1] sz sh d (some (va_rf r)) sz sh d := ct_of (by decide) (Nat.le_of_ble_eq_true rfl) (fun p e s m args below meth c C hw hS ls hl => wX6_entryAt_b0 C x0 x1 hf hw hS hl)
theorem dX6_allHave_0 : decode cX6_allHave 0 = .ok (.iconst 0, 1) := by decide +kernel
theorem dX6_allHave_1 : decode cX6_allHave 1 = .ok (.istore_n 2, 1) := by decide +kernel
theorem dX6_allHave_2 : decode cX6_allHave 2 = .ok (.iload_n 2, 1) := by decide +kernel
theorem dX6_allHave_3 : decode cX6_allHave 3 = .ok (.aload_n 0, 1) := by decide +kernel
theorem dX6_allHave_4 : decode cX6_allHave 4 = .ok (.getfield 42, 3) := by decide +kernel
theorem dX6_allHave_7 : decode cX6_allHave 7 = .ok (.if_icmp .ge 32, 3) := by decide +kernel
theorem dX6_allHave_10 : decode cX6_allHave 10 = .ok (.aload_n 0, 1) := by decide +kernel
theorem dX6_allHave_11 : decode cX6_allHave 11 = .ok (.iload_n 2, 1) := by decide +kernel
theorem dX6_allHave_12 : decode cX6_allHave 12 = .ok (.invokevirtual 74, 3) := by decide +kernel
theorem dX6_allHave_15 : decode cX6_allHave 15 = .ok (.astore_n 3, 1) := by decide +kernel
theorem dX6_allHave_16 : decode cX6_allHave 16 = .ok (.aload_n 3, 1) := by decide +kernel
theorem dX6_allHave_17 : decode cX6_allHave 17 = .ok (.ifnull 16, 3) := by decide +kernel
theorem dX6_allHave_20 : decode cX6_allHave 20 = .ok (.aload_n 3, 1) := by decide +kernel
theorem dX6_allHave_21 : decode cX6_allHave 21 = .ok (.getfield 107, 3) := by decide +kernel
theorem dX6_allHave_24 : decode cX6_allHave 24 = .ok (.aload_n 1, 1) := by decide +kernel
theorem dX6_allHave_25 : decode cX6_allHave 25 = .ok (.invokevirtual 146, 3) := by decide +kernel
theorem dX6_allHave_28 : decode cX6_allHave 28 = .ok (.ifCond .ne 5, 3) := by decide +kernel
theorem dX6_allHave_31 : decode cX6_allHave 31 = .ok (.iconst 0, 1) := by decide +kernel
theorem dX6_allHave_32 : decode cX6_allHave 32 = .ok (.ireturn, 1) := by decide +kernel
theorem dX6_allHave_33 : decode cX6_allHave 33 = .ok (.iinc 2 1, 3) := by decide +kernel
theorem dX6_allHave_36 : decode cX6_allHave 36 = .ok (.goto (-34), 3) := by decide +kernel
theorem dX6_allHave_39 : decode cX6_allHave 39 = .ok (.iconst 1, 1) := by decide +kernel
theorem dX6_allHave_40 : decode cX6_allHave 40 = .ok (.ireturn, 1) := by decide +kernel
theorem cvX6_allHave : CV yX6_allHave cX6_allHave 4 (some .boolean) 7 1 := ⟨kw_491, ks_13, kw_1, kw_492, ⟨_, _, rfl⟩, by decide, by decide +kernel, by decide +kernel, by decide +kernel⟩
def fX6_allHave_b2 (sh : Sh) (d : Dt) : Nat → Nat → Option Nat → Int32 → Option (Bool)
  | 0, _, _, _ => none
  | n + 1, x0, x1, x2 => bd (gI sh d 8 262 x0) fun v1 => if v1 ≤ x2 then (some true) else (bd (fX6_handAt sh d x0 x2) fun r4 => on r4 (fX6_allHave_b2 sh d n x0 x1 (x2 + 1)) (fun a5 => bd (gR sh d 3 97 a5) fun v6 => bd v6 fun a7 => bd (kc sh 6 a7) fun _ => bd (fX4_holds sh d a7 x1) fun r10 => if (bI r10) = 0 then (some false) else (fX6_allHave_b2 sh d n x0 x1 (x2 + 1))))

def fX6_allHave_b0 (sh : Sh) (d : Dt) (x0 : Nat) (x1 : Option Nat) : Option (Bool) := fX6_allHave_b2 sh d fu x0 x1 (0 : Int32)

def fX6_allHave (sh : Sh) (d : Dt) (x0 : Nat) (x1 : Option Nat) : Option (Bool) := fX6_allHave_b0 sh d x0 x1

set_option maxRecDepth 100000 in
set_option maxHeartbeats 4000000 in
theorem wX6_allHave_b2 (C : mx p s m args meth c yX6_allHave cX6_allHave 4 (some .boolean) A D cy st) {r : Bool} {d : Dt} : ∀ (n : Nat) (x0 : Nat) (x1 : Option Nat) (x2 : Int32), fX6_allHave_b2 sh d n x0 x1 x2 = some r → ∀ {H : Heap} {locs : List Loc} {ls : Array Slot}, HW A D cy sz sh d H → va_S A s.heap H locs → lv_has ls 4 [(0, .ref x0), (1, va_rf x1), (2, .int x2)] → GL p l e s m args below meth c 1 21 A D cy (some (.int (bI r))) sz sh d H locs 2 ls [] := by
  have hx := C.1
  have hb := C.2.1
  intro n
  induction n with
  | zero => intro x0 x1 x2 hf; cases hf
  | succ n ih =>
    intro x0 x1 x2 hf H locs ls hw hS hl
    rw [fX6_allHave_b2] at hf
    refine lv_iload_n hx hb dX6_allHave_2 rfl (lv_at hl 2 rfl) ?_
    refine lv_aload_n hx hb dX6_allHave_3 rfl (lv_at hl 0 rfl) ?_
    obtain ⟨v1, hv1, hf⟩ := bd_s hf
    refine gt_262 C hw hv1 kw_78 dX6_allHave_4 ?_
    refine lv_icmp_ge (tgt := 39) hx hb dX6_allHave_7 (by decide) (fun c_2 => ?_) (fun c_2 => ?_)
    · have hf := if_t c_2 hf
      refine lv_iconst (v := 1) hx hb dX6_allHave_39 (by decide) ?_
      cases hf
      exact rt_z C hw hS _ rfl dX6_allHave_40
    · have hf := if_f c_2 hf
      refine lv_aload_n hx hb dX6_allHave_10 rfl (lv_at hl 0 rfl) ?_
      refine lv_iload_n hx hb dX6_allHave_11 rfl (lv_at hl 2 rfl) ?_
      obtain ⟨r4, h3, hf⟩ := bd_s hf
      refine cl_V0 C hw hS (tX6_handAt l A D cy st sz sh d x0 x2 h3) cvX6_handAt kw_233 (gI_s hv1).1 ⟨(Nat.le_of_ble_eq_true rfl), (Nat.le_of_ble_eq_true rfl)⟩ hl.1 rfl (Nat.le_of_ble_eq_true rfl) dX6_allHave_12 ⟨Nat.zero_le _, Nat.zero_le _⟩ (fun H locs hw hS => ?_)
      refine lq_astore_n (x := r4) (lv' := [(3, va_rf r4), (0, .ref x0), (1, va_rf x1), (2, .int x2)]) hx hb dX6_allHave_15 rfl hl (by decide) rfl (fun ls hl => ?_)
      refine lq_aload_n hx hb dX6_allHave_16 rfl (lv_at hl 0 rfl) ?_
      cases r4 with
      | none =>
        have hf := on_n hf
        refine lv_ifnullN (tgt := 33) hx hb dX6_allHave_17 (by decide) ?_
        refine lv_iinc (v := (x2 + 1)) (lv' := [(2, .int (x2 + 1)), (3, va_rf none), (0, .ref x0), (1, va_rf x1)]) hx hb dX6_allHave_33 hl (k := 3) rfl rfl (by decide) (by simp [va_rf_c, cat_i, cat_l, cat_r]) (fun ls hl => ?_)
        refine lv_goto (tgt := 2) hx hb dX6_allHave_36 (by decide) ?_
        exact ih x0 x1 (x2 + 1) hf hw hS (lv_sub hl [2, 3, 0] rfl)
      | some a5 =>
        have hf := on_s hf
        refine lv_ifnull hx hb dX6_allHave_17 ?_
        refine lq_aload_n hx hb dX6_allHave_20 rfl (lv_at hl 0 rfl) ?_
        obtain ⟨v6, hv6, hf⟩ := bd_s hf
        refine gt_97 C hw hv6 kw_153 dX6_allHave_21 ?_
        refine lq_aload_n hx hb dX6_allHave_24 rfl (lv_at hl 2 rfl) ?_
        obtain ⟨a7, ea7, hg⟩ := bd_s hf
        clear hf
        subst ea7
        have hf := hg
        clear hg
        obtain ⟨_, h8, hf⟩ := bd_s hf
        obtain ⟨r10, h9, hf⟩ := bd_s hf
        refine cl_V0 C hw hS (tX4_holds l A D cy st sz sh d a7 x1 h9) cvX4_holds kw_493 (kc_k h8) ⟨(Nat.le_of_ble_eq_true rfl), (Nat.le_of_ble_eq_true rfl)⟩ hl.1 rfl (Nat.le_of_ble_eq_true rfl) dX6_allHave_25 ⟨Nat.zero_le _, Nat.zero_le _⟩ (fun H locs hw hS => ?_)
        refine lv_if_ne (tgt := 33) hx hb dX6_allHave_28 (by decide) (fun c_11 => ?_) (fun c_11 => ?_)
        · have hf := if_f c_11 hf
          refine lv_iinc (v := (x2 + 1)) (lv' := [(2, .int (x2 + 1)), (3, va_rf (some a5)), (0, .ref x0), (1, va_rf x1)]) hx hb dX6_allHave_33 hl (k := 3) rfl rfl (by decide) (by simp [va_rf_c, cat_i, cat_l, cat_r]) (fun ls hl => ?_)
          refine lv_goto (tgt := 2) hx hb dX6_allHave_36 (by decide) ?_
          exact ih x0 x1 (x2 + 1) hf hw hS (lv_sub hl [2, 3, 0] rfl)
        · have hf := if_t c_11 hf
          refine lv_iconst (v := 0) hx hb dX6_allHave_31 (by decide) ?_
          cases hf
          exact rt_z C hw hS _ rfl dX6_allHave_32

set_option maxRecDepth 100000 in
set_option maxHeartbeats 4000000 in
theorem wX6_allHave_b0 (C : mx p s m args meth c yX6_allHave cX6_allHave 4 (some .boolean) A D cy st) {r : Bool} {d : Dt} : ∀ (x0 : Nat) (x1 : Option Nat), fX6_allHave_b0 sh d x0 x1 = some r → ∀ {H : Heap} {locs : List Loc} {ls : Array Slot}, HW A D cy sz sh d H → va_S A s.heap H locs → lv_has ls 4 [(0, .ref x0), (1, va_rf x1)] → GL p l e s m args below meth c 1 21 A D cy (some (.int (bI r))) sz sh d H locs 0 ls [] := by
  have hx := C.1
  have hb := C.2.1
  intro x0 x1 hf H locs ls hw hS hl
  unfold fX6_allHave_b0 at hf
  refine lv_iconst (v := 0) hx hb dX6_allHave_0 (by decide) ?_
  refine lv_istore_n (i := 2) (lv' := [(2, .int (0 : Int32)), (0, .ref x0), (1, va_rf x1)]) hx hb dX6_allHave_1 rfl hl (by decide) (by simp [va_rf_c, cat_i, cat_l, cat_r]) (fun ls hl => ?_)
  exact wX6_allHave_b2 C fu x0 x1 (0 : Int32) hf hw hS (lv_sub hl [1, 2, 0] rfl)

set_option maxRecDepth 100000 in
set_option maxHeartbeats 4000000 in
theorem tX6_allHave (l : Launch) (A : Nat → Prop) (D : va_G) (cy : Nat → ClassId) (st : Nat → Nat) (sz : Nat) (sh : Sh) (d : Dt) (x0 : Nat) (x1 : Option Nat) {r : Bool} (hf : fX6_allHave sh d x0 x1 = some r) : Ct l yX6_allHave cX6_allHave 4 (some .boolean) 1 21 0 0 A D cy st [.ref x0, va_rf x1] sz sh d (some (.int (bI r))) sz sh d := ct_of (by decide) (by simp [lg_sl, va_rf_c, cat_i, cat_l, cat_r]) (fun p e s m args below meth c C hw hS ls hl => wX6_allHave_b0 C x0 x1 hf hw hS (by simpa [lv_args, va_rf_c, cat_i, cat_l, cat_r] using hl))
theorem dX6_change_0 : decode cX6_change 0 = .ok (.aload_n 0, 1) := by decide +kernel
theorem dX6_change_1 : decode cX6_change 1 = .ok (.iload_n 1, 1) := by decide +kernel
theorem dX6_change_2 : decode cX6_change 2 = .ok (.invokevirtual 118, 3) := by decide +kernel
theorem dX6_change_5 : decode cX6_change 5 = .ok (.astore_n 3, 1) := by decide +kernel
theorem dX6_change_6 : decode cX6_change 6 = .ok (.aload_n 3, 1) := by decide +kernel
theorem dX6_change_7 : decode cX6_change 7 = .ok (.ifnonnull 5, 3) := by decide +kernel
theorem dX6_change_10 : decode cX6_change 10 = .ok (.iconst (-1), 1) := by decide +kernel
theorem dX6_change_11 : decode cX6_change 11 = .ok (.ireturn, 1) := by decide +kernel
theorem dX6_change_12 : decode cX6_change 12 = .ok (.iload_n 2, 1) := by decide +kernel
theorem dX6_change_13 : decode cX6_change 13 = .ok (.tableswitch 67 0 4 #[35, 40, 45, 50, 58], 35) := by decide +kernel
theorem dX6_change_48 : decode cX6_change 48 = .ok (.aload_n 3, 1) := by decide +kernel
theorem dX6_change_49 : decode cX6_change 49 = .ok (.getfield 122, 3) := by decide +kernel
theorem dX6_change_52 : decode cX6_change 52 = .ok (.ireturn, 1) := by decide +kernel
theorem dX6_change_53 : decode cX6_change 53 = .ok (.aload_n 3, 1) := by decide +kernel
theorem dX6_change_54 : decode cX6_change 54 = .ok (.getfield 127, 3) := by decide +kernel
theorem dX6_change_57 : decode cX6_change 57 = .ok (.ireturn, 1) := by decide +kernel
theorem dX6_change_58 : decode cX6_change 58 = .ok (.aload_n 3, 1) := by decide +kernel
theorem dX6_change_59 : decode cX6_change 59 = .ok (.getfield 130, 3) := by decide +kernel
theorem dX6_change_62 : decode cX6_change 62 = .ok (.ireturn, 1) := by decide +kernel
theorem dX6_change_63 : decode cX6_change 63 = .ok (.aload_n 3, 1) := by decide +kernel
theorem dX6_change_64 : decode cX6_change 64 = .ok (.getfield 133, 3) := by decide +kernel
theorem dX6_change_67 : decode cX6_change 67 = .ok (.invokevirtual 136, 3) := by decide +kernel
theorem dX6_change_70 : decode cX6_change 70 = .ok (.ireturn, 1) := by decide +kernel
theorem dX6_change_71 : decode cX6_change 71 = .ok (.aload_n 0, 1) := by decide +kernel
theorem dX6_change_72 : decode cX6_change 72 = .ok (.aload_n 3, 1) := by decide +kernel
theorem dX6_change_73 : decode cX6_change 73 = .ok (.invokevirtual 142, 3) := by decide +kernel
theorem dX6_change_76 : decode cX6_change 76 = .ok (.invokestatic 70, 3) := by decide +kernel
theorem dX6_change_79 : decode cX6_change 79 = .ok (.ireturn, 1) := by decide +kernel
theorem dX6_change_80 : decode cX6_change 80 = .ok (.iconst (-1), 1) := by decide +kernel
theorem dX6_change_81 : decode cX6_change 81 = .ok (.ireturn, 1) := by decide +kernel
theorem cvX6_change : CV yX6_change cX6_change 4 (some .int) 7 2 := ⟨kw_464, kw_465, kw_1, kw_466, ⟨_, _, rfl⟩, by decide, by decide +kernel, by decide +kernel, by decide +kernel⟩
def fX6_change_b0 (sh : Sh) (d : Dt) (x0 : Nat) (x1 : Int32) (x2 : Int32) : Option (Int32) := bd (kc sh 8 x0) fun _ => bd (fX6_entryAt sh d x0 x1) fun r3 => on r3 (some (-1 : Int32)) (fun a4 => if x2 = 0 then (bd (gI sh d 2 65 a4) fun v6 => some v6) else if x2 = 1 then (bd (gI sh d 2 66 a4) fun v8 => some v8) else if x2 = 2 then (bd (gI sh d 2 70 a4) fun v10 => some v10) else if x2 = 3 then (bd (gR sh d 2 72 a4) fun v12 => bd v12 fun a13 => bd (kc sh 6 a13) fun _ => bd (fX4_size sh d a13) fun r16 => some r16) else if x2 = 4 then (bd (fX6_allHave sh d x0 (some a4)) fun r19 => bd (fX6_oneIf sh d (bI r19)) fun r21 => some r21) else (some (-1 : Int32)))

def fX6_change (sh : Sh) (d : Dt) (x0 : Nat) (x1 : Int32) (x2 : Int32) : Option (Int32) := fX6_change_b0 sh d x0 x1 x2

set_option maxRecDepth 100000 in
set_option maxHeartbeats 4000000 in
theorem wX6_change_b0 (C : mx p s m args meth c yX6_change cX6_change 4 (some .int) A D cy st) {r : Int32} {d : Dt} : ∀ (x0 : Nat) (x1 : Int32) (x2 : Int32), fX6_change_b0 sh d x0 x1 x2 = some r → ∀ {H : Heap} {locs : List Loc} {ls : Array Slot}, HW A D cy sz sh d H → va_S A s.heap H locs → lv_has ls 4 [(0, .ref x0), (1, .int x1), (2, .int x2)] → GL p l e s m args below meth c 4 85 A D cy (some (.int r)) sz sh d H locs 0 ls [] := by
  have hx := C.1
  have hb := C.2.1
  intro x0 x1 x2 hf H locs ls hw hS hl
  unfold fX6_change_b0 at hf
  refine lv_aload_n hx hb dX6_change_0 rfl (lv_at hl 0 rfl) ?_
  refine lv_iload_n hx hb dX6_change_1 rfl (lv_at hl 1 rfl) ?_
  obtain ⟨_, h1, hf⟩ := bd_s hf
  obtain ⟨r3, h2, hf⟩ := bd_s hf
  refine cl_V0 C hw hS (tX6_entryAt l A D cy st sz sh d x0 x1 h2) cvX6_entryAt kw_467 (kc_k h1) ⟨(Nat.le_of_ble_eq_true rfl), (Nat.le_of_ble_eq_true rfl)⟩ hl.1 rfl (Nat.le_of_ble_eq_true rfl) dX6_change_2 ⟨Nat.zero_le _, Nat.zero_le _⟩ (fun H locs hw hS => ?_)
  refine lq_astore_n (x := r3) (lv' := [(3, va_rf r3), (0, .ref x0), (1, .int x1), (2, .int x2)]) hx hb dX6_change_5 rfl hl (by decide) rfl (fun ls hl => ?_)
  refine lq_aload_n hx hb dX6_change_6 rfl (lv_at hl 0 rfl) ?_
  cases r3 with
  | none =>
    have hf := on_n hf
    refine lv_ifnonnullN hx hb dX6_change_7 ?_
    refine lv_iconst (v := -1) hx hb dX6_change_10 (by decide) ?_
    cases hf
    exact rt_i C hw hS dX6_change_11
  | some a4 =>
    have hf := on_s hf
    refine lv_ifnonnull (tgt := 12) hx hb dX6_change_7 (by decide) ?_
    refine lv_iload_n hx hb dX6_change_12 rfl (lv_at hl 3 rfl) ?_
    by_cases c_5 : x2 = 0
    · have hf := if_t c_5 hf
      refine lv_tableIn (tgt := 48) hx hb dX6_change_13 (by rw [c_5]; decide) (by rw [c_5]; decide) (by rw [c_5]; rfl) (by decide) ?_
      refine lq_aload_n hx hb dX6_change_48 rfl (lv_at hl 0 rfl) ?_
      obtain ⟨v6, hv6, hf⟩ := bd_s hf
      refine gt_65 C hw hv6 kw_290 dX6_change_49 ?_
      cases hf
      exact rt_i C hw hS dX6_change_52
    have hf := if_f c_5 hf
    by_cases c_7 : x2 = 1
    · have hf := if_t c_7 hf
      refine lv_tableIn (tgt := 53) hx hb dX6_change_13 (by rw [c_7]; decide) (by rw [c_7]; decide) (by rw [c_7]; rfl) (by decide) ?_
      refine lq_aload_n hx hb dX6_change_53 rfl (lv_at hl 0 rfl) ?_
      obtain ⟨v8, hv8, hf⟩ := bd_s hf
      refine gt_66 C hw hv8 kw_292 dX6_change_54 ?_
      cases hf
      exact rt_i C hw hS dX6_change_57
    have hf := if_f c_7 hf
    by_cases c_9 : x2 = 2
    · have hf := if_t c_9 hf
      refine lv_tableIn (tgt := 58) hx hb dX6_change_13 (by rw [c_9]; decide) (by rw [c_9]; decide) (by rw [c_9]; rfl) (by decide) ?_
      refine lq_aload_n hx hb dX6_change_58 rfl (lv_at hl 0 rfl) ?_
      obtain ⟨v10, hv10, hf⟩ := bd_s hf
      refine gt_70 C hw hv10 kw_302 dX6_change_59 ?_
      cases hf
      exact rt_i C hw hS dX6_change_62
    have hf := if_f c_9 hf
    by_cases c_11 : x2 = 3
    · have hf := if_t c_11 hf
      refine lv_tableIn (tgt := 63) hx hb dX6_change_13 (by rw [c_11]; decide) (by rw [c_11]; decide) (by rw [c_11]; rfl) (by decide) ?_
      refine lq_aload_n hx hb dX6_change_63 rfl (lv_at hl 0 rfl) ?_
      obtain ⟨v12, hv12, hf⟩ := bd_s hf
      refine gt_72 C hw hv12 kw_309 dX6_change_64 ?_
      obtain ⟨a13, ea13, hg⟩ := bd_s hf
      clear hf
      subst ea13
      have hf := hg
      clear hg
      obtain ⟨_, h14, hf⟩ := bd_s hf
      obtain ⟨r16, h15, hf⟩ := bd_s hf
      refine cl_V0 C hw hS (tX4_size l A D cy st sz sh d a13 h15) cvX4_size kw_485 (kc_k h14) ⟨(Nat.le_of_ble_eq_true rfl), (Nat.le_of_ble_eq_true rfl)⟩ hl.1 rfl (Nat.le_of_ble_eq_true rfl) dX6_change_67 ⟨Nat.zero_le _, Nat.zero_le _⟩ (fun H locs hw hS => ?_)
      cases hf
      exact rt_i C hw hS dX6_change_70
    have hf := if_f c_11 hf
    by_cases c_17 : x2 = 4
    · have hf := if_t c_17 hf
      refine lv_tableIn (tgt := 71) hx hb dX6_change_13 (by rw [c_17]; decide) (by rw [c_17]; decide) (by rw [c_17]; rfl) (by decide) ?_
      refine lv_aload_n hx hb dX6_change_71 rfl (lv_at hl 1 rfl) ?_
      refine lq_aload_n hx hb dX6_change_72 rfl (lv_at hl 0 rfl) ?_
      obtain ⟨r19, h18, hf⟩ := bd_s hf
      refine cl_V0 C hw hS (tX6_allHave l A D cy st sz sh d x0 (some a4) h18) cvX6_allHave kw_489 (kc_k h1) ⟨(Nat.le_of_ble_eq_true rfl), (Nat.le_of_ble_eq_true rfl)⟩ hl.1 rfl (Nat.le_of_ble_eq_true rfl) dX6_change_73 ⟨Nat.zero_le _, Nat.zero_le _⟩ (fun H locs hw hS => ?_)
      obtain ⟨r21, h20, hf⟩ := bd_s hf
      refine cl_S0 C hw hS (tX6_oneIf l A D cy st sz sh d (bI r19) h20) csX6_oneIf kw_226 ⟨(Nat.le_of_ble_eq_true rfl), (Nat.le_of_ble_eq_true rfl)⟩ hl.1 rfl (Nat.le_of_ble_eq_true rfl) dX6_change_76 ⟨Nat.zero_le _, Nat.zero_le _⟩ (fun H locs hw hS => ?_)
      cases hf
      exact rt_i C hw hS dX6_change_79
    have hf := if_f c_17 hf
    refine lv_tableOut (tgt := 80) hx hb dX6_change_13 (by have z0 := lv_neT (a := 0) c_5 (by decide); have z1 := lv_neT (a := 1) c_7 (by decide); have z2 := lv_neT (a := 2) c_9 (by decide); have z3 := lv_neT (a := 3) c_11 (by decide); have z4 := lv_neT (a := 4) c_17 (by decide); omega) (by decide) ?_
    refine lv_iconst (v := -1) hx hb dX6_change_80 (by decide) ?_
    cases hf
    exact rt_i C hw hS dX6_change_81

set_option maxRecDepth 100000 in
set_option maxHeartbeats 4000000 in
theorem tX6_change (l : Launch) (A : Nat → Prop) (D : va_G) (cy : Nat → ClassId) (st : Nat → Nat) (sz : Nat) (sh : Sh) (d : Dt) (x0 : Nat) (x1 : Int32) (x2 : Int32) {r : Int32} (hf : fX6_change sh d x0 x1 x2 = some r) : Ct l yX6_change cX6_change 4 (some .int) 4 85 0 0 A D cy st [.ref x0, .int x1, .int x2] sz sh d (some (.int r)) sz sh d := ct_of (by decide) (Nat.le_of_ble_eq_true rfl) (fun p e s m args below meth c C hw hS ls hl => wX6_change_b0 C x0 x1 x2 hf hw hS hl)
theorem dX6_knows_0 : decode cX6_knows 0 = .ok (.aload_n 0, 1) := by decide +kernel
theorem dX6_knows_1 : decode cX6_knows 1 = .ok (.iload_n 1, 1) := by decide +kernel
theorem dX6_knows_2 : decode cX6_knows 2 = .ok (.invokevirtual 118, 3) := by decide +kernel
theorem dX6_knows_5 : decode cX6_knows 5 = .ok (.astore_n 3, 1) := by decide +kernel
theorem dX6_knows_6 : decode cX6_knows 6 = .ok (.aload_n 0, 1) := by decide +kernel
theorem dX6_knows_7 : decode cX6_knows 7 = .ok (.iload_n 2, 1) := by decide +kernel
theorem dX6_knows_8 : decode cX6_knows 8 = .ok (.invokevirtual 118, 3) := by decide +kernel
theorem dX6_knows_11 : decode cX6_knows 11 = .ok (.astore 4, 2) := by decide +kernel
theorem dX6_knows_13 : decode cX6_knows 13 = .ok (.aload_n 3, 1) := by decide +kernel
theorem dX6_knows_14 : decode cX6_knows 14 = .ok (.ifnull 8, 3) := by decide +kernel
theorem dX6_knows_17 : decode cX6_knows 17 = .ok (.aload 4, 2) := by decide +kernel
theorem dX6_knows_19 : decode cX6_knows 19 = .ok (.ifnonnull 5, 3) := by decide +kernel
theorem dX6_knows_22 : decode cX6_knows 22 = .ok (.iconst (-1), 1) := by decide +kernel
theorem dX6_knows_23 : decode cX6_knows 23 = .ok (.ireturn, 1) := by decide +kernel
theorem dX6_knows_24 : decode cX6_knows 24 = .ok (.aload_n 3, 1) := by decide +kernel
theorem dX6_knows_25 : decode cX6_knows 25 = .ok (.getfield 133, 3) := by decide +kernel
theorem dX6_knows_28 : decode cX6_knows 28 = .ok (.aload 4, 2) := by decide +kernel
theorem dX6_knows_30 : decode cX6_knows 30 = .ok (.invokevirtual 146, 3) := by decide +kernel
theorem dX6_knows_33 : decode cX6_knows 33 = .ok (.invokestatic 70, 3) := by decide +kernel
theorem dX6_knows_36 : decode cX6_knows 36 = .ok (.ireturn, 1) := by decide +kernel
theorem cvX6_knows : CV yX6_knows cX6_knows 5 (some .int) 7 2 := ⟨kw_495, kw_496, kw_1, kw_497, ⟨_, _, rfl⟩, by decide, by decide +kernel, by decide +kernel, by decide +kernel⟩
def fX6_knows_b0 (sh : Sh) (d : Dt) (x0 : Nat) (x1 : Int32) (x2 : Int32) : Option (Int32) := bd (kc sh 8 x0) fun _ => bd (fX6_entryAt sh d x0 x1) fun r3 => bd (fX6_entryAt sh d x0 x2) fun r5 => on r3 (some (-1 : Int32)) (fun a6 => on r5 (some (-1 : Int32)) (fun a7 => bd (gR sh d 2 72 a6) fun v8 => bd v8 fun a9 => bd (kc sh 6 a9) fun _ => bd (fX4_holds sh d a9 (some a7)) fun r12 => bd (fX6_oneIf sh d (bI r12)) fun r14 => some r14))

def fX6_knows (sh : Sh) (d : Dt) (x0 : Nat) (x1 : Int32) (x2 : Int32) : Option (Int32) := fX6_knows_b0 sh d x0 x1 x2

set_option maxRecDepth 100000 in
set_option maxHeartbeats 4000000 in
theorem wX6_knows_b0 (C : mx p s m args meth c yX6_knows cX6_knows 5 (some .int) A D cy st) {r : Int32} {d : Dt} : ∀ (x0 : Nat) (x1 : Int32) (x2 : Int32), fX6_knows_b0 sh d x0 x1 x2 = some r → ∀ {H : Heap} {locs : List Loc} {ls : Array Slot}, HW A D cy sz sh d H → va_S A s.heap H locs → lv_has ls 5 [(0, .ref x0), (1, .int x1), (2, .int x2)] → GL p l e s m args below meth c 4 85 A D cy (some (.int r)) sz sh d H locs 0 ls [] := by
  have hx := C.1
  have hb := C.2.1
  intro x0 x1 x2 hf H locs ls hw hS hl
  unfold fX6_knows_b0 at hf
  refine lv_aload_n hx hb dX6_knows_0 rfl (lv_at hl 0 rfl) ?_
  refine lv_iload_n hx hb dX6_knows_1 rfl (lv_at hl 1 rfl) ?_
  obtain ⟨_, h1, hf⟩ := bd_s hf
  obtain ⟨r3, h2, hf⟩ := bd_s hf
  refine cl_V0 C hw hS (tX6_entryAt l A D cy st sz sh d x0 x1 h2) cvX6_entryAt kw_467 (kc_k h1) ⟨(Nat.le_of_ble_eq_true rfl), (Nat.le_of_ble_eq_true rfl)⟩ hl.1 rfl (Nat.le_of_ble_eq_true rfl) dX6_knows_2 ⟨Nat.zero_le _, Nat.zero_le _⟩ (fun H locs hw hS => ?_)
  refine lq_astore_n (x := r3) (lv' := [(3, va_rf r3), (0, .ref x0), (1, .int x1), (2, .int x2)]) hx hb dX6_knows_5 rfl hl (by decide) rfl (fun ls hl => ?_)
  refine lv_aload_n hx hb dX6_knows_6 rfl (lv_at hl 1 rfl) ?_
  refine lv_iload_n hx hb dX6_knows_7 rfl (lv_at hl 3 rfl) ?_
  obtain ⟨r5, h4, hf⟩ := bd_s hf
  refine cl_V0 C hw hS (tX6_entryAt l A D cy st sz sh d x0 x2 h4) cvX6_entryAt kw_467 (kc_k h1) ⟨(Nat.le_of_ble_eq_true rfl), (Nat.le_of_ble_eq_true rfl)⟩ hl.1 rfl (Nat.le_of_ble_eq_true rfl) dX6_knows_8 ⟨Nat.zero_le _, Nat.zero_le _⟩ (fun H locs hw hS => ?_)
  refine lq_astore (i := 4) (x := r5) (lv' := [(4, va_rf r5), (3, va_rf r3), (0, .ref x0), (1, .int x1), (2, .int x2)]) hx hb dX6_knows_11 hl (by decide) (by simp [va_rf_c, cat_i, cat_l, cat_r]) (fun ls hl => ?_)
  refine lq_aload_n hx hb dX6_knows_13 rfl (lv_at hl 1 rfl) ?_
  cases r3 with
  | none =>
    have hf := on_n hf
    refine lv_ifnullN (tgt := 22) hx hb dX6_knows_14 (by decide) ?_
    refine lv_iconst (v := -1) hx hb dX6_knows_22 (by decide) ?_
    cases hf
    exact rt_i C hw hS dX6_knows_23
  | some a6 =>
    have hf := on_s hf
    refine lv_ifnull hx hb dX6_knows_14 ?_
    refine lq_aload hx hb dX6_knows_17 (lv_at hl 0 rfl) ?_
    cases r5 with
    | none =>
      have hf := on_n hf
      refine lv_ifnonnullN hx hb dX6_knows_19 ?_
      refine lv_iconst (v := -1) hx hb dX6_knows_22 (by decide) ?_
      cases hf
      exact rt_i C hw hS dX6_knows_23
    | some a7 =>
      have hf := on_s hf
      refine lv_ifnonnull (tgt := 24) hx hb dX6_knows_19 (by decide) ?_
      refine lq_aload_n hx hb dX6_knows_24 rfl (lv_at hl 1 rfl) ?_
      obtain ⟨v8, hv8, hf⟩ := bd_s hf
      refine gt_72 C hw hv8 kw_309 dX6_knows_25 ?_
      refine lq_aload hx hb dX6_knows_28 (lv_at hl 0 rfl) ?_
      obtain ⟨a9, ea9, hg⟩ := bd_s hf
      clear hf
      subst ea9
      have hf := hg
      clear hg
      obtain ⟨_, h10, hf⟩ := bd_s hf
      obtain ⟨r12, h11, hf⟩ := bd_s hf
      refine cl_V0 C hw hS (tX4_holds l A D cy st sz sh d a9 (some a7) h11) cvX4_holds kw_493 (kc_k h10) ⟨(Nat.le_of_ble_eq_true rfl), (Nat.le_of_ble_eq_true rfl)⟩ hl.1 rfl (Nat.le_of_ble_eq_true rfl) dX6_knows_30 ⟨Nat.zero_le _, Nat.zero_le _⟩ (fun H locs hw hS => ?_)
      obtain ⟨r14, h13, hf⟩ := bd_s hf
      refine cl_S0 C hw hS (tX6_oneIf l A D cy st sz sh d (bI r12) h13) csX6_oneIf kw_226 ⟨(Nat.le_of_ble_eq_true rfl), (Nat.le_of_ble_eq_true rfl)⟩ hl.1 rfl (Nat.le_of_ble_eq_true rfl) dX6_knows_33 ⟨Nat.zero_le _, Nat.zero_le _⟩ (fun H locs hw hS => ?_)
      cases hf
      exact rt_i C hw hS dX6_knows_36

set_option maxRecDepth 100000 in
set_option maxHeartbeats 4000000 in
theorem tX6_knows (l : Launch) (A : Nat → Prop) (D : va_G) (cy : Nat → ClassId) (st : Nat → Nat) (sz : Nat) (sh : Sh) (d : Dt) (x0 : Nat) (x1 : Int32) (x2 : Int32) {r : Int32} (hf : fX6_knows sh d x0 x1 x2 = some r) : Ct l yX6_knows cX6_knows 5 (some .int) 4 85 0 0 A D cy st [.ref x0, .int x1, .int x2] sz sh d (some (.int r)) sz sh d := ct_of (by decide) (Nat.le_of_ble_eq_true rfl) (fun p e s m args below meth c C hw hS ls hl => wX6_knows_b0 C x0 x1 x2 hf hw hS hl)
theorem dX6_come_0 : decode cX6_come 0 = .ok (.aload_n 0, 1) := by decide +kernel
theorem dX6_come_1 : decode cX6_come 1 = .ok (.iload_n 1, 1) := by decide +kernel
theorem dX6_come_2 : decode cX6_come 2 = .ok (.invokevirtual 74, 3) := by decide +kernel
theorem dX6_come_5 : decode cX6_come 5 = .ok (.astore_n 3, 1) := by decide +kernel
theorem dX6_come_6 : decode cX6_come 6 = .ok (.aload_n 0, 1) := by decide +kernel
theorem dX6_come_7 : decode cX6_come 7 = .ok (.iload_n 2, 1) := by decide +kernel
theorem dX6_come_8 : decode cX6_come 8 = .ok (.invokevirtual 118, 3) := by decide +kernel
theorem dX6_come_11 : decode cX6_come 11 = .ok (.astore 4, 2) := by decide +kernel
theorem dX6_come_13 : decode cX6_come 13 = .ok (.aload_n 3, 1) := by decide +kernel
theorem dX6_come_14 : decode cX6_come 14 = .ok (.ifnull 8, 3) := by decide +kernel
theorem dX6_come_17 : decode cX6_come 17 = .ok (.aload 4, 2) := by decide +kernel
theorem dX6_come_19 : decode cX6_come 19 = .ok (.ifnonnull 5, 3) := by decide +kernel
theorem dX6_come_22 : decode cX6_come 22 = .ok (.iconst (-1), 1) := by decide +kernel
theorem dX6_come_23 : decode cX6_come 23 = .ok (.ireturn, 1) := by decide +kernel
theorem dX6_come_24 : decode cX6_come 24 = .ok (.aload_n 3, 1) := by decide +kernel
theorem dX6_come_25 : decode cX6_come 25 = .ok (.getfield 107, 3) := by decide +kernel
theorem dX6_come_28 : decode cX6_come 28 = .ok (.aload 4, 2) := by decide +kernel
theorem dX6_come_30 : decode cX6_come 30 = .ok (.invokevirtual 146, 3) := by decide +kernel
theorem dX6_come_33 : decode cX6_come 33 = .ok (.ifCond .eq 7, 3) := by decide +kernel
theorem dX6_come_36 : decode cX6_come 36 = .ok (.iconst 2, 1) := by decide +kernel
theorem dX6_come_37 : decode cX6_come 37 = .ok (.goto 12, 3) := by decide +kernel
theorem dX6_come_40 : decode cX6_come 40 = .ok (.bipush 10, 2) := by decide +kernel
theorem dX6_come_42 : decode cX6_come 42 = .ok (.aload_n 3, 1) := by decide +kernel
theorem dX6_come_43 : decode cX6_come 43 = .ok (.aload 4, 2) := by decide +kernel
theorem dX6_come_45 : decode cX6_come 45 = .ok (.invokevirtual 149, 3) := by decide +kernel
theorem dX6_come_48 : decode cX6_come 48 = .ok (.iadd, 1) := by decide +kernel
theorem dX6_come_49 : decode cX6_come 49 = .ok (.ireturn, 1) := by decide +kernel
theorem cvX6_come : CV yX6_come cX6_come 5 (some .int) 7 2 := ⟨kw_499, kw_500, kw_1, kw_501, ⟨_, _, rfl⟩, by decide, by decide +kernel, by decide +kernel, by decide +kernel⟩
def fX6_come_b48 (em mi : Nat) (t0 : Int32) (t1 : Int32) (sz : Nat) (ns : Nat) (sh : Sh) (d : Dt) : Option (Int32 × Wl) := some ((t0 + t1), sz, ns, sh, d)

def fX6_come_b0 (em mi : Nat) (x0 : Nat) (x1 : Int32) (x2 : Int32) (sz : Nat) (ns : Nat) (sh : Sh) (d : Dt) : Option (Int32 × Wl) := bd (kc sh 8 x0) fun _ => bd (fX6_handAt sh d x0 x1) fun r3 => bd (fX6_entryAt sh d x0 x2) fun r5 => on r3 (some ((-1 : Int32), sz, ns, sh, d)) (fun a6 => on r5 (some ((-1 : Int32), sz, ns, sh, d)) (fun a7 => bd (gR sh d 3 97 a6) fun v8 => bd v8 fun a9 => bd (kc sh 6 a9) fun _ => bd (fX4_holds sh d a9 (some a7)) fun r12 => if (bI r12) = 0 then (bw2 (fX1_receive em mi a6 (some a7) sz ns sh d) fun r15 szq16 nsq16 shq16 dq16 => fX6_come_b48 em mi (10 : Int32) r15 szq16 nsq16 shq16 dq16) else (some ((2 : Int32), sz, ns, sh, d))))

def fX6_come (em mi : Nat) (x0 : Nat) (x1 : Int32) (x2 : Int32) (sz ns : Nat) (sh : Sh) (d : Dt) : Option (Int32 × Wl) := fX6_come_b0 em mi x0 x1 x2 sz ns sh d

set_option maxRecDepth 100000 in
set_option maxHeartbeats 4000000 in
theorem mX6_come_b48 (em mi : Nat) {r : Int32} {sz9 ns9 : Nat} {sh9 : Sh} {d9 : Dt} : ∀ (t0 : Int32) (t1 : Int32) (sz : Nat) (ns : Nat) (sh : Sh) (d : Dt), fX6_come_b48 em mi t0 t1 sz ns sh d = some (r, sz9, ns9, sh9, d9) → sz ≤ sz9 ∧ ns ≤ ns9 := by
  intro t0 t1 sz ns sh d hf
  unfold fX6_come_b48 at hf
  cases hf
  exact ⟨Nat.le_refl _, Nat.le_refl _⟩

set_option maxRecDepth 100000 in
set_option maxHeartbeats 4000000 in
theorem mX6_come_b0 (em mi : Nat) {r : Int32} {sz9 ns9 : Nat} {sh9 : Sh} {d9 : Dt} : ∀ (x0 : Nat) (x1 : Int32) (x2 : Int32) (sz : Nat) (ns : Nat) (sh : Sh) (d : Dt), fX6_come_b0 em mi x0 x1 x2 sz ns sh d = some (r, sz9, ns9, sh9, d9) → sz ≤ sz9 ∧ ns ≤ ns9 := by
  intro x0 x1 x2 sz ns sh d hf
  unfold fX6_come_b0 at hf
  obtain ⟨_, h1, hf⟩ := bd_s hf
  obtain ⟨r3, h2, hf⟩ := bd_s hf
  obtain ⟨r5, h4, hf⟩ := bd_s hf
  cases r3 with
  | none =>
    have hf := on_n hf
    cases hf
    exact ⟨Nat.le_refl _, Nat.le_refl _⟩
  | some a6 =>
    have hf := on_s hf
    cases r5 with
    | none =>
      have hf := on_n hf
      cases hf
      exact ⟨Nat.le_refl _, Nat.le_refl _⟩
    | some a7 =>
      have hf := on_s hf
      obtain ⟨v8, hv8, hf⟩ := bd_s hf
      obtain ⟨a9, ea9, hg⟩ := bd_s hf
      clear hf
      subst ea9
      have hf := hg
      clear hg
      obtain ⟨_, h10, hf⟩ := bd_s hf
      obtain ⟨r12, h11, hf⟩ := bd_s hf
      by_cases c_13 : (bI r12) = 0
      · have hf := if_t c_13 hf
        obtain ⟨r15, szq16, nsq16, shq16, dq16, h14, hf⟩ := bw2_s hf
        have hq := gX1_receive em mi a6 (some a7) sz ns sh d h14
        have hm := mX6_come_b48 em mi (10 : Int32) r15 szq16 nsq16 shq16 dq16 hf
        omega
      · have hf := if_f c_13 hf
        cases hf
        exact ⟨Nat.le_refl _, Nat.le_refl _⟩

theorem gX6_come (em mi : Nat) (x0 : Nat) (x1 : Int32) (x2 : Int32) (sz ns : Nat) (sh : Sh) (d : Dt) {r : Int32} {sz9 ns9 : Nat} {sh9 : Sh} {d9 : Dt} (hf : fX6_come em mi x0 x1 x2 sz ns sh d = some (r, sz9, ns9, sh9, d9)) : sz ≤ sz9 ∧ ns ≤ ns9 := mX6_come_b0 em mi x0 x1 x2 sz ns sh d hf

set_option maxRecDepth 100000 in
set_option maxHeartbeats 4000000 in
theorem wX6_come_b48 (C : mx p s m args meth c yX6_come cX6_come 5 (some .int) A D cy st) {r : Int32} {sz9 ns9 : Nat} {sh9 : Sh} {d9 : Dt} {mc ms : Nat} : ∀ (t0 : Int32) (t1 : Int32) (sz : Nat) (ns : Nat) (sh : Sh) (d : Dt), fX6_come_b48 (st 1) (st 2) t0 t1 sz ns sh d = some (r, sz9, ns9, sh9, d9) → ∀ {cu su : Nat}, sz9 + cu = sz + mc → ns9 + su = ns + ms → ∀ {H : Heap} {locs : List Loc} {ls : Array Slot}, HW A D cy sz sh d H → va_S A s.heap H locs → lv_has ls 5 [] → GA p l e s m args below meth c 8 184 mc ms A D cy (some (.int r)) sz9 sh9 d9 H locs cu su 48 ls [.int t1, .int t0] := by
  have hx := C.1
  have hb := C.2.1
  intro t0 t1 sz ns sh d hf cu su hcm hsm H locs ls hw hS hl
  have hm0 := mX6_come_b48 (st 1) (st 2) t0 t1 sz ns sh d hf
  unfold fX6_come_b48 at hf
  refine lv_iadd hx hb dX6_come_48 ?_
  cases hf
  obtain rfl : mc = cu := by omega
  obtain rfl : ms = su := by omega
  exact rt_i C hw hS dX6_come_49

set_option maxRecDepth 100000 in
set_option maxHeartbeats 4000000 in
theorem wX6_come_b0 (C : mx p s m args meth c yX6_come cX6_come 5 (some .int) A D cy st) {r : Int32} {sz9 ns9 : Nat} {sh9 : Sh} {d9 : Dt} {mc ms : Nat} : ∀ (x0 : Nat) (x1 : Int32) (x2 : Int32) (sz : Nat) (ns : Nat) (sh : Sh) (d : Dt), fX6_come_b0 (st 1) (st 2) x0 x1 x2 sz ns sh d = some (r, sz9, ns9, sh9, d9) → ∀ {cu su : Nat}, sz9 + cu = sz + mc → ns9 + su = ns + ms → ∀ {H : Heap} {locs : List Loc} {ls : Array Slot}, HW A D cy sz sh d H → va_S A s.heap H locs → lv_has ls 5 [(0, .ref x0), (1, .int x1), (2, .int x2)] → GA p l e s m args below meth c 8 184 mc ms A D cy (some (.int r)) sz9 sh9 d9 H locs cu su 0 ls [] := by
  have hx := C.1
  have hb := C.2.1
  intro x0 x1 x2 sz ns sh d hf cu su hcm hsm H locs ls hw hS hl
  have hm0 := mX6_come_b0 (st 1) (st 2) x0 x1 x2 sz ns sh d hf
  unfold fX6_come_b0 at hf
  refine lv_aload_n hx hb dX6_come_0 rfl (lv_at hl 0 rfl) ?_
  refine lv_iload_n hx hb dX6_come_1 rfl (lv_at hl 1 rfl) ?_
  obtain ⟨_, h1, hf⟩ := bd_s hf
  obtain ⟨r3, h2, hf⟩ := bd_s hf
  refine cl_V0 C hw hS (tX6_handAt l A D cy st sz sh d x0 x1 h2) cvX6_handAt kw_233 (kc_k h1) ⟨(Nat.le_of_ble_eq_true rfl), (Nat.le_of_ble_eq_true rfl)⟩ hl.1 rfl (Nat.le_of_ble_eq_true rfl) dX6_come_2 ⟨by show _ ≤ mc; omega, by show _ ≤ ms; omega⟩ (fun H locs hw hS => ?_)
  refine lq_astore_n (x := r3) (lv' := [(3, va_rf r3), (0, .ref x0), (1, .int x1), (2, .int x2)]) hx hb dX6_come_5 rfl hl (by decide) rfl (fun ls hl => ?_)
  refine lv_aload_n hx hb dX6_come_6 rfl (lv_at hl 1 rfl) ?_
  refine lv_iload_n hx hb dX6_come_7 rfl (lv_at hl 3 rfl) ?_
  obtain ⟨r5, h4, hf⟩ := bd_s hf
  refine cl_V0 C hw hS (tX6_entryAt l A D cy st sz sh d x0 x2 h4) cvX6_entryAt kw_467 (kc_k h1) ⟨(Nat.le_of_ble_eq_true rfl), (Nat.le_of_ble_eq_true rfl)⟩ hl.1 rfl (Nat.le_of_ble_eq_true rfl) dX6_come_8 ⟨by show _ ≤ mc; omega, by show _ ≤ ms; omega⟩ (fun H locs hw hS => ?_)
  refine lq_astore (i := 4) (x := r5) (lv' := [(4, va_rf r5), (3, va_rf r3), (0, .ref x0), (1, .int x1), (2, .int x2)]) hx hb dX6_come_11 hl (by decide) (by simp [va_rf_c, cat_i, cat_l, cat_r]) (fun ls hl => ?_)
  refine lq_aload_n hx hb dX6_come_13 rfl (lv_at hl 1 rfl) ?_
  cases r3 with
  | none =>
    have hf := on_n hf
    refine lv_ifnullN (tgt := 22) hx hb dX6_come_14 (by decide) ?_
    refine lv_iconst (v := -1) hx hb dX6_come_22 (by decide) ?_
    cases hf
    obtain rfl : mc = cu := by omega
    obtain rfl : ms = su := by omega
    exact rt_i C hw hS dX6_come_23
  | some a6 =>
    have hf := on_s hf
    refine lv_ifnull hx hb dX6_come_14 ?_
    refine lq_aload hx hb dX6_come_17 (lv_at hl 0 rfl) ?_
    cases r5 with
    | none =>
      have hf := on_n hf
      refine lv_ifnonnullN hx hb dX6_come_19 ?_
      refine lv_iconst (v := -1) hx hb dX6_come_22 (by decide) ?_
      cases hf
      obtain rfl : mc = cu := by omega
      obtain rfl : ms = su := by omega
      exact rt_i C hw hS dX6_come_23
    | some a7 =>
      have hf := on_s hf
      refine lv_ifnonnull (tgt := 24) hx hb dX6_come_19 (by decide) ?_
      refine lq_aload_n hx hb dX6_come_24 rfl (lv_at hl 1 rfl) ?_
      obtain ⟨v8, hv8, hf⟩ := bd_s hf
      refine gt_97 C hw hv8 kw_153 dX6_come_25 ?_
      refine lq_aload hx hb dX6_come_28 (lv_at hl 0 rfl) ?_
      obtain ⟨a9, ea9, hg⟩ := bd_s hf
      clear hf
      subst ea9
      have hf := hg
      clear hg
      obtain ⟨_, h10, hf⟩ := bd_s hf
      obtain ⟨r12, h11, hf⟩ := bd_s hf
      refine cl_V0 C hw hS (tX4_holds l A D cy st sz sh d a9 (some a7) h11) cvX4_holds kw_493 (kc_k h10) ⟨(Nat.le_of_ble_eq_true rfl), (Nat.le_of_ble_eq_true rfl)⟩ hl.1 rfl (Nat.le_of_ble_eq_true rfl) dX6_come_30 ⟨by show _ ≤ mc; omega, by show _ ≤ ms; omega⟩ (fun H locs hw hS => ?_)
      refine lv_if_eq (tgt := 40) hx hb dX6_come_33 (by decide) (fun c_13 => ?_) (fun c_13 => ?_)
      · have hf := if_t c_13 hf
        refine lv_bipush (v := 10) hx hb dX6_come_40 (by decide) ?_
        refine lq_aload_n hx hb dX6_come_42 rfl (lv_at hl 1 rfl) ?_
        refine lq_aload hx hb dX6_come_43 (lv_at hl 0 rfl) ?_
        obtain ⟨r15, szq16, nsq16, shq16, dq16, h14, hf⟩ := bw2_s hf
        have hm := mX6_come_b48 (st 1) (st 2) (10 : Int32) r15 szq16 nsq16 shq16 dq16 hf
        have hq := gX1_receive (st 1) (st 2) a6 (some a7) sz ns sh d h14
        refine cl_V C hw hS (tX1_receive l A D cy st a6 (some a7) sz ns sh d h14) cvX1_receive kw_502 (gR_s hv8).1 ⟨(Nat.le_of_ble_eq_true rfl), (Nat.le_of_ble_eq_true rfl)⟩ hl.1 rfl (Nat.le_of_ble_eq_true rfl) dX6_come_45 ⟨by show _ ≤ mc; omega, by show _ ≤ ms; omega⟩ (fun H locs hw hS => ?_)
        exact wX6_come_b48 C (10 : Int32) r15 szq16 nsq16 shq16 dq16 hf (by omega) (by omega) hw hS (lv_sub hl [] rfl)
      · have hf := if_f c_13 hf
        refine lv_iconst (v := 2) hx hb dX6_come_36 (by decide) ?_
        refine lv_goto (tgt := 49) hx hb dX6_come_37 (by decide) ?_
        cases hf
        obtain rfl : mc = cu := by omega
        obtain rfl : ms = su := by omega
        exact rt_i C hw hS dX6_come_49

set_option maxRecDepth 100000 in
set_option maxHeartbeats 4000000 in
theorem tX6_come (l : Launch) (A : Nat → Prop) (D : va_G) (cy : Nat → ClassId) (st : Nat → Nat) (x0 : Nat) (x1 : Int32) (x2 : Int32) (sz ns : Nat) (sh : Sh) (d : Dt) {r : Int32} {sz9 ns9 : Nat} {sh9 : Sh} {d9 : Dt} (hf : fX6_come (st 1) (st 2) x0 x1 x2 sz ns sh d = some (r, sz9, ns9, sh9, d9)) : Ct l yX6_come cX6_come 5 (some .int) 8 184 (sz9 - sz) (ns9 - ns) A D cy st [.ref x0, .int x1, .int x2] sz sh d (some (.int r)) sz9 sh9 d9 := by
  have hm := gX6_come (st 1) (st 2) x0 x1 x2 sz ns sh d hf
  exact ct_of (by decide) (Nat.le_of_ble_eq_true rfl) (fun p e s m args below meth c C hw hS ls hl => wX6_come_b0 C x0 x1 x2 sz ns sh d hf (by omega) (by omega) hw hS hl)
theorem dX6_leastLacking_0 : decode cX6_leastLacking 0 = .ok (.aconst_null, 1) := by decide +kernel
theorem dX6_leastLacking_1 : decode cX6_leastLacking 1 = .ok (.astore_n 3, 1) := by decide +kernel
theorem dX6_leastLacking_2 : decode cX6_leastLacking 2 = .ok (.iconst 0, 1) := by decide +kernel
theorem dX6_leastLacking_3 : decode cX6_leastLacking 3 = .ok (.istore 4, 2) := by decide +kernel
theorem dX6_leastLacking_5 : decode cX6_leastLacking 5 = .ok (.iload 4, 2) := by decide +kernel
theorem dX6_leastLacking_7 : decode cX6_leastLacking 7 = .ok (.aload_n 0, 1) := by decide +kernel
theorem dX6_leastLacking_8 : decode cX6_leastLacking 8 = .ok (.getfield 42, 3) := by decide +kernel
theorem dX6_leastLacking_11 : decode cX6_leastLacking 11 = .ok (.if_icmp .ge 85, 3) := by decide +kernel
theorem dX6_leastLacking_14 : decode cX6_leastLacking 14 = .ok (.aload_n 0, 1) := by decide +kernel
theorem dX6_leastLacking_15 : decode cX6_leastLacking 15 = .ok (.iload 4, 2) := by decide +kernel
theorem dX6_leastLacking_17 : decode cX6_leastLacking 17 = .ok (.invokevirtual 74, 3) := by decide +kernel
theorem dX6_leastLacking_20 : decode cX6_leastLacking 20 = .ok (.astore 5, 2) := by decide +kernel
theorem dX6_leastLacking_22 : decode cX6_leastLacking 22 = .ok (.aload_n 2, 1) := by decide +kernel
theorem dX6_leastLacking_23 : decode cX6_leastLacking 23 = .ok (.getfield 107, 3) := by decide +kernel
theorem dX6_leastLacking_26 : decode cX6_leastLacking 26 = .ok (.getfield 306, 3) := by decide +kernel
theorem dX6_leastLacking_29 : decode cX6_leastLacking 29 = .ok (.iload 4, 2) := by decide +kernel
theorem dX6_leastLacking_31 : decode cX6_leastLacking 31 = .ok (.iaload, 1) := by decide +kernel
theorem dX6_leastLacking_32 : decode cX6_leastLacking 32 = .ok (.iconst 1, 1) := by decide +kernel
theorem dX6_leastLacking_33 : decode cX6_leastLacking 33 = .ok (.iadd, 1) := by decide +kernel
theorem dX6_leastLacking_34 : decode cX6_leastLacking 34 = .ok (.istore 6, 2) := by decide +kernel
theorem dX6_leastLacking_36 : decode cX6_leastLacking 36 = .ok (.aload 5, 2) := by decide +kernel
theorem dX6_leastLacking_38 : decode cX6_leastLacking 38 = .ok (.ifnull 18, 3) := by decide +kernel
theorem dX6_leastLacking_41 : decode cX6_leastLacking 41 = .ok (.iload 6, 2) := by decide +kernel
theorem dX6_leastLacking_43 : decode cX6_leastLacking 43 = .ok (.aload_n 1, 1) := by decide +kernel
theorem dX6_leastLacking_44 : decode cX6_leastLacking 44 = .ok (.getfield 107, 3) := by decide +kernel
theorem dX6_leastLacking_47 : decode cX6_leastLacking 47 = .ok (.getfield 306, 3) := by decide +kernel
theorem dX6_leastLacking_50 : decode cX6_leastLacking 50 = .ok (.iload 4, 2) := by decide +kernel
theorem dX6_leastLacking_52 : decode cX6_leastLacking 52 = .ok (.iaload, 1) := by decide +kernel
theorem dX6_leastLacking_53 : decode cX6_leastLacking 53 = .ok (.if_icmp .le 7, 3) := by decide +kernel
theorem dX6_leastLacking_56 : decode cX6_leastLacking 56 = .ok (.aconst_null, 1) := by decide +kernel
theorem dX6_leastLacking_57 : decode cX6_leastLacking 57 = .ok (.goto 10, 3) := by decide +kernel
theorem dX6_leastLacking_60 : decode cX6_leastLacking 60 = .ok (.aload 5, 2) := by decide +kernel
theorem dX6_leastLacking_62 : decode cX6_leastLacking 62 = .ok (.iload 6, 2) := by decide +kernel
theorem dX6_leastLacking_64 : decode cX6_leastLacking 64 = .ok (.invokevirtual 309, 3) := by decide +kernel
theorem dX6_leastLacking_67 : decode cX6_leastLacking 67 = .ok (.astore 7, 2) := by decide +kernel
theorem dX6_leastLacking_69 : decode cX6_leastLacking 69 = .ok (.aload 7, 2) := by decide +kernel
theorem dX6_leastLacking_71 : decode cX6_leastLacking 71 = .ok (.ifnull 19, 3) := by decide +kernel
theorem dX6_leastLacking_74 : decode cX6_leastLacking 74 = .ok (.aload_n 3, 1) := by decide +kernel
theorem dX6_leastLacking_75 : decode cX6_leastLacking 75 = .ok (.ifnull 12, 3) := by decide +kernel
theorem dX6_leastLacking_78 : decode cX6_leastLacking 78 = .ok (.aload 7, 2) := by decide +kernel
theorem dX6_leastLacking_80 : decode cX6_leastLacking 80 = .ok (.aload_n 3, 1) := by decide +kernel
theorem dX6_leastLacking_81 : decode cX6_leastLacking 81 = .ok (.invokevirtual 312, 3) := by decide +kernel
theorem dX6_leastLacking_84 : decode cX6_leastLacking 84 = .ok (.ifCond .eq 6, 3) := by decide +kernel
theorem dX6_leastLacking_87 : decode cX6_leastLacking 87 = .ok (.aload 7, 2) := by decide +kernel
theorem dX6_leastLacking_89 : decode cX6_leastLacking 89 = .ok (.astore_n 3, 1) := by decide +kernel
theorem dX6_leastLacking_90 : decode cX6_leastLacking 90 = .ok (.iinc 4 1, 3) := by decide +kernel
theorem dX6_leastLacking_93 : decode cX6_leastLacking 93 = .ok (.goto (-88), 3) := by decide +kernel
theorem dX6_leastLacking_96 : decode cX6_leastLacking 96 = .ok (.aload_n 3, 1) := by decide +kernel
theorem dX6_leastLacking_97 : decode cX6_leastLacking 97 = .ok (.areturn, 1) := by decide +kernel
theorem cvX6_leastLacking : CV yX6_leastLacking cX6_leastLacking 8 (some (.object "ManyHands$Entry")) 7 2 := ⟨kw_553, ks_16, kw_1, kw_554, ⟨_, _, rfl⟩, by decide, by decide +kernel, by decide +kernel, by decide +kernel⟩
def fX6_leastLacking_b67 (sh : Sh) (d : Dt) (k5 : Nat → Option Nat → Option Nat → Option Nat → Int32 → Option (Option Nat)) (x0 : Nat) (x1 : Option Nat) (x2 : Option Nat) (x3 : Option Nat) (x4 : Int32) (t0 : Option Nat) : Option (Option Nat) := on t0 (k5 x0 x1 x2 x3 (x4 + 1)) (fun a1 => on x3 (k5 x0 x1 x2 (some a1) (x4 + 1)) (fun a2 => bd (kc sh 2 a1) fun _ => bd (fX0_isBelow sh d a1 (some a2)) fun r5 => if (bI r5) = 0 then (k5 x0 x1 x2 (some a2) (x4 + 1)) else (k5 x0 x1 x2 (some a1) (x4 + 1))))

def fX6_leastLacking_b56 (sh : Sh) (d : Dt) (k5 : Nat → Option Nat → Option Nat → Option Nat → Int32 → Option (Option Nat)) (x0 : Nat) (x1 : Option Nat) (x2 : Option Nat) (x3 : Option Nat) (x4 : Int32) : Option (Option Nat) := fX6_leastLacking_b67 sh d k5 x0 x1 x2 x3 x4 none

def fX6_leastLacking_b5 (sh : Sh) (d : Dt) : Nat → Nat → Option Nat → Option Nat → Option Nat → Int32 → Option (Option Nat)
  | 0, _, _, _, _, _ => none
  | n + 1, x0, x1, x2, x3, x4 => bd (gI sh d 8 262 x0) fun v1 => if v1 ≤ x4 then (some x3) else (bd (fX6_handAt sh d x0 x4) fun r4 => bd x2 fun a5 => bd (gR sh d 3 97 a5) fun v6 => bd v6 fun a7 => bd (gR sh d 6 192 a7) fun v8 => bd v8 fun a9 => bd (aI sh d 20 a9 x4) fun v10 => on r4 (fX6_leastLacking_b56 sh d (fX6_leastLacking_b5 sh d n) x0 x1 (some a5) x3 x4) (fun a11 => bd x1 fun a12 => bd (gR sh d 3 97 a12) fun v13 => bd v13 fun a14 => bd (gR sh d 6 192 a14) fun v15 => bd v15 fun a16 => bd (aI sh d 20 a16 x4) fun v17 => if (v10 + (1 : Int32)) ≤ v17 then (bd (kc sh 3 a11) fun _ => bd (fX1_ownAt sh d a11 (v10 + (1 : Int32))) fun r21 => fX6_leastLacking_b67 sh d (fX6_leastLacking_b5 sh d n) x0 (some a12) (some a5) x3 x4 r21) else (fX6_leastLacking_b56 sh d (fX6_leastLacking_b5 sh d n) x0 (some a12) (some a5) x3 x4)))

def fX6_leastLacking_b0 (sh : Sh) (d : Dt) (x0 : Nat) (x1 : Option Nat) (x2 : Option Nat) : Option (Option Nat) := fX6_leastLacking_b5 sh d fu x0 x1 x2 none (0 : Int32)

def fX6_leastLacking (sh : Sh) (d : Dt) (x0 : Nat) (x1 : Option Nat) (x2 : Option Nat) : Option (Option Nat) := fX6_leastLacking_b0 sh d x0 x1 x2

set_option maxRecDepth 100000 in
set_option maxHeartbeats 4000000 in
theorem wX6_leastLacking_b67 (C : mx p s m args meth c yX6_leastLacking cX6_leastLacking 8 (some (.object "ManyHands$Entry")) A D cy st) {k5 : Nat → Option Nat → Option Nat → Option Nat → Int32 → Option (Option Nat)} {r : Option Nat} {d : Dt} (Hk5 : ∀ (x0 : Nat) (x1 : Option Nat) (x2 : Option Nat) (x3 : Option Nat) (x4 : Int32), k5 x0 x1 x2 x3 x4 = some r → ∀ {H : Heap} {locs : List Loc} {ls : Array Slot}, HW A D cy sz sh d H → va_S A s.heap H locs → lv_has ls 8 [(0, .ref x0), (1, va_rf x1), (2, va_rf x2), (3, va_rf x3), (4, .int x4)] → GL p l e s m args below meth c 4 85 A D cy (some (va_rf r)) sz sh d H locs 5 ls []) : ∀ (x0 : Nat) (x1 : Option Nat) (x2 : Option Nat) (x3 : Option Nat) (x4 : Int32) (t0 : Option Nat), fX6_leastLacking_b67 sh d k5 x0 x1 x2 x3 x4 t0 = some r → ∀ {H : Heap} {locs : List Loc} {ls : Array Slot}, HW A D cy sz sh d H → va_S A s.heap H locs → lv_has ls 8 [(0, .ref x0), (1, va_rf x1), (2, va_rf x2), (3, va_rf x3), (4, .int x4)] → GL p l e s m args below meth c 4 85 A D cy (some (va_rf r)) sz sh d H locs 67 ls [va_rf t0] := by
  have hx := C.1
  have hb := C.2.1
  intro x0 x1 x2 x3 x4 t0 hf H locs ls hw hS hl
  unfold fX6_leastLacking_b67 at hf
  refine lq_astore (x := t0) (lv' := [(7, va_rf t0), (0, .ref x0), (1, va_rf x1), (2, va_rf x2), (3, va_rf x3), (4, .int x4)]) hx hb dX6_leastLacking_67 hl (by decide) rfl (fun ls hl => ?_)
  refine lq_aload hx hb dX6_leastLacking_69 (lv_at hl 0 rfl) ?_
  cases t0 with
  | none =>
    have hf := on_n hf
    refine lv_ifnullN (tgt := 90) hx hb dX6_leastLacking_71 (by decide) ?_
    refine lv_iinc (v := (x4 + 1)) (lv' := [(4, .int (x4 + 1)), (7, va_rf none), (0, .ref x0), (1, va_rf x1), (2, va_rf x2), (3, va_rf x3)]) hx hb dX6_leastLacking_90 hl (k := 5) rfl rfl (by decide) (by simp [va_rf_c, cat_i, cat_l, cat_r]) (fun ls hl => ?_)
    refine lv_goto (tgt := 5) hx hb dX6_leastLacking_93 (by decide) ?_
    exact Hk5 x0 x1 x2 x3 (x4 + 1) hf hw hS (lv_sub hl [2, 3, 4, 5, 0] rfl)
  | some a1 =>
    have hf := on_s hf
    refine lv_ifnull hx hb dX6_leastLacking_71 ?_
    refine lq_aload_n hx hb dX6_leastLacking_74 rfl (lv_at hl 4 rfl) ?_
    cases x3 with
    | none =>
      have hf := on_n hf
      refine lv_ifnullN (tgt := 87) hx hb dX6_leastLacking_75 (by decide) ?_
      refine lq_aload hx hb dX6_leastLacking_87 (lv_at hl 0 rfl) ?_
      refine lq_astore_n (i := 3) (x := (some a1)) (lv' := [(3, va_rf (some a1)), (7, va_rf (some a1)), (0, .ref x0), (1, va_rf x1), (2, va_rf x2), (4, .int x4)]) hx hb dX6_leastLacking_89 rfl hl (by decide) (by simp [va_rf_c, cat_i, cat_l, cat_r]) (fun ls hl => ?_)
      refine lv_iinc (v := (x4 + 1)) (lv' := [(4, .int (x4 + 1)), (3, va_rf (some a1)), (7, va_rf (some a1)), (0, .ref x0), (1, va_rf x1), (2, va_rf x2)]) hx hb dX6_leastLacking_90 hl (k := 5) rfl rfl (by decide) (by simp [va_rf_c, cat_i, cat_l, cat_r]) (fun ls hl => ?_)
      refine lv_goto (tgt := 5) hx hb dX6_leastLacking_93 (by decide) ?_
      exact Hk5 x0 x1 x2 (some a1) (x4 + 1) hf hw hS (lv_sub hl [3, 4, 5, 1, 0] rfl)
    | some a2 =>
      have hf := on_s hf
      refine lv_ifnull hx hb dX6_leastLacking_75 ?_
      refine lq_aload hx hb dX6_leastLacking_78 (lv_at hl 0 rfl) ?_
      refine lq_aload_n hx hb dX6_leastLacking_80 rfl (lv_at hl 4 rfl) ?_
      obtain ⟨_, h3, hf⟩ := bd_s hf
      obtain ⟨r5, h4, hf⟩ := bd_s hf
      refine cl_V0 C hw hS (tX0_isBelow l A D cy st sz sh d a1 (some a2) h4) cvX0_isBelow kw_559 (kc_k h3) ⟨(Nat.le_of_ble_eq_true rfl), (Nat.le_of_ble_eq_true rfl)⟩ hl.1 rfl (Nat.le_of_ble_eq_true rfl) dX6_leastLacking_81 ⟨Nat.zero_le _, Nat.zero_le _⟩ (fun H locs hw hS => ?_)
      refine lv_if_eq (tgt := 90) hx hb dX6_leastLacking_84 (by decide) (fun c_6 => ?_) (fun c_6 => ?_)
      · have hf := if_t c_6 hf
        refine lv_iinc (v := (x4 + 1)) (lv' := [(4, .int (x4 + 1)), (7, va_rf (some a1)), (0, .ref x0), (1, va_rf x1), (2, va_rf x2), (3, va_rf (some a2))]) hx hb dX6_leastLacking_90 hl (k := 5) rfl rfl (by decide) (by simp [va_rf_c, cat_i, cat_l, cat_r]) (fun ls hl => ?_)
        refine lv_goto (tgt := 5) hx hb dX6_leastLacking_93 (by decide) ?_
        exact Hk5 x0 x1 x2 (some a2) (x4 + 1) hf hw hS (lv_sub hl [2, 3, 4, 5, 0] rfl)
      · have hf := if_f c_6 hf
        refine lq_aload hx hb dX6_leastLacking_87 (lv_at hl 0 rfl) ?_
        refine lq_astore_n (i := 3) (x := (some a1)) (lv' := [(3, va_rf (some a1)), (7, va_rf (some a1)), (0, .ref x0), (1, va_rf x1), (2, va_rf x2), (4, .int x4)]) hx hb dX6_leastLacking_89 rfl hl (by decide) (by simp [va_rf_c, cat_i, cat_l, cat_r]) (fun ls hl => ?_)
        refine lv_iinc (v := (x4 + 1)) (lv' := [(4, .int (x4 + 1)), (3, va_rf (some a1)), (7, va_rf (some a1)), (0, .ref x0), (1, va_rf x1), (2, va_rf x2)]) hx hb dX6_leastLacking_90 hl (k := 5) rfl rfl (by decide) (by simp [va_rf_c, cat_i, cat_l, cat_r]) (fun ls hl => ?_)
        refine lv_goto (tgt := 5) hx hb dX6_leastLacking_93 (by decide) ?_
        exact Hk5 x0 x1 x2 (some a1) (x4 + 1) hf hw hS (lv_sub hl [3, 4, 5, 1, 0] rfl)

set_option maxRecDepth 100000 in
set_option maxHeartbeats 4000000 in
theorem wX6_leastLacking_b56 (C : mx p s m args meth c yX6_leastLacking cX6_leastLacking 8 (some (.object "ManyHands$Entry")) A D cy st) {k5 : Nat → Option Nat → Option Nat → Option Nat → Int32 → Option (Option Nat)} {r : Option Nat} {d : Dt} (Hk5 : ∀ (x0 : Nat) (x1 : Option Nat) (x2 : Option Nat) (x3 : Option Nat) (x4 : Int32), k5 x0 x1 x2 x3 x4 = some r → ∀ {H : Heap} {locs : List Loc} {ls : Array Slot}, HW A D cy sz sh d H → va_S A s.heap H locs → lv_has ls 8 [(0, .ref x0), (1, va_rf x1), (2, va_rf x2), (3, va_rf x3), (4, .int x4)] → GL p l e s m args below meth c 4 85 A D cy (some (va_rf r)) sz sh d H locs 5 ls []) : ∀ (x0 : Nat) (x1 : Option Nat) (x2 : Option Nat) (x3 : Option Nat) (x4 : Int32), fX6_leastLacking_b56 sh d k5 x0 x1 x2 x3 x4 = some r → ∀ {H : Heap} {locs : List Loc} {ls : Array Slot}, HW A D cy sz sh d H → va_S A s.heap H locs → lv_has ls 8 [(0, .ref x0), (1, va_rf x1), (2, va_rf x2), (3, va_rf x3), (4, .int x4)] → GL p l e s m args below meth c 4 85 A D cy (some (va_rf r)) sz sh d H locs 56 ls [] := by
  have hx := C.1
  have hb := C.2.1
  intro x0 x1 x2 x3 x4 hf H locs ls hw hS hl
  unfold fX6_leastLacking_b56 at hf
  refine lv_null hx hb dX6_leastLacking_56 ?_
  refine lv_goto (tgt := 67) hx hb dX6_leastLacking_57 (by decide) ?_
  exact wX6_leastLacking_b67 C Hk5 x0 x1 x2 x3 x4 none hf hw hS (lv_sub hl [0, 1, 2, 3, 4] rfl)

set_option maxRecDepth 100000 in
set_option maxHeartbeats 4000000 in
theorem wX6_leastLacking_b5 (C : mx p s m args meth c yX6_leastLacking cX6_leastLacking 8 (some (.object "ManyHands$Entry")) A D cy st) {r : Option Nat} {d : Dt} : ∀ (n : Nat) (x0 : Nat) (x1 : Option Nat) (x2 : Option Nat) (x3 : Option Nat) (x4 : Int32), fX6_leastLacking_b5 sh d n x0 x1 x2 x3 x4 = some r → ∀ {H : Heap} {locs : List Loc} {ls : Array Slot}, HW A D cy sz sh d H → va_S A s.heap H locs → lv_has ls 8 [(0, .ref x0), (1, va_rf x1), (2, va_rf x2), (3, va_rf x3), (4, .int x4)] → GL p l e s m args below meth c 4 85 A D cy (some (va_rf r)) sz sh d H locs 5 ls [] := by
  have hx := C.1
  have hb := C.2.1
  intro n
  induction n with
  | zero => intro x0 x1 x2 x3 x4 hf; cases hf
  | succ n ih =>
    intro x0 x1 x2 x3 x4 hf H locs ls hw hS hl
    rw [fX6_leastLacking_b5] at hf
    refine lv_iload hx hb dX6_leastLacking_5 (lv_at hl 4 rfl) ?_
    refine lv_aload_n hx hb dX6_leastLacking_7 rfl (lv_at hl 0 rfl) ?_
    obtain ⟨v1, hv1, hf⟩ := bd_s hf
    refine gt_262 C hw hv1 kw_78 dX6_leastLacking_8 ?_
    refine lv_icmp_ge (tgt := 96) hx hb dX6_leastLacking_11 (by decide) (fun c_2 => ?_) (fun c_2 => ?_)
    · have hf := if_t c_2 hf
      refine lq_aload_n hx hb dX6_leastLacking_96 rfl (lv_at hl 3 rfl) ?_
      cases hf
      exact rt_a C hw hS dX6_leastLacking_97
    · have hf := if_f c_2 hf
      refine lv_aload_n hx hb dX6_leastLacking_14 rfl (lv_at hl 0 rfl) ?_
      refine lv_iload hx hb dX6_leastLacking_15 (lv_at hl 4 rfl) ?_
      obtain ⟨r4, h3, hf⟩ := bd_s hf
      refine cl_V0 C hw hS (tX6_handAt l A D cy st sz sh d x0 x4 h3) cvX6_handAt kw_233 (gI_s hv1).1 ⟨(Nat.le_of_ble_eq_true rfl), (Nat.le_of_ble_eq_true rfl)⟩ hl.1 rfl (Nat.le_of_ble_eq_true rfl) dX6_leastLacking_17 ⟨Nat.zero_le _, Nat.zero_le _⟩ (fun H locs hw hS => ?_)
      refine lq_astore (x := r4) (lv' := [(5, va_rf r4), (0, .ref x0), (1, va_rf x1), (2, va_rf x2), (3, va_rf x3), (4, .int x4)]) hx hb dX6_leastLacking_20 hl (by decide) rfl (fun ls hl => ?_)
      refine lq_aload_n hx hb dX6_leastLacking_22 rfl (lv_at hl 3 rfl) ?_
      obtain ⟨a5, ea5, hg⟩ := bd_s hf
      clear hf
      subst ea5
      have hf := hg
      clear hg
      obtain ⟨v6, hv6, hf⟩ := bd_s hf
      refine gt_97 C hw hv6 kw_153 dX6_leastLacking_23 ?_
      obtain ⟨a7, ea7, hg⟩ := bd_s hf
      clear hf
      subst ea7
      have hf := hg
      clear hg
      obtain ⟨v8, hv8, hf⟩ := bd_s hf
      refine gt_192 C hw hv8 kw_124 dX6_leastLacking_26 ?_
      refine lv_iload hx hb dX6_leastLacking_29 (lv_at hl 5 rfl) ?_
      obtain ⟨a9, ea9, hg⟩ := bd_s hf
      clear hf
      subst ea9
      have hf := hg
      clear hg
      obtain ⟨v10, hv10, hf⟩ := bd_s hf
      refine w_iald C hw hv10 dX6_leastLacking_31 ?_
      refine lv_iconst (v := 1) hx hb dX6_leastLacking_32 (by decide) ?_
      refine lv_iadd hx hb dX6_leastLacking_33 ?_
      refine lv_istore (i := 6) (lv' := [(6, .int (v10 + (1 : Int32))), (5, va_rf r4), (0, .ref x0), (1, va_rf x1), (2, va_rf (some a5)), (3, va_rf x3), (4, .int x4)]) hx hb dX6_leastLacking_34 hl (by decide) (by simp [va_rf_c, cat_i, cat_l, cat_r]) (fun ls hl => ?_)
      refine lq_aload hx hb dX6_leastLacking_36 (lv_at hl 1 rfl) ?_
      cases r4 with
      | none =>
        have hf := on_n hf
        refine lv_ifnullN (tgt := 56) hx hb dX6_leastLacking_38 (by decide) ?_
        exact wX6_leastLacking_b56 C ih x0 x1 (some a5) x3 x4 hf hw hS (lv_sub hl [2, 3, 4, 5, 6] rfl)
      | some a11 =>
        have hf := on_s hf
        refine lv_ifnull hx hb dX6_leastLacking_38 ?_
        refine lv_iload hx hb dX6_leastLacking_41 (lv_at hl 0 rfl) ?_
        refine lq_aload_n hx hb dX6_leastLacking_43 rfl (lv_at hl 3 rfl) ?_
        obtain ⟨a12, ea12, hg⟩ := bd_s hf
        clear hf
        subst ea12
        have hf := hg
        clear hg
        obtain ⟨v13, hv13, hf⟩ := bd_s hf
        refine gt_97 C hw hv13 kw_153 dX6_leastLacking_44 ?_
        obtain ⟨a14, ea14, hg⟩ := bd_s hf
        clear hf
        subst ea14
        have hf := hg
        clear hg
        obtain ⟨v15, hv15, hf⟩ := bd_s hf
        refine gt_192 C hw hv15 kw_124 dX6_leastLacking_47 ?_
        refine lv_iload hx hb dX6_leastLacking_50 (lv_at hl 6 rfl) ?_
        obtain ⟨a16, ea16, hg⟩ := bd_s hf
        clear hf
        subst ea16
        have hf := hg
        clear hg
        obtain ⟨v17, hv17, hf⟩ := bd_s hf
        refine w_iald C hw hv17 dX6_leastLacking_52 ?_
        refine lv_icmp_le (tgt := 60) hx hb dX6_leastLacking_53 (by decide) (fun c_18 => ?_) (fun c_18 => ?_)
        · have hf := if_t c_18 hf
          refine lq_aload hx hb dX6_leastLacking_60 (lv_at hl 1 rfl) ?_
          refine lv_iload hx hb dX6_leastLacking_62 (lv_at hl 0 rfl) ?_
          obtain ⟨_, h19, hf⟩ := bd_s hf
          obtain ⟨r21, h20, hf⟩ := bd_s hf
          refine cl_V0 C hw hS (tX1_ownAt l A D cy st sz sh d a11 (v10 + (1 : Int32)) h20) cvX1_ownAt kw_555 (kc_k h19) ⟨(Nat.le_of_ble_eq_true rfl), (Nat.le_of_ble_eq_true rfl)⟩ hl.1 rfl (Nat.le_of_ble_eq_true rfl) dX6_leastLacking_64 ⟨Nat.zero_le _, Nat.zero_le _⟩ (fun H locs hw hS => ?_)
          exact wX6_leastLacking_b67 C ih x0 (some a12) (some a5) x3 x4 r21 hf hw hS (lv_sub hl [2, 3, 4, 5, 6] rfl)
        · have hf := if_f c_18 hf
          exact wX6_leastLacking_b56 C ih x0 (some a12) (some a5) x3 x4 hf hw hS (lv_sub hl [2, 3, 4, 5, 6] rfl)

set_option maxRecDepth 100000 in
set_option maxHeartbeats 4000000 in
theorem wX6_leastLacking_b0 (C : mx p s m args meth c yX6_leastLacking cX6_leastLacking 8 (some (.object "ManyHands$Entry")) A D cy st) {r : Option Nat} {d : Dt} : ∀ (x0 : Nat) (x1 : Option Nat) (x2 : Option Nat), fX6_leastLacking_b0 sh d x0 x1 x2 = some r → ∀ {H : Heap} {locs : List Loc} {ls : Array Slot}, HW A D cy sz sh d H → va_S A s.heap H locs → lv_has ls 8 [(0, .ref x0), (1, va_rf x1), (2, va_rf x2)] → GL p l e s m args below meth c 4 85 A D cy (some (va_rf r)) sz sh d H locs 0 ls [] := by
  have hx := C.1
  have hb := C.2.1
  intro x0 x1 x2 hf H locs ls hw hS hl
  unfold fX6_leastLacking_b0 at hf
  refine lv_null hx hb dX6_leastLacking_0 ?_
  refine lq_astore_n (i := 3) (x := none) (lv' := [(3, va_rf none), (0, .ref x0), (1, va_rf x1), (2, va_rf x2)]) hx hb dX6_leastLacking_1 rfl hl (by decide) (by simp [va_rf_c, cat_i, cat_l, cat_r]) (fun ls hl => ?_)
  refine lv_iconst (v := 0) hx hb dX6_leastLacking_2 (by decide) ?_
  refine lv_istore (i := 4) (lv' := [(4, .int (0 : Int32)), (3, va_rf none), (0, .ref x0), (1, va_rf x1), (2, va_rf x2)]) hx hb dX6_leastLacking_3 hl (by decide) (by simp [va_rf_c, cat_i, cat_l, cat_r]) (fun ls hl => ?_)
  exact wX6_leastLacking_b5 C fu x0 x1 x2 none (0 : Int32) hf hw hS (lv_sub hl [2, 3, 4, 1, 0] rfl)

set_option maxRecDepth 100000 in
set_option maxHeartbeats 4000000 in
theorem tX6_leastLacking (l : Launch) (A : Nat → Prop) (D : va_G) (cy : Nat → ClassId) (st : Nat → Nat) (sz : Nat) (sh : Sh) (d : Dt) (x0 : Nat) (x1 : Option Nat) (x2 : Option Nat) {r : Option Nat} (hf : fX6_leastLacking sh d x0 x1 x2 = some r) : Ct l yX6_leastLacking cX6_leastLacking 8 (some (.object "ManyHands$Entry")) 4 85 0 0 A D cy st [.ref x0, va_rf x1, va_rf x2] sz sh d (some (va_rf r)) sz sh d := ct_of (by decide) (by simp [lg_sl, va_rf_c, cat_i, cat_l, cat_r]) (fun p e s m args below meth c C hw hS ls hl => wX6_leastLacking_b0 C x0 x1 x2 hf hw hS (by simpa [lv_args, va_rf_c, cat_i, cat_l, cat_r] using hl))
theorem dX6_meet_0 : decode cX6_meet 0 = .ok (.aload_n 0, 1) := by decide +kernel
theorem dX6_meet_1 : decode cX6_meet 1 = .ok (.iload_n 1, 1) := by decide +kernel
theorem dX6_meet_2 : decode cX6_meet 2 = .ok (.invokevirtual 74, 3) := by decide +kernel
theorem dX6_meet_5 : decode cX6_meet 5 = .ok (.astore 4, 2) := by decide +kernel
theorem dX6_meet_7 : decode cX6_meet 7 = .ok (.aload_n 0, 1) := by decide +kernel
theorem dX6_meet_8 : decode cX6_meet 8 = .ok (.iload_n 2, 1) := by decide +kernel
theorem dX6_meet_9 : decode cX6_meet 9 = .ok (.invokevirtual 74, 3) := by decide +kernel
theorem dX6_meet_12 : decode cX6_meet 12 = .ok (.astore 5, 2) := by decide +kernel
theorem dX6_meet_14 : decode cX6_meet 14 = .ok (.aload 4, 2) := by decide +kernel
theorem dX6_meet_16 : decode cX6_meet 16 = .ok (.ifnull 17, 3) := by decide +kernel
theorem dX6_meet_19 : decode cX6_meet 19 = .ok (.aload 5, 2) := by decide +kernel
theorem dX6_meet_21 : decode cX6_meet 21 = .ok (.ifnull 12, 3) := by decide +kernel
theorem dX6_meet_24 : decode cX6_meet 24 = .ok (.iload_n 1, 1) := by decide +kernel
theorem dX6_meet_25 : decode cX6_meet 25 = .ok (.iload_n 2, 1) := by decide +kernel
theorem dX6_meet_26 : decode cX6_meet 26 = .ok (.if_icmp .eq 7, 3) := by decide +kernel
theorem dX6_meet_29 : decode cX6_meet 29 = .ok (.iload_n 3, 1) := by decide +kernel
theorem dX6_meet_30 : decode cX6_meet 30 = .ok (.ifCond .ge 5, 3) := by decide +kernel
theorem dX6_meet_33 : decode cX6_meet 33 = .ok (.iconst (-1), 1) := by decide +kernel
theorem dX6_meet_34 : decode cX6_meet 34 = .ok (.ireturn, 1) := by decide +kernel
theorem dX6_meet_35 : decode cX6_meet 35 = .ok (.iload_n 3, 1) := by decide +kernel
theorem dX6_meet_36 : decode cX6_meet 36 = .ok (.sipush 400, 3) := by decide +kernel
theorem dX6_meet_39 : decode cX6_meet 39 = .ok (.invokestatic 153, 3) := by decide +kernel
theorem dX6_meet_42 : decode cX6_meet 42 = .ok (.istore 6, 2) := by decide +kernel
theorem dX6_meet_44 : decode cX6_meet 44 = .ok (.iconst 0, 1) := by decide +kernel
theorem dX6_meet_45 : decode cX6_meet 45 = .ok (.istore 7, 2) := by decide +kernel
theorem dX6_meet_47 : decode cX6_meet 47 = .ok (.iload 7, 2) := by decide +kernel
theorem dX6_meet_49 : decode cX6_meet 49 = .ok (.iload 6, 2) := by decide +kernel
theorem dX6_meet_51 : decode cX6_meet 51 = .ok (.if_icmp .ge 35, 3) := by decide +kernel
theorem dX6_meet_54 : decode cX6_meet 54 = .ok (.aload_n 0, 1) := by decide +kernel
theorem dX6_meet_55 : decode cX6_meet 55 = .ok (.aload 4, 2) := by decide +kernel
theorem dX6_meet_57 : decode cX6_meet 57 = .ok (.aload 5, 2) := by decide +kernel
theorem dX6_meet_59 : decode cX6_meet 59 = .ok (.invokevirtual 159, 3) := by decide +kernel
theorem dX6_meet_62 : decode cX6_meet 62 = .ok (.astore 8, 2) := by decide +kernel
theorem dX6_meet_64 : decode cX6_meet 64 = .ok (.aload 8, 2) := by decide +kernel
theorem dX6_meet_66 : decode cX6_meet 66 = .ok (.ifnonnull 6, 3) := by decide +kernel
theorem dX6_meet_69 : decode cX6_meet 69 = .ok (.iload 7, 2) := by decide +kernel
theorem dX6_meet_71 : decode cX6_meet 71 = .ok (.ireturn, 1) := by decide +kernel
theorem dX6_meet_72 : decode cX6_meet 72 = .ok (.aload 5, 2) := by decide +kernel
theorem dX6_meet_74 : decode cX6_meet 74 = .ok (.aload 8, 2) := by decide +kernel
theorem dX6_meet_76 : decode cX6_meet 76 = .ok (.invokevirtual 149, 3) := by decide +kernel
theorem dX6_meet_79 : decode cX6_meet 79 = .ok (.pop, 1) := by decide +kernel
theorem dX6_meet_80 : decode cX6_meet 80 = .ok (.iinc 7 1, 3) := by decide +kernel
theorem dX6_meet_83 : decode cX6_meet 83 = .ok (.goto (-36), 3) := by decide +kernel
theorem dX6_meet_86 : decode cX6_meet 86 = .ok (.iload 6, 2) := by decide +kernel
theorem dX6_meet_88 : decode cX6_meet 88 = .ok (.ireturn, 1) := by decide +kernel
theorem cvX6_meet : CV yX6_meet cX6_meet 9 (some .int) 7 3 := ⟨kw_547, kw_548, kw_1, kw_549, ⟨_, _, rfl⟩, by decide, by decide +kernel, by decide +kernel, by decide +kernel⟩
def fX6_meet_b79 (em mi : Nat) (k47 : Nat → Option Nat → Option Nat → Int32 → Int32 → Nat → Nat → Sh → Dt → Option (Int32 × Wl)) (x0 : Nat) (x4 : Option Nat) (x5 : Option Nat) (x6 : Int32) (x7 : Int32) (t0 : Int32) (sz : Nat) (ns : Nat) (sh : Sh) (d : Dt) : Option (Int32 × Wl) := k47 x0 x4 x5 x6 (x7 + 1) sz ns sh d

def fX6_meet_b47 (em mi : Nat) : Nat → Nat → Option Nat → Option Nat → Int32 → Int32 → Nat → Nat → Sh → Dt → Option (Int32 × Wl)
  | 0, _, _, _, _, _, _, _, _, _ => none
  | n + 1, x0, x4, x5, x6, x7, sz, ns, sh, d => if x6 ≤ x7 then (some (x6, sz, ns, sh, d)) else (bd (kc sh 8 x0) fun _ => bd (fX6_leastLacking sh d x0 x4 x5) fun r4 => on r4 (some (x7, sz, ns, sh, d)) (fun a5 => bd x5 fun a6 => bd (kc sh 3 a6) fun _ => bw2 (fX1_receive em mi a6 (some a5) sz ns sh d) fun r9 szq10 nsq10 shq10 dq10 => fX6_meet_b79 em mi (fX6_meet_b47 em mi n) x0 x4 (some a6) x6 x7 r9 szq10 nsq10 shq10 dq10))

def fX6_meet_b0 (em mi : Nat) (x0 : Nat) (x1 : Int32) (x2 : Int32) (x3 : Int32) (sz : Nat) (ns : Nat) (sh : Sh) (d : Dt) : Option (Int32 × Wl) := bd (kc sh 8 x0) fun _ => bd (fX6_handAt sh d x0 x1) fun r3 => bd (fX6_handAt sh d x0 x2) fun r5 => on r3 (some ((-1 : Int32), sz, ns, sh, d)) (fun a6 => on r5 (some ((-1 : Int32), sz, ns, sh, d)) (fun a7 => if x1 = x2 then (some ((-1 : Int32), sz, ns, sh, d)) else (if 0 ≤ x3 then (fX6_meet_b47 em mi fu x0 (some a6) (some a7) (if (400 : Int32) < x3 then (400 : Int32) else x3) (0 : Int32) sz ns sh d) else (some ((-1 : Int32), sz, ns, sh, d)))))

def fX6_meet (em mi : Nat) (x0 : Nat) (x1 : Int32) (x2 : Int32) (x3 : Int32) (sz ns : Nat) (sh : Sh) (d : Dt) : Option (Int32 × Wl) := fX6_meet_b0 em mi x0 x1 x2 x3 sz ns sh d

set_option maxRecDepth 100000 in
set_option maxHeartbeats 4000000 in
theorem mX6_meet_b79 (em mi : Nat) {k47 : Nat → Option Nat → Option Nat → Int32 → Int32 → Nat → Nat → Sh → Dt → Option (Int32 × Wl)} {r : Int32} {sz9 ns9 : Nat} {sh9 : Sh} {d9 : Dt} (Hm47 : ∀ (x0 : Nat) (x4 : Option Nat) (x5 : Option Nat) (x6 : Int32) (x7 : Int32) (sz : Nat) (ns : Nat) (sh : Sh) (d : Dt), k47 x0 x4 x5 x6 x7 sz ns sh d = some (r, sz9, ns9, sh9, d9) → sz ≤ sz9 ∧ ns ≤ ns9) : ∀ (x0 : Nat) (x4 : Option Nat) (x5 : Option Nat) (x6 : Int32) (x7 : Int32) (t0 : Int32) (sz : Nat) (ns : Nat) (sh : Sh) (d : Dt), fX6_meet_b79 em mi k47 x0 x4 x5 x6 x7 t0 sz ns sh d = some (r, sz9, ns9, sh9, d9) → sz ≤ sz9 ∧ ns ≤ ns9 := by
  intro x0 x4 x5 x6 x7 t0 sz ns sh d hf
  unfold fX6_meet_b79 at hf
  have hm := Hm47 x0 x4 x5 x6 (x7 + 1) sz ns sh d hf
  omega

set_option maxRecDepth 100000 in
set_option maxHeartbeats 4000000 in
theorem mX6_meet_b47 (em mi : Nat) {r : Int32} {sz9 ns9 : Nat} {sh9 : Sh} {d9 : Dt} : ∀ (n : Nat) (x0 : Nat) (x4 : Option Nat) (x5 : Option Nat) (x6 : Int32) (x7 : Int32) (sz : Nat) (ns : Nat) (sh : Sh) (d : Dt), fX6_meet_b47 em mi n x0 x4 x5 x6 x7 sz ns sh d = some (r, sz9, ns9, sh9, d9) → sz ≤ sz9 ∧ ns ≤ ns9 := by
  intro n
  induction n with
  | zero => intro x0 x4 x5 x6 x7 sz ns sh d hf; cases hf
  | succ n ih =>
    intro x0 x4 x5 x6 x7 sz ns sh d hf
    rw [fX6_meet_b47] at hf
    by_cases c_1 : x6 ≤ x7
    · have hf := if_t c_1 hf
      cases hf
      exact ⟨Nat.le_refl _, Nat.le_refl _⟩
    · have hf := if_f c_1 hf
      obtain ⟨_, h2, hf⟩ := bd_s hf
      obtain ⟨r4, h3, hf⟩ := bd_s hf
      cases r4 with
      | none =>
        have hf := on_n hf
        cases hf
        exact ⟨Nat.le_refl _, Nat.le_refl _⟩
      | some a5 =>
        have hf := on_s hf
        obtain ⟨a6, ea6, hg⟩ := bd_s hf
        clear hf
        subst ea6
        have hf := hg
        clear hg
        obtain ⟨_, h7, hf⟩ := bd_s hf
        obtain ⟨r9, szq10, nsq10, shq10, dq10, h8, hf⟩ := bw2_s hf
        have hq := gX1_receive em mi a6 (some a5) sz ns sh d h8
        have hm := mX6_meet_b79 em mi ih x0 x4 (some a6) x6 x7 r9 szq10 nsq10 shq10 dq10 hf
        omega

set_option maxRecDepth 100000 in
set_option maxHeartbeats 4000000 in
theorem mX6_meet_b0 (em mi : Nat) {r : Int32} {sz9 ns9 : Nat} {sh9 : Sh} {d9 : Dt} : ∀ (x0 : Nat) (x1 : Int32) (x2 : Int32) (x3 : Int32) (sz : Nat) (ns : Nat) (sh : Sh) (d : Dt), fX6_meet_b0 em mi x0 x1 x2 x3 sz ns sh d = some (r, sz9, ns9, sh9, d9) → sz ≤ sz9 ∧ ns ≤ ns9 := by
  intro x0 x1 x2 x3 sz ns sh d hf
  unfold fX6_meet_b0 at hf
  obtain ⟨_, h1, hf⟩ := bd_s hf
  obtain ⟨r3, h2, hf⟩ := bd_s hf
  obtain ⟨r5, h4, hf⟩ := bd_s hf
  cases r3 with
  | none =>
    have hf := on_n hf
    cases hf
    exact ⟨Nat.le_refl _, Nat.le_refl _⟩
  | some a6 =>
    have hf := on_s hf
    cases r5 with
    | none =>
      have hf := on_n hf
      cases hf
      exact ⟨Nat.le_refl _, Nat.le_refl _⟩
    | some a7 =>
      have hf := on_s hf
      by_cases c_8 : x1 = x2
      · have hf := if_t c_8 hf
        cases hf
        exact ⟨Nat.le_refl _, Nat.le_refl _⟩
      · have hf := if_f c_8 hf
        by_cases c_9 : 0 ≤ x3
        · have hf := if_t c_9 hf
          have hm := mX6_meet_b47 em mi fu x0 (some a6) (some a7) (if (400 : Int32) < x3 then (400 : Int32) else x3) (0 : Int32) sz ns sh d hf
          omega
        · have hf := if_f c_9 hf
          cases hf
          exact ⟨Nat.le_refl _, Nat.le_refl _⟩

theorem gX6_meet (em mi : Nat) (x0 : Nat) (x1 : Int32) (x2 : Int32) (x3 : Int32) (sz ns : Nat) (sh : Sh) (d : Dt) {r : Int32} {sz9 ns9 : Nat} {sh9 : Sh} {d9 : Dt} (hf : fX6_meet em mi x0 x1 x2 x3 sz ns sh d = some (r, sz9, ns9, sh9, d9)) : sz ≤ sz9 ∧ ns ≤ ns9 := mX6_meet_b0 em mi x0 x1 x2 x3 sz ns sh d hf

set_option maxRecDepth 100000 in
set_option maxHeartbeats 4000000 in
theorem wX6_meet_b79 (C : mx p s m args meth c yX6_meet cX6_meet 9 (some .int) A D cy st) {k47 : Nat → Option Nat → Option Nat → Int32 → Int32 → Nat → Nat → Sh → Dt → Option (Int32 × Wl)} {r : Int32} {sz9 ns9 : Nat} {sh9 : Sh} {d9 : Dt} {mc ms : Nat} (Hm47 : ∀ (x0 : Nat) (x4 : Option Nat) (x5 : Option Nat) (x6 : Int32) (x7 : Int32) (sz : Nat) (ns : Nat) (sh : Sh) (d : Dt), k47 x0 x4 x5 x6 x7 sz ns sh d = some (r, sz9, ns9, sh9, d9) → sz ≤ sz9 ∧ ns ≤ ns9) (Hk47 : ∀ (x0 : Nat) (x4 : Option Nat) (x5 : Option Nat) (x6 : Int32) (x7 : Int32) (sz : Nat) (ns : Nat) (sh : Sh) (d : Dt), k47 x0 x4 x5 x6 x7 sz ns sh d = some (r, sz9, ns9, sh9, d9) → ∀ {cu su : Nat}, sz9 + cu = sz + mc → ns9 + su = ns + ms → ∀ {H : Heap} {locs : List Loc} {ls : Array Slot}, HW A D cy sz sh d H → va_S A s.heap H locs → lv_has ls 9 [(0, .ref x0), (4, va_rf x4), (5, va_rf x5), (6, .int x6), (7, .int x7)] → GA p l e s m args below meth c 8 184 mc ms A D cy (some (.int r)) sz9 sh9 d9 H locs cu su 47 ls []) : ∀ (x0 : Nat) (x4 : Option Nat) (x5 : Option Nat) (x6 : Int32) (x7 : Int32) (t0 : Int32) (sz : Nat) (ns : Nat) (sh : Sh) (d : Dt), fX6_meet_b79 (st 1) (st 2) k47 x0 x4 x5 x6 x7 t0 sz ns sh d = some (r, sz9, ns9, sh9, d9) → ∀ {cu su : Nat}, sz9 + cu = sz + mc → ns9 + su = ns + ms → ∀ {H : Heap} {locs : List Loc} {ls : Array Slot}, HW A D cy sz sh d H → va_S A s.heap H locs → lv_has ls 9 [(0, .ref x0), (4, va_rf x4), (5, va_rf x5), (6, .int x6), (7, .int x7)] → GA p l e s m args below meth c 8 184 mc ms A D cy (some (.int r)) sz9 sh9 d9 H locs cu su 79 ls [.int t0] := by
  have hx := C.1
  have hb := C.2.1
  intro x0 x4 x5 x6 x7 t0 sz ns sh d hf cu su hcm hsm H locs ls hw hS hl
  have hm0 := mX6_meet_b79 (st 1) (st 2) Hm47 x0 x4 x5 x6 x7 t0 sz ns sh d hf
  unfold fX6_meet_b79 at hf
  refine lv_pop hx hb dX6_meet_79 rfl ?_
  refine lv_iinc (v := (x7 + 1)) (lv' := [(7, .int (x7 + 1)), (0, .ref x0), (4, va_rf x4), (5, va_rf x5), (6, .int x6)]) hx hb dX6_meet_80 hl (k := 4) rfl rfl (by decide) rfl (fun ls hl => ?_)
  refine lv_goto (tgt := 47) hx hb dX6_meet_83 (by decide) ?_
  exact Hk47 x0 x4 x5 x6 (x7 + 1) sz ns sh d hf (by omega) (by omega) hw hS (lv_sub hl [1, 2, 3, 4, 0] rfl)

set_option maxRecDepth 100000 in
set_option maxHeartbeats 4000000 in
theorem wX6_meet_b47 (C : mx p s m args meth c yX6_meet cX6_meet 9 (some .int) A D cy st) {r : Int32} {sz9 ns9 : Nat} {sh9 : Sh} {d9 : Dt} {mc ms : Nat} : ∀ (n : Nat) (x0 : Nat) (x4 : Option Nat) (x5 : Option Nat) (x6 : Int32) (x7 : Int32) (sz : Nat) (ns : Nat) (sh : Sh) (d : Dt), fX6_meet_b47 (st 1) (st 2) n x0 x4 x5 x6 x7 sz ns sh d = some (r, sz9, ns9, sh9, d9) → ∀ {cu su : Nat}, sz9 + cu = sz + mc → ns9 + su = ns + ms → ∀ {H : Heap} {locs : List Loc} {ls : Array Slot}, HW A D cy sz sh d H → va_S A s.heap H locs → lv_has ls 9 [(0, .ref x0), (4, va_rf x4), (5, va_rf x5), (6, .int x6), (7, .int x7)] → GA p l e s m args below meth c 8 184 mc ms A D cy (some (.int r)) sz9 sh9 d9 H locs cu su 47 ls [] := by
  have hx := C.1
  have hb := C.2.1
  intro n
  induction n with
  | zero => intro x0 x4 x5 x6 x7 sz ns sh d hf; cases hf
  | succ n ih =>
    intro x0 x4 x5 x6 x7 sz ns sh d hf cu su hcm hsm H locs ls hw hS hl
    have hm0 := mX6_meet_b47 (st 1) (st 2) (n + 1) x0 x4 x5 x6 x7 sz ns sh d hf
    rw [fX6_meet_b47] at hf
    refine lv_iload hx hb dX6_meet_47 (lv_at hl 4 rfl) ?_
    refine lv_iload hx hb dX6_meet_49 (lv_at hl 3 rfl) ?_
    refine lv_icmp_ge (tgt := 86) hx hb dX6_meet_51 (by decide) (fun c_1 => ?_) (fun c_1 => ?_)
    · have hf := if_t c_1 hf
      refine lv_iload hx hb dX6_meet_86 (lv_at hl 3 rfl) ?_
      cases hf
      obtain rfl : mc = cu := by omega
      obtain rfl : ms = su := by omega
      exact rt_i C hw hS dX6_meet_88
    · have hf := if_f c_1 hf
      refine lv_aload_n hx hb dX6_meet_54 rfl (lv_at hl 0 rfl) ?_
      refine lq_aload hx hb dX6_meet_55 (lv_at hl 1 rfl) ?_
      refine lq_aload hx hb dX6_meet_57 (lv_at hl 2 rfl) ?_
      obtain ⟨_, h2, hf⟩ := bd_s hf
      obtain ⟨r4, h3, hf⟩ := bd_s hf
      refine cl_V0 C hw hS (tX6_leastLacking l A D cy st sz sh d x0 x4 x5 h3) cvX6_leastLacking kw_551 (kc_k h2) ⟨(Nat.le_of_ble_eq_true rfl), (Nat.le_of_ble_eq_true rfl)⟩ hl.1 rfl (Nat.le_of_ble_eq_true rfl) dX6_meet_59 ⟨by show _ ≤ mc; omega, by show _ ≤ ms; omega⟩ (fun H locs hw hS => ?_)
      refine lq_astore (x := r4) (lv' := [(8, va_rf r4), (0, .ref x0), (4, va_rf x4), (5, va_rf x5), (6, .int x6), (7, .int x7)]) hx hb dX6_meet_62 hl (by decide) rfl (fun ls hl => ?_)
      refine lq_aload hx hb dX6_meet_64 (lv_at hl 0 rfl) ?_
      cases r4 with
      | none =>
        have hf := on_n hf
        refine lv_ifnonnullN hx hb dX6_meet_66 ?_
        refine lv_iload hx hb dX6_meet_69 (lv_at hl 5 rfl) ?_
        cases hf
        obtain rfl : mc = cu := by omega
        obtain rfl : ms = su := by omega
        exact rt_i C hw hS dX6_meet_71
      | some a5 =>
        have hf := on_s hf
        refine lv_ifnonnull (tgt := 72) hx hb dX6_meet_66 (by decide) ?_
        refine lq_aload hx hb dX6_meet_72 (lv_at hl 3 rfl) ?_
        refine lq_aload hx hb dX6_meet_74 (lv_at hl 0 rfl) ?_
        obtain ⟨a6, ea6, hg⟩ := bd_s hf
        clear hf
        subst ea6
        have hf := hg
        clear hg
        obtain ⟨_, h7, hf⟩ := bd_s hf
        obtain ⟨r9, szq10, nsq10, shq10, dq10, h8, hf⟩ := bw2_s hf
        have hm := mX6_meet_b79 (st 1) (st 2) (mX6_meet_b47 (st 1) (st 2) n) x0 x4 (some a6) x6 x7 r9 szq10 nsq10 shq10 dq10 hf
        have hq := gX1_receive (st 1) (st 2) a6 (some a5) sz ns sh d h8
        refine cl_V C hw hS (tX1_receive l A D cy st a6 (some a5) sz ns sh d h8) cvX1_receive kw_502 (kc_k h7) ⟨(Nat.le_of_ble_eq_true rfl), (Nat.le_of_ble_eq_true rfl)⟩ hl.1 rfl (Nat.le_of_ble_eq_true rfl) dX6_meet_76 ⟨by show _ ≤ mc; omega, by show _ ≤ ms; omega⟩ (fun H locs hw hS => ?_)
        exact wX6_meet_b79 C (mX6_meet_b47 (st 1) (st 2) n) ih x0 x4 (some a6) x6 x7 r9 szq10 nsq10 shq10 dq10 hf (by omega) (by omega) hw hS (lv_sub hl [1, 2, 3, 4, 5] rfl)

set_option maxRecDepth 100000 in
set_option maxHeartbeats 4000000 in
theorem wX6_meet_b0 (C : mx p s m args meth c yX6_meet cX6_meet 9 (some .int) A D cy st) {r : Int32} {sz9 ns9 : Nat} {sh9 : Sh} {d9 : Dt} {mc ms : Nat} : ∀ (x0 : Nat) (x1 : Int32) (x2 : Int32) (x3 : Int32) (sz : Nat) (ns : Nat) (sh : Sh) (d : Dt), fX6_meet_b0 (st 1) (st 2) x0 x1 x2 x3 sz ns sh d = some (r, sz9, ns9, sh9, d9) → ∀ {cu su : Nat}, sz9 + cu = sz + mc → ns9 + su = ns + ms → ∀ {H : Heap} {locs : List Loc} {ls : Array Slot}, HW A D cy sz sh d H → va_S A s.heap H locs → lv_has ls 9 [(0, .ref x0), (1, .int x1), (2, .int x2), (3, .int x3)] → GA p l e s m args below meth c 8 184 mc ms A D cy (some (.int r)) sz9 sh9 d9 H locs cu su 0 ls [] := by
  have hx := C.1
  have hb := C.2.1
  intro x0 x1 x2 x3 sz ns sh d hf cu su hcm hsm H locs ls hw hS hl
  have hm0 := mX6_meet_b0 (st 1) (st 2) x0 x1 x2 x3 sz ns sh d hf
  unfold fX6_meet_b0 at hf
  refine lv_aload_n hx hb dX6_meet_0 rfl (lv_at hl 0 rfl) ?_
  refine lv_iload_n hx hb dX6_meet_1 rfl (lv_at hl 1 rfl) ?_
  obtain ⟨_, h1, hf⟩ := bd_s hf
  obtain ⟨r3, h2, hf⟩ := bd_s hf
  refine cl_V0 C hw hS (tX6_handAt l A D cy st sz sh d x0 x1 h2) cvX6_handAt kw_233 (kc_k h1) ⟨(Nat.le_of_ble_eq_true rfl), (Nat.le_of_ble_eq_true rfl)⟩ hl.1 rfl (Nat.le_of_ble_eq_true rfl) dX6_meet_2 ⟨by show _ ≤ mc; omega, by show _ ≤ ms; omega⟩ (fun H locs hw hS => ?_)
  refine lq_astore (x := r3) (lv' := [(4, va_rf r3), (0, .ref x0), (1, .int x1), (2, .int x2), (3, .int x3)]) hx hb dX6_meet_5 hl (by decide) rfl (fun ls hl => ?_)
  refine lv_aload_n hx hb dX6_meet_7 rfl (lv_at hl 1 rfl) ?_
  refine lv_iload_n hx hb dX6_meet_8 rfl (lv_at hl 3 rfl) ?_
  obtain ⟨r5, h4, hf⟩ := bd_s hf
  refine cl_V0 C hw hS (tX6_handAt l A D cy st sz sh d x0 x2 h4) cvX6_handAt kw_233 (kc_k h1) ⟨(Nat.le_of_ble_eq_true rfl), (Nat.le_of_ble_eq_true rfl)⟩ hl.1 rfl (Nat.le_of_ble_eq_true rfl) dX6_meet_9 ⟨by show _ ≤ mc; omega, by show _ ≤ ms; omega⟩ (fun H locs hw hS => ?_)
  refine lq_astore (i := 5) (x := r5) (lv' := [(5, va_rf r5), (4, va_rf r3), (0, .ref x0), (1, .int x1), (2, .int x2), (3, .int x3)]) hx hb dX6_meet_12 hl (by decide) (by simp [va_rf_c, cat_i, cat_l, cat_r]) (fun ls hl => ?_)
  refine lq_aload hx hb dX6_meet_14 (lv_at hl 1 rfl) ?_
  cases r3 with
  | none =>
    have hf := on_n hf
    refine lv_ifnullN (tgt := 33) hx hb dX6_meet_16 (by decide) ?_
    refine lv_iconst (v := -1) hx hb dX6_meet_33 (by decide) ?_
    cases hf
    obtain rfl : mc = cu := by omega
    obtain rfl : ms = su := by omega
    exact rt_i C hw hS dX6_meet_34
  | some a6 =>
    have hf := on_s hf
    refine lv_ifnull hx hb dX6_meet_16 ?_
    refine lq_aload hx hb dX6_meet_19 (lv_at hl 0 rfl) ?_
    cases r5 with
    | none =>
      have hf := on_n hf
      refine lv_ifnullN (tgt := 33) hx hb dX6_meet_21 (by decide) ?_
      refine lv_iconst (v := -1) hx hb dX6_meet_33 (by decide) ?_
      cases hf
      obtain rfl : mc = cu := by omega
      obtain rfl : ms = su := by omega
      exact rt_i C hw hS dX6_meet_34
    | some a7 =>
      have hf := on_s hf
      refine lv_ifnull hx hb dX6_meet_21 ?_
      refine lv_iload_n hx hb dX6_meet_24 rfl (lv_at hl 3 rfl) ?_
      refine lv_iload_n hx hb dX6_meet_25 rfl (lv_at hl 4 rfl) ?_
      refine lv_icmp_eq (tgt := 33) hx hb dX6_meet_26 (by decide) (fun c_8 => ?_) (fun c_8 => ?_)
      · have hf := if_t c_8 hf
        refine lv_iconst (v := -1) hx hb dX6_meet_33 (by decide) ?_
        cases hf
        obtain rfl : mc = cu := by omega
        obtain rfl : ms = su := by omega
        exact rt_i C hw hS dX6_meet_34
      · have hf := if_f c_8 hf
        refine lv_iload_n hx hb dX6_meet_29 rfl (lv_at hl 5 rfl) ?_
        refine lv_if_ge (tgt := 35) hx hb dX6_meet_30 (by decide) (fun c_9 => ?_) (fun c_9 => ?_)
        · have hf := if_t c_9 hf
          refine lv_iload_n hx hb dX6_meet_35 rfl (lv_at hl 5 rfl) ?_
          refine lv_sipush (v := 400) hx hb dX6_meet_36 (by decide) ?_
          refine va_mmin hx hb (C.2.2.2.1.trans hl.1.symm) C.2.2.2.2.2.1 (C.2.2.2.2.1 _ kw_550) (C.2.2.2.2.1 _ kw_382) (C.2.2.2.2.1 _ kw_13) (C.2.2.2.2.1 _ kw_383) (Nat.le_of_ble_eq_true rfl) (Nat.le_of_ble_eq_true rfl) (by show _ ≤ mc; omega) (by show _ ≤ ms; omega) dX6_meet_39 ?_
          refine lv_istore (i := 6) (lv' := [(6, .int (if (400 : Int32) < x3 then (400 : Int32) else x3)), (5, va_rf (some a7)), (4, va_rf (some a6)), (0, .ref x0), (1, .int x1), (2, .int x2), (3, .int x3)]) hx hb dX6_meet_42 hl (by decide) (by simp [va_rf_c, cat_i, cat_l, cat_r]) (fun ls hl => ?_)
          refine lv_iconst (v := 0) hx hb dX6_meet_44 (by decide) ?_
          refine lv_istore (lv' := [(7, .int (0 : Int32)), (6, .int (if (400 : Int32) < x3 then (400 : Int32) else x3)), (5, va_rf (some a7)), (4, va_rf (some a6)), (0, .ref x0), (1, .int x1), (2, .int x2), (3, .int x3)]) hx hb dX6_meet_45 hl (by decide) rfl (fun ls hl => ?_)
          exact wX6_meet_b47 C fu x0 (some a6) (some a7) (if (400 : Int32) < x3 then (400 : Int32) else x3) (0 : Int32) sz ns sh d hf (by omega) (by omega) hw hS (lv_sub hl [4, 3, 2, 1, 0] rfl)
        · have hf := if_f c_9 hf
          refine lv_iconst (v := -1) hx hb dX6_meet_33 (by decide) ?_
          cases hf
          obtain rfl : mc = cu := by omega
          obtain rfl : ms = su := by omega
          exact rt_i C hw hS dX6_meet_34

set_option maxRecDepth 100000 in
set_option maxHeartbeats 4000000 in
theorem tX6_meet (l : Launch) (A : Nat → Prop) (D : va_G) (cy : Nat → ClassId) (st : Nat → Nat) (x0 : Nat) (x1 : Int32) (x2 : Int32) (x3 : Int32) (sz ns : Nat) (sh : Sh) (d : Dt) {r : Int32} {sz9 ns9 : Nat} {sh9 : Sh} {d9 : Dt} (hf : fX6_meet (st 1) (st 2) x0 x1 x2 x3 sz ns sh d = some (r, sz9, ns9, sh9, d9)) : Ct l yX6_meet cX6_meet 9 (some .int) 8 184 (sz9 - sz) (ns9 - ns) A D cy st [.ref x0, .int x1, .int x2, .int x3] sz sh d (some (.int r)) sz9 sh9 d9 := by
  have hm := gX6_meet (st 1) (st 2) x0 x1 x2 x3 sz ns sh d hf
  exact ct_of (by decide) (Nat.le_of_ble_eq_true rfl) (fun p e s m args below meth c C hw hS ls hl => wX6_meet_b0 C x0 x1 x2 x3 sz ns sh d hf (by omega) (by omega) hw hS hl)
theorem dX6_lose_0 : decode cX6_lose 0 = .ok (.aload_n 0, 1) := by decide +kernel
theorem dX6_lose_1 : decode cX6_lose 1 = .ok (.iload_n 1, 1) := by decide +kernel
theorem dX6_lose_2 : decode cX6_lose 2 = .ok (.invokevirtual 74, 3) := by decide +kernel
theorem dX6_lose_5 : decode cX6_lose 5 = .ok (.astore_n 2, 1) := by decide +kernel
theorem dX6_lose_6 : decode cX6_lose 6 = .ok (.aload_n 2, 1) := by decide +kernel
theorem dX6_lose_7 : decode cX6_lose 7 = .ok (.ifnonnull 7, 3) := by decide +kernel
theorem dX6_lose_10 : decode cX6_lose 10 = .ok (.iconst (-1), 1) := by decide +kernel
theorem dX6_lose_11 : decode cX6_lose 11 = .ok (.goto 7, 3) := by decide +kernel
theorem dX6_lose_14 : decode cX6_lose 14 = .ok (.aload_n 2, 1) := by decide +kernel
theorem dX6_lose_15 : decode cX6_lose 15 = .ok (.invokevirtual 163, 3) := by decide +kernel
theorem dX6_lose_18 : decode cX6_lose 18 = .ok (.ireturn, 1) := by decide +kernel
theorem cvX6_lose : CV yX6_lose cX6_lose 3 (some .int) 7 1 := ⟨kw_561, kw_562, kw_1, kw_563, ⟨_, _, rfl⟩, by decide, by decide +kernel, by decide +kernel, by decide +kernel⟩
def fX6_lose_b0 (sh : Sh) (x0 : Nat) (x1 : Int32) (d : Dt) : Option (Int32 × Dt) := bd (kc sh 8 x0) fun _ => bd (fX6_handAt sh d x0 x1) fun r3 => on r3 (some ((-1 : Int32), d)) (fun a4 => bd (kc sh 3 a4) fun _ => bd2 (fX1_forget sh d a4) fun r7 d8 => some (r7, d8))

def fX6_lose (sh : Sh) (d : Dt) (x0 : Nat) (x1 : Int32) : Option (Int32 × Dt) := fX6_lose_b0 sh x0 x1 d

set_option maxRecDepth 100000 in
set_option maxHeartbeats 4000000 in
theorem wX6_lose_b0 (C : mx p s m args meth c yX6_lose cX6_lose 3 (some .int) A D cy st) {r : Int32} {d9 : Dt} : ∀ (x0 : Nat) (x1 : Int32) (d : Dt), fX6_lose_b0 sh x0 x1 d = some (r, d9) → ∀ {H : Heap} {locs : List Loc} {ls : Array Slot}, HW A D cy sz sh d H → va_S A s.heap H locs → lv_has ls 3 [(0, .ref x0), (1, .int x1)] → GL p l e s m args below meth c 2 45 A D cy (some (.int r)) sz sh d9 H locs 0 ls [] := by
  have hx := C.1
  have hb := C.2.1
  intro x0 x1 d hf H locs ls hw hS hl
  unfold fX6_lose_b0 at hf
  refine lv_aload_n hx hb dX6_lose_0 rfl (lv_at hl 0 rfl) ?_
  refine lv_iload_n hx hb dX6_lose_1 rfl (lv_at hl 1 rfl) ?_
  obtain ⟨_, h1, hf⟩ := bd_s hf
  obtain ⟨r3, h2, hf⟩ := bd_s hf
  refine cl_V0 C hw hS (tX6_handAt l A D cy st sz sh d x0 x1 h2) cvX6_handAt kw_233 (kc_k h1) ⟨(Nat.le_of_ble_eq_true rfl), (Nat.le_of_ble_eq_true rfl)⟩ hl.1 rfl (Nat.le_of_ble_eq_true rfl) dX6_lose_2 ⟨Nat.zero_le _, Nat.zero_le _⟩ (fun H locs hw hS => ?_)
  refine lq_astore_n (x := r3) (lv' := [(2, va_rf r3), (0, .ref x0), (1, .int x1)]) hx hb dX6_lose_5 rfl hl (by decide) rfl (fun ls hl => ?_)
  refine lq_aload_n hx hb dX6_lose_6 rfl (lv_at hl 0 rfl) ?_
  cases r3 with
  | none =>
    have hf := on_n hf
    refine lv_ifnonnullN hx hb dX6_lose_7 ?_
    refine lv_iconst (v := -1) hx hb dX6_lose_10 (by decide) ?_
    refine lv_goto (tgt := 18) hx hb dX6_lose_11 (by decide) ?_
    cases hf
    exact rt_i C hw hS dX6_lose_18
  | some a4 =>
    have hf := on_s hf
    refine lv_ifnonnull (tgt := 14) hx hb dX6_lose_7 (by decide) ?_
    refine lq_aload_n hx hb dX6_lose_14 rfl (lv_at hl 0 rfl) ?_
    obtain ⟨_, h5, hf⟩ := bd_s hf
    obtain ⟨r7, d8, h6, hf⟩ := bd2_s hf
    refine cl_V0 C hw hS (tX1_forget l A D cy st sz sh d a4 h6) cvX1_forget kw_564 (kc_k h5) ⟨(Nat.le_of_ble_eq_true rfl), (Nat.le_of_ble_eq_true rfl)⟩ hl.1 rfl (Nat.le_of_ble_eq_true rfl) dX6_lose_15 ⟨Nat.zero_le _, Nat.zero_le _⟩ (fun H locs hw hS => ?_)
    cases hf
    exact rt_i C hw hS dX6_lose_18

set_option maxRecDepth 100000 in
set_option maxHeartbeats 4000000 in
theorem tX6_lose (l : Launch) (A : Nat → Prop) (D : va_G) (cy : Nat → ClassId) (st : Nat → Nat) (sz : Nat) (sh : Sh) (d : Dt) (x0 : Nat) (x1 : Int32) {r : Int32} {d9 : Dt} (hf : fX6_lose sh d x0 x1 = some (r, d9)) : Ct l yX6_lose cX6_lose 3 (some .int) 2 45 0 0 A D cy st [.ref x0, .int x1] sz sh d (some (.int r)) sz sh d9 := ct_of (by decide) (Nat.le_of_ble_eq_true rfl) (fun p e s m args below meth c C hw hS ls hl => wX6_lose_b0 C x0 x1 d hf hw hS hl)
theorem dX6_told_0 : decode cX6_told 0 = .ok (.aload_n 0, 1) := by decide +kernel
theorem dX6_told_1 : decode cX6_told 1 = .ok (.iload_n 1, 1) := by decide +kernel
theorem dX6_told_2 : decode cX6_told 2 = .ok (.invokevirtual 74, 3) := by decide +kernel
theorem dX6_told_5 : decode cX6_told 5 = .ok (.astore_n 3, 1) := by decide +kernel
theorem dX6_told_6 : decode cX6_told 6 = .ok (.aload_n 3, 1) := by decide +kernel
theorem dX6_told_7 : decode cX6_told 7 = .ok (.ifnull 12, 3) := by decide +kernel
theorem dX6_told_10 : decode cX6_told 10 = .ok (.iload_n 2, 1) := by decide +kernel
theorem dX6_told_11 : decode cX6_told 11 = .ok (.ifCond .lt 8, 3) := by decide +kernel
theorem dX6_told_14 : decode cX6_told 14 = .ok (.iload_n 2, 1) := by decide +kernel
theorem dX6_told_15 : decode cX6_told 15 = .ok (.iconst 4, 1) := by decide +kernel
theorem dX6_told_16 : decode cX6_told 16 = .ok (.if_icmp .le 5, 3) := by decide +kernel
theorem dX6_told_19 : decode cX6_told 19 = .ok (.iconst (-1), 1) := by decide +kernel
theorem dX6_told_20 : decode cX6_told 20 = .ok (.ireturn, 1) := by decide +kernel
theorem dX6_told_21 : decode cX6_told 21 = .ok (.aload_n 3, 1) := by decide +kernel
theorem dX6_told_22 : decode cX6_told 22 = .ok (.iload_n 2, 1) := by decide +kernel
theorem dX6_told_23 : decode cX6_told 23 = .ok (.invokevirtual 166, 3) := by decide +kernel
theorem dX6_told_26 : decode cX6_told 26 = .ok (.ireturn, 1) := by decide +kernel
theorem cvX6_told : CV yX6_told cX6_told 4 (some .int) 7 2 := ⟨kw_575, kw_576, kw_1, kw_577, ⟨_, _, rfl⟩, by decide, by decide +kernel, by decide +kernel, by decide +kernel⟩
def fX6_told_b0 (sh : Sh) (d : Dt) (x0 : Nat) (x1 : Int32) (x2 : Int32) : Option (Int32) := bd (kc sh 8 x0) fun _ => bd (fX6_handAt sh d x0 x1) fun r3 => on r3 (some (-1 : Int32)) (fun a4 => if x2 < 0 then (some (-1 : Int32)) else (if x2 ≤ (4 : Int32) then (bd (kc sh 3 a4) fun _ => bd (fX1_report sh d a4 x2) fun r9 => some r9) else (some (-1 : Int32))))

def fX6_told (sh : Sh) (d : Dt) (x0 : Nat) (x1 : Int32) (x2 : Int32) : Option (Int32) := fX6_told_b0 sh d x0 x1 x2

set_option maxRecDepth 100000 in
set_option maxHeartbeats 4000000 in
theorem wX6_told_b0 (C : mx p s m args meth c yX6_told cX6_told 4 (some .int) A D cy st) {r : Int32} {d : Dt} : ∀ (x0 : Nat) (x1 : Int32) (x2 : Int32), fX6_told_b0 sh d x0 x1 x2 = some r → ∀ {H : Heap} {locs : List Loc} {ls : Array Slot}, HW A D cy sz sh d H → va_S A s.heap H locs → lv_has ls 4 [(0, .ref x0), (1, .int x1), (2, .int x2)] → GL p l e s m args below meth c 2 43 A D cy (some (.int r)) sz sh d H locs 0 ls [] := by
  have hx := C.1
  have hb := C.2.1
  intro x0 x1 x2 hf H locs ls hw hS hl
  unfold fX6_told_b0 at hf
  refine lv_aload_n hx hb dX6_told_0 rfl (lv_at hl 0 rfl) ?_
  refine lv_iload_n hx hb dX6_told_1 rfl (lv_at hl 1 rfl) ?_
  obtain ⟨_, h1, hf⟩ := bd_s hf
  obtain ⟨r3, h2, hf⟩ := bd_s hf
  refine cl_V0 C hw hS (tX6_handAt l A D cy st sz sh d x0 x1 h2) cvX6_handAt kw_233 (kc_k h1) ⟨(Nat.le_of_ble_eq_true rfl), (Nat.le_of_ble_eq_true rfl)⟩ hl.1 rfl (Nat.le_of_ble_eq_true rfl) dX6_told_2 ⟨Nat.zero_le _, Nat.zero_le _⟩ (fun H locs hw hS => ?_)
  refine lq_astore_n (x := r3) (lv' := [(3, va_rf r3), (0, .ref x0), (1, .int x1), (2, .int x2)]) hx hb dX6_told_5 rfl hl (by decide) rfl (fun ls hl => ?_)
  refine lq_aload_n hx hb dX6_told_6 rfl (lv_at hl 0 rfl) ?_
  cases r3 with
  | none =>
    have hf := on_n hf
    refine lv_ifnullN (tgt := 19) hx hb dX6_told_7 (by decide) ?_
    refine lv_iconst (v := -1) hx hb dX6_told_19 (by decide) ?_
    cases hf
    exact rt_i C hw hS dX6_told_20
  | some a4 =>
    have hf := on_s hf
    refine lv_ifnull hx hb dX6_told_7 ?_
    refine lv_iload_n hx hb dX6_told_10 rfl (lv_at hl 3 rfl) ?_
    refine lv_if_lt (tgt := 19) hx hb dX6_told_11 (by decide) (fun c_5 => ?_) (fun c_5 => ?_)
    · have hf := if_t c_5 hf
      refine lv_iconst (v := -1) hx hb dX6_told_19 (by decide) ?_
      cases hf
      exact rt_i C hw hS dX6_told_20
    · have hf := if_f c_5 hf
      refine lv_iload_n hx hb dX6_told_14 rfl (lv_at hl 3 rfl) ?_
      refine lv_iconst (v := 4) hx hb dX6_told_15 (by decide) ?_
      refine lv_icmp_le (tgt := 21) hx hb dX6_told_16 (by decide) (fun c_6 => ?_) (fun c_6 => ?_)
      · have hf := if_t c_6 hf
        refine lq_aload_n hx hb dX6_told_21 rfl (lv_at hl 0 rfl) ?_
        refine lv_iload_n hx hb dX6_told_22 rfl (lv_at hl 3 rfl) ?_
        obtain ⟨_, h7, hf⟩ := bd_s hf
        obtain ⟨r9, h8, hf⟩ := bd_s hf
        refine cl_V0 C hw hS (tX1_report l A D cy st sz sh d a4 x2 h8) cvX1_report kw_578 (kc_k h7) ⟨(Nat.le_of_ble_eq_true rfl), (Nat.le_of_ble_eq_true rfl)⟩ hl.1 rfl (Nat.le_of_ble_eq_true rfl) dX6_told_23 ⟨Nat.zero_le _, Nat.zero_le _⟩ (fun H locs hw hS => ?_)
        cases hf
        exact rt_i C hw hS dX6_told_26
      · have hf := if_f c_6 hf
        refine lv_iconst (v := -1) hx hb dX6_told_19 (by decide) ?_
        cases hf
        exact rt_i C hw hS dX6_told_20

set_option maxRecDepth 100000 in
set_option maxHeartbeats 4000000 in
theorem tX6_told (l : Launch) (A : Nat → Prop) (D : va_G) (cy : Nat → ClassId) (st : Nat → Nat) (sz : Nat) (sh : Sh) (d : Dt) (x0 : Nat) (x1 : Int32) (x2 : Int32) {r : Int32} (hf : fX6_told sh d x0 x1 x2 = some r) : Ct l yX6_told cX6_told 4 (some .int) 2 43 0 0 A D cy st [.ref x0, .int x1, .int x2] sz sh d (some (.int r)) sz sh d := ct_of (by decide) (Nat.le_of_ble_eq_true rfl) (fun p e s m args below meth c C hw hS ls hl => wX6_told_b0 C x0 x1 x2 hf hw hS hl)
theorem dX6_has_0 : decode cX6_has 0 = .ok (.aload_n 0, 1) := by decide +kernel
theorem dX6_has_1 : decode cX6_has 1 = .ok (.iload_n 1, 1) := by decide +kernel
theorem dX6_has_2 : decode cX6_has 2 = .ok (.invokevirtual 74, 3) := by decide +kernel
theorem dX6_has_5 : decode cX6_has 5 = .ok (.astore_n 3, 1) := by decide +kernel
theorem dX6_has_6 : decode cX6_has 6 = .ok (.aload_n 0, 1) := by decide +kernel
theorem dX6_has_7 : decode cX6_has 7 = .ok (.iload_n 2, 1) := by decide +kernel
theorem dX6_has_8 : decode cX6_has 8 = .ok (.invokevirtual 118, 3) := by decide +kernel
theorem dX6_has_11 : decode cX6_has 11 = .ok (.astore 4, 2) := by decide +kernel
theorem dX6_has_13 : decode cX6_has 13 = .ok (.aload_n 3, 1) := by decide +kernel
theorem dX6_has_14 : decode cX6_has 14 = .ok (.ifnull 8, 3) := by decide +kernel
theorem dX6_has_17 : decode cX6_has 17 = .ok (.aload 4, 2) := by decide +kernel
theorem dX6_has_19 : decode cX6_has 19 = .ok (.ifnonnull 5, 3) := by decide +kernel
theorem dX6_has_22 : decode cX6_has 22 = .ok (.iconst (-1), 1) := by decide +kernel
theorem dX6_has_23 : decode cX6_has 23 = .ok (.ireturn, 1) := by decide +kernel
theorem dX6_has_24 : decode cX6_has 24 = .ok (.aload_n 3, 1) := by decide +kernel
theorem dX6_has_25 : decode cX6_has 25 = .ok (.getfield 107, 3) := by decide +kernel
theorem dX6_has_28 : decode cX6_has 28 = .ok (.aload 4, 2) := by decide +kernel
theorem dX6_has_30 : decode cX6_has 30 = .ok (.invokevirtual 146, 3) := by decide +kernel
theorem dX6_has_33 : decode cX6_has 33 = .ok (.ifCond .eq 5, 3) := by decide +kernel
theorem dX6_has_36 : decode cX6_has 36 = .ok (.iconst 2, 1) := by decide +kernel
theorem dX6_has_37 : decode cX6_has 37 = .ok (.ireturn, 1) := by decide +kernel
theorem dX6_has_38 : decode cX6_has 38 = .ok (.aload_n 3, 1) := by decide +kernel
theorem dX6_has_39 : decode cX6_has 39 = .ok (.aload 4, 2) := by decide +kernel
theorem dX6_has_41 : decode cX6_has 41 = .ok (.invokevirtual 169, 3) := by decide +kernel
theorem dX6_has_44 : decode cX6_has 44 = .ok (.ifCond .eq 7, 3) := by decide +kernel
theorem dX6_has_47 : decode cX6_has 47 = .ok (.iconst 1, 1) := by decide +kernel
theorem dX6_has_48 : decode cX6_has 48 = .ok (.goto 4, 3) := by decide +kernel
theorem dX6_has_51 : decode cX6_has 51 = .ok (.iconst 0, 1) := by decide +kernel
theorem dX6_has_52 : decode cX6_has 52 = .ok (.ireturn, 1) := by decide +kernel
theorem cvX6_has : CV yX6_has cX6_has 5 (some .int) 7 2 := ⟨kw_583, kw_584, kw_1, kw_585, ⟨_, _, rfl⟩, by decide, by decide +kernel, by decide +kernel, by decide +kernel⟩
def fX6_has_b0 (sh : Sh) (d : Dt) (x0 : Nat) (x1 : Int32) (x2 : Int32) : Option (Int32) := bd (kc sh 8 x0) fun _ => bd (fX6_handAt sh d x0 x1) fun r3 => bd (fX6_entryAt sh d x0 x2) fun r5 => on r3 (some (-1 : Int32)) (fun a6 => on r5 (some (-1 : Int32)) (fun a7 => bd (gR sh d 3 97 a6) fun v8 => bd v8 fun a9 => bd (kc sh 6 a9) fun _ => bd (fX4_holds sh d a9 (some a7)) fun r12 => if (bI r12) = 0 then (bd (fX1_awaits sh d a6 (some a7)) fun r15 => if (bI r15) = 0 then (some (0 : Int32)) else (some (1 : Int32))) else (some (2 : Int32))))

def fX6_has (sh : Sh) (d : Dt) (x0 : Nat) (x1 : Int32) (x2 : Int32) : Option (Int32) := fX6_has_b0 sh d x0 x1 x2

set_option maxRecDepth 100000 in
set_option maxHeartbeats 4000000 in
theorem wX6_has_b0 (C : mx p s m args meth c yX6_has cX6_has 5 (some .int) A D cy st) {r : Int32} {d : Dt} : ∀ (x0 : Nat) (x1 : Int32) (x2 : Int32), fX6_has_b0 sh d x0 x1 x2 = some r → ∀ {H : Heap} {locs : List Loc} {ls : Array Slot}, HW A D cy sz sh d H → va_S A s.heap H locs → lv_has ls 5 [(0, .ref x0), (1, .int x1), (2, .int x2)] → GL p l e s m args below meth c 4 86 A D cy (some (.int r)) sz sh d H locs 0 ls [] := by
  have hx := C.1
  have hb := C.2.1
  intro x0 x1 x2 hf H locs ls hw hS hl
  unfold fX6_has_b0 at hf
  refine lv_aload_n hx hb dX6_has_0 rfl (lv_at hl 0 rfl) ?_
  refine lv_iload_n hx hb dX6_has_1 rfl (lv_at hl 1 rfl) ?_
  obtain ⟨_, h1, hf⟩ := bd_s hf
  obtain ⟨r3, h2, hf⟩ := bd_s hf
  refine cl_V0 C hw hS (tX6_handAt l A D cy st sz sh d x0 x1 h2) cvX6_handAt kw_233 (kc_k h1) ⟨(Nat.le_of_ble_eq_true rfl), (Nat.le_of_ble_eq_true rfl)⟩ hl.1 rfl (Nat.le_of_ble_eq_true rfl) dX6_has_2 ⟨Nat.zero_le _, Nat.zero_le _⟩ (fun H locs hw hS => ?_)
  refine lq_astore_n (x := r3) (lv' := [(3, va_rf r3), (0, .ref x0), (1, .int x1), (2, .int x2)]) hx hb dX6_has_5 rfl hl (by decide) rfl (fun ls hl => ?_)
  refine lv_aload_n hx hb dX6_has_6 rfl (lv_at hl 1 rfl) ?_
  refine lv_iload_n hx hb dX6_has_7 rfl (lv_at hl 3 rfl) ?_
  obtain ⟨r5, h4, hf⟩ := bd_s hf
  refine cl_V0 C hw hS (tX6_entryAt l A D cy st sz sh d x0 x2 h4) cvX6_entryAt kw_467 (kc_k h1) ⟨(Nat.le_of_ble_eq_true rfl), (Nat.le_of_ble_eq_true rfl)⟩ hl.1 rfl (Nat.le_of_ble_eq_true rfl) dX6_has_8 ⟨Nat.zero_le _, Nat.zero_le _⟩ (fun H locs hw hS => ?_)
  refine lq_astore (i := 4) (x := r5) (lv' := [(4, va_rf r5), (3, va_rf r3), (0, .ref x0), (1, .int x1), (2, .int x2)]) hx hb dX6_has_11 hl (by decide) (by simp [va_rf_c, cat_i, cat_l, cat_r]) (fun ls hl => ?_)
  refine lq_aload_n hx hb dX6_has_13 rfl (lv_at hl 1 rfl) ?_
  cases r3 with
  | none =>
    have hf := on_n hf
    refine lv_ifnullN (tgt := 22) hx hb dX6_has_14 (by decide) ?_
    refine lv_iconst (v := -1) hx hb dX6_has_22 (by decide) ?_
    cases hf
    exact rt_i C hw hS dX6_has_23
  | some a6 =>
    have hf := on_s hf
    refine lv_ifnull hx hb dX6_has_14 ?_
    refine lq_aload hx hb dX6_has_17 (lv_at hl 0 rfl) ?_
    cases r5 with
    | none =>
      have hf := on_n hf
      refine lv_ifnonnullN hx hb dX6_has_19 ?_
      refine lv_iconst (v := -1) hx hb dX6_has_22 (by decide) ?_
      cases hf
      exact rt_i C hw hS dX6_has_23
    | some a7 =>
      have hf := on_s hf
      refine lv_ifnonnull (tgt := 24) hx hb dX6_has_19 (by decide) ?_
      refine lq_aload_n hx hb dX6_has_24 rfl (lv_at hl 1 rfl) ?_
      obtain ⟨v8, hv8, hf⟩ := bd_s hf
      refine gt_97 C hw hv8 kw_153 dX6_has_25 ?_
      refine lq_aload hx hb dX6_has_28 (lv_at hl 0 rfl) ?_
      obtain ⟨a9, ea9, hg⟩ := bd_s hf
      clear hf
      subst ea9
      have hf := hg
      clear hg
      obtain ⟨_, h10, hf⟩ := bd_s hf
      obtain ⟨r12, h11, hf⟩ := bd_s hf
      refine cl_V0 C hw hS (tX4_holds l A D cy st sz sh d a9 (some a7) h11) cvX4_holds kw_493 (kc_k h10) ⟨(Nat.le_of_ble_eq_true rfl), (Nat.le_of_ble_eq_true rfl)⟩ hl.1 rfl (Nat.le_of_ble_eq_true rfl) dX6_has_30 ⟨Nat.zero_le _, Nat.zero_le _⟩ (fun H locs hw hS => ?_)
      refine lv_if_eq (tgt := 38) hx hb dX6_has_33 (by decide) (fun c_13 => ?_) (fun c_13 => ?_)
      · have hf := if_t c_13 hf
        refine lq_aload_n hx hb dX6_has_38 rfl (lv_at hl 1 rfl) ?_
        refine lq_aload hx hb dX6_has_39 (lv_at hl 0 rfl) ?_
        obtain ⟨r15, h14, hf⟩ := bd_s hf
        refine cl_V0 C hw hS (tX1_awaits l A D cy st sz sh d a6 (some a7) h14) cvX1_awaits kw_586 (gR_s hv8).1 ⟨(Nat.le_of_ble_eq_true rfl), (Nat.le_of_ble_eq_true rfl)⟩ hl.1 rfl (Nat.le_of_ble_eq_true rfl) dX6_has_41 ⟨Nat.zero_le _, Nat.zero_le _⟩ (fun H locs hw hS => ?_)
        refine lv_if_eq (tgt := 51) hx hb dX6_has_44 (by decide) (fun c_16 => ?_) (fun c_16 => ?_)
        · have hf := if_t c_16 hf
          refine lv_iconst (v := 0) hx hb dX6_has_51 (by decide) ?_
          cases hf
          exact rt_i C hw hS dX6_has_52
        · have hf := if_f c_16 hf
          refine lv_iconst (v := 1) hx hb dX6_has_47 (by decide) ?_
          refine lv_goto (tgt := 52) hx hb dX6_has_48 (by decide) ?_
          cases hf
          exact rt_i C hw hS dX6_has_52
      · have hf := if_f c_13 hf
        refine lv_iconst (v := 2) hx hb dX6_has_36 (by decide) ?_
        cases hf
        exact rt_i C hw hS dX6_has_37

set_option maxRecDepth 100000 in
set_option maxHeartbeats 4000000 in
theorem tX6_has (l : Launch) (A : Nat → Prop) (D : va_G) (cy : Nat → ClassId) (st : Nat → Nat) (sz : Nat) (sh : Sh) (d : Dt) (x0 : Nat) (x1 : Int32) (x2 : Int32) {r : Int32} (hf : fX6_has sh d x0 x1 x2 = some r) : Ct l yX6_has cX6_has 5 (some .int) 4 86 0 0 A D cy st [.ref x0, .int x1, .int x2] sz sh d (some (.int r)) sz sh d := ct_of (by decide) (Nat.le_of_ble_eq_true rfl) (fun p e s m args below meth c C hw hS ls hl => wX6_has_b0 C x0 x1 x2 hf hw hS hl)
theorem dX6_compare_0 : decode cX6_compare 0 = .ok (.aload_n 0, 1) := by decide +kernel
theorem dX6_compare_1 : decode cX6_compare 1 = .ok (.iload_n 1, 1) := by decide +kernel
theorem dX6_compare_2 : decode cX6_compare 2 = .ok (.invokevirtual 74, 3) := by decide +kernel
theorem dX6_compare_5 : decode cX6_compare 5 = .ok (.astore_n 3, 1) := by decide +kernel
theorem dX6_compare_6 : decode cX6_compare 6 = .ok (.aload_n 0, 1) := by decide +kernel
theorem dX6_compare_7 : decode cX6_compare 7 = .ok (.iload_n 2, 1) := by decide +kernel
theorem dX6_compare_8 : decode cX6_compare 8 = .ok (.invokevirtual 74, 3) := by decide +kernel
theorem dX6_compare_11 : decode cX6_compare 11 = .ok (.astore 4, 2) := by decide +kernel
theorem dX6_compare_13 : decode cX6_compare 13 = .ok (.aload_n 3, 1) := by decide +kernel
theorem dX6_compare_14 : decode cX6_compare 14 = .ok (.ifnull 8, 3) := by decide +kernel
theorem dX6_compare_17 : decode cX6_compare 17 = .ok (.aload 4, 2) := by decide +kernel
theorem dX6_compare_19 : decode cX6_compare 19 = .ok (.ifnonnull 5, 3) := by decide +kernel
theorem dX6_compare_22 : decode cX6_compare 22 = .ok (.iconst (-1), 1) := by decide +kernel
theorem dX6_compare_23 : decode cX6_compare 23 = .ok (.ireturn, 1) := by decide +kernel
theorem dX6_compare_24 : decode cX6_compare 24 = .ok (.aload 4, 2) := by decide +kernel
theorem dX6_compare_26 : decode cX6_compare 26 = .ok (.getfield 107, 3) := by decide +kernel
theorem dX6_compare_29 : decode cX6_compare 29 = .ok (.aload_n 3, 1) := by decide +kernel
theorem dX6_compare_30 : decode cX6_compare 30 = .ok (.getfield 107, 3) := by decide +kernel
theorem dX6_compare_33 : decode cX6_compare 33 = .ok (.invokevirtual 172, 3) := by decide +kernel
theorem dX6_compare_36 : decode cX6_compare 36 = .ok (.istore 5, 2) := by decide +kernel
theorem dX6_compare_38 : decode cX6_compare 38 = .ok (.aload_n 3, 1) := by decide +kernel
theorem dX6_compare_39 : decode cX6_compare 39 = .ok (.getfield 107, 3) := by decide +kernel
theorem dX6_compare_42 : decode cX6_compare 42 = .ok (.aload 4, 2) := by decide +kernel
theorem dX6_compare_44 : decode cX6_compare 44 = .ok (.getfield 107, 3) := by decide +kernel
theorem dX6_compare_47 : decode cX6_compare 47 = .ok (.invokevirtual 172, 3) := by decide +kernel
theorem dX6_compare_50 : decode cX6_compare 50 = .ok (.istore 6, 2) := by decide +kernel
theorem dX6_compare_52 : decode cX6_compare 52 = .ok (.iload 5, 2) := by decide +kernel
theorem dX6_compare_54 : decode cX6_compare 54 = .ok (.ifCond .eq 14, 3) := by decide +kernel
theorem dX6_compare_57 : decode cX6_compare 57 = .ok (.iload 6, 2) := by decide +kernel
theorem dX6_compare_59 : decode cX6_compare 59 = .ok (.ifCond .eq 7, 3) := by decide +kernel
theorem dX6_compare_62 : decode cX6_compare 62 = .ok (.iconst 0, 1) := by decide +kernel
theorem dX6_compare_63 : decode cX6_compare 63 = .ok (.goto 4, 3) := by decide +kernel
theorem dX6_compare_66 : decode cX6_compare 66 = .ok (.iconst 1, 1) := by decide +kernel
theorem dX6_compare_67 : decode cX6_compare 67 = .ok (.ireturn, 1) := by decide +kernel
theorem dX6_compare_68 : decode cX6_compare 68 = .ok (.iload 6, 2) := by decide +kernel
theorem dX6_compare_70 : decode cX6_compare 70 = .ok (.ifCond .eq 7, 3) := by decide +kernel
theorem dX6_compare_73 : decode cX6_compare 73 = .ok (.iconst 2, 1) := by decide +kernel
theorem dX6_compare_74 : decode cX6_compare 74 = .ok (.goto 4, 3) := by decide +kernel
theorem dX6_compare_77 : decode cX6_compare 77 = .ok (.iconst 3, 1) := by decide +kernel
theorem dX6_compare_78 : decode cX6_compare 78 = .ok (.ireturn, 1) := by decide +kernel
theorem cvX6_compare : CV yX6_compare cX6_compare 7 (some .int) 7 2 := ⟨kw_588, kw_589, kw_1, kw_590, ⟨_, _, rfl⟩, by decide, by decide +kernel, by decide +kernel, by decide +kernel⟩
def fX6_compare_b0 (sh : Sh) (d : Dt) (x0 : Nat) (x1 : Int32) (x2 : Int32) : Option (Int32) := bd (kc sh 8 x0) fun _ => bd (fX6_handAt sh d x0 x1) fun r3 => bd (fX6_handAt sh d x0 x2) fun r5 => on r3 (some (-1 : Int32)) (fun a6 => on r5 (some (-1 : Int32)) (fun a7 => bd (gR sh d 3 97 a7) fun v8 => bd (gR sh d 3 97 a6) fun v9 => bd v8 fun a10 => bd (kc sh 6 a10) fun _ => bd (fX4_covers sh d a10 v9) fun r13 => bd (gR sh d 3 97 a6) fun v14 => bd (gR sh d 3 97 a7) fun v15 => bd v14 fun a16 => bd (kc sh 6 a16) fun _ => bd (fX4_covers sh d a16 v15) fun r19 => if (bI r13) = 0 then (if (bI r19) = 0 then (some (3 : Int32)) else (some (2 : Int32))) else (if (bI r19) = 0 then (some (1 : Int32)) else (some (0 : Int32)))))

def fX6_compare (sh : Sh) (d : Dt) (x0 : Nat) (x1 : Int32) (x2 : Int32) : Option (Int32) := fX6_compare_b0 sh d x0 x1 x2

set_option maxRecDepth 100000 in
set_option maxHeartbeats 4000000 in
theorem wX6_compare_b0 (C : mx p s m args meth c yX6_compare cX6_compare 7 (some .int) A D cy st) {r : Int32} {d : Dt} : ∀ (x0 : Nat) (x1 : Int32) (x2 : Int32), fX6_compare_b0 sh d x0 x1 x2 = some r → ∀ {H : Heap} {locs : List Loc} {ls : Array Slot}, HW A D cy sz sh d H → va_S A s.heap H locs → lv_has ls 7 [(0, .ref x0), (1, .int x1), (2, .int x2)] → GL p l e s m args below meth c 1 22 A D cy (some (.int r)) sz sh d H locs 0 ls [] := by
  have hx := C.1
  have hb := C.2.1
  intro x0 x1 x2 hf H locs ls hw hS hl
  unfold fX6_compare_b0 at hf
  refine lv_aload_n hx hb dX6_compare_0 rfl (lv_at hl 0 rfl) ?_
  refine lv_iload_n hx hb dX6_compare_1 rfl (lv_at hl 1 rfl) ?_
  obtain ⟨_, h1, hf⟩ := bd_s hf
  obtain ⟨r3, h2, hf⟩ := bd_s hf
  refine cl_V0 C hw hS (tX6_handAt l A D cy st sz sh d x0 x1 h2) cvX6_handAt kw_233 (kc_k h1) ⟨(Nat.le_of_ble_eq_true rfl), (Nat.le_of_ble_eq_true rfl)⟩ hl.1 rfl (Nat.le_of_ble_eq_true rfl) dX6_compare_2 ⟨Nat.zero_le _, Nat.zero_le _⟩ (fun H locs hw hS => ?_)
  refine lq_astore_n (x := r3) (lv' := [(3, va_rf r3), (0, .ref x0), (1, .int x1), (2, .int x2)]) hx hb dX6_compare_5 rfl hl (by decide) rfl (fun ls hl => ?_)
  refine lv_aload_n hx hb dX6_compare_6 rfl (lv_at hl 1 rfl) ?_
  refine lv_iload_n hx hb dX6_compare_7 rfl (lv_at hl 3 rfl) ?_
  obtain ⟨r5, h4, hf⟩ := bd_s hf
  refine cl_V0 C hw hS (tX6_handAt l A D cy st sz sh d x0 x2 h4) cvX6_handAt kw_233 (kc_k h1) ⟨(Nat.le_of_ble_eq_true rfl), (Nat.le_of_ble_eq_true rfl)⟩ hl.1 rfl (Nat.le_of_ble_eq_true rfl) dX6_compare_8 ⟨Nat.zero_le _, Nat.zero_le _⟩ (fun H locs hw hS => ?_)
  refine lq_astore (i := 4) (x := r5) (lv' := [(4, va_rf r5), (3, va_rf r3), (0, .ref x0), (1, .int x1), (2, .int x2)]) hx hb dX6_compare_11 hl (by decide) (by simp [va_rf_c, cat_i, cat_l, cat_r]) (fun ls hl => ?_)
  refine lq_aload_n hx hb dX6_compare_13 rfl (lv_at hl 1 rfl) ?_
  cases r3 with
  | none =>
    have hf := on_n hf
    refine lv_ifnullN (tgt := 22) hx hb dX6_compare_14 (by decide) ?_
    refine lv_iconst (v := -1) hx hb dX6_compare_22 (by decide) ?_
    cases hf
    exact rt_i C hw hS dX6_compare_23
  | some a6 =>
    have hf := on_s hf
    refine lv_ifnull hx hb dX6_compare_14 ?_
    refine lq_aload hx hb dX6_compare_17 (lv_at hl 0 rfl) ?_
    cases r5 with
    | none =>
      have hf := on_n hf
      refine lv_ifnonnullN hx hb dX6_compare_19 ?_
      refine lv_iconst (v := -1) hx hb dX6_compare_22 (by decide) ?_
      cases hf
      exact rt_i C hw hS dX6_compare_23
    | some a7 =>
      have hf := on_s hf
      refine lv_ifnonnull (tgt := 24) hx hb dX6_compare_19 (by decide) ?_
      refine lq_aload hx hb dX6_compare_24 (lv_at hl 0 rfl) ?_
      obtain ⟨v8, hv8, hf⟩ := bd_s hf
      refine gt_97 C hw hv8 kw_153 dX6_compare_26 ?_
      refine lq_aload_n hx hb dX6_compare_29 rfl (lv_at hl 1 rfl) ?_
      obtain ⟨v9, hv9, hf⟩ := bd_s hf
      refine gt_97 C hw hv9 kw_153 dX6_compare_30 ?_
      obtain ⟨a10, ea10, hg⟩ := bd_s hf
      clear hf
      subst ea10
      have hf := hg
      clear hg
      obtain ⟨_, h11, hf⟩ := bd_s hf
      obtain ⟨r13, h12, hf⟩ := bd_s hf
      refine cl_V0 C hw hS (tX4_covers l A D cy st sz sh d a10 v9 h12) cvX4_covers kw_591 (kc_k h11) ⟨(Nat.le_of_ble_eq_true rfl), (Nat.le_of_ble_eq_true rfl)⟩ hl.1 rfl (Nat.le_of_ble_eq_true rfl) dX6_compare_33 ⟨Nat.zero_le _, Nat.zero_le _⟩ (fun H locs hw hS => ?_)
      refine lv_istore (i := 5) (lv' := [(5, .int (bI r13)), (4, va_rf (some a7)), (3, va_rf (some a6)), (0, .ref x0), (1, .int x1), (2, .int x2)]) hx hb dX6_compare_36 hl (by decide) (by simp [va_rf_c, cat_i, cat_l, cat_r]) (fun ls hl => ?_)
      refine lq_aload_n hx hb dX6_compare_38 rfl (lv_at hl 2 rfl) ?_
      obtain ⟨v14, hv14, hf⟩ := bd_s hf
      refine gt_97 C hw hv14 kw_153 dX6_compare_39 ?_
      refine lq_aload hx hb dX6_compare_42 (lv_at hl 1 rfl) ?_
      obtain ⟨v15, hv15, hf⟩ := bd_s hf
      refine gt_97 C hw hv15 kw_153 dX6_compare_44 ?_
      obtain ⟨a16, ea16, hg⟩ := bd_s hf
      clear hf
      subst ea16
      have hf := hg
      clear hg
      obtain ⟨_, h17, hf⟩ := bd_s hf
      obtain ⟨r19, h18, hf⟩ := bd_s hf
      refine cl_V0 C hw hS (tX4_covers l A D cy st sz sh d a16 v15 h18) cvX4_covers kw_591 (kc_k h17) ⟨(Nat.le_of_ble_eq_true rfl), (Nat.le_of_ble_eq_true rfl)⟩ hl.1 rfl (Nat.le_of_ble_eq_true rfl) dX6_compare_47 ⟨Nat.zero_le _, Nat.zero_le _⟩ (fun H locs hw hS => ?_)
      refine lv_istore (lv' := [(6, .int (bI r19)), (5, .int (bI r13)), (4, va_rf (some a7)), (3, va_rf (some a6)), (0, .ref x0), (1, .int x1), (2, .int x2)]) hx hb dX6_compare_50 hl (by decide) rfl (fun ls hl => ?_)
      refine lv_iload hx hb dX6_compare_52 (lv_at hl 1 rfl) ?_
      refine lv_if_eq (tgt := 68) hx hb dX6_compare_54 (by decide) (fun c_20 => ?_) (fun c_20 => ?_)
      · have hf := if_t c_20 hf
        refine lv_iload hx hb dX6_compare_68 (lv_at hl 0 rfl) ?_
        refine lv_if_eq (tgt := 77) hx hb dX6_compare_70 (by decide) (fun c_21 => ?_) (fun c_21 => ?_)
        · have hf := if_t c_21 hf
          refine lv_iconst (v := 3) hx hb dX6_compare_77 (by decide) ?_
          cases hf
          exact rt_i C hw hS dX6_compare_78
        · have hf := if_f c_21 hf
          refine lv_iconst (v := 2) hx hb dX6_compare_73 (by decide) ?_
          refine lv_goto (tgt := 78) hx hb dX6_compare_74 (by decide) ?_
          cases hf
          exact rt_i C hw hS dX6_compare_78
      · have hf := if_f c_20 hf
        refine lv_iload hx hb dX6_compare_57 (lv_at hl 0 rfl) ?_
        refine lv_if_eq (tgt := 66) hx hb dX6_compare_59 (by decide) (fun c_22 => ?_) (fun c_22 => ?_)
        · have hf := if_t c_22 hf
          refine lv_iconst (v := 1) hx hb dX6_compare_66 (by decide) ?_
          cases hf
          exact rt_i C hw hS dX6_compare_67
        · have hf := if_f c_22 hf
          refine lv_iconst (v := 0) hx hb dX6_compare_62 (by decide) ?_
          refine lv_goto (tgt := 67) hx hb dX6_compare_63 (by decide) ?_
          cases hf
          exact rt_i C hw hS dX6_compare_67

set_option maxRecDepth 100000 in
set_option maxHeartbeats 4000000 in
theorem tX6_compare (l : Launch) (A : Nat → Prop) (D : va_G) (cy : Nat → ClassId) (st : Nat → Nat) (sz : Nat) (sh : Sh) (d : Dt) (x0 : Nat) (x1 : Int32) (x2 : Int32) {r : Int32} (hf : fX6_compare sh d x0 x1 x2 = some r) : Ct l yX6_compare cX6_compare 7 (some .int) 1 22 0 0 A D cy st [.ref x0, .int x1, .int x2] sz sh d (some (.int r)) sz sh d := ct_of (by decide) (Nat.le_of_ble_eq_true rfl) (fun p e s m args below meth c C hw hS ls hl => wX6_compare_b0 C x0 x1 x2 hf hw hS hl)
theorem dX6_tellAnd_0 : decode cX6_tellAnd 0 = .ok (.aload_n 0, 1) := by decide +kernel
theorem dX6_tellAnd_1 : decode cX6_tellAnd 1 = .ok (.lload_n 1, 1) := by decide +kernel
theorem dX6_tellAnd_2 : decode cX6_tellAnd 2 = .ok (.putfield 237, 3) := by decide +kernel
theorem dX6_tellAnd_5 : decode cX6_tellAnd 5 = .ok (.iload_n 3, 1) := by decide +kernel
theorem dX6_tellAnd_6 : decode cX6_tellAnd 6 = .ok (.ireturn, 1) := by decide +kernel
theorem cvX6_tellAnd : CV yX6_tellAnd cX6_tellAnd 4 (some .int) 7 2 := ⟨kw_603, ks_17, kw_1, kw_604, ⟨_, _, rfl⟩, by decide, by decide +kernel, by decide +kernel, by decide +kernel⟩
def fX6_tellAnd_b0 (sh : Sh) (x0 : Nat) (x1 : Int64) (x3 : Int32) (d : Dt) : Option (Int32 × Dt) := bd (pL sh d 8 265 x0 x1) fun d1 => some (x3, d1)

def fX6_tellAnd (sh : Sh) (d : Dt) (x0 : Nat) (x1 : Int64) (x3 : Int32) : Option (Int32 × Dt) := fX6_tellAnd_b0 sh x0 x1 x3 d

set_option maxRecDepth 100000 in
set_option maxHeartbeats 4000000 in
theorem wX6_tellAnd_b0 (C : mx p s m args meth c yX6_tellAnd cX6_tellAnd 4 (some .int) A D cy st) {r : Int32} {d9 : Dt} : ∀ (x0 : Nat) (x1 : Int64) (x3 : Int32) (d : Dt), fX6_tellAnd_b0 sh x0 x1 x3 d = some (r, d9) → ∀ {H : Heap} {locs : List Loc} {ls : Array Slot}, HW A D cy sz sh d H → va_S A s.heap H locs → lv_has ls 4 [(0, .ref x0), (1, .long x1), (3, .int x3)] → GL p l e s m args below meth c 0 0 A D cy (some (.int r)) sz sh d9 H locs 0 ls [] := by
  have hx := C.1
  have hb := C.2.1
  intro x0 x1 x3 d hf H locs ls hw hS hl
  unfold fX6_tellAnd_b0 at hf
  refine lv_aload_n hx hb dX6_tellAnd_0 rfl (lv_at hl 0 rfl) ?_
  refine lv_lload_n hx hb dX6_tellAnd_1 rfl (lv_at hl 1 rfl) ?_
  obtain ⟨d1, hd1, hf⟩ := bd_s hf
  refine pt_265 C hw hS hd1 kw_81 dX6_tellAnd_2 (fun H locs hw hS => ?_)
  refine lv_iload_n hx hb dX6_tellAnd_5 rfl (lv_at hl 2 rfl) ?_
  cases hf
  exact rt_i C hw hS dX6_tellAnd_6

set_option maxRecDepth 100000 in
set_option maxHeartbeats 4000000 in
theorem tX6_tellAnd (l : Launch) (A : Nat → Prop) (D : va_G) (cy : Nat → ClassId) (st : Nat → Nat) (sz : Nat) (sh : Sh) (d : Dt) (x0 : Nat) (x1 : Int64) (x3 : Int32) {r : Int32} {d9 : Dt} (hf : fX6_tellAnd sh d x0 x1 x3 = some (r, d9)) : Ct l yX6_tellAnd cX6_tellAnd 4 (some .int) 0 0 0 0 A D cy st [.ref x0, .long x1, .int x3] sz sh d (some (.int r)) sz sh d9 := ct_of (by decide) (Nat.le_of_ble_eq_true rfl) (fun p e s m args below meth c C hw hS ls hl => wX6_tellAnd_b0 C x0 x1 x3 d hf hw hS hl)
theorem dX6_value_0 : decode cX6_value 0 = .ok (.aload_n 0, 1) := by decide +kernel
theorem dX6_value_1 : decode cX6_value 1 = .ok (.iload_n 1, 1) := by decide +kernel
theorem dX6_value_2 : decode cX6_value 2 = .ok (.invokevirtual 74, 3) := by decide +kernel
theorem dX6_value_5 : decode cX6_value 5 = .ok (.astore_n 3, 1) := by decide +kernel
theorem dX6_value_6 : decode cX6_value 6 = .ok (.aload_n 0, 1) := by decide +kernel
theorem dX6_value_7 : decode cX6_value 7 = .ok (.iload_n 2, 1) := by decide +kernel
theorem dX6_value_8 : decode cX6_value 8 = .ok (.invokevirtual 63, 3) := by decide +kernel
theorem dX6_value_11 : decode cX6_value 11 = .ok (.astore 4, 2) := by decide +kernel
theorem dX6_value_13 : decode cX6_value 13 = .ok (.aload_n 3, 1) := by decide +kernel
theorem dX6_value_14 : decode cX6_value 14 = .ok (.ifnull 8, 3) := by decide +kernel
theorem dX6_value_17 : decode cX6_value 17 = .ok (.aload 4, 2) := by decide +kernel
theorem dX6_value_19 : decode cX6_value 19 = .ok (.ifnonnull 5, 3) := by decide +kernel
theorem dX6_value_22 : decode cX6_value 22 = .ok (.iconst (-1), 1) := by decide +kernel
theorem dX6_value_23 : decode cX6_value 23 = .ok (.ireturn, 1) := by decide +kernel
theorem dX6_value_24 : decode cX6_value 24 = .ok (.aload_n 0, 1) := by decide +kernel
theorem dX6_value_25 : decode cX6_value 25 = .ok (.aload_n 3, 1) := by decide +kernel
theorem dX6_value_26 : decode cX6_value 26 = .ok (.aload 4, 2) := by decide +kernel
theorem dX6_value_28 : decode cX6_value 28 = .ok (.iconst 0, 1) := by decide +kernel
theorem dX6_value_29 : decode cX6_value 29 = .ok (.invokevirtual 176, 3) := by decide +kernel
theorem dX6_value_32 : decode cX6_value 32 = .ok (.istore 5, 2) := by decide +kernel
theorem dX6_value_34 : decode cX6_value 34 = .ok (.iload 5, 2) := by decide +kernel
theorem dX6_value_36 : decode cX6_value 36 = .ok (.ifCond .eq 6, 3) := by decide +kernel
theorem dX6_value_39 : decode cX6_value 39 = .ok (.iload 5, 2) := by decide +kernel
theorem dX6_value_41 : decode cX6_value 41 = .ok (.ireturn, 1) := by decide +kernel
theorem dX6_value_42 : decode cX6_value 42 = .ok (.aload 4, 2) := by decide +kernel
theorem dX6_value_44 : decode cX6_value 44 = .ok (.aload_n 3, 1) := by decide +kernel
theorem dX6_value_45 : decode cX6_value 45 = .ok (.getfield 107, 3) := by decide +kernel
theorem dX6_value_48 : decode cX6_value 48 = .ok (.invokevirtual 179, 3) := by decide +kernel
theorem dX6_value_51 : decode cX6_value 51 = .ok (.astore 6, 2) := by decide +kernel
theorem dX6_value_53 : decode cX6_value 53 = .ok (.aload 6, 2) := by decide +kernel
theorem dX6_value_55 : decode cX6_value 55 = .ok (.ifnonnull 8, 3) := by decide +kernel
theorem dX6_value_58 : decode cX6_value 58 = .ok (.bipush (-9), 2) := by decide +kernel
theorem dX6_value_60 : decode cX6_value 60 = .ok (.goto 17, 3) := by decide +kernel
theorem dX6_value_63 : decode cX6_value 63 = .ok (.aload_n 0, 1) := by decide +kernel
theorem dX6_value_64 : decode cX6_value 64 = .ok (.aload 6, 2) := by decide +kernel
theorem dX6_value_66 : decode cX6_value 66 = .ok (.getfield 183, 3) := by decide +kernel
theorem dX6_value_69 : decode cX6_value 69 = .ok (.aload 6, 2) := by decide +kernel
theorem dX6_value_71 : decode cX6_value 71 = .ok (.getfield 187, 3) := by decide +kernel
theorem dX6_value_74 : decode cX6_value 74 = .ok (.invokevirtual 188, 3) := by decide +kernel
theorem dX6_value_77 : decode cX6_value 77 = .ok (.ireturn, 1) := by decide +kernel
theorem cvX6_value : CV yX6_value cX6_value 7 (some .int) 7 2 := ⟨kw_593, kw_594, kw_1, kw_595, ⟨_, _, rfl⟩, by decide, by decide +kernel, by decide +kernel, by decide +kernel⟩
def fX6_value_b0 (sh : Sh) (x0 : Nat) (x1 : Int32) (x2 : Int32) (d : Dt) : Option (Int32 × Dt) := bd (kc sh 8 x0) fun _ => bd (fX6_handAt sh d x0 x1) fun r3 => bd (fX6_pageAt sh d x0 x2) fun r5 => on r3 (some ((-1 : Int32), d)) (fun a6 => on r5 (some ((-1 : Int32), d)) (fun a7 => bd2 (fX6_refusalToSee sh d x0 (some a6) (some a7) (0 : Int32)) fun r9 d10 => if r9 = 0 then (bd (gR sh d10 3 97 a6) fun v12 => bd (kc sh 5 a7) fun _ => bd (fX3_foremost sh d10 a7 v12) fun r15 => on r15 (some ((-9 : Int32), d10)) (fun a16 => bd (gL sh d10 2 69 a16) fun v17 => bd (gI sh d10 2 64 a16) fun v18 => bd2 (fX6_tellAnd sh d10 x0 v17 v18) fun r20 d21 => some (r20, d21))) else (some (r9, d10))))

def fX6_value (sh : Sh) (d : Dt) (x0 : Nat) (x1 : Int32) (x2 : Int32) : Option (Int32 × Dt) := fX6_value_b0 sh x0 x1 x2 d

set_option maxRecDepth 100000 in
set_option maxHeartbeats 4000000 in
theorem wX6_value_b0 (C : mx p s m args meth c yX6_value cX6_value 7 (some .int) A D cy st) {r : Int32} {d9 : Dt} : ∀ (x0 : Nat) (x1 : Int32) (x2 : Int32) (d : Dt), fX6_value_b0 sh x0 x1 x2 d = some (r, d9) → ∀ {H : Heap} {locs : List Loc} {ls : Array Slot}, HW A D cy sz sh d H → va_S A s.heap H locs → lv_has ls 7 [(0, .ref x0), (1, .int x1), (2, .int x2)] → GL p l e s m args below meth c 2 44 A D cy (some (.int r)) sz sh d9 H locs 0 ls [] := by
  have hx := C.1
  have hb := C.2.1
  intro x0 x1 x2 d hf H locs ls hw hS hl
  unfold fX6_value_b0 at hf
  refine lv_aload_n hx hb dX6_value_0 rfl (lv_at hl 0 rfl) ?_
  refine lv_iload_n hx hb dX6_value_1 rfl (lv_at hl 1 rfl) ?_
  obtain ⟨_, h1, hf⟩ := bd_s hf
  obtain ⟨r3, h2, hf⟩ := bd_s hf
  refine cl_V0 C hw hS (tX6_handAt l A D cy st sz sh d x0 x1 h2) cvX6_handAt kw_233 (kc_k h1) ⟨(Nat.le_of_ble_eq_true rfl), (Nat.le_of_ble_eq_true rfl)⟩ hl.1 rfl (Nat.le_of_ble_eq_true rfl) dX6_value_2 ⟨Nat.zero_le _, Nat.zero_le _⟩ (fun H locs hw hS => ?_)
  refine lq_astore_n (x := r3) (lv' := [(3, va_rf r3), (0, .ref x0), (1, .int x1), (2, .int x2)]) hx hb dX6_value_5 rfl hl (by decide) rfl (fun ls hl => ?_)
  refine lv_aload_n hx hb dX6_value_6 rfl (lv_at hl 1 rfl) ?_
  refine lv_iload_n hx hb dX6_value_7 rfl (lv_at hl 3 rfl) ?_
  obtain ⟨r5, h4, hf⟩ := bd_s hf
  refine cl_V0 C hw hS (tX6_pageAt l A D cy st sz sh d x0 x2 h4) cvX6_pageAt kw_216 (kc_k h1) ⟨(Nat.le_of_ble_eq_true rfl), (Nat.le_of_ble_eq_true rfl)⟩ hl.1 rfl (Nat.le_of_ble_eq_true rfl) dX6_value_8 ⟨Nat.zero_le _, Nat.zero_le _⟩ (fun H locs hw hS => ?_)
  refine lq_astore (i := 4) (x := r5) (lv' := [(4, va_rf r5), (3, va_rf r3), (0, .ref x0), (1, .int x1), (2, .int x2)]) hx hb dX6_value_11 hl (by decide) (by simp [va_rf_c, cat_i, cat_l, cat_r]) (fun ls hl => ?_)
  refine lq_aload_n hx hb dX6_value_13 rfl (lv_at hl 1 rfl) ?_
  cases r3 with
  | none =>
    have hf := on_n hf
    refine lv_ifnullN (tgt := 22) hx hb dX6_value_14 (by decide) ?_
    refine lv_iconst (v := -1) hx hb dX6_value_22 (by decide) ?_
    cases hf
    exact rt_i C hw hS dX6_value_23
  | some a6 =>
    have hf := on_s hf
    refine lv_ifnull hx hb dX6_value_14 ?_
    refine lq_aload hx hb dX6_value_17 (lv_at hl 0 rfl) ?_
    cases r5 with
    | none =>
      have hf := on_n hf
      refine lv_ifnonnullN hx hb dX6_value_19 ?_
      refine lv_iconst (v := -1) hx hb dX6_value_22 (by decide) ?_
      cases hf
      exact rt_i C hw hS dX6_value_23
    | some a7 =>
      have hf := on_s hf
      refine lv_ifnonnull (tgt := 24) hx hb dX6_value_19 (by decide) ?_
      refine lv_aload_n hx hb dX6_value_24 rfl (lv_at hl 2 rfl) ?_
      refine lq_aload_n hx hb dX6_value_25 rfl (lv_at hl 1 rfl) ?_
      refine lq_aload hx hb dX6_value_26 (lv_at hl 0 rfl) ?_
      refine lv_iconst (v := 0) hx hb dX6_value_28 (by decide) ?_
      obtain ⟨r9, d10, h8, hf⟩ := bd2_s hf
      refine cl_V0 C hw hS (tX6_refusalToSee l A D cy st sz sh d x0 (some a6) (some a7) (0 : Int32) h8) cvX6_refusalToSee kw_254 (kc_k h1) ⟨(Nat.le_of_ble_eq_true rfl), (Nat.le_of_ble_eq_true rfl)⟩ hl.1 rfl (Nat.le_of_ble_eq_true rfl) dX6_value_29 ⟨Nat.zero_le _, Nat.zero_le _⟩ (fun H locs hw hS => ?_)
      refine lv_istore (i := 5) (lv' := [(5, .int r9), (4, va_rf (some a7)), (3, va_rf (some a6)), (0, .ref x0), (1, .int x1), (2, .int x2)]) hx hb dX6_value_32 hl (by decide) (by simp [va_rf_c, cat_i, cat_l, cat_r]) (fun ls hl => ?_)
      refine lv_iload hx hb dX6_value_34 (lv_at hl 0 rfl) ?_
      refine lv_if_eq (tgt := 42) hx hb dX6_value_36 (by decide) (fun c_11 => ?_) (fun c_11 => ?_)
      · have hf := if_t c_11 hf
        refine lq_aload hx hb dX6_value_42 (lv_at hl 1 rfl) ?_
        refine lq_aload_n hx hb dX6_value_44 rfl (lv_at hl 2 rfl) ?_
        obtain ⟨v12, hv12, hf⟩ := bd_s hf
        refine gt_97 C hw hv12 kw_153 dX6_value_45 ?_
        obtain ⟨_, h13, hf⟩ := bd_s hf
        obtain ⟨r15, h14, hf⟩ := bd_s hf
        refine cl_V0 C hw hS (tX3_foremost l A D cy st sz sh d10 a7 v12 h14) cvX3_foremost kw_596 (kc_k h13) ⟨(Nat.le_of_ble_eq_true rfl), (Nat.le_of_ble_eq_true rfl)⟩ hl.1 rfl (Nat.le_of_ble_eq_true rfl) dX6_value_48 ⟨Nat.zero_le _, Nat.zero_le _⟩ (fun H locs hw hS => ?_)
        refine lq_astore (x := r15) (lv' := [(6, va_rf r15), (5, .int r9), (4, va_rf (some a7)), (3, va_rf (some a6)), (0, .ref x0), (1, .int x1), (2, .int x2)]) hx hb dX6_value_51 hl (by decide) rfl (fun ls hl => ?_)
        refine lq_aload hx hb dX6_value_53 (lv_at hl 0 rfl) ?_
        cases r15 with
        | none =>
          have hf := on_n hf
          refine lv_ifnonnullN hx hb dX6_value_55 ?_
          refine lv_bipush (v := -9) hx hb dX6_value_58 (by decide) ?_
          refine lv_goto (tgt := 77) hx hb dX6_value_60 (by decide) ?_
          cases hf
          exact rt_i C hw hS dX6_value_77
        | some a16 =>
          have hf := on_s hf
          refine lv_ifnonnull (tgt := 63) hx hb dX6_value_55 (by decide) ?_
          refine lv_aload_n hx hb dX6_value_63 rfl (lv_at hl 4 rfl) ?_
          refine lq_aload hx hb dX6_value_64 (lv_at hl 0 rfl) ?_
          obtain ⟨v17, hv17, hf⟩ := bd_s hf
          refine gt_69 C hw hv17 kw_299 dX6_value_66 ?_
          refine lq_aload hx hb dX6_value_69 (lv_at hl 0 rfl) ?_
          obtain ⟨v18, hv18, hf⟩ := bd_s hf
          refine gt_64 C hw hv18 kw_286 dX6_value_71 ?_
          obtain ⟨r20, d21, h19, hf⟩ := bd2_s hf
          refine cl_V0 C hw hS (tX6_tellAnd l A D cy st sz sh d10 x0 v17 v18 h19) cvX6_tellAnd kw_601 (kc_k h1) ⟨(Nat.le_of_ble_eq_true rfl), (Nat.le_of_ble_eq_true rfl)⟩ hl.1 rfl (Nat.le_of_ble_eq_true rfl) dX6_value_74 ⟨Nat.zero_le _, Nat.zero_le _⟩ (fun H locs hw hS => ?_)
          cases hf
          exact rt_i C hw hS dX6_value_77
      · have hf := if_f c_11 hf
        refine lv_iload hx hb dX6_value_39 (lv_at hl 0 rfl) ?_
        cases hf
        exact rt_i C hw hS dX6_value_41

set_option maxRecDepth 100000 in
set_option maxHeartbeats 4000000 in
theorem tX6_value (l : Launch) (A : Nat → Prop) (D : va_G) (cy : Nat → ClassId) (st : Nat → Nat) (sz : Nat) (sh : Sh) (d : Dt) (x0 : Nat) (x1 : Int32) (x2 : Int32) {r : Int32} {d9 : Dt} (hf : fX6_value sh d x0 x1 x2 = some (r, d9)) : Ct l yX6_value cX6_value 7 (some .int) 2 44 0 0 A D cy st [.ref x0, .int x1, .int x2] sz sh d (some (.int r)) sz sh d9 := ct_of (by decide) (Nat.le_of_ble_eq_true rfl) (fun p e s m args below meth c C hw hS ls hl => wX6_value_b0 C x0 x1 x2 d hf hw hS hl)
theorem dX6_sum_0 : decode cX6_sum 0 = .ok (.aload_n 0, 1) := by decide +kernel
theorem dX6_sum_1 : decode cX6_sum 1 = .ok (.iload_n 1, 1) := by decide +kernel
theorem dX6_sum_2 : decode cX6_sum 2 = .ok (.invokevirtual 74, 3) := by decide +kernel
theorem dX6_sum_5 : decode cX6_sum 5 = .ok (.astore_n 3, 1) := by decide +kernel
theorem dX6_sum_6 : decode cX6_sum 6 = .ok (.aload_n 0, 1) := by decide +kernel
theorem dX6_sum_7 : decode cX6_sum 7 = .ok (.iload_n 2, 1) := by decide +kernel
theorem dX6_sum_8 : decode cX6_sum 8 = .ok (.invokevirtual 63, 3) := by decide +kernel
theorem dX6_sum_11 : decode cX6_sum 11 = .ok (.astore 4, 2) := by decide +kernel
theorem dX6_sum_13 : decode cX6_sum 13 = .ok (.aload_n 3, 1) := by decide +kernel
theorem dX6_sum_14 : decode cX6_sum 14 = .ok (.ifnull 8, 3) := by decide +kernel
theorem dX6_sum_17 : decode cX6_sum 17 = .ok (.aload 4, 2) := by decide +kernel
theorem dX6_sum_19 : decode cX6_sum 19 = .ok (.ifnonnull 5, 3) := by decide +kernel
theorem dX6_sum_22 : decode cX6_sum 22 = .ok (.iconst (-1), 1) := by decide +kernel
theorem dX6_sum_23 : decode cX6_sum 23 = .ok (.ireturn, 1) := by decide +kernel
theorem dX6_sum_24 : decode cX6_sum 24 = .ok (.aload_n 0, 1) := by decide +kernel
theorem dX6_sum_25 : decode cX6_sum 25 = .ok (.aload_n 3, 1) := by decide +kernel
theorem dX6_sum_26 : decode cX6_sum 26 = .ok (.aload 4, 2) := by decide +kernel
theorem dX6_sum_28 : decode cX6_sum 28 = .ok (.iconst 2, 1) := by decide +kernel
theorem dX6_sum_29 : decode cX6_sum 29 = .ok (.invokevirtual 176, 3) := by decide +kernel
theorem dX6_sum_32 : decode cX6_sum 32 = .ok (.istore 5, 2) := by decide +kernel
theorem dX6_sum_34 : decode cX6_sum 34 = .ok (.iload 5, 2) := by decide +kernel
theorem dX6_sum_36 : decode cX6_sum 36 = .ok (.ifCond .eq 8, 3) := by decide +kernel
theorem dX6_sum_39 : decode cX6_sum 39 = .ok (.iload 5, 2) := by decide +kernel
theorem dX6_sum_41 : decode cX6_sum 41 = .ok (.goto 25, 3) := by decide +kernel
theorem dX6_sum_44 : decode cX6_sum 44 = .ok (.aload_n 0, 1) := by decide +kernel
theorem dX6_sum_45 : decode cX6_sum 45 = .ok (.aload 4, 2) := by decide +kernel
theorem dX6_sum_47 : decode cX6_sum 47 = .ok (.aload_n 3, 1) := by decide +kernel
theorem dX6_sum_48 : decode cX6_sum 48 = .ok (.getfield 107, 3) := by decide +kernel
theorem dX6_sum_51 : decode cX6_sum 51 = .ok (.invokevirtual 192, 3) := by decide +kernel
theorem dX6_sum_54 : decode cX6_sum 54 = .ok (.aload 4, 2) := by decide +kernel
theorem dX6_sum_56 : decode cX6_sum 56 = .ok (.aload_n 3, 1) := by decide +kernel
theorem dX6_sum_57 : decode cX6_sum 57 = .ok (.getfield 107, 3) := by decide +kernel
theorem dX6_sum_60 : decode cX6_sum 60 = .ok (.invokevirtual 196, 3) := by decide +kernel
theorem dX6_sum_63 : decode cX6_sum 63 = .ok (.invokevirtual 188, 3) := by decide +kernel
theorem dX6_sum_66 : decode cX6_sum 66 = .ok (.ireturn, 1) := by decide +kernel
theorem cvX6_sum : CV yX6_sum cX6_sum 6 (some .int) 7 2 := ⟨kw_606, kw_607, kw_1, kw_608, ⟨_, _, rfl⟩, by decide, by decide +kernel, by decide +kernel, by decide +kernel⟩
def fX6_sum_b0 (sh : Sh) (x0 : Nat) (x1 : Int32) (x2 : Int32) (d : Dt) : Option (Int32 × Dt) := bd (kc sh 8 x0) fun _ => bd (fX6_handAt sh d x0 x1) fun r3 => bd (fX6_pageAt sh d x0 x2) fun r5 => on r3 (some ((-1 : Int32), d)) (fun a6 => on r5 (some ((-1 : Int32), d)) (fun a7 => bd2 (fX6_refusalToSee sh d x0 (some a6) (some a7) (2 : Int32)) fun r9 d10 => if r9 = 0 then (bd (gR sh d10 3 97 a6) fun v12 => bd (kc sh 5 a7) fun _ => bd (fX3_total sh d10 a7 v12) fun r15 => bd (gR sh d10 3 97 a6) fun v16 => bd (fX3_size sh d10 a7 v16) fun r18 => bd2 (fX6_tellAnd sh d10 x0 r15 r18) fun r20 d21 => some (r20, d21)) else (some (r9, d10))))

def fX6_sum (sh : Sh) (d : Dt) (x0 : Nat) (x1 : Int32) (x2 : Int32) : Option (Int32 × Dt) := fX6_sum_b0 sh x0 x1 x2 d

set_option maxRecDepth 100000 in
set_option maxHeartbeats 4000000 in
theorem wX6_sum_b0 (C : mx p s m args meth c yX6_sum cX6_sum 6 (some .int) A D cy st) {r : Int32} {d9 : Dt} : ∀ (x0 : Nat) (x1 : Int32) (x2 : Int32) (d : Dt), fX6_sum_b0 sh x0 x1 x2 d = some (r, d9) → ∀ {H : Heap} {locs : List Loc} {ls : Array Slot}, HW A D cy sz sh d H → va_S A s.heap H locs → lv_has ls 6 [(0, .ref x0), (1, .int x1), (2, .int x2)] → GL p l e s m args below meth c 2 45 A D cy (some (.int r)) sz sh d9 H locs 0 ls [] := by
  have hx := C.1
  have hb := C.2.1
  intro x0 x1 x2 d hf H locs ls hw hS hl
  unfold fX6_sum_b0 at hf
  refine lv_aload_n hx hb dX6_sum_0 rfl (lv_at hl 0 rfl) ?_
  refine lv_iload_n hx hb dX6_sum_1 rfl (lv_at hl 1 rfl) ?_
  obtain ⟨_, h1, hf⟩ := bd_s hf
  obtain ⟨r3, h2, hf⟩ := bd_s hf
  refine cl_V0 C hw hS (tX6_handAt l A D cy st sz sh d x0 x1 h2) cvX6_handAt kw_233 (kc_k h1) ⟨(Nat.le_of_ble_eq_true rfl), (Nat.le_of_ble_eq_true rfl)⟩ hl.1 rfl (Nat.le_of_ble_eq_true rfl) dX6_sum_2 ⟨Nat.zero_le _, Nat.zero_le _⟩ (fun H locs hw hS => ?_)
  refine lq_astore_n (x := r3) (lv' := [(3, va_rf r3), (0, .ref x0), (1, .int x1), (2, .int x2)]) hx hb dX6_sum_5 rfl hl (by decide) rfl (fun ls hl => ?_)
  refine lv_aload_n hx hb dX6_sum_6 rfl (lv_at hl 1 rfl) ?_
  refine lv_iload_n hx hb dX6_sum_7 rfl (lv_at hl 3 rfl) ?_
  obtain ⟨r5, h4, hf⟩ := bd_s hf
  refine cl_V0 C hw hS (tX6_pageAt l A D cy st sz sh d x0 x2 h4) cvX6_pageAt kw_216 (kc_k h1) ⟨(Nat.le_of_ble_eq_true rfl), (Nat.le_of_ble_eq_true rfl)⟩ hl.1 rfl (Nat.le_of_ble_eq_true rfl) dX6_sum_8 ⟨Nat.zero_le _, Nat.zero_le _⟩ (fun H locs hw hS => ?_)
  refine lq_astore (i := 4) (x := r5) (lv' := [(4, va_rf r5), (3, va_rf r3), (0, .ref x0), (1, .int x1), (2, .int x2)]) hx hb dX6_sum_11 hl (by decide) (by simp [va_rf_c, cat_i, cat_l, cat_r]) (fun ls hl => ?_)
  refine lq_aload_n hx hb dX6_sum_13 rfl (lv_at hl 1 rfl) ?_
  cases r3 with
  | none =>
    have hf := on_n hf
    refine lv_ifnullN (tgt := 22) hx hb dX6_sum_14 (by decide) ?_
    refine lv_iconst (v := -1) hx hb dX6_sum_22 (by decide) ?_
    cases hf
    exact rt_i C hw hS dX6_sum_23
  | some a6 =>
    have hf := on_s hf
    refine lv_ifnull hx hb dX6_sum_14 ?_
    refine lq_aload hx hb dX6_sum_17 (lv_at hl 0 rfl) ?_
    cases r5 with
    | none =>
      have hf := on_n hf
      refine lv_ifnonnullN hx hb dX6_sum_19 ?_
      refine lv_iconst (v := -1) hx hb dX6_sum_22 (by decide) ?_
      cases hf
      exact rt_i C hw hS dX6_sum_23
    | some a7 =>
      have hf := on_s hf
      refine lv_ifnonnull (tgt := 24) hx hb dX6_sum_19 (by decide) ?_
      refine lv_aload_n hx hb dX6_sum_24 rfl (lv_at hl 2 rfl) ?_
      refine lq_aload_n hx hb dX6_sum_25 rfl (lv_at hl 1 rfl) ?_
      refine lq_aload hx hb dX6_sum_26 (lv_at hl 0 rfl) ?_
      refine lv_iconst (v := 2) hx hb dX6_sum_28 (by decide) ?_
      obtain ⟨r9, d10, h8, hf⟩ := bd2_s hf
      refine cl_V0 C hw hS (tX6_refusalToSee l A D cy st sz sh d x0 (some a6) (some a7) (2 : Int32) h8) cvX6_refusalToSee kw_254 (kc_k h1) ⟨(Nat.le_of_ble_eq_true rfl), (Nat.le_of_ble_eq_true rfl)⟩ hl.1 rfl (Nat.le_of_ble_eq_true rfl) dX6_sum_29 ⟨Nat.zero_le _, Nat.zero_le _⟩ (fun H locs hw hS => ?_)
      refine lv_istore (i := 5) (lv' := [(5, .int r9), (4, va_rf (some a7)), (3, va_rf (some a6)), (0, .ref x0), (1, .int x1), (2, .int x2)]) hx hb dX6_sum_32 hl (by decide) (by simp [va_rf_c, cat_i, cat_l, cat_r]) (fun ls hl => ?_)
      refine lv_iload hx hb dX6_sum_34 (lv_at hl 0 rfl) ?_
      refine lv_if_eq (tgt := 44) hx hb dX6_sum_36 (by decide) (fun c_11 => ?_) (fun c_11 => ?_)
      · have hf := if_t c_11 hf
        refine lv_aload_n hx hb dX6_sum_44 rfl (lv_at hl 3 rfl) ?_
        refine lq_aload hx hb dX6_sum_45 (lv_at hl 1 rfl) ?_
        refine lq_aload_n hx hb dX6_sum_47 rfl (lv_at hl 2 rfl) ?_
        obtain ⟨v12, hv12, hf⟩ := bd_s hf
        refine gt_97 C hw hv12 kw_153 dX6_sum_48 ?_
        obtain ⟨_, h13, hf⟩ := bd_s hf
        obtain ⟨r15, h14, hf⟩ := bd_s hf
        refine cl_V0 C hw hS (tX3_total l A D cy st sz sh d10 a7 v12 h14) cvX3_total kw_609 (kc_k h13) ⟨(Nat.le_of_ble_eq_true rfl), (Nat.le_of_ble_eq_true rfl)⟩ hl.1 rfl (Nat.le_of_ble_eq_true rfl) dX6_sum_51 ⟨Nat.zero_le _, Nat.zero_le _⟩ (fun H locs hw hS => ?_)
        refine lq_aload hx hb dX6_sum_54 (lv_at hl 1 rfl) ?_
        refine lq_aload_n hx hb dX6_sum_56 rfl (lv_at hl 2 rfl) ?_
        obtain ⟨v16, hv16, hf⟩ := bd_s hf
        refine gt_97 C hw hv16 kw_153 dX6_sum_57 ?_
        obtain ⟨r18, h17, hf⟩ := bd_s hf
        refine cl_V0 C hw hS (tX3_size l A D cy st sz sh d10 a7 v16 h17) cvX3_size kw_617 (kc_k h13) ⟨(Nat.le_of_ble_eq_true rfl), (Nat.le_of_ble_eq_true rfl)⟩ hl.1 rfl (Nat.le_of_ble_eq_true rfl) dX6_sum_60 ⟨Nat.zero_le _, Nat.zero_le _⟩ (fun H locs hw hS => ?_)
        obtain ⟨r20, d21, h19, hf⟩ := bd2_s hf
        refine cl_V0 C hw hS (tX6_tellAnd l A D cy st sz sh d10 x0 r15 r18 h19) cvX6_tellAnd kw_601 (kc_k h1) ⟨(Nat.le_of_ble_eq_true rfl), (Nat.le_of_ble_eq_true rfl)⟩ hl.1 rfl (Nat.le_of_ble_eq_true rfl) dX6_sum_63 ⟨Nat.zero_le _, Nat.zero_le _⟩ (fun H locs hw hS => ?_)
        cases hf
        exact rt_i C hw hS dX6_sum_66
      · have hf := if_f c_11 hf
        refine lv_iload hx hb dX6_sum_39 (lv_at hl 0 rfl) ?_
        refine lv_goto (tgt := 66) hx hb dX6_sum_41 (by decide) ?_
        cases hf
        exact rt_i C hw hS dX6_sum_66

set_option maxRecDepth 100000 in
set_option maxHeartbeats 4000000 in
theorem tX6_sum (l : Launch) (A : Nat → Prop) (D : va_G) (cy : Nat → ClassId) (st : Nat → Nat) (sz : Nat) (sh : Sh) (d : Dt) (x0 : Nat) (x1 : Int32) (x2 : Int32) {r : Int32} {d9 : Dt} (hf : fX6_sum sh d x0 x1 x2 = some (r, d9)) : Ct l yX6_sum cX6_sum 6 (some .int) 2 45 0 0 A D cy st [.ref x0, .int x1, .int x2] sz sh d (some (.int r)) sz sh d9 := ct_of (by decide) (Nat.le_of_ble_eq_true rfl) (fun p e s m args below meth c C hw hS ls hl => wX6_sum_b0 C x0 x1 x2 d hf hw hS hl)
theorem dX6_mean_0 : decode cX6_mean 0 = .ok (.aload_n 0, 1) := by decide +kernel
theorem dX6_mean_1 : decode cX6_mean 1 = .ok (.iload_n 1, 1) := by decide +kernel
theorem dX6_mean_2 : decode cX6_mean 2 = .ok (.invokevirtual 74, 3) := by decide +kernel
theorem dX6_mean_5 : decode cX6_mean 5 = .ok (.astore_n 3, 1) := by decide +kernel
theorem dX6_mean_6 : decode cX6_mean 6 = .ok (.aload_n 0, 1) := by decide +kernel
theorem dX6_mean_7 : decode cX6_mean 7 = .ok (.iload_n 2, 1) := by decide +kernel
theorem dX6_mean_8 : decode cX6_mean 8 = .ok (.invokevirtual 63, 3) := by decide +kernel
theorem dX6_mean_11 : decode cX6_mean 11 = .ok (.astore 4, 2) := by decide +kernel
theorem dX6_mean_13 : decode cX6_mean 13 = .ok (.aload_n 3, 1) := by decide +kernel
theorem dX6_mean_14 : decode cX6_mean 14 = .ok (.ifnull 8, 3) := by decide +kernel
theorem dX6_mean_17 : decode cX6_mean 17 = .ok (.aload 4, 2) := by decide +kernel
theorem dX6_mean_19 : decode cX6_mean 19 = .ok (.ifnonnull 5, 3) := by decide +kernel
theorem dX6_mean_22 : decode cX6_mean 22 = .ok (.iconst (-1), 1) := by decide +kernel
theorem dX6_mean_23 : decode cX6_mean 23 = .ok (.ireturn, 1) := by decide +kernel
theorem dX6_mean_24 : decode cX6_mean 24 = .ok (.aload_n 0, 1) := by decide +kernel
theorem dX6_mean_25 : decode cX6_mean 25 = .ok (.aload_n 3, 1) := by decide +kernel
theorem dX6_mean_26 : decode cX6_mean 26 = .ok (.aload 4, 2) := by decide +kernel
theorem dX6_mean_28 : decode cX6_mean 28 = .ok (.iconst 2, 1) := by decide +kernel
theorem dX6_mean_29 : decode cX6_mean 29 = .ok (.invokevirtual 176, 3) := by decide +kernel
theorem dX6_mean_32 : decode cX6_mean 32 = .ok (.istore 5, 2) := by decide +kernel
theorem dX6_mean_34 : decode cX6_mean 34 = .ok (.iload 5, 2) := by decide +kernel
theorem dX6_mean_36 : decode cX6_mean 36 = .ok (.ifCond .eq 6, 3) := by decide +kernel
theorem dX6_mean_39 : decode cX6_mean 39 = .ok (.iload 5, 2) := by decide +kernel
theorem dX6_mean_41 : decode cX6_mean 41 = .ok (.ireturn, 1) := by decide +kernel
theorem dX6_mean_42 : decode cX6_mean 42 = .ok (.aload 4, 2) := by decide +kernel
theorem dX6_mean_44 : decode cX6_mean 44 = .ok (.aload_n 3, 1) := by decide +kernel
theorem dX6_mean_45 : decode cX6_mean 45 = .ok (.getfield 107, 3) := by decide +kernel
theorem dX6_mean_48 : decode cX6_mean 48 = .ok (.invokevirtual 196, 3) := by decide +kernel
theorem dX6_mean_51 : decode cX6_mean 51 = .ok (.istore 6, 2) := by decide +kernel
theorem dX6_mean_53 : decode cX6_mean 53 = .ok (.iload 6, 2) := by decide +kernel
theorem dX6_mean_55 : decode cX6_mean 55 = .ok (.ifCond .ne 11, 3) := by decide +kernel
theorem dX6_mean_58 : decode cX6_mean 58 = .ok (.aload_n 0, 1) := by decide +kernel
theorem dX6_mean_59 : decode cX6_mean 59 = .ok (.iconst 4, 1) := by decide +kernel
theorem dX6_mean_60 : decode cX6_mean 60 = .ok (.invokevirtual 100, 3) := by decide +kernel
theorem dX6_mean_63 : decode cX6_mean 63 = .ok (.goto 21, 3) := by decide +kernel
theorem dX6_mean_66 : decode cX6_mean 66 = .ok (.aload_n 0, 1) := by decide +kernel
theorem dX6_mean_67 : decode cX6_mean 67 = .ok (.aload 4, 2) := by decide +kernel
theorem dX6_mean_69 : decode cX6_mean 69 = .ok (.aload_n 3, 1) := by decide +kernel
theorem dX6_mean_70 : decode cX6_mean 70 = .ok (.getfield 107, 3) := by decide +kernel
theorem dX6_mean_73 : decode cX6_mean 73 = .ok (.invokevirtual 192, 3) := by decide +kernel
theorem dX6_mean_76 : decode cX6_mean 76 = .ok (.iload 6, 2) := by decide +kernel
theorem dX6_mean_78 : decode cX6_mean 78 = .ok (.i2l, 1) := by decide +kernel
theorem dX6_mean_79 : decode cX6_mean 79 = .ok (.ldiv, 1) := by decide +kernel
theorem dX6_mean_80 : decode cX6_mean 80 = .ok (.iconst 1, 1) := by decide +kernel
theorem dX6_mean_81 : decode cX6_mean 81 = .ok (.invokevirtual 188, 3) := by decide +kernel
theorem dX6_mean_84 : decode cX6_mean 84 = .ok (.ireturn, 1) := by decide +kernel
theorem cvX6_mean : CV yX6_mean cX6_mean 7 (some .int) 7 2 := ⟨kw_622, kw_623, kw_1, kw_624, ⟨_, _, rfl⟩, by decide, by decide +kernel, by decide +kernel, by decide +kernel⟩
def fX6_mean_b0 (sh : Sh) (x0 : Nat) (x1 : Int32) (x2 : Int32) (d : Dt) : Option (Int32 × Dt) := bd (kc sh 8 x0) fun _ => bd (fX6_handAt sh d x0 x1) fun r3 => bd (fX6_pageAt sh d x0 x2) fun r5 => on r3 (some ((-1 : Int32), d)) (fun a6 => on r5 (some ((-1 : Int32), d)) (fun a7 => bd2 (fX6_refusalToSee sh d x0 (some a6) (some a7) (2 : Int32)) fun r9 d10 => if r9 = 0 then (bd (gR sh d10 3 97 a6) fun v12 => bd (kc sh 5 a7) fun _ => bd (fX3_size sh d10 a7 v12) fun r15 => if r15 = 0 then (bd2 (fX6_found sh d10 x0 (4 : Int32)) fun r25 d26 => some (r25, d26)) else (bd (gR sh d10 3 97 a6) fun v17 => bd (fX3_total sh d10 a7 v17) fun r19 => if r15.toInt64 = 0 then none else bd2 (fX6_tellAnd sh d10 x0 (r19 / r15.toInt64) (1 : Int32)) fun r21 d22 => some (r21, d22))) else (some (r9, d10))))

def fX6_mean (sh : Sh) (d : Dt) (x0 : Nat) (x1 : Int32) (x2 : Int32) : Option (Int32 × Dt) := fX6_mean_b0 sh x0 x1 x2 d

set_option maxRecDepth 100000 in
set_option maxHeartbeats 4000000 in
theorem wX6_mean_b0 (C : mx p s m args meth c yX6_mean cX6_mean 7 (some .int) A D cy st) {r : Int32} {d9 : Dt} : ∀ (x0 : Nat) (x1 : Int32) (x2 : Int32) (d : Dt), fX6_mean_b0 sh x0 x1 x2 d = some (r, d9) → ∀ {H : Heap} {locs : List Loc} {ls : Array Slot}, HW A D cy sz sh d H → va_S A s.heap H locs → lv_has ls 7 [(0, .ref x0), (1, .int x1), (2, .int x2)] → GL p l e s m args below meth c 2 45 A D cy (some (.int r)) sz sh d9 H locs 0 ls [] := by
  have hx := C.1
  have hb := C.2.1
  intro x0 x1 x2 d hf H locs ls hw hS hl
  unfold fX6_mean_b0 at hf
  refine lv_aload_n hx hb dX6_mean_0 rfl (lv_at hl 0 rfl) ?_
  refine lv_iload_n hx hb dX6_mean_1 rfl (lv_at hl 1 rfl) ?_
  obtain ⟨_, h1, hf⟩ := bd_s hf
  obtain ⟨r3, h2, hf⟩ := bd_s hf
  refine cl_V0 C hw hS (tX6_handAt l A D cy st sz sh d x0 x1 h2) cvX6_handAt kw_233 (kc_k h1) ⟨(Nat.le_of_ble_eq_true rfl), (Nat.le_of_ble_eq_true rfl)⟩ hl.1 rfl (Nat.le_of_ble_eq_true rfl) dX6_mean_2 ⟨Nat.zero_le _, Nat.zero_le _⟩ (fun H locs hw hS => ?_)
  refine lq_astore_n (x := r3) (lv' := [(3, va_rf r3), (0, .ref x0), (1, .int x1), (2, .int x2)]) hx hb dX6_mean_5 rfl hl (by decide) rfl (fun ls hl => ?_)
  refine lv_aload_n hx hb dX6_mean_6 rfl (lv_at hl 1 rfl) ?_
  refine lv_iload_n hx hb dX6_mean_7 rfl (lv_at hl 3 rfl) ?_
  obtain ⟨r5, h4, hf⟩ := bd_s hf
  refine cl_V0 C hw hS (tX6_pageAt l A D cy st sz sh d x0 x2 h4) cvX6_pageAt kw_216 (kc_k h1) ⟨(Nat.le_of_ble_eq_true rfl), (Nat.le_of_ble_eq_true rfl)⟩ hl.1 rfl (Nat.le_of_ble_eq_true rfl) dX6_mean_8 ⟨Nat.zero_le _, Nat.zero_le _⟩ (fun H locs hw hS => ?_)
  refine lq_astore (i := 4) (x := r5) (lv' := [(4, va_rf r5), (3, va_rf r3), (0, .ref x0), (1, .int x1), (2, .int x2)]) hx hb dX6_mean_11 hl (by decide) (by simp [va_rf_c, cat_i, cat_l, cat_r]) (fun ls hl => ?_)
  refine lq_aload_n hx hb dX6_mean_13 rfl (lv_at hl 1 rfl) ?_
  cases r3 with
  | none =>
    have hf := on_n hf
    refine lv_ifnullN (tgt := 22) hx hb dX6_mean_14 (by decide) ?_
    refine lv_iconst (v := -1) hx hb dX6_mean_22 (by decide) ?_
    cases hf
    exact rt_i C hw hS dX6_mean_23
  | some a6 =>
    have hf := on_s hf
    refine lv_ifnull hx hb dX6_mean_14 ?_
    refine lq_aload hx hb dX6_mean_17 (lv_at hl 0 rfl) ?_
    cases r5 with
    | none =>
      have hf := on_n hf
      refine lv_ifnonnullN hx hb dX6_mean_19 ?_
      refine lv_iconst (v := -1) hx hb dX6_mean_22 (by decide) ?_
      cases hf
      exact rt_i C hw hS dX6_mean_23
    | some a7 =>
      have hf := on_s hf
      refine lv_ifnonnull (tgt := 24) hx hb dX6_mean_19 (by decide) ?_
      refine lv_aload_n hx hb dX6_mean_24 rfl (lv_at hl 2 rfl) ?_
      refine lq_aload_n hx hb dX6_mean_25 rfl (lv_at hl 1 rfl) ?_
      refine lq_aload hx hb dX6_mean_26 (lv_at hl 0 rfl) ?_
      refine lv_iconst (v := 2) hx hb dX6_mean_28 (by decide) ?_
      obtain ⟨r9, d10, h8, hf⟩ := bd2_s hf
      refine cl_V0 C hw hS (tX6_refusalToSee l A D cy st sz sh d x0 (some a6) (some a7) (2 : Int32) h8) cvX6_refusalToSee kw_254 (kc_k h1) ⟨(Nat.le_of_ble_eq_true rfl), (Nat.le_of_ble_eq_true rfl)⟩ hl.1 rfl (Nat.le_of_ble_eq_true rfl) dX6_mean_29 ⟨Nat.zero_le _, Nat.zero_le _⟩ (fun H locs hw hS => ?_)
      refine lv_istore (i := 5) (lv' := [(5, .int r9), (4, va_rf (some a7)), (3, va_rf (some a6)), (0, .ref x0), (1, .int x1), (2, .int x2)]) hx hb dX6_mean_32 hl (by decide) (by simp [va_rf_c, cat_i, cat_l, cat_r]) (fun ls hl => ?_)
      refine lv_iload hx hb dX6_mean_34 (lv_at hl 0 rfl) ?_
      refine lv_if_eq (tgt := 42) hx hb dX6_mean_36 (by decide) (fun c_11 => ?_) (fun c_11 => ?_)
      · have hf := if_t c_11 hf
        refine lq_aload hx hb dX6_mean_42 (lv_at hl 1 rfl) ?_
        refine lq_aload_n hx hb dX6_mean_44 rfl (lv_at hl 2 rfl) ?_
        obtain ⟨v12, hv12, hf⟩ := bd_s hf
        refine gt_97 C hw hv12 kw_153 dX6_mean_45 ?_
        obtain ⟨_, h13, hf⟩ := bd_s hf
        obtain ⟨r15, h14, hf⟩ := bd_s hf
        refine cl_V0 C hw hS (tX3_size l A D cy st sz sh d10 a7 v12 h14) cvX3_size kw_617 (kc_k h13) ⟨(Nat.le_of_ble_eq_true rfl), (Nat.le_of_ble_eq_true rfl)⟩ hl.1 rfl (Nat.le_of_ble_eq_true rfl) dX6_mean_48 ⟨Nat.zero_le _, Nat.zero_le _⟩ (fun H locs hw hS => ?_)
        refine lv_istore (lv' := [(6, .int r15), (5, .int r9), (4, va_rf (some a7)), (3, va_rf (some a6)), (0, .ref x0), (1, .int x1), (2, .int x2)]) hx hb dX6_mean_51 hl (by decide) rfl (fun ls hl => ?_)
        refine lv_iload hx hb dX6_mean_53 (lv_at hl 0 rfl) ?_
        refine lv_if_ne (tgt := 66) hx hb dX6_mean_55 (by decide) (fun c_16 => ?_) (fun c_16 => ?_)
        · have hf := if_f c_16 hf
          refine lv_aload_n hx hb dX6_mean_66 rfl (lv_at hl 4 rfl) ?_
          refine lq_aload hx hb dX6_mean_67 (lv_at hl 2 rfl) ?_
          refine lq_aload_n hx hb dX6_mean_69 rfl (lv_at hl 3 rfl) ?_
          obtain ⟨v17, hv17, hf⟩ := bd_s hf
          refine gt_97 C hw hv17 kw_153 dX6_mean_70 ?_
          obtain ⟨r19, h18, hf⟩ := bd_s hf
          refine cl_V0 C hw hS (tX3_total l A D cy st sz sh d10 a7 v17 h18) cvX3_total kw_609 (kc_k h13) ⟨(Nat.le_of_ble_eq_true rfl), (Nat.le_of_ble_eq_true rfl)⟩ hl.1 rfl (Nat.le_of_ble_eq_true rfl) dX6_mean_73 ⟨Nat.zero_le _, Nat.zero_le _⟩ (fun H locs hw hS => ?_)
          refine lv_iload hx hb dX6_mean_76 (lv_at hl 0 rfl) ?_
          refine lv_i2l hx hb dX6_mean_78 rfl ?_
          by_cases c_23 : r15.toInt64 = 0
          · exact absurd (if_t c_23 hf) (by simp)
          have hf := if_f c_23 hf
          refine lv_ldiv hx hb dX6_mean_79 c_23 ?_
          refine lv_iconst (v := 1) hx hb dX6_mean_80 (by decide) ?_
          obtain ⟨r21, d22, h20, hf⟩ := bd2_s hf
          refine cl_V0 C hw hS (tX6_tellAnd l A D cy st sz sh d10 x0 (r19 / r15.toInt64) (1 : Int32) h20) cvX6_tellAnd kw_601 (kc_k h1) ⟨(Nat.le_of_ble_eq_true rfl), (Nat.le_of_ble_eq_true rfl)⟩ hl.1 rfl (Nat.le_of_ble_eq_true rfl) dX6_mean_81 ⟨Nat.zero_le _, Nat.zero_le _⟩ (fun H locs hw hS => ?_)
          cases hf
          exact rt_i C hw hS dX6_mean_84
        · have hf := if_t c_16 hf
          refine lv_aload_n hx hb dX6_mean_58 rfl (lv_at hl 4 rfl) ?_
          refine lv_iconst (v := 4) hx hb dX6_mean_59 (by decide) ?_
          obtain ⟨r25, d26, h24, hf⟩ := bd2_s hf
          refine cl_V0 C hw hS (tX6_found l A D cy st sz sh d10 x0 (4 : Int32) h24) cvX6_found kw_258 (kc_k h1) ⟨(Nat.le_of_ble_eq_true rfl), (Nat.le_of_ble_eq_true rfl)⟩ hl.1 rfl (Nat.le_of_ble_eq_true rfl) dX6_mean_60 ⟨Nat.zero_le _, Nat.zero_le _⟩ (fun H locs hw hS => ?_)
          refine lv_goto (tgt := 84) hx hb dX6_mean_63 (by decide) ?_
          cases hf
          exact rt_i C hw hS dX6_mean_84
      · have hf := if_f c_11 hf
        refine lv_iload hx hb dX6_mean_39 (lv_at hl 0 rfl) ?_
        cases hf
        exact rt_i C hw hS dX6_mean_41

set_option maxRecDepth 100000 in
set_option maxHeartbeats 4000000 in
theorem tX6_mean (l : Launch) (A : Nat → Prop) (D : va_G) (cy : Nat → ClassId) (st : Nat → Nat) (sz : Nat) (sh : Sh) (d : Dt) (x0 : Nat) (x1 : Int32) (x2 : Int32) {r : Int32} {d9 : Dt} (hf : fX6_mean sh d x0 x1 x2 = some (r, d9)) : Ct l yX6_mean cX6_mean 7 (some .int) 2 45 0 0 A D cy st [.ref x0, .int x1, .int x2] sz sh d (some (.int r)) sz sh d9 := ct_of (by decide) (Nat.le_of_ble_eq_true rfl) (fun p e s m args below meth c C hw hS ls hl => wX6_mean_b0 C x0 x1 x2 d hf hw hS hl)
theorem dX6_often_0 : decode cX6_often 0 = .ok (.aload_n 0, 1) := by decide +kernel
theorem dX6_often_1 : decode cX6_often 1 = .ok (.iload_n 1, 1) := by decide +kernel
theorem dX6_often_2 : decode cX6_often 2 = .ok (.invokevirtual 74, 3) := by decide +kernel
theorem dX6_often_5 : decode cX6_often 5 = .ok (.astore 4, 2) := by decide +kernel
theorem dX6_often_7 : decode cX6_often 7 = .ok (.aload_n 0, 1) := by decide +kernel
theorem dX6_often_8 : decode cX6_often 8 = .ok (.iload_n 2, 1) := by decide +kernel
theorem dX6_often_9 : decode cX6_often 9 = .ok (.invokevirtual 63, 3) := by decide +kernel
theorem dX6_often_12 : decode cX6_often 12 = .ok (.astore 5, 2) := by decide +kernel
theorem dX6_often_14 : decode cX6_often 14 = .ok (.aload 4, 2) := by decide +kernel
theorem dX6_often_16 : decode cX6_often 16 = .ok (.ifnull 15, 3) := by decide +kernel
theorem dX6_often_19 : decode cX6_often 19 = .ok (.aload 5, 2) := by decide +kernel
theorem dX6_often_21 : decode cX6_often 21 = .ok (.ifnull 10, 3) := by decide +kernel
theorem dX6_often_24 : decode cX6_often 24 = .ok (.iload_n 3, 1) := by decide +kernel
theorem dX6_often_25 : decode cX6_often 25 = .ok (.invokestatic 104, 3) := by decide +kernel
theorem dX6_often_28 : decode cX6_often 28 = .ok (.ifCond .ne 5, 3) := by decide +kernel
theorem dX6_often_31 : decode cX6_often 31 = .ok (.iconst (-1), 1) := by decide +kernel
theorem dX6_often_32 : decode cX6_often 32 = .ok (.ireturn, 1) := by decide +kernel
theorem dX6_often_33 : decode cX6_often 33 = .ok (.aload_n 0, 1) := by decide +kernel
theorem dX6_often_34 : decode cX6_often 34 = .ok (.aload 4, 2) := by decide +kernel
theorem dX6_often_36 : decode cX6_often 36 = .ok (.aload 5, 2) := by decide +kernel
theorem dX6_often_38 : decode cX6_often 38 = .ok (.iconst 3, 1) := by decide +kernel
theorem dX6_often_39 : decode cX6_often 39 = .ok (.invokevirtual 176, 3) := by decide +kernel
theorem dX6_often_42 : decode cX6_often 42 = .ok (.istore 6, 2) := by decide +kernel
theorem dX6_often_44 : decode cX6_often 44 = .ok (.iload 6, 2) := by decide +kernel
theorem dX6_often_46 : decode cX6_often 46 = .ok (.ifCond .eq 8, 3) := by decide +kernel
theorem dX6_often_49 : decode cX6_often 49 = .ok (.iload 6, 2) := by decide +kernel
theorem dX6_often_51 : decode cX6_often 51 = .ok (.goto 14, 3) := by decide +kernel
theorem dX6_often_54 : decode cX6_often 54 = .ok (.aload 5, 2) := by decide +kernel
theorem dX6_often_56 : decode cX6_often 56 = .ok (.aload 4, 2) := by decide +kernel
theorem dX6_often_58 : decode cX6_often 58 = .ok (.getfield 107, 3) := by decide +kernel
theorem dX6_often_61 : decode cX6_often 61 = .ok (.iload_n 3, 1) := by decide +kernel
theorem dX6_often_62 : decode cX6_often 62 = .ok (.invokevirtual 111, 3) := by decide +kernel
theorem dX6_often_65 : decode cX6_often 65 = .ok (.ireturn, 1) := by decide +kernel
theorem cvX6_often : CV yX6_often cX6_often 7 (some .int) 7 3 := ⟨kw_626, kw_627, kw_1, kw_628, ⟨_, _, rfl⟩, by decide, by decide +kernel, by decide +kernel, by decide +kernel⟩
def fX6_often_b0 (sh : Sh) (x0 : Nat) (x1 : Int32) (x2 : Int32) (x3 : Int32) (d : Dt) : Option (Int32 × Dt) := bd (kc sh 8 x0) fun _ => bd (fX6_handAt sh d x0 x1) fun r3 => bd (fX6_pageAt sh d x0 x2) fun r5 => on r3 (some ((-1 : Int32), d)) (fun a6 => on r5 (some ((-1 : Int32), d)) (fun a7 => bd (fX6_isThing sh d x3) fun r9 => if (bI r9) = 0 then (some ((-1 : Int32), d)) else (bd2 (fX6_refusalToSee sh d x0 (some a6) (some a7) (3 : Int32)) fun r12 d13 => if r12 = 0 then (bd (gR sh d13 3 97 a6) fun v15 => bd (kc sh 5 a7) fun _ => bd2 (fX3_timesIn sh d13 a7 v15 x3) fun r18 d19 => some (r18, d19)) else (some (r12, d13)))))

def fX6_often (sh : Sh) (d : Dt) (x0 : Nat) (x1 : Int32) (x2 : Int32) (x3 : Int32) : Option (Int32 × Dt) := fX6_often_b0 sh x0 x1 x2 x3 d

set_option maxRecDepth 100000 in
set_option maxHeartbeats 4000000 in
theorem wX6_often_b0 (C : mx p s m args meth c yX6_often cX6_often 7 (some .int) A D cy st) {r : Int32} {d9 : Dt} : ∀ (x0 : Nat) (x1 : Int32) (x2 : Int32) (x3 : Int32) (d : Dt), fX6_often_b0 sh x0 x1 x2 x3 d = some (r, d9) → ∀ {H : Heap} {locs : List Loc} {ls : Array Slot}, HW A D cy sz sh d H → va_S A s.heap H locs → lv_has ls 7 [(0, .ref x0), (1, .int x1), (2, .int x2), (3, .int x3)] → GL p l e s m args below meth c 4 94 A D cy (some (.int r)) sz sh d9 H locs 0 ls [] := by
  have hx := C.1
  have hb := C.2.1
  intro x0 x1 x2 x3 d hf H locs ls hw hS hl
  unfold fX6_often_b0 at hf
  refine lv_aload_n hx hb dX6_often_0 rfl (lv_at hl 0 rfl) ?_
  refine lv_iload_n hx hb dX6_often_1 rfl (lv_at hl 1 rfl) ?_
  obtain ⟨_, h1, hf⟩ := bd_s hf
  obtain ⟨r3, h2, hf⟩ := bd_s hf
  refine cl_V0 C hw hS (tX6_handAt l A D cy st sz sh d x0 x1 h2) cvX6_handAt kw_233 (kc_k h1) ⟨(Nat.le_of_ble_eq_true rfl), (Nat.le_of_ble_eq_true rfl)⟩ hl.1 rfl (Nat.le_of_ble_eq_true rfl) dX6_often_2 ⟨Nat.zero_le _, Nat.zero_le _⟩ (fun H locs hw hS => ?_)
  refine lq_astore (x := r3) (lv' := [(4, va_rf r3), (0, .ref x0), (1, .int x1), (2, .int x2), (3, .int x3)]) hx hb dX6_often_5 hl (by decide) rfl (fun ls hl => ?_)
  refine lv_aload_n hx hb dX6_often_7 rfl (lv_at hl 1 rfl) ?_
  refine lv_iload_n hx hb dX6_often_8 rfl (lv_at hl 3 rfl) ?_
  obtain ⟨r5, h4, hf⟩ := bd_s hf
  refine cl_V0 C hw hS (tX6_pageAt l A D cy st sz sh d x0 x2 h4) cvX6_pageAt kw_216 (kc_k h1) ⟨(Nat.le_of_ble_eq_true rfl), (Nat.le_of_ble_eq_true rfl)⟩ hl.1 rfl (Nat.le_of_ble_eq_true rfl) dX6_often_9 ⟨Nat.zero_le _, Nat.zero_le _⟩ (fun H locs hw hS => ?_)
  refine lq_astore (i := 5) (x := r5) (lv' := [(5, va_rf r5), (4, va_rf r3), (0, .ref x0), (1, .int x1), (2, .int x2), (3, .int x3)]) hx hb dX6_often_12 hl (by decide) (by simp [va_rf_c, cat_i, cat_l, cat_r]) (fun ls hl => ?_)
  refine lq_aload hx hb dX6_often_14 (lv_at hl 1 rfl) ?_
  cases r3 with
  | none =>
    have hf := on_n hf
    refine lv_ifnullN (tgt := 31) hx hb dX6_often_16 (by decide) ?_
    refine lv_iconst (v := -1) hx hb dX6_often_31 (by decide) ?_
    cases hf
    exact rt_i C hw hS dX6_often_32
  | some a6 =>
    have hf := on_s hf
    refine lv_ifnull hx hb dX6_often_16 ?_
    refine lq_aload hx hb dX6_often_19 (lv_at hl 0 rfl) ?_
    cases r5 with
    | none =>
      have hf := on_n hf
      refine lv_ifnullN (tgt := 31) hx hb dX6_often_21 (by decide) ?_
      refine lv_iconst (v := -1) hx hb dX6_often_31 (by decide) ?_
      cases hf
      exact rt_i C hw hS dX6_often_32
    | some a7 =>
      have hf := on_s hf
      refine lv_ifnull hx hb dX6_often_21 ?_
      refine lv_iload_n hx hb dX6_often_24 rfl (lv_at hl 5 rfl) ?_
      obtain ⟨r9, h8, hf⟩ := bd_s hf
      refine cl_S0 C hw hS (tX6_isThing l A D cy st sz sh d x3 h8) csX6_isThing kw_411 ⟨(Nat.le_of_ble_eq_true rfl), (Nat.le_of_ble_eq_true rfl)⟩ hl.1 rfl (Nat.le_of_ble_eq_true rfl) dX6_often_25 ⟨Nat.zero_le _, Nat.zero_le _⟩ (fun H locs hw hS => ?_)
      refine lv_if_ne (tgt := 33) hx hb dX6_often_28 (by decide) (fun c_10 => ?_) (fun c_10 => ?_)
      · have hf := if_f c_10 hf
        refine lv_aload_n hx hb dX6_often_33 rfl (lv_at hl 2 rfl) ?_
        refine lq_aload hx hb dX6_often_34 (lv_at hl 1 rfl) ?_
        refine lq_aload hx hb dX6_often_36 (lv_at hl 0 rfl) ?_
        refine lv_iconst (v := 3) hx hb dX6_often_38 (by decide) ?_
        obtain ⟨r12, d13, h11, hf⟩ := bd2_s hf
        refine cl_V0 C hw hS (tX6_refusalToSee l A D cy st sz sh d x0 (some a6) (some a7) (3 : Int32) h11) cvX6_refusalToSee kw_254 (kc_k h1) ⟨(Nat.le_of_ble_eq_true rfl), (Nat.le_of_ble_eq_true rfl)⟩ hl.1 rfl (Nat.le_of_ble_eq_true rfl) dX6_often_39 ⟨Nat.zero_le _, Nat.zero_le _⟩ (fun H locs hw hS => ?_)
        refine lv_istore (i := 6) (lv' := [(6, .int r12), (5, va_rf (some a7)), (4, va_rf (some a6)), (0, .ref x0), (1, .int x1), (2, .int x2), (3, .int x3)]) hx hb dX6_often_42 hl (by decide) (by simp [va_rf_c, cat_i, cat_l, cat_r]) (fun ls hl => ?_)
        refine lv_iload hx hb dX6_often_44 (lv_at hl 0 rfl) ?_
        refine lv_if_eq (tgt := 54) hx hb dX6_often_46 (by decide) (fun c_14 => ?_) (fun c_14 => ?_)
        · have hf := if_t c_14 hf
          refine lq_aload hx hb dX6_often_54 (lv_at hl 1 rfl) ?_
          refine lq_aload hx hb dX6_often_56 (lv_at hl 2 rfl) ?_
          obtain ⟨v15, hv15, hf⟩ := bd_s hf
          refine gt_97 C hw hv15 kw_153 dX6_often_58 ?_
          refine lv_iload_n hx hb dX6_often_61 rfl (lv_at hl 6 rfl) ?_
          obtain ⟨_, h16, hf⟩ := bd_s hf
          obtain ⟨r18, d19, h17, hf⟩ := bd2_s hf
          refine cl_V0 C hw hS (tX3_timesIn l A D cy st sz sh d13 a7 v15 x3 h17) cvX3_timesIn kw_418 (kc_k h16) ⟨(Nat.le_of_ble_eq_true rfl), (Nat.le_of_ble_eq_true rfl)⟩ hl.1 rfl (Nat.le_of_ble_eq_true rfl) dX6_often_62 ⟨Nat.zero_le _, Nat.zero_le _⟩ (fun H locs hw hS => ?_)
          cases hf
          exact rt_i C hw hS dX6_often_65
        · have hf := if_f c_14 hf
          refine lv_iload hx hb dX6_often_49 (lv_at hl 0 rfl) ?_
          refine lv_goto (tgt := 65) hx hb dX6_often_51 (by decide) ?_
          cases hf
          exact rt_i C hw hS dX6_often_65
      · have hf := if_t c_10 hf
        refine lv_iconst (v := -1) hx hb dX6_often_31 (by decide) ?_
        cases hf
        exact rt_i C hw hS dX6_often_32

set_option maxRecDepth 100000 in
set_option maxHeartbeats 4000000 in
theorem tX6_often (l : Launch) (A : Nat → Prop) (D : va_G) (cy : Nat → ClassId) (st : Nat → Nat) (sz : Nat) (sh : Sh) (d : Dt) (x0 : Nat) (x1 : Int32) (x2 : Int32) (x3 : Int32) {r : Int32} {d9 : Dt} (hf : fX6_often sh d x0 x1 x2 x3 = some (r, d9)) : Ct l yX6_often cX6_often 7 (some .int) 4 94 0 0 A D cy st [.ref x0, .int x1, .int x2, .int x3] sz sh d (some (.int r)) sz sh d9 := ct_of (by decide) (Nat.le_of_ble_eq_true rfl) (fun p e s m args below meth c C hw hS ls hl => wX6_often_b0 C x0 x1 x2 x3 d hf hw hS hl)
theorem dX6_inside_0 : decode cX6_inside 0 = .ok (.aload_n 0, 1) := by decide +kernel
theorem dX6_inside_1 : decode cX6_inside 1 = .ok (.iload_n 1, 1) := by decide +kernel
theorem dX6_inside_2 : decode cX6_inside 2 = .ok (.invokevirtual 74, 3) := by decide +kernel
theorem dX6_inside_5 : decode cX6_inside 5 = .ok (.astore 4, 2) := by decide +kernel
theorem dX6_inside_7 : decode cX6_inside 7 = .ok (.aload_n 0, 1) := by decide +kernel
theorem dX6_inside_8 : decode cX6_inside 8 = .ok (.iload_n 2, 1) := by decide +kernel
theorem dX6_inside_9 : decode cX6_inside 9 = .ok (.invokevirtual 63, 3) := by decide +kernel
theorem dX6_inside_12 : decode cX6_inside 12 = .ok (.astore 5, 2) := by decide +kernel
theorem dX6_inside_14 : decode cX6_inside 14 = .ok (.aload 4, 2) := by decide +kernel
theorem dX6_inside_16 : decode cX6_inside 16 = .ok (.ifnull 8, 3) := by decide +kernel
theorem dX6_inside_19 : decode cX6_inside 19 = .ok (.aload 5, 2) := by decide +kernel
theorem dX6_inside_21 : decode cX6_inside 21 = .ok (.ifnonnull 5, 3) := by decide +kernel
theorem dX6_inside_24 : decode cX6_inside 24 = .ok (.iconst (-1), 1) := by decide +kernel
theorem dX6_inside_25 : decode cX6_inside 25 = .ok (.ireturn, 1) := by decide +kernel
theorem dX6_inside_26 : decode cX6_inside 26 = .ok (.aload_n 0, 1) := by decide +kernel
theorem dX6_inside_27 : decode cX6_inside 27 = .ok (.aload 4, 2) := by decide +kernel
theorem dX6_inside_29 : decode cX6_inside 29 = .ok (.aload 5, 2) := by decide +kernel
theorem dX6_inside_31 : decode cX6_inside 31 = .ok (.iconst 3, 1) := by decide +kernel
theorem dX6_inside_32 : decode cX6_inside 32 = .ok (.invokevirtual 176, 3) := by decide +kernel
theorem dX6_inside_35 : decode cX6_inside 35 = .ok (.istore 6, 2) := by decide +kernel
theorem dX6_inside_37 : decode cX6_inside 37 = .ok (.iload 6, 2) := by decide +kernel
theorem dX6_inside_39 : decode cX6_inside 39 = .ok (.ifCond .eq 6, 3) := by decide +kernel
theorem dX6_inside_42 : decode cX6_inside 42 = .ok (.iload 6, 2) := by decide +kernel
theorem dX6_inside_44 : decode cX6_inside 44 = .ok (.ireturn, 1) := by decide +kernel
theorem dX6_inside_45 : decode cX6_inside 45 = .ok (.aload 5, 2) := by decide +kernel
theorem dX6_inside_47 : decode cX6_inside 47 = .ok (.aload 4, 2) := by decide +kernel
theorem dX6_inside_49 : decode cX6_inside 49 = .ok (.getfield 107, 3) := by decide +kernel
theorem dX6_inside_52 : decode cX6_inside 52 = .ok (.iload_n 3, 1) := by decide +kernel
theorem dX6_inside_53 : decode cX6_inside 53 = .ok (.invokevirtual 199, 3) := by decide +kernel
theorem dX6_inside_56 : decode cX6_inside 56 = .ok (.istore 7, 2) := by decide +kernel
theorem dX6_inside_58 : decode cX6_inside 58 = .ok (.iload 7, 2) := by decide +kernel
theorem dX6_inside_60 : decode cX6_inside 60 = .ok (.bipush (-9), 2) := by decide +kernel
theorem dX6_inside_62 : decode cX6_inside 62 = .ok (.if_icmp .ne 11, 3) := by decide +kernel
theorem dX6_inside_65 : decode cX6_inside 65 = .ok (.aload_n 0, 1) := by decide +kernel
theorem dX6_inside_66 : decode cX6_inside 66 = .ok (.iconst 2, 1) := by decide +kernel
theorem dX6_inside_67 : decode cX6_inside 67 = .ok (.invokevirtual 100, 3) := by decide +kernel
theorem dX6_inside_70 : decode cX6_inside 70 = .ok (.goto 5, 3) := by decide +kernel
theorem dX6_inside_73 : decode cX6_inside 73 = .ok (.iload 7, 2) := by decide +kernel
theorem dX6_inside_75 : decode cX6_inside 75 = .ok (.ireturn, 1) := by decide +kernel
theorem cvX6_inside : CV yX6_inside cX6_inside 8 (some .int) 7 3 := ⟨kw_630, kw_631, kw_1, kw_632, ⟨_, _, rfl⟩, by decide, by decide +kernel, by decide +kernel, by decide +kernel⟩
def fX6_inside_b0 (sh : Sh) (x0 : Nat) (x1 : Int32) (x2 : Int32) (x3 : Int32) (d : Dt) : Option (Int32 × Dt) := bd (kc sh 8 x0) fun _ => bd (fX6_handAt sh d x0 x1) fun r3 => bd (fX6_pageAt sh d x0 x2) fun r5 => on r3 (some ((-1 : Int32), d)) (fun a6 => on r5 (some ((-1 : Int32), d)) (fun a7 => bd2 (fX6_refusalToSee sh d x0 (some a6) (some a7) (3 : Int32)) fun r9 d10 => if r9 = 0 then (bd (gR sh d10 3 97 a6) fun v12 => bd (kc sh 5 a7) fun _ => bd2 (fX3_thingAt sh d10 a7 v12 x3) fun r15 d16 => if r15 = (-9 : Int32) then (bd2 (fX6_found sh d16 x0 (2 : Int32)) fun r19 d20 => some (r19, d20)) else (some (r15, d16))) else (some (r9, d10))))

def fX6_inside (sh : Sh) (d : Dt) (x0 : Nat) (x1 : Int32) (x2 : Int32) (x3 : Int32) : Option (Int32 × Dt) := fX6_inside_b0 sh x0 x1 x2 x3 d

set_option maxRecDepth 100000 in
set_option maxHeartbeats 4000000 in
theorem wX6_inside_b0 (C : mx p s m args meth c yX6_inside cX6_inside 8 (some .int) A D cy st) {r : Int32} {d9 : Dt} : ∀ (x0 : Nat) (x1 : Int32) (x2 : Int32) (x3 : Int32) (d : Dt), fX6_inside_b0 sh x0 x1 x2 x3 d = some (r, d9) → ∀ {H : Heap} {locs : List Loc} {ls : Array Slot}, HW A D cy sz sh d H → va_S A s.heap H locs → lv_has ls 8 [(0, .ref x0), (1, .int x1), (2, .int x2), (3, .int x3)] → GL p l e s m args below meth c 5 118 A D cy (some (.int r)) sz sh d9 H locs 0 ls [] := by
  have hx := C.1
  have hb := C.2.1
  intro x0 x1 x2 x3 d hf H locs ls hw hS hl
  unfold fX6_inside_b0 at hf
  refine lv_aload_n hx hb dX6_inside_0 rfl (lv_at hl 0 rfl) ?_
  refine lv_iload_n hx hb dX6_inside_1 rfl (lv_at hl 1 rfl) ?_
  obtain ⟨_, h1, hf⟩ := bd_s hf
  obtain ⟨r3, h2, hf⟩ := bd_s hf
  refine cl_V0 C hw hS (tX6_handAt l A D cy st sz sh d x0 x1 h2) cvX6_handAt kw_233 (kc_k h1) ⟨(Nat.le_of_ble_eq_true rfl), (Nat.le_of_ble_eq_true rfl)⟩ hl.1 rfl (Nat.le_of_ble_eq_true rfl) dX6_inside_2 ⟨Nat.zero_le _, Nat.zero_le _⟩ (fun H locs hw hS => ?_)
  refine lq_astore (x := r3) (lv' := [(4, va_rf r3), (0, .ref x0), (1, .int x1), (2, .int x2), (3, .int x3)]) hx hb dX6_inside_5 hl (by decide) rfl (fun ls hl => ?_)
  refine lv_aload_n hx hb dX6_inside_7 rfl (lv_at hl 1 rfl) ?_
  refine lv_iload_n hx hb dX6_inside_8 rfl (lv_at hl 3 rfl) ?_
  obtain ⟨r5, h4, hf⟩ := bd_s hf
  refine cl_V0 C hw hS (tX6_pageAt l A D cy st sz sh d x0 x2 h4) cvX6_pageAt kw_216 (kc_k h1) ⟨(Nat.le_of_ble_eq_true rfl), (Nat.le_of_ble_eq_true rfl)⟩ hl.1 rfl (Nat.le_of_ble_eq_true rfl) dX6_inside_9 ⟨Nat.zero_le _, Nat.zero_le _⟩ (fun H locs hw hS => ?_)
  refine lq_astore (i := 5) (x := r5) (lv' := [(5, va_rf r5), (4, va_rf r3), (0, .ref x0), (1, .int x1), (2, .int x2), (3, .int x3)]) hx hb dX6_inside_12 hl (by decide) (by simp [va_rf_c, cat_i, cat_l, cat_r]) (fun ls hl => ?_)
  refine lq_aload hx hb dX6_inside_14 (lv_at hl 1 rfl) ?_
  cases r3 with
  | none =>
    have hf := on_n hf
    refine lv_ifnullN (tgt := 24) hx hb dX6_inside_16 (by decide) ?_
    refine lv_iconst (v := -1) hx hb dX6_inside_24 (by decide) ?_
    cases hf
    exact rt_i C hw hS dX6_inside_25
  | some a6 =>
    have hf := on_s hf
    refine lv_ifnull hx hb dX6_inside_16 ?_
    refine lq_aload hx hb dX6_inside_19 (lv_at hl 0 rfl) ?_
    cases r5 with
    | none =>
      have hf := on_n hf
      refine lv_ifnonnullN hx hb dX6_inside_21 ?_
      refine lv_iconst (v := -1) hx hb dX6_inside_24 (by decide) ?_
      cases hf
      exact rt_i C hw hS dX6_inside_25
    | some a7 =>
      have hf := on_s hf
      refine lv_ifnonnull (tgt := 26) hx hb dX6_inside_21 (by decide) ?_
      refine lv_aload_n hx hb dX6_inside_26 rfl (lv_at hl 2 rfl) ?_
      refine lq_aload hx hb dX6_inside_27 (lv_at hl 1 rfl) ?_
      refine lq_aload hx hb dX6_inside_29 (lv_at hl 0 rfl) ?_
      refine lv_iconst (v := 3) hx hb dX6_inside_31 (by decide) ?_
      obtain ⟨r9, d10, h8, hf⟩ := bd2_s hf
      refine cl_V0 C hw hS (tX6_refusalToSee l A D cy st sz sh d x0 (some a6) (some a7) (3 : Int32) h8) cvX6_refusalToSee kw_254 (kc_k h1) ⟨(Nat.le_of_ble_eq_true rfl), (Nat.le_of_ble_eq_true rfl)⟩ hl.1 rfl (Nat.le_of_ble_eq_true rfl) dX6_inside_32 ⟨Nat.zero_le _, Nat.zero_le _⟩ (fun H locs hw hS => ?_)
      refine lv_istore (i := 6) (lv' := [(6, .int r9), (5, va_rf (some a7)), (4, va_rf (some a6)), (0, .ref x0), (1, .int x1), (2, .int x2), (3, .int x3)]) hx hb dX6_inside_35 hl (by decide) (by simp [va_rf_c, cat_i, cat_l, cat_r]) (fun ls hl => ?_)
      refine lv_iload hx hb dX6_inside_37 (lv_at hl 0 rfl) ?_
      refine lv_if_eq (tgt := 45) hx hb dX6_inside_39 (by decide) (fun c_11 => ?_) (fun c_11 => ?_)
      · have hf := if_t c_11 hf
        refine lq_aload hx hb dX6_inside_45 (lv_at hl 1 rfl) ?_
        refine lq_aload hx hb dX6_inside_47 (lv_at hl 2 rfl) ?_
        obtain ⟨v12, hv12, hf⟩ := bd_s hf
        refine gt_97 C hw hv12 kw_153 dX6_inside_49 ?_
        refine lv_iload_n hx hb dX6_inside_52 rfl (lv_at hl 6 rfl) ?_
        obtain ⟨_, h13, hf⟩ := bd_s hf
        obtain ⟨r15, d16, h14, hf⟩ := bd2_s hf
        refine cl_V0 C hw hS (tX3_thingAt l A D cy st sz sh d10 a7 v12 x3 h14) cvX3_thingAt kw_633 (kc_k h13) ⟨(Nat.le_of_ble_eq_true rfl), (Nat.le_of_ble_eq_true rfl)⟩ hl.1 rfl (Nat.le_of_ble_eq_true rfl) dX6_inside_53 ⟨Nat.zero_le _, Nat.zero_le _⟩ (fun H locs hw hS => ?_)
        refine lv_istore (lv' := [(7, .int r15), (6, .int r9), (5, va_rf (some a7)), (4, va_rf (some a6)), (0, .ref x0), (1, .int x1), (2, .int x2), (3, .int x3)]) hx hb dX6_inside_56 hl (by decide) rfl (fun ls hl => ?_)
        refine lv_iload hx hb dX6_inside_58 (lv_at hl 0 rfl) ?_
        refine lv_bipush (v := -9) hx hb dX6_inside_60 (by decide) ?_
        refine lv_icmp_ne (tgt := 73) hx hb dX6_inside_62 (by decide) (fun c_17 => ?_) (fun c_17 => ?_)
        · have hf := if_f c_17 hf
          refine lv_iload hx hb dX6_inside_73 (lv_at hl 0 rfl) ?_
          cases hf
          exact rt_i C hw hS dX6_inside_75
        · have hf := if_t c_17 hf
          refine lv_aload_n hx hb dX6_inside_65 rfl (lv_at hl 4 rfl) ?_
          refine lv_iconst (v := 2) hx hb dX6_inside_66 (by decide) ?_
          obtain ⟨r19, d20, h18, hf⟩ := bd2_s hf
          refine cl_V0 C hw hS (tX6_found l A D cy st sz sh d16 x0 (2 : Int32) h18) cvX6_found kw_258 (kc_k h1) ⟨(Nat.le_of_ble_eq_true rfl), (Nat.le_of_ble_eq_true rfl)⟩ hl.1 rfl (Nat.le_of_ble_eq_true rfl) dX6_inside_67 ⟨Nat.zero_le _, Nat.zero_le _⟩ (fun H locs hw hS => ?_)
          refine lv_goto (tgt := 75) hx hb dX6_inside_70 (by decide) ?_
          cases hf
          exact rt_i C hw hS dX6_inside_75
      · have hf := if_f c_11 hf
        refine lv_iload hx hb dX6_inside_42 (lv_at hl 0 rfl) ?_
        cases hf
        exact rt_i C hw hS dX6_inside_44

set_option maxRecDepth 100000 in
set_option maxHeartbeats 4000000 in
theorem tX6_inside (l : Launch) (A : Nat → Prop) (D : va_G) (cy : Nat → ClassId) (st : Nat → Nat) (sz : Nat) (sh : Sh) (d : Dt) (x0 : Nat) (x1 : Int32) (x2 : Int32) (x3 : Int32) {r : Int32} {d9 : Dt} (hf : fX6_inside sh d x0 x1 x2 x3 = some (r, d9)) : Ct l yX6_inside cX6_inside 8 (some .int) 5 118 0 0 A D cy st [.ref x0, .int x1, .int x2, .int x3] sz sh d (some (.int r)) sz sh d9 := ct_of (by decide) (Nat.le_of_ble_eq_true rfl) (fun p e s m args below meth c C hw hS ls hl => wX6_inside_b0 C x0 x1 x2 x3 d hf hw hS hl)
theorem dX6_heads_0 : decode cX6_heads 0 = .ok (.aload_n 0, 1) := by decide +kernel
theorem dX6_heads_1 : decode cX6_heads 1 = .ok (.iload_n 1, 1) := by decide +kernel
theorem dX6_heads_2 : decode cX6_heads 2 = .ok (.invokevirtual 74, 3) := by decide +kernel
theorem dX6_heads_5 : decode cX6_heads 5 = .ok (.astore_n 3, 1) := by decide +kernel
theorem dX6_heads_6 : decode cX6_heads 6 = .ok (.aload_n 0, 1) := by decide +kernel
theorem dX6_heads_7 : decode cX6_heads 7 = .ok (.iload_n 2, 1) := by decide +kernel
theorem dX6_heads_8 : decode cX6_heads 8 = .ok (.invokevirtual 63, 3) := by decide +kernel
theorem dX6_heads_11 : decode cX6_heads 11 = .ok (.astore 4, 2) := by decide +kernel
theorem dX6_heads_13 : decode cX6_heads 13 = .ok (.aload_n 3, 1) := by decide +kernel
theorem dX6_heads_14 : decode cX6_heads 14 = .ok (.ifnull 8, 3) := by decide +kernel
theorem dX6_heads_17 : decode cX6_heads 17 = .ok (.aload 4, 2) := by decide +kernel
theorem dX6_heads_19 : decode cX6_heads 19 = .ok (.ifnonnull 5, 3) := by decide +kernel
theorem dX6_heads_22 : decode cX6_heads 22 = .ok (.iconst (-1), 1) := by decide +kernel
theorem dX6_heads_23 : decode cX6_heads 23 = .ok (.ireturn, 1) := by decide +kernel
theorem dX6_heads_24 : decode cX6_heads 24 = .ok (.aload_n 0, 1) := by decide +kernel
theorem dX6_heads_25 : decode cX6_heads 25 = .ok (.aload_n 3, 1) := by decide +kernel
theorem dX6_heads_26 : decode cX6_heads 26 = .ok (.aload 4, 2) := by decide +kernel
theorem dX6_heads_28 : decode cX6_heads 28 = .ok (.iconst 4, 1) := by decide +kernel
theorem dX6_heads_29 : decode cX6_heads 29 = .ok (.invokevirtual 176, 3) := by decide +kernel
theorem dX6_heads_32 : decode cX6_heads 32 = .ok (.istore 5, 2) := by decide +kernel
theorem dX6_heads_34 : decode cX6_heads 34 = .ok (.iload 5, 2) := by decide +kernel
theorem dX6_heads_36 : decode cX6_heads 36 = .ok (.ifCond .eq 8, 3) := by decide +kernel
theorem dX6_heads_39 : decode cX6_heads 39 = .ok (.iload 5, 2) := by decide +kernel
theorem dX6_heads_41 : decode cX6_heads 41 = .ok (.goto 12, 3) := by decide +kernel
theorem dX6_heads_44 : decode cX6_heads 44 = .ok (.aload 4, 2) := by decide +kernel
theorem dX6_heads_46 : decode cX6_heads 46 = .ok (.aload_n 3, 1) := by decide +kernel
theorem dX6_heads_47 : decode cX6_heads 47 = .ok (.getfield 107, 3) := by decide +kernel
theorem dX6_heads_50 : decode cX6_heads 50 = .ok (.invokevirtual 202, 3) := by decide +kernel
theorem dX6_heads_53 : decode cX6_heads 53 = .ok (.ireturn, 1) := by decide +kernel
theorem cvX6_heads : CV yX6_heads cX6_heads 6 (some .int) 7 2 := ⟨kw_639, kw_640, kw_1, kw_641, ⟨_, _, rfl⟩, by decide, by decide +kernel, by decide +kernel, by decide +kernel⟩
def fX6_heads_b0 (sh : Sh) (x0 : Nat) (x1 : Int32) (x2 : Int32) (d : Dt) : Option (Int32 × Dt) := bd (kc sh 8 x0) fun _ => bd (fX6_handAt sh d x0 x1) fun r3 => bd (fX6_pageAt sh d x0 x2) fun r5 => on r3 (some ((-1 : Int32), d)) (fun a6 => on r5 (some ((-1 : Int32), d)) (fun a7 => bd2 (fX6_refusalToSee sh d x0 (some a6) (some a7) (4 : Int32)) fun r9 d10 => if r9 = 0 then (bd (gR sh d10 3 97 a6) fun v12 => bd (kc sh 5 a7) fun _ => bd2 (fX3_headCount sh d10 a7 v12) fun r15 d16 => some (r15, d16)) else (some (r9, d10))))

def fX6_heads (sh : Sh) (d : Dt) (x0 : Nat) (x1 : Int32) (x2 : Int32) : Option (Int32 × Dt) := fX6_heads_b0 sh x0 x1 x2 d

set_option maxRecDepth 100000 in
set_option maxHeartbeats 4000000 in
theorem wX6_heads_b0 (C : mx p s m args meth c yX6_heads cX6_heads 6 (some .int) A D cy st) {r : Int32} {d9 : Dt} : ∀ (x0 : Nat) (x1 : Int32) (x2 : Int32) (d : Dt), fX6_heads_b0 sh x0 x1 x2 d = some (r, d9) → ∀ {H : Heap} {locs : List Loc} {ls : Array Slot}, HW A D cy sz sh d H → va_S A s.heap H locs → lv_has ls 6 [(0, .ref x0), (1, .int x1), (2, .int x2)] → GL p l e s m args below meth c 4 93 A D cy (some (.int r)) sz sh d9 H locs 0 ls [] := by
  have hx := C.1
  have hb := C.2.1
  intro x0 x1 x2 d hf H locs ls hw hS hl
  unfold fX6_heads_b0 at hf
  refine lv_aload_n hx hb dX6_heads_0 rfl (lv_at hl 0 rfl) ?_
  refine lv_iload_n hx hb dX6_heads_1 rfl (lv_at hl 1 rfl) ?_
  obtain ⟨_, h1, hf⟩ := bd_s hf
  obtain ⟨r3, h2, hf⟩ := bd_s hf
  refine cl_V0 C hw hS (tX6_handAt l A D cy st sz sh d x0 x1 h2) cvX6_handAt kw_233 (kc_k h1) ⟨(Nat.le_of_ble_eq_true rfl), (Nat.le_of_ble_eq_true rfl)⟩ hl.1 rfl (Nat.le_of_ble_eq_true rfl) dX6_heads_2 ⟨Nat.zero_le _, Nat.zero_le _⟩ (fun H locs hw hS => ?_)
  refine lq_astore_n (x := r3) (lv' := [(3, va_rf r3), (0, .ref x0), (1, .int x1), (2, .int x2)]) hx hb dX6_heads_5 rfl hl (by decide) rfl (fun ls hl => ?_)
  refine lv_aload_n hx hb dX6_heads_6 rfl (lv_at hl 1 rfl) ?_
  refine lv_iload_n hx hb dX6_heads_7 rfl (lv_at hl 3 rfl) ?_
  obtain ⟨r5, h4, hf⟩ := bd_s hf
  refine cl_V0 C hw hS (tX6_pageAt l A D cy st sz sh d x0 x2 h4) cvX6_pageAt kw_216 (kc_k h1) ⟨(Nat.le_of_ble_eq_true rfl), (Nat.le_of_ble_eq_true rfl)⟩ hl.1 rfl (Nat.le_of_ble_eq_true rfl) dX6_heads_8 ⟨Nat.zero_le _, Nat.zero_le _⟩ (fun H locs hw hS => ?_)
  refine lq_astore (i := 4) (x := r5) (lv' := [(4, va_rf r5), (3, va_rf r3), (0, .ref x0), (1, .int x1), (2, .int x2)]) hx hb dX6_heads_11 hl (by decide) (by simp [va_rf_c, cat_i, cat_l, cat_r]) (fun ls hl => ?_)
  refine lq_aload_n hx hb dX6_heads_13 rfl (lv_at hl 1 rfl) ?_
  cases r3 with
  | none =>
    have hf := on_n hf
    refine lv_ifnullN (tgt := 22) hx hb dX6_heads_14 (by decide) ?_
    refine lv_iconst (v := -1) hx hb dX6_heads_22 (by decide) ?_
    cases hf
    exact rt_i C hw hS dX6_heads_23
  | some a6 =>
    have hf := on_s hf
    refine lv_ifnull hx hb dX6_heads_14 ?_
    refine lq_aload hx hb dX6_heads_17 (lv_at hl 0 rfl) ?_
    cases r5 with
    | none =>
      have hf := on_n hf
      refine lv_ifnonnullN hx hb dX6_heads_19 ?_
      refine lv_iconst (v := -1) hx hb dX6_heads_22 (by decide) ?_
      cases hf
      exact rt_i C hw hS dX6_heads_23
    | some a7 =>
      have hf := on_s hf
      refine lv_ifnonnull (tgt := 24) hx hb dX6_heads_19 (by decide) ?_
      refine lv_aload_n hx hb dX6_heads_24 rfl (lv_at hl 2 rfl) ?_
      refine lq_aload_n hx hb dX6_heads_25 rfl (lv_at hl 1 rfl) ?_
      refine lq_aload hx hb dX6_heads_26 (lv_at hl 0 rfl) ?_
      refine lv_iconst (v := 4) hx hb dX6_heads_28 (by decide) ?_
      obtain ⟨r9, d10, h8, hf⟩ := bd2_s hf
      refine cl_V0 C hw hS (tX6_refusalToSee l A D cy st sz sh d x0 (some a6) (some a7) (4 : Int32) h8) cvX6_refusalToSee kw_254 (kc_k h1) ⟨(Nat.le_of_ble_eq_true rfl), (Nat.le_of_ble_eq_true rfl)⟩ hl.1 rfl (Nat.le_of_ble_eq_true rfl) dX6_heads_29 ⟨Nat.zero_le _, Nat.zero_le _⟩ (fun H locs hw hS => ?_)
      refine lv_istore (i := 5) (lv' := [(5, .int r9), (4, va_rf (some a7)), (3, va_rf (some a6)), (0, .ref x0), (1, .int x1), (2, .int x2)]) hx hb dX6_heads_32 hl (by decide) (by simp [va_rf_c, cat_i, cat_l, cat_r]) (fun ls hl => ?_)
      refine lv_iload hx hb dX6_heads_34 (lv_at hl 0 rfl) ?_
      refine lv_if_eq (tgt := 44) hx hb dX6_heads_36 (by decide) (fun c_11 => ?_) (fun c_11 => ?_)
      · have hf := if_t c_11 hf
        refine lq_aload hx hb dX6_heads_44 (lv_at hl 1 rfl) ?_
        refine lq_aload_n hx hb dX6_heads_46 rfl (lv_at hl 2 rfl) ?_
        obtain ⟨v12, hv12, hf⟩ := bd_s hf
        refine gt_97 C hw hv12 kw_153 dX6_heads_47 ?_
        obtain ⟨_, h13, hf⟩ := bd_s hf
        obtain ⟨r15, d16, h14, hf⟩ := bd2_s hf
        refine cl_V0 C hw hS (tX3_headCount l A D cy st sz sh d10 a7 v12 h14) cvX3_headCount kw_642 (kc_k h13) ⟨(Nat.le_of_ble_eq_true rfl), (Nat.le_of_ble_eq_true rfl)⟩ hl.1 rfl (Nat.le_of_ble_eq_true rfl) dX6_heads_50 ⟨Nat.zero_le _, Nat.zero_le _⟩ (fun H locs hw hS => ?_)
        cases hf
        exact rt_i C hw hS dX6_heads_53
      · have hf := if_f c_11 hf
        refine lv_iload hx hb dX6_heads_39 (lv_at hl 0 rfl) ?_
        refine lv_goto (tgt := 53) hx hb dX6_heads_41 (by decide) ?_
        cases hf
        exact rt_i C hw hS dX6_heads_53

set_option maxRecDepth 100000 in
set_option maxHeartbeats 4000000 in
theorem tX6_heads (l : Launch) (A : Nat → Prop) (D : va_G) (cy : Nat → ClassId) (st : Nat → Nat) (sz : Nat) (sh : Sh) (d : Dt) (x0 : Nat) (x1 : Int32) (x2 : Int32) {r : Int32} {d9 : Dt} (hf : fX6_heads sh d x0 x1 x2 = some (r, d9)) : Ct l yX6_heads cX6_heads 6 (some .int) 4 93 0 0 A D cy st [.ref x0, .int x1, .int x2] sz sh d (some (.int r)) sz sh d9 := ct_of (by decide) (Nat.le_of_ble_eq_true rfl) (fun p e s m args below meth c C hw hS ls hl => wX6_heads_b0 C x0 x1 x2 d hf hw hS hl)
theorem dX6_head_0 : decode cX6_head 0 = .ok (.aload_n 0, 1) := by decide +kernel
theorem dX6_head_1 : decode cX6_head 1 = .ok (.iload_n 1, 1) := by decide +kernel
theorem dX6_head_2 : decode cX6_head 2 = .ok (.invokevirtual 74, 3) := by decide +kernel
theorem dX6_head_5 : decode cX6_head 5 = .ok (.astore 4, 2) := by decide +kernel
theorem dX6_head_7 : decode cX6_head 7 = .ok (.aload_n 0, 1) := by decide +kernel
theorem dX6_head_8 : decode cX6_head 8 = .ok (.iload_n 2, 1) := by decide +kernel
theorem dX6_head_9 : decode cX6_head 9 = .ok (.invokevirtual 63, 3) := by decide +kernel
theorem dX6_head_12 : decode cX6_head 12 = .ok (.astore 5, 2) := by decide +kernel
theorem dX6_head_14 : decode cX6_head 14 = .ok (.aload 4, 2) := by decide +kernel
theorem dX6_head_16 : decode cX6_head 16 = .ok (.ifnull 8, 3) := by decide +kernel
theorem dX6_head_19 : decode cX6_head 19 = .ok (.aload 5, 2) := by decide +kernel
theorem dX6_head_21 : decode cX6_head 21 = .ok (.ifnonnull 5, 3) := by decide +kernel
theorem dX6_head_24 : decode cX6_head 24 = .ok (.iconst (-1), 1) := by decide +kernel
theorem dX6_head_25 : decode cX6_head 25 = .ok (.ireturn, 1) := by decide +kernel
theorem dX6_head_26 : decode cX6_head 26 = .ok (.aload_n 0, 1) := by decide +kernel
theorem dX6_head_27 : decode cX6_head 27 = .ok (.aload 4, 2) := by decide +kernel
theorem dX6_head_29 : decode cX6_head 29 = .ok (.aload 5, 2) := by decide +kernel
theorem dX6_head_31 : decode cX6_head 31 = .ok (.iconst 4, 1) := by decide +kernel
theorem dX6_head_32 : decode cX6_head 32 = .ok (.invokevirtual 176, 3) := by decide +kernel
theorem dX6_head_35 : decode cX6_head 35 = .ok (.istore 6, 2) := by decide +kernel
theorem dX6_head_37 : decode cX6_head 37 = .ok (.iload 6, 2) := by decide +kernel
theorem dX6_head_39 : decode cX6_head 39 = .ok (.ifCond .eq 6, 3) := by decide +kernel
theorem dX6_head_42 : decode cX6_head 42 = .ok (.iload 6, 2) := by decide +kernel
theorem dX6_head_44 : decode cX6_head 44 = .ok (.ireturn, 1) := by decide +kernel
theorem dX6_head_45 : decode cX6_head 45 = .ok (.aload 5, 2) := by decide +kernel
theorem dX6_head_47 : decode cX6_head 47 = .ok (.aload 4, 2) := by decide +kernel
theorem dX6_head_49 : decode cX6_head 49 = .ok (.getfield 107, 3) := by decide +kernel
theorem dX6_head_52 : decode cX6_head 52 = .ok (.iload_n 3, 1) := by decide +kernel
theorem dX6_head_53 : decode cX6_head 53 = .ok (.invokevirtual 205, 3) := by decide +kernel
theorem dX6_head_56 : decode cX6_head 56 = .ok (.astore 7, 2) := by decide +kernel
theorem dX6_head_58 : decode cX6_head 58 = .ok (.aload 7, 2) := by decide +kernel
theorem dX6_head_60 : decode cX6_head 60 = .ok (.ifnonnull 11, 3) := by decide +kernel
theorem dX6_head_63 : decode cX6_head 63 = .ok (.aload_n 0, 1) := by decide +kernel
theorem dX6_head_64 : decode cX6_head 64 = .ok (.iconst 2, 1) := by decide +kernel
theorem dX6_head_65 : decode cX6_head 65 = .ok (.invokevirtual 100, 3) := by decide +kernel
theorem dX6_head_68 : decode cX6_head 68 = .ok (.goto 17, 3) := by decide +kernel
theorem dX6_head_71 : decode cX6_head 71 = .ok (.aload_n 0, 1) := by decide +kernel
theorem dX6_head_72 : decode cX6_head 72 = .ok (.aload 7, 2) := by decide +kernel
theorem dX6_head_74 : decode cX6_head 74 = .ok (.getfield 183, 3) := by decide +kernel
theorem dX6_head_77 : decode cX6_head 77 = .ok (.aload 7, 2) := by decide +kernel
theorem dX6_head_79 : decode cX6_head 79 = .ok (.getfield 187, 3) := by decide +kernel
theorem dX6_head_82 : decode cX6_head 82 = .ok (.invokevirtual 188, 3) := by decide +kernel
theorem dX6_head_85 : decode cX6_head 85 = .ok (.ireturn, 1) := by decide +kernel
theorem cvX6_head : CV yX6_head cX6_head 8 (some .int) 7 3 := ⟨kw_647, kw_648, kw_1, kw_649, ⟨_, _, rfl⟩, by decide, by decide +kernel, by decide +kernel, by decide +kernel⟩
def fX6_head_b0 (sh : Sh) (x0 : Nat) (x1 : Int32) (x2 : Int32) (x3 : Int32) (d : Dt) : Option (Int32 × Dt) := bd (kc sh 8 x0) fun _ => bd (fX6_handAt sh d x0 x1) fun r3 => bd (fX6_pageAt sh d x0 x2) fun r5 => on r3 (some ((-1 : Int32), d)) (fun a6 => on r5 (some ((-1 : Int32), d)) (fun a7 => bd2 (fX6_refusalToSee sh d x0 (some a6) (some a7) (4 : Int32)) fun r9 d10 => if r9 = 0 then (bd (gR sh d10 3 97 a6) fun v12 => bd (kc sh 5 a7) fun _ => bd2 (fX3_headAt sh d10 a7 v12 x3) fun r15 d16 => on r15 (bd2 (fX6_found sh d16 x0 (2 : Int32)) fun r19 d20 => some (r19, d20)) (fun a17 => bd (gL sh d16 2 69 a17) fun v21 => bd (gI sh d16 2 64 a17) fun v22 => bd2 (fX6_tellAnd sh d16 x0 v21 v22) fun r24 d25 => some (r24, d25))) else (some (r9, d10))))

def fX6_head (sh : Sh) (d : Dt) (x0 : Nat) (x1 : Int32) (x2 : Int32) (x3 : Int32) : Option (Int32 × Dt) := fX6_head_b0 sh x0 x1 x2 x3 d

set_option maxRecDepth 100000 in
set_option maxHeartbeats 4000000 in
theorem wX6_head_b0 (C : mx p s m args meth c yX6_head cX6_head 8 (some .int) A D cy st) {r : Int32} {d9 : Dt} : ∀ (x0 : Nat) (x1 : Int32) (x2 : Int32) (x3 : Int32) (d : Dt), fX6_head_b0 sh x0 x1 x2 x3 d = some (r, d9) → ∀ {H : Heap} {locs : List Loc} {ls : Array Slot}, HW A D cy sz sh d H → va_S A s.heap H locs → lv_has ls 8 [(0, .ref x0), (1, .int x1), (2, .int x2), (3, .int x3)] → GL p l e s m args below meth c 5 117 A D cy (some (.int r)) sz sh d9 H locs 0 ls [] := by
  have hx := C.1
  have hb := C.2.1
  intro x0 x1 x2 x3 d hf H locs ls hw hS hl
  unfold fX6_head_b0 at hf
  refine lv_aload_n hx hb dX6_head_0 rfl (lv_at hl 0 rfl) ?_
  refine lv_iload_n hx hb dX6_head_1 rfl (lv_at hl 1 rfl) ?_
  obtain ⟨_, h1, hf⟩ := bd_s hf
  obtain ⟨r3, h2, hf⟩ := bd_s hf
  refine cl_V0 C hw hS (tX6_handAt l A D cy st sz sh d x0 x1 h2) cvX6_handAt kw_233 (kc_k h1) ⟨(Nat.le_of_ble_eq_true rfl), (Nat.le_of_ble_eq_true rfl)⟩ hl.1 rfl (Nat.le_of_ble_eq_true rfl) dX6_head_2 ⟨Nat.zero_le _, Nat.zero_le _⟩ (fun H locs hw hS => ?_)
  refine lq_astore (x := r3) (lv' := [(4, va_rf r3), (0, .ref x0), (1, .int x1), (2, .int x2), (3, .int x3)]) hx hb dX6_head_5 hl (by decide) rfl (fun ls hl => ?_)
  refine lv_aload_n hx hb dX6_head_7 rfl (lv_at hl 1 rfl) ?_
  refine lv_iload_n hx hb dX6_head_8 rfl (lv_at hl 3 rfl) ?_
  obtain ⟨r5, h4, hf⟩ := bd_s hf
  refine cl_V0 C hw hS (tX6_pageAt l A D cy st sz sh d x0 x2 h4) cvX6_pageAt kw_216 (kc_k h1) ⟨(Nat.le_of_ble_eq_true rfl), (Nat.le_of_ble_eq_true rfl)⟩ hl.1 rfl (Nat.le_of_ble_eq_true rfl) dX6_head_9 ⟨Nat.zero_le _, Nat.zero_le _⟩ (fun H locs hw hS => ?_)
  refine lq_astore (i := 5) (x := r5) (lv' := [(5, va_rf r5), (4, va_rf r3), (0, .ref x0), (1, .int x1), (2, .int x2), (3, .int x3)]) hx hb dX6_head_12 hl (by decide) (by simp [va_rf_c, cat_i, cat_l, cat_r]) (fun ls hl => ?_)
  refine lq_aload hx hb dX6_head_14 (lv_at hl 1 rfl) ?_
  cases r3 with
  | none =>
    have hf := on_n hf
    refine lv_ifnullN (tgt := 24) hx hb dX6_head_16 (by decide) ?_
    refine lv_iconst (v := -1) hx hb dX6_head_24 (by decide) ?_
    cases hf
    exact rt_i C hw hS dX6_head_25
  | some a6 =>
    have hf := on_s hf
    refine lv_ifnull hx hb dX6_head_16 ?_
    refine lq_aload hx hb dX6_head_19 (lv_at hl 0 rfl) ?_
    cases r5 with
    | none =>
      have hf := on_n hf
      refine lv_ifnonnullN hx hb dX6_head_21 ?_
      refine lv_iconst (v := -1) hx hb dX6_head_24 (by decide) ?_
      cases hf
      exact rt_i C hw hS dX6_head_25
    | some a7 =>
      have hf := on_s hf
      refine lv_ifnonnull (tgt := 26) hx hb dX6_head_21 (by decide) ?_
      refine lv_aload_n hx hb dX6_head_26 rfl (lv_at hl 2 rfl) ?_
      refine lq_aload hx hb dX6_head_27 (lv_at hl 1 rfl) ?_
      refine lq_aload hx hb dX6_head_29 (lv_at hl 0 rfl) ?_
      refine lv_iconst (v := 4) hx hb dX6_head_31 (by decide) ?_
      obtain ⟨r9, d10, h8, hf⟩ := bd2_s hf
      refine cl_V0 C hw hS (tX6_refusalToSee l A D cy st sz sh d x0 (some a6) (some a7) (4 : Int32) h8) cvX6_refusalToSee kw_254 (kc_k h1) ⟨(Nat.le_of_ble_eq_true rfl), (Nat.le_of_ble_eq_true rfl)⟩ hl.1 rfl (Nat.le_of_ble_eq_true rfl) dX6_head_32 ⟨Nat.zero_le _, Nat.zero_le _⟩ (fun H locs hw hS => ?_)
      refine lv_istore (i := 6) (lv' := [(6, .int r9), (5, va_rf (some a7)), (4, va_rf (some a6)), (0, .ref x0), (1, .int x1), (2, .int x2), (3, .int x3)]) hx hb dX6_head_35 hl (by decide) (by simp [va_rf_c, cat_i, cat_l, cat_r]) (fun ls hl => ?_)
      refine lv_iload hx hb dX6_head_37 (lv_at hl 0 rfl) ?_
      refine lv_if_eq (tgt := 45) hx hb dX6_head_39 (by decide) (fun c_11 => ?_) (fun c_11 => ?_)
      · have hf := if_t c_11 hf
        refine lq_aload hx hb dX6_head_45 (lv_at hl 1 rfl) ?_
        refine lq_aload hx hb dX6_head_47 (lv_at hl 2 rfl) ?_
        obtain ⟨v12, hv12, hf⟩ := bd_s hf
        refine gt_97 C hw hv12 kw_153 dX6_head_49 ?_
        refine lv_iload_n hx hb dX6_head_52 rfl (lv_at hl 6 rfl) ?_
        obtain ⟨_, h13, hf⟩ := bd_s hf
        obtain ⟨r15, d16, h14, hf⟩ := bd2_s hf
        refine cl_V0 C hw hS (tX3_headAt l A D cy st sz sh d10 a7 v12 x3 h14) cvX3_headAt kw_650 (kc_k h13) ⟨(Nat.le_of_ble_eq_true rfl), (Nat.le_of_ble_eq_true rfl)⟩ hl.1 rfl (Nat.le_of_ble_eq_true rfl) dX6_head_53 ⟨Nat.zero_le _, Nat.zero_le _⟩ (fun H locs hw hS => ?_)
        refine lq_astore (x := r15) (lv' := [(7, va_rf r15), (6, .int r9), (5, va_rf (some a7)), (4, va_rf (some a6)), (0, .ref x0), (1, .int x1), (2, .int x2), (3, .int x3)]) hx hb dX6_head_56 hl (by decide) rfl (fun ls hl => ?_)
        refine lq_aload hx hb dX6_head_58 (lv_at hl 0 rfl) ?_
        cases r15 with
        | none =>
          have hf := on_n hf
          refine lv_ifnonnullN hx hb dX6_head_60 ?_
          refine lv_aload_n hx hb dX6_head_63 rfl (lv_at hl 4 rfl) ?_
          refine lv_iconst (v := 2) hx hb dX6_head_64 (by decide) ?_
          obtain ⟨r19, d20, h18, hf⟩ := bd2_s hf
          refine cl_V0 C hw hS (tX6_found l A D cy st sz sh d16 x0 (2 : Int32) h18) cvX6_found kw_258 (kc_k h1) ⟨(Nat.le_of_ble_eq_true rfl), (Nat.le_of_ble_eq_true rfl)⟩ hl.1 rfl (Nat.le_of_ble_eq_true rfl) dX6_head_65 ⟨Nat.zero_le _, Nat.zero_le _⟩ (fun H locs hw hS => ?_)
          refine lv_goto (tgt := 85) hx hb dX6_head_68 (by decide) ?_
          cases hf
          exact rt_i C hw hS dX6_head_85
        | some a17 =>
          have hf := on_s hf
          refine lv_ifnonnull (tgt := 71) hx hb dX6_head_60 (by decide) ?_
          refine lv_aload_n hx hb dX6_head_71 rfl (lv_at hl 4 rfl) ?_
          refine lq_aload hx hb dX6_head_72 (lv_at hl 0 rfl) ?_
          obtain ⟨v21, hv21, hf⟩ := bd_s hf
          refine gt_69 C hw hv21 kw_299 dX6_head_74 ?_
          refine lq_aload hx hb dX6_head_77 (lv_at hl 0 rfl) ?_
          obtain ⟨v22, hv22, hf⟩ := bd_s hf
          refine gt_64 C hw hv22 kw_286 dX6_head_79 ?_
          obtain ⟨r24, d25, h23, hf⟩ := bd2_s hf
          refine cl_V0 C hw hS (tX6_tellAnd l A D cy st sz sh d16 x0 v21 v22 h23) cvX6_tellAnd kw_601 (kc_k h1) ⟨(Nat.le_of_ble_eq_true rfl), (Nat.le_of_ble_eq_true rfl)⟩ hl.1 rfl (Nat.le_of_ble_eq_true rfl) dX6_head_82 ⟨Nat.zero_le _, Nat.zero_le _⟩ (fun H locs hw hS => ?_)
          cases hf
          exact rt_i C hw hS dX6_head_85
      · have hf := if_f c_11 hf
        refine lv_iload hx hb dX6_head_42 (lv_at hl 0 rfl) ?_
        cases hf
        exact rt_i C hw hS dX6_head_44

set_option maxRecDepth 100000 in
set_option maxHeartbeats 4000000 in
theorem tX6_head (l : Launch) (A : Nat → Prop) (D : va_G) (cy : Nat → ClassId) (st : Nat → Nat) (sz : Nat) (sh : Sh) (d : Dt) (x0 : Nat) (x1 : Int32) (x2 : Int32) (x3 : Int32) {r : Int32} {d9 : Dt} (hf : fX6_head sh d x0 x1 x2 x3 = some (r, d9)) : Ct l yX6_head cX6_head 8 (some .int) 5 117 0 0 A D cy st [.ref x0, .int x1, .int x2, .int x3] sz sh d (some (.int r)) sz sh d9 := ct_of (by decide) (Nat.le_of_ble_eq_true rfl) (fun p e s m args below meth c C hw hS ls hl => wX6_head_b0 C x0 x1 x2 x3 d hf hw hS hl)
theorem dX6_rights_0 : decode cX6_rights 0 = .ok (.aload_n 0, 1) := by decide +kernel
theorem dX6_rights_1 : decode cX6_rights 1 = .ok (.iload_n 1, 1) := by decide +kernel
theorem dX6_rights_2 : decode cX6_rights 2 = .ok (.invokevirtual 74, 3) := by decide +kernel
theorem dX6_rights_5 : decode cX6_rights 5 = .ok (.astore 4, 2) := by decide +kernel
theorem dX6_rights_7 : decode cX6_rights 7 = .ok (.aload_n 0, 1) := by decide +kernel
theorem dX6_rights_8 : decode cX6_rights 8 = .ok (.iload_n 2, 1) := by decide +kernel
theorem dX6_rights_9 : decode cX6_rights 9 = .ok (.invokevirtual 63, 3) := by decide +kernel
theorem dX6_rights_12 : decode cX6_rights 12 = .ok (.astore 5, 2) := by decide +kernel
theorem dX6_rights_14 : decode cX6_rights 14 = .ok (.aload 4, 2) := by decide +kernel
theorem dX6_rights_16 : decode cX6_rights 16 = .ok (.ifnull 16, 3) := by decide +kernel
theorem dX6_rights_19 : decode cX6_rights 19 = .ok (.aload 5, 2) := by decide +kernel
theorem dX6_rights_21 : decode cX6_rights 21 = .ok (.ifnull 11, 3) := by decide +kernel
theorem dX6_rights_24 : decode cX6_rights 24 = .ok (.aload_n 0, 1) := by decide +kernel
theorem dX6_rights_25 : decode cX6_rights 25 = .ok (.iload_n 3, 1) := by decide +kernel
theorem dX6_rights_26 : decode cX6_rights 26 = .ok (.invokevirtual 74, 3) := by decide +kernel
theorem dX6_rights_29 : decode cX6_rights 29 = .ok (.ifnonnull 5, 3) := by decide +kernel
theorem dX6_rights_32 : decode cX6_rights 32 = .ok (.iconst (-1), 1) := by decide +kernel
theorem dX6_rights_33 : decode cX6_rights 33 = .ok (.ireturn, 1) := by decide +kernel
theorem dX6_rights_34 : decode cX6_rights 34 = .ok (.aload_n 0, 1) := by decide +kernel
theorem dX6_rights_35 : decode cX6_rights 35 = .ok (.aload 4, 2) := by decide +kernel
theorem dX6_rights_37 : decode cX6_rights 37 = .ok (.aload 5, 2) := by decide +kernel
theorem dX6_rights_39 : decode cX6_rights 39 = .ok (.iconst 5, 1) := by decide +kernel
theorem dX6_rights_40 : decode cX6_rights 40 = .ok (.invokevirtual 176, 3) := by decide +kernel
theorem dX6_rights_43 : decode cX6_rights 43 = .ok (.istore 6, 2) := by decide +kernel
theorem dX6_rights_45 : decode cX6_rights 45 = .ok (.iload 6, 2) := by decide +kernel
theorem dX6_rights_47 : decode cX6_rights 47 = .ok (.ifCond .eq 8, 3) := by decide +kernel
theorem dX6_rights_50 : decode cX6_rights 50 = .ok (.iload 6, 2) := by decide +kernel
theorem dX6_rights_52 : decode cX6_rights 52 = .ok (.goto 19, 3) := by decide +kernel
theorem dX6_rights_55 : decode cX6_rights 55 = .ok (.aload_n 0, 1) := by decide +kernel
theorem dX6_rights_56 : decode cX6_rights 56 = .ok (.aload 5, 2) := by decide +kernel
theorem dX6_rights_58 : decode cX6_rights 58 = .ok (.aload 4, 2) := by decide +kernel
theorem dX6_rights_60 : decode cX6_rights 60 = .ok (.getfield 107, 3) := by decide +kernel
theorem dX6_rights_63 : decode cX6_rights 63 = .ok (.iload_n 3, 1) := by decide +kernel
theorem dX6_rights_64 : decode cX6_rights 64 = .ok (.invokevirtual 209, 3) := by decide +kernel
theorem dX6_rights_67 : decode cX6_rights 67 = .ok (.iconst 1, 1) := by decide +kernel
theorem dX6_rights_68 : decode cX6_rights 68 = .ok (.invokevirtual 188, 3) := by decide +kernel
theorem dX6_rights_71 : decode cX6_rights 71 = .ok (.ireturn, 1) := by decide +kernel
theorem cvX6_rights : CV yX6_rights cX6_rights 7 (some .int) 7 3 := ⟨kw_660, kw_661, kw_1, kw_662, ⟨_, _, rfl⟩, by decide, by decide +kernel, by decide +kernel, by decide +kernel⟩
def fX6_rights_b0 (sh : Sh) (x0 : Nat) (x1 : Int32) (x2 : Int32) (x3 : Int32) (d : Dt) : Option (Int32 × Dt) := bd (kc sh 8 x0) fun _ => bd (fX6_handAt sh d x0 x1) fun r3 => bd (fX6_pageAt sh d x0 x2) fun r5 => on r3 (some ((-1 : Int32), d)) (fun a6 => on r5 (some ((-1 : Int32), d)) (fun a7 => bd (fX6_handAt sh d x0 x3) fun r9 => on r9 (some ((-1 : Int32), d)) (fun a10 => bd2 (fX6_refusalToSee sh d x0 (some a6) (some a7) (5 : Int32)) fun r12 d13 => if r12 = 0 then (bd (gR sh d13 3 97 a6) fun v15 => bd (kc sh 5 a7) fun _ => bd (fX3_rightsOf sh d13 a7 v15 x3) fun r18 => bd2 (fX6_tellAnd sh d13 x0 r18 (1 : Int32)) fun r20 d21 => some (r20, d21)) else (some (r12, d13)))))

def fX6_rights (sh : Sh) (d : Dt) (x0 : Nat) (x1 : Int32) (x2 : Int32) (x3 : Int32) : Option (Int32 × Dt) := fX6_rights_b0 sh x0 x1 x2 x3 d

set_option maxRecDepth 100000 in
set_option maxHeartbeats 4000000 in
theorem wX6_rights_b0 (C : mx p s m args meth c yX6_rights cX6_rights 7 (some .int) A D cy st) {r : Int32} {d9 : Dt} : ∀ (x0 : Nat) (x1 : Int32) (x2 : Int32) (x3 : Int32) (d : Dt), fX6_rights_b0 sh x0 x1 x2 x3 d = some (r, d9) → ∀ {H : Heap} {locs : List Loc} {ls : Array Slot}, HW A D cy sz sh d H → va_S A s.heap H locs → lv_has ls 7 [(0, .ref x0), (1, .int x1), (2, .int x2), (3, .int x3)] → GL p l e s m args below meth c 2 48 A D cy (some (.int r)) sz sh d9 H locs 0 ls [] := by
  have hx := C.1
  have hb := C.2.1
  intro x0 x1 x2 x3 d hf H locs ls hw hS hl
  unfold fX6_rights_b0 at hf
  refine lv_aload_n hx hb dX6_rights_0 rfl (lv_at hl 0 rfl) ?_
  refine lv_iload_n hx hb dX6_rights_1 rfl (lv_at hl 1 rfl) ?_
  obtain ⟨_, h1, hf⟩ := bd_s hf
  obtain ⟨r3, h2, hf⟩ := bd_s hf
  refine cl_V0 C hw hS (tX6_handAt l A D cy st sz sh d x0 x1 h2) cvX6_handAt kw_233 (kc_k h1) ⟨(Nat.le_of_ble_eq_true rfl), (Nat.le_of_ble_eq_true rfl)⟩ hl.1 rfl (Nat.le_of_ble_eq_true rfl) dX6_rights_2 ⟨Nat.zero_le _, Nat.zero_le _⟩ (fun H locs hw hS => ?_)
  refine lq_astore (x := r3) (lv' := [(4, va_rf r3), (0, .ref x0), (1, .int x1), (2, .int x2), (3, .int x3)]) hx hb dX6_rights_5 hl (by decide) rfl (fun ls hl => ?_)
  refine lv_aload_n hx hb dX6_rights_7 rfl (lv_at hl 1 rfl) ?_
  refine lv_iload_n hx hb dX6_rights_8 rfl (lv_at hl 3 rfl) ?_
  obtain ⟨r5, h4, hf⟩ := bd_s hf
  refine cl_V0 C hw hS (tX6_pageAt l A D cy st sz sh d x0 x2 h4) cvX6_pageAt kw_216 (kc_k h1) ⟨(Nat.le_of_ble_eq_true rfl), (Nat.le_of_ble_eq_true rfl)⟩ hl.1 rfl (Nat.le_of_ble_eq_true rfl) dX6_rights_9 ⟨Nat.zero_le _, Nat.zero_le _⟩ (fun H locs hw hS => ?_)
  refine lq_astore (i := 5) (x := r5) (lv' := [(5, va_rf r5), (4, va_rf r3), (0, .ref x0), (1, .int x1), (2, .int x2), (3, .int x3)]) hx hb dX6_rights_12 hl (by decide) (by simp [va_rf_c, cat_i, cat_l, cat_r]) (fun ls hl => ?_)
  refine lq_aload hx hb dX6_rights_14 (lv_at hl 1 rfl) ?_
  cases r3 with
  | none =>
    have hf := on_n hf
    refine lv_ifnullN (tgt := 32) hx hb dX6_rights_16 (by decide) ?_
    refine lv_iconst (v := -1) hx hb dX6_rights_32 (by decide) ?_
    cases hf
    exact rt_i C hw hS dX6_rights_33
  | some a6 =>
    have hf := on_s hf
    refine lv_ifnull hx hb dX6_rights_16 ?_
    refine lq_aload hx hb dX6_rights_19 (lv_at hl 0 rfl) ?_
    cases r5 with
    | none =>
      have hf := on_n hf
      refine lv_ifnullN (tgt := 32) hx hb dX6_rights_21 (by decide) ?_
      refine lv_iconst (v := -1) hx hb dX6_rights_32 (by decide) ?_
      cases hf
      exact rt_i C hw hS dX6_rights_33
    | some a7 =>
      have hf := on_s hf
      refine lv_ifnull hx hb dX6_rights_21 ?_
      refine lv_aload_n hx hb dX6_rights_24 rfl (lv_at hl 2 rfl) ?_
      refine lv_iload_n hx hb dX6_rights_25 rfl (lv_at hl 5 rfl) ?_
      obtain ⟨r9, h8, hf⟩ := bd_s hf
      refine cl_V0 C hw hS (tX6_handAt l A D cy st sz sh d x0 x3 h8) cvX6_handAt kw_233 (kc_k h1) ⟨(Nat.le_of_ble_eq_true rfl), (Nat.le_of_ble_eq_true rfl)⟩ hl.1 rfl (Nat.le_of_ble_eq_true rfl) dX6_rights_26 ⟨Nat.zero_le _, Nat.zero_le _⟩ (fun H locs hw hS => ?_)
      cases r9 with
      | none =>
        have hf := on_n hf
        refine lv_ifnonnullN hx hb dX6_rights_29 ?_
        refine lv_iconst (v := -1) hx hb dX6_rights_32 (by decide) ?_
        cases hf
        exact rt_i C hw hS dX6_rights_33
      | some a10 =>
        have hf := on_s hf
        refine lv_ifnonnull (tgt := 34) hx hb dX6_rights_29 (by decide) ?_
        refine lv_aload_n hx hb dX6_rights_34 rfl (lv_at hl 2 rfl) ?_
        refine lq_aload hx hb dX6_rights_35 (lv_at hl 1 rfl) ?_
        refine lq_aload hx hb dX6_rights_37 (lv_at hl 0 rfl) ?_
        refine lv_iconst (v := 5) hx hb dX6_rights_39 (by decide) ?_
        obtain ⟨r12, d13, h11, hf⟩ := bd2_s hf
        refine cl_V0 C hw hS (tX6_refusalToSee l A D cy st sz sh d x0 (some a6) (some a7) (5 : Int32) h11) cvX6_refusalToSee kw_254 (kc_k h1) ⟨(Nat.le_of_ble_eq_true rfl), (Nat.le_of_ble_eq_true rfl)⟩ hl.1 rfl (Nat.le_of_ble_eq_true rfl) dX6_rights_40 ⟨Nat.zero_le _, Nat.zero_le _⟩ (fun H locs hw hS => ?_)
        refine lv_istore (i := 6) (lv' := [(6, .int r12), (5, va_rf (some a7)), (4, va_rf (some a6)), (0, .ref x0), (1, .int x1), (2, .int x2), (3, .int x3)]) hx hb dX6_rights_43 hl (by decide) (by simp [va_rf_c, cat_i, cat_l, cat_r]) (fun ls hl => ?_)
        refine lv_iload hx hb dX6_rights_45 (lv_at hl 0 rfl) ?_
        refine lv_if_eq (tgt := 55) hx hb dX6_rights_47 (by decide) (fun c_14 => ?_) (fun c_14 => ?_)
        · have hf := if_t c_14 hf
          refine lv_aload_n hx hb dX6_rights_55 rfl (lv_at hl 3 rfl) ?_
          refine lq_aload hx hb dX6_rights_56 (lv_at hl 1 rfl) ?_
          refine lq_aload hx hb dX6_rights_58 (lv_at hl 2 rfl) ?_
          obtain ⟨v15, hv15, hf⟩ := bd_s hf
          refine gt_97 C hw hv15 kw_153 dX6_rights_60 ?_
          refine lv_iload_n hx hb dX6_rights_63 rfl (lv_at hl 6 rfl) ?_
          obtain ⟨_, h16, hf⟩ := bd_s hf
          obtain ⟨r18, h17, hf⟩ := bd_s hf
          refine cl_V0 C hw hS (tX3_rightsOf l A D cy st sz sh d13 a7 v15 x3 h17) cvX3_rightsOf kw_447 (kc_k h16) ⟨(Nat.le_of_ble_eq_true rfl), (Nat.le_of_ble_eq_true rfl)⟩ hl.1 rfl (Nat.le_of_ble_eq_true rfl) dX6_rights_64 ⟨Nat.zero_le _, Nat.zero_le _⟩ (fun H locs hw hS => ?_)
          refine lv_iconst (v := 1) hx hb dX6_rights_67 (by decide) ?_
          obtain ⟨r20, d21, h19, hf⟩ := bd2_s hf
          refine cl_V0 C hw hS (tX6_tellAnd l A D cy st sz sh d13 x0 r18 (1 : Int32) h19) cvX6_tellAnd kw_601 (kc_k h1) ⟨(Nat.le_of_ble_eq_true rfl), (Nat.le_of_ble_eq_true rfl)⟩ hl.1 rfl (Nat.le_of_ble_eq_true rfl) dX6_rights_68 ⟨Nat.zero_le _, Nat.zero_le _⟩ (fun H locs hw hS => ?_)
          cases hf
          exact rt_i C hw hS dX6_rights_71
        · have hf := if_f c_14 hf
          refine lv_iload hx hb dX6_rights_50 (lv_at hl 0 rfl) ?_
          refine lv_goto (tgt := 71) hx hb dX6_rights_52 (by decide) ?_
          cases hf
          exact rt_i C hw hS dX6_rights_71

set_option maxRecDepth 100000 in
set_option maxHeartbeats 4000000 in
theorem tX6_rights (l : Launch) (A : Nat → Prop) (D : va_G) (cy : Nat → ClassId) (st : Nat → Nat) (sz : Nat) (sh : Sh) (d : Dt) (x0 : Nat) (x1 : Int32) (x2 : Int32) (x3 : Int32) {r : Int32} {d9 : Dt} (hf : fX6_rights sh d x0 x1 x2 x3 = some (r, d9)) : Ct l yX6_rights cX6_rights 7 (some .int) 2 48 0 0 A D cy st [.ref x0, .int x1, .int x2, .int x3] sz sh d (some (.int r)) sz sh d9 := ct_of (by decide) (Nat.le_of_ble_eq_true rfl) (fun p e s m args below meth c C hw hS ls hl => wX6_rights_b0 C x0 x1 x2 x3 d hf hw hS hl)
theorem dX6_up_0 : decode cX6_up 0 = .ok (.aload_n 0, 1) := by decide +kernel
theorem dX6_up_1 : decode cX6_up 1 = .ok (.iload_n 1, 1) := by decide +kernel
theorem dX6_up_2 : decode cX6_up 2 = .ok (.invokevirtual 74, 3) := by decide +kernel
theorem dX6_up_5 : decode cX6_up 5 = .ok (.astore_n 3, 1) := by decide +kernel
theorem dX6_up_6 : decode cX6_up 6 = .ok (.aload_n 0, 1) := by decide +kernel
theorem dX6_up_7 : decode cX6_up 7 = .ok (.iload_n 2, 1) := by decide +kernel
theorem dX6_up_8 : decode cX6_up 8 = .ok (.invokevirtual 63, 3) := by decide +kernel
theorem dX6_up_11 : decode cX6_up 11 = .ok (.astore 4, 2) := by decide +kernel
theorem dX6_up_13 : decode cX6_up 13 = .ok (.aload_n 3, 1) := by decide +kernel
theorem dX6_up_14 : decode cX6_up 14 = .ok (.ifnull 8, 3) := by decide +kernel
theorem dX6_up_17 : decode cX6_up 17 = .ok (.aload 4, 2) := by decide +kernel
theorem dX6_up_19 : decode cX6_up 19 = .ok (.ifnonnull 5, 3) := by decide +kernel
theorem dX6_up_22 : decode cX6_up 22 = .ok (.iconst (-1), 1) := by decide +kernel
theorem dX6_up_23 : decode cX6_up 23 = .ok (.ireturn, 1) := by decide +kernel
theorem dX6_up_24 : decode cX6_up 24 = .ok (.aload_n 0, 1) := by decide +kernel
theorem dX6_up_25 : decode cX6_up 25 = .ok (.aload_n 3, 1) := by decide +kernel
theorem dX6_up_26 : decode cX6_up 26 = .ok (.aload 4, 2) := by decide +kernel
theorem dX6_up_28 : decode cX6_up 28 = .ok (.bipush 6, 2) := by decide +kernel
theorem dX6_up_30 : decode cX6_up 30 = .ok (.invokevirtual 176, 3) := by decide +kernel
theorem dX6_up_33 : decode cX6_up 33 = .ok (.istore 5, 2) := by decide +kernel
theorem dX6_up_35 : decode cX6_up 35 = .ok (.iload 5, 2) := by decide +kernel
theorem dX6_up_37 : decode cX6_up 37 = .ok (.ifCond .eq 8, 3) := by decide +kernel
theorem dX6_up_40 : decode cX6_up 40 = .ok (.iload 5, 2) := by decide +kernel
theorem dX6_up_42 : decode cX6_up 42 = .ok (.goto 15, 3) := by decide +kernel
theorem dX6_up_45 : decode cX6_up 45 = .ok (.aload 4, 2) := by decide +kernel
theorem dX6_up_47 : decode cX6_up 47 = .ok (.aload_n 3, 1) := by decide +kernel
theorem dX6_up_48 : decode cX6_up 48 = .ok (.getfield 107, 3) := by decide +kernel
theorem dX6_up_51 : decode cX6_up 51 = .ok (.invokevirtual 213, 3) := by decide +kernel
theorem dX6_up_54 : decode cX6_up 54 = .ok (.invokestatic 70, 3) := by decide +kernel
theorem dX6_up_57 : decode cX6_up 57 = .ok (.ireturn, 1) := by decide +kernel
theorem cvX6_up : CV yX6_up cX6_up 6 (some .int) 7 2 := ⟨kw_664, kw_665, kw_1, kw_666, ⟨_, _, rfl⟩, by decide, by decide +kernel, by decide +kernel, by decide +kernel⟩
def fX6_up_b0 (sh : Sh) (x0 : Nat) (x1 : Int32) (x2 : Int32) (d : Dt) : Option (Int32 × Dt) := bd (kc sh 8 x0) fun _ => bd (fX6_handAt sh d x0 x1) fun r3 => bd (fX6_pageAt sh d x0 x2) fun r5 => on r3 (some ((-1 : Int32), d)) (fun a6 => on r5 (some ((-1 : Int32), d)) (fun a7 => bd2 (fX6_refusalToSee sh d x0 (some a6) (some a7) (6 : Int32)) fun r9 d10 => if r9 = 0 then (bd (gR sh d10 3 97 a6) fun v12 => bd (kc sh 5 a7) fun _ => bd2 (fX3_isUp sh d10 a7 v12) fun r15 d16 => bd (fX6_oneIf sh d16 (bI r15)) fun r18 => some (r18, d16)) else (some (r9, d10))))

def fX6_up (sh : Sh) (d : Dt) (x0 : Nat) (x1 : Int32) (x2 : Int32) : Option (Int32 × Dt) := fX6_up_b0 sh x0 x1 x2 d

set_option maxRecDepth 100000 in
set_option maxHeartbeats 4000000 in
theorem wX6_up_b0 (C : mx p s m args meth c yX6_up cX6_up 6 (some .int) A D cy st) {r : Int32} {d9 : Dt} : ∀ (x0 : Nat) (x1 : Int32) (x2 : Int32) (d : Dt), fX6_up_b0 sh x0 x1 x2 d = some (r, d9) → ∀ {H : Heap} {locs : List Loc} {ls : Array Slot}, HW A D cy sz sh d H → va_S A s.heap H locs → lv_has ls 6 [(0, .ref x0), (1, .int x1), (2, .int x2)] → GL p l e s m args below meth c 4 93 A D cy (some (.int r)) sz sh d9 H locs 0 ls [] := by
  have hx := C.1
  have hb := C.2.1
  intro x0 x1 x2 d hf H locs ls hw hS hl
  unfold fX6_up_b0 at hf
  refine lv_aload_n hx hb dX6_up_0 rfl (lv_at hl 0 rfl) ?_
  refine lv_iload_n hx hb dX6_up_1 rfl (lv_at hl 1 rfl) ?_
  obtain ⟨_, h1, hf⟩ := bd_s hf
  obtain ⟨r3, h2, hf⟩ := bd_s hf
  refine cl_V0 C hw hS (tX6_handAt l A D cy st sz sh d x0 x1 h2) cvX6_handAt kw_233 (kc_k h1) ⟨(Nat.le_of_ble_eq_true rfl), (Nat.le_of_ble_eq_true rfl)⟩ hl.1 rfl (Nat.le_of_ble_eq_true rfl) dX6_up_2 ⟨Nat.zero_le _, Nat.zero_le _⟩ (fun H locs hw hS => ?_)
  refine lq_astore_n (x := r3) (lv' := [(3, va_rf r3), (0, .ref x0), (1, .int x1), (2, .int x2)]) hx hb dX6_up_5 rfl hl (by decide) rfl (fun ls hl => ?_)
  refine lv_aload_n hx hb dX6_up_6 rfl (lv_at hl 1 rfl) ?_
  refine lv_iload_n hx hb dX6_up_7 rfl (lv_at hl 3 rfl) ?_
  obtain ⟨r5, h4, hf⟩ := bd_s hf
  refine cl_V0 C hw hS (tX6_pageAt l A D cy st sz sh d x0 x2 h4) cvX6_pageAt kw_216 (kc_k h1) ⟨(Nat.le_of_ble_eq_true rfl), (Nat.le_of_ble_eq_true rfl)⟩ hl.1 rfl (Nat.le_of_ble_eq_true rfl) dX6_up_8 ⟨Nat.zero_le _, Nat.zero_le _⟩ (fun H locs hw hS => ?_)
  refine lq_astore (i := 4) (x := r5) (lv' := [(4, va_rf r5), (3, va_rf r3), (0, .ref x0), (1, .int x1), (2, .int x2)]) hx hb dX6_up_11 hl (by decide) (by simp [va_rf_c, cat_i, cat_l, cat_r]) (fun ls hl => ?_)
  refine lq_aload_n hx hb dX6_up_13 rfl (lv_at hl 1 rfl) ?_
  cases r3 with
  | none =>
    have hf := on_n hf
    refine lv_ifnullN (tgt := 22) hx hb dX6_up_14 (by decide) ?_
    refine lv_iconst (v := -1) hx hb dX6_up_22 (by decide) ?_
    cases hf
    exact rt_i C hw hS dX6_up_23
  | some a6 =>
    have hf := on_s hf
    refine lv_ifnull hx hb dX6_up_14 ?_
    refine lq_aload hx hb dX6_up_17 (lv_at hl 0 rfl) ?_
    cases r5 with
    | none =>
      have hf := on_n hf
      refine lv_ifnonnullN hx hb dX6_up_19 ?_
      refine lv_iconst (v := -1) hx hb dX6_up_22 (by decide) ?_
      cases hf
      exact rt_i C hw hS dX6_up_23
    | some a7 =>
      have hf := on_s hf
      refine lv_ifnonnull (tgt := 24) hx hb dX6_up_19 (by decide) ?_
      refine lv_aload_n hx hb dX6_up_24 rfl (lv_at hl 2 rfl) ?_
      refine lq_aload_n hx hb dX6_up_25 rfl (lv_at hl 1 rfl) ?_
      refine lq_aload hx hb dX6_up_26 (lv_at hl 0 rfl) ?_
      refine lv_bipush (v := 6) hx hb dX6_up_28 (by decide) ?_
      obtain ⟨r9, d10, h8, hf⟩ := bd2_s hf
      refine cl_V0 C hw hS (tX6_refusalToSee l A D cy st sz sh d x0 (some a6) (some a7) (6 : Int32) h8) cvX6_refusalToSee kw_254 (kc_k h1) ⟨(Nat.le_of_ble_eq_true rfl), (Nat.le_of_ble_eq_true rfl)⟩ hl.1 rfl (Nat.le_of_ble_eq_true rfl) dX6_up_30 ⟨Nat.zero_le _, Nat.zero_le _⟩ (fun H locs hw hS => ?_)
      refine lv_istore (i := 5) (lv' := [(5, .int r9), (4, va_rf (some a7)), (3, va_rf (some a6)), (0, .ref x0), (1, .int x1), (2, .int x2)]) hx hb dX6_up_33 hl (by decide) (by simp [va_rf_c, cat_i, cat_l, cat_r]) (fun ls hl => ?_)
      refine lv_iload hx hb dX6_up_35 (lv_at hl 0 rfl) ?_
      refine lv_if_eq (tgt := 45) hx hb dX6_up_37 (by decide) (fun c_11 => ?_) (fun c_11 => ?_)
      · have hf := if_t c_11 hf
        refine lq_aload hx hb dX6_up_45 (lv_at hl 1 rfl) ?_
        refine lq_aload_n hx hb dX6_up_47 rfl (lv_at hl 2 rfl) ?_
        obtain ⟨v12, hv12, hf⟩ := bd_s hf
        refine gt_97 C hw hv12 kw_153 dX6_up_48 ?_
        obtain ⟨_, h13, hf⟩ := bd_s hf
        obtain ⟨r15, d16, h14, hf⟩ := bd2_s hf
        refine cl_V0 C hw hS (tX3_isUp l A D cy st sz sh d10 a7 v12 h14) cvX3_isUp kw_667 (kc_k h13) ⟨(Nat.le_of_ble_eq_true rfl), (Nat.le_of_ble_eq_true rfl)⟩ hl.1 rfl (Nat.le_of_ble_eq_true rfl) dX6_up_51 ⟨Nat.zero_le _, Nat.zero_le _⟩ (fun H locs hw hS => ?_)
        obtain ⟨r18, h17, hf⟩ := bd_s hf
        refine cl_S0 C hw hS (tX6_oneIf l A D cy st sz sh d16 (bI r15) h17) csX6_oneIf kw_226 ⟨(Nat.le_of_ble_eq_true rfl), (Nat.le_of_ble_eq_true rfl)⟩ hl.1 rfl (Nat.le_of_ble_eq_true rfl) dX6_up_54 ⟨Nat.zero_le _, Nat.zero_le _⟩ (fun H locs hw hS => ?_)
        cases hf
        exact rt_i C hw hS dX6_up_57
      · have hf := if_f c_11 hf
        refine lv_iload hx hb dX6_up_40 (lv_at hl 0 rfl) ?_
        refine lv_goto (tgt := 57) hx hb dX6_up_42 (by decide) ?_
        cases hf
        exact rt_i C hw hS dX6_up_57

set_option maxRecDepth 100000 in
set_option maxHeartbeats 4000000 in
theorem tX6_up (l : Launch) (A : Nat → Prop) (D : va_G) (cy : Nat → ClassId) (st : Nat → Nat) (sz : Nat) (sh : Sh) (d : Dt) (x0 : Nat) (x1 : Int32) (x2 : Int32) {r : Int32} {d9 : Dt} (hf : fX6_up sh d x0 x1 x2 = some (r, d9)) : Ct l yX6_up cX6_up 6 (some .int) 4 93 0 0 A D cy st [.ref x0, .int x1, .int x2] sz sh d (some (.int r)) sz sh d9 := ct_of (by decide) (Nat.le_of_ble_eq_true rfl) (fun p e s m args below meth c C hw hS ls hl => wX6_up_b0 C x0 x1 x2 d hf hw hS hl)
theorem dX6_alike_0 : decode cX6_alike 0 = .ok (.aload_n 0, 1) := by decide +kernel
theorem dX6_alike_1 : decode cX6_alike 1 = .ok (.iload_n 1, 1) := by decide +kernel
theorem dX6_alike_2 : decode cX6_alike 2 = .ok (.invokevirtual 63, 3) := by decide +kernel
theorem dX6_alike_5 : decode cX6_alike 5 = .ok (.astore 4, 2) := by decide +kernel
theorem dX6_alike_7 : decode cX6_alike 7 = .ok (.aload_n 0, 1) := by decide +kernel
theorem dX6_alike_8 : decode cX6_alike 8 = .ok (.iload_n 2, 1) := by decide +kernel
theorem dX6_alike_9 : decode cX6_alike 9 = .ok (.invokevirtual 74, 3) := by decide +kernel
theorem dX6_alike_12 : decode cX6_alike 12 = .ok (.astore 5, 2) := by decide +kernel
theorem dX6_alike_14 : decode cX6_alike 14 = .ok (.aload_n 0, 1) := by decide +kernel
theorem dX6_alike_15 : decode cX6_alike 15 = .ok (.iload_n 3, 1) := by decide +kernel
theorem dX6_alike_16 : decode cX6_alike 16 = .ok (.invokevirtual 74, 3) := by decide +kernel
theorem dX6_alike_19 : decode cX6_alike 19 = .ok (.astore 6, 2) := by decide +kernel
theorem dX6_alike_21 : decode cX6_alike 21 = .ok (.aload 4, 2) := by decide +kernel
theorem dX6_alike_23 : decode cX6_alike 23 = .ok (.ifnull 13, 3) := by decide +kernel
theorem dX6_alike_26 : decode cX6_alike 26 = .ok (.aload 5, 2) := by decide +kernel
theorem dX6_alike_28 : decode cX6_alike 28 = .ok (.ifnull 8, 3) := by decide +kernel
theorem dX6_alike_31 : decode cX6_alike 31 = .ok (.aload 6, 2) := by decide +kernel
theorem dX6_alike_33 : decode cX6_alike 33 = .ok (.ifnonnull 5, 3) := by decide +kernel
theorem dX6_alike_36 : decode cX6_alike 36 = .ok (.iconst (-1), 1) := by decide +kernel
theorem dX6_alike_37 : decode cX6_alike 37 = .ok (.ireturn, 1) := by decide +kernel
theorem dX6_alike_38 : decode cX6_alike 38 = .ok (.aload 4, 2) := by decide +kernel
theorem dX6_alike_40 : decode cX6_alike 40 = .ok (.aload 5, 2) := by decide +kernel
theorem dX6_alike_42 : decode cX6_alike 42 = .ok (.getfield 107, 3) := by decide +kernel
theorem dX6_alike_45 : decode cX6_alike 45 = .ok (.aload_n 0, 1) := by decide +kernel
theorem dX6_alike_46 : decode cX6_alike 46 = .ok (.getfield 35, 3) := by decide +kernel
theorem dX6_alike_49 : decode cX6_alike 49 = .ok (.invokevirtual 216, 3) := by decide +kernel
theorem dX6_alike_52 : decode cX6_alike 52 = .ok (.aload 4, 2) := by decide +kernel
theorem dX6_alike_54 : decode cX6_alike 54 = .ok (.aload 6, 2) := by decide +kernel
theorem dX6_alike_56 : decode cX6_alike 56 = .ok (.getfield 107, 3) := by decide +kernel
theorem dX6_alike_59 : decode cX6_alike 59 = .ok (.aload_n 0, 1) := by decide +kernel
theorem dX6_alike_60 : decode cX6_alike 60 = .ok (.getfield 39, 3) := by decide +kernel
theorem dX6_alike_63 : decode cX6_alike 63 = .ok (.invokevirtual 216, 3) := by decide +kernel
theorem dX6_alike_66 : decode cX6_alike 66 = .ok (.aload_n 0, 1) := by decide +kernel
theorem dX6_alike_67 : decode cX6_alike 67 = .ok (.getfield 35, 3) := by decide +kernel
theorem dX6_alike_70 : decode cX6_alike 70 = .ok (.aload_n 0, 1) := by decide +kernel
theorem dX6_alike_71 : decode cX6_alike 71 = .ok (.getfield 39, 3) := by decide +kernel
theorem dX6_alike_74 : decode cX6_alike 74 = .ok (.invokevirtual 220, 3) := by decide +kernel
theorem dX6_alike_77 : decode cX6_alike 77 = .ok (.invokestatic 70, 3) := by decide +kernel
theorem dX6_alike_80 : decode cX6_alike 80 = .ok (.ireturn, 1) := by decide +kernel
theorem cvX6_alike : CV yX6_alike cX6_alike 7 (some .int) 7 3 := ⟨kw_676, kw_677, kw_1, kw_678, ⟨_, _, rfl⟩, by decide, by decide +kernel, by decide +kernel, by decide +kernel⟩
def fX6_alike_b0 (sh : Sh) (x0 : Nat) (x1 : Int32) (x2 : Int32) (x3 : Int32) (d : Dt) : Option (Int32 × Dt) := bd (kc sh 8 x0) fun _ => bd (fX6_pageAt sh d x0 x1) fun r3 => bd (fX6_handAt sh d x0 x2) fun r5 => bd (fX6_handAt sh d x0 x3) fun r7 => on r3 (some ((-1 : Int32), d)) (fun a8 => on r5 (some ((-1 : Int32), d)) (fun a9 => on r7 (some ((-1 : Int32), d)) (fun a10 => bd (gR sh d 3 97 a9) fun v11 => bd (gR sh d 8 260 x0) fun v12 => bd (kc sh 5 a8) fun _ => bd (fX3_tell sh d a8 v11 v12) fun d16 => bd (gR sh d16 3 97 a10) fun v17 => bd (gR sh d16 8 261 x0) fun v18 => bd (fX3_tell sh d16 a8 v17 v18) fun d21 => bd (gR sh d21 8 260 x0) fun v22 => bd (gR sh d21 8 261 x0) fun v23 => bd v22 fun a24 => bd (kc sh 7 a24) fun _ => bd (fX5_same sh d21 a24 v23) fun r27 => bd (fX6_oneIf sh d21 (bI r27)) fun r29 => some (r29, d21))))

def fX6_alike (sh : Sh) (d : Dt) (x0 : Nat) (x1 : Int32) (x2 : Int32) (x3 : Int32) : Option (Int32 × Dt) := fX6_alike_b0 sh x0 x1 x2 x3 d

set_option maxRecDepth 100000 in
set_option maxHeartbeats 4000000 in
theorem wX6_alike_b0 (C : mx p s m args meth c yX6_alike cX6_alike 7 (some .int) A D cy st) {r : Int32} {d9 : Dt} : ∀ (x0 : Nat) (x1 : Int32) (x2 : Int32) (x3 : Int32) (d : Dt), fX6_alike_b0 sh x0 x1 x2 x3 d = some (r, d9) → ∀ {H : Heap} {locs : List Loc} {ls : Array Slot}, HW A D cy sz sh d H → va_S A s.heap H locs → lv_has ls 7 [(0, .ref x0), (1, .int x1), (2, .int x2), (3, .int x3)] → GL p l e s m args below meth c 6 141 A D cy (some (.int r)) sz sh d9 H locs 0 ls [] := by
  have hx := C.1
  have hb := C.2.1
  intro x0 x1 x2 x3 d hf H locs ls hw hS hl
  unfold fX6_alike_b0 at hf
  refine lv_aload_n hx hb dX6_alike_0 rfl (lv_at hl 0 rfl) ?_
  refine lv_iload_n hx hb dX6_alike_1 rfl (lv_at hl 1 rfl) ?_
  obtain ⟨_, h1, hf⟩ := bd_s hf
  obtain ⟨r3, h2, hf⟩ := bd_s hf
  refine cl_V0 C hw hS (tX6_pageAt l A D cy st sz sh d x0 x1 h2) cvX6_pageAt kw_216 (kc_k h1) ⟨(Nat.le_of_ble_eq_true rfl), (Nat.le_of_ble_eq_true rfl)⟩ hl.1 rfl (Nat.le_of_ble_eq_true rfl) dX6_alike_2 ⟨Nat.zero_le _, Nat.zero_le _⟩ (fun H locs hw hS => ?_)
  refine lq_astore (x := r3) (lv' := [(4, va_rf r3), (0, .ref x0), (1, .int x1), (2, .int x2), (3, .int x3)]) hx hb dX6_alike_5 hl (by decide) rfl (fun ls hl => ?_)
  refine lv_aload_n hx hb dX6_alike_7 rfl (lv_at hl 1 rfl) ?_
  refine lv_iload_n hx hb dX6_alike_8 rfl (lv_at hl 3 rfl) ?_
  obtain ⟨r5, h4, hf⟩ := bd_s hf
  refine cl_V0 C hw hS (tX6_handAt l A D cy st sz sh d x0 x2 h4) cvX6_handAt kw_233 (kc_k h1) ⟨(Nat.le_of_ble_eq_true rfl), (Nat.le_of_ble_eq_true rfl)⟩ hl.1 rfl (Nat.le_of_ble_eq_true rfl) dX6_alike_9 ⟨Nat.zero_le _, Nat.zero_le _⟩ (fun H locs hw hS => ?_)
  refine lq_astore (i := 5) (x := r5) (lv' := [(5, va_rf r5), (4, va_rf r3), (0, .ref x0), (1, .int x1), (2, .int x2), (3, .int x3)]) hx hb dX6_alike_12 hl (by decide) (by simp [va_rf_c, cat_i, cat_l, cat_r]) (fun ls hl => ?_)
  refine lv_aload_n hx hb dX6_alike_14 rfl (lv_at hl 2 rfl) ?_
  refine lv_iload_n hx hb dX6_alike_15 rfl (lv_at hl 5 rfl) ?_
  obtain ⟨r7, h6, hf⟩ := bd_s hf
  refine cl_V0 C hw hS (tX6_handAt l A D cy st sz sh d x0 x3 h6) cvX6_handAt kw_233 (kc_k h1) ⟨(Nat.le_of_ble_eq_true rfl), (Nat.le_of_ble_eq_true rfl)⟩ hl.1 rfl (Nat.le_of_ble_eq_true rfl) dX6_alike_16 ⟨Nat.zero_le _, Nat.zero_le _⟩ (fun H locs hw hS => ?_)
  refine lq_astore (i := 6) (x := r7) (lv' := [(6, va_rf r7), (5, va_rf r5), (4, va_rf r3), (0, .ref x0), (1, .int x1), (2, .int x2), (3, .int x3)]) hx hb dX6_alike_19 hl (by decide) (by simp [va_rf_c, cat_i, cat_l, cat_r]) (fun ls hl => ?_)
  refine lq_aload hx hb dX6_alike_21 (lv_at hl 2 rfl) ?_
  cases r3 with
  | none =>
    have hf := on_n hf
    refine lv_ifnullN (tgt := 36) hx hb dX6_alike_23 (by decide) ?_
    refine lv_iconst (v := -1) hx hb dX6_alike_36 (by decide) ?_
    cases hf
    exact rt_i C hw hS dX6_alike_37
  | some a8 =>
    have hf := on_s hf
    refine lv_ifnull hx hb dX6_alike_23 ?_
    refine lq_aload hx hb dX6_alike_26 (lv_at hl 1 rfl) ?_
    cases r5 with
    | none =>
      have hf := on_n hf
      refine lv_ifnullN (tgt := 36) hx hb dX6_alike_28 (by decide) ?_
      refine lv_iconst (v := -1) hx hb dX6_alike_36 (by decide) ?_
      cases hf
      exact rt_i C hw hS dX6_alike_37
    | some a9 =>
      have hf := on_s hf
      refine lv_ifnull hx hb dX6_alike_28 ?_
      refine lq_aload hx hb dX6_alike_31 (lv_at hl 0 rfl) ?_
      cases r7 with
      | none =>
        have hf := on_n hf
        refine lv_ifnonnullN hx hb dX6_alike_33 ?_
        refine lv_iconst (v := -1) hx hb dX6_alike_36 (by decide) ?_
        cases hf
        exact rt_i C hw hS dX6_alike_37
      | some a10 =>
        have hf := on_s hf
        refine lv_ifnonnull (tgt := 38) hx hb dX6_alike_33 (by decide) ?_
        refine lq_aload hx hb dX6_alike_38 (lv_at hl 2 rfl) ?_
        refine lq_aload hx hb dX6_alike_40 (lv_at hl 1 rfl) ?_
        obtain ⟨v11, hv11, hf⟩ := bd_s hf
        refine gt_97 C hw hv11 kw_153 dX6_alike_42 ?_
        refine lv_aload_n hx hb dX6_alike_45 rfl (lv_at hl 3 rfl) ?_
        obtain ⟨v12, hv12, hf⟩ := bd_s hf
        refine gt_260 C hw hv12 kw_76 dX6_alike_46 ?_
        obtain ⟨_, h13, hf⟩ := bd_s hf
        obtain ⟨d16, h14, hf⟩ := bd_s hf
        refine cl_V0 C hw hS (tX3_tell l A D cy st sz sh d a8 v11 v12 h14) cvX3_tell kw_679 (kc_k h13) ⟨(Nat.le_of_ble_eq_true rfl), (Nat.le_of_ble_eq_true rfl)⟩ hl.1 rfl (Nat.le_of_ble_eq_true rfl) dX6_alike_49 ⟨Nat.zero_le _, Nat.zero_le _⟩ (fun H locs hw hS => ?_)
        refine lq_aload hx hb dX6_alike_52 (lv_at hl 2 rfl) ?_
        refine lq_aload hx hb dX6_alike_54 (lv_at hl 0 rfl) ?_
        obtain ⟨v17, hv17, hf⟩ := bd_s hf
        refine gt_97 C hw hv17 kw_153 dX6_alike_56 ?_
        refine lv_aload_n hx hb dX6_alike_59 rfl (lv_at hl 3 rfl) ?_
        obtain ⟨v18, hv18, hf⟩ := bd_s hf
        refine gt_261 C hw hv18 kw_77 dX6_alike_60 ?_
        obtain ⟨d21, h19, hf⟩ := bd_s hf
        refine cl_V0 C hw hS (tX3_tell l A D cy st sz sh d16 a8 v17 v18 h19) cvX3_tell kw_679 (kc_k h13) ⟨(Nat.le_of_ble_eq_true rfl), (Nat.le_of_ble_eq_true rfl)⟩ hl.1 rfl (Nat.le_of_ble_eq_true rfl) dX6_alike_63 ⟨Nat.zero_le _, Nat.zero_le _⟩ (fun H locs hw hS => ?_)
        refine lv_aload_n hx hb dX6_alike_66 rfl (lv_at hl 3 rfl) ?_
        obtain ⟨v22, hv22, hf⟩ := bd_s hf
        refine gt_260 C hw hv22 kw_76 dX6_alike_67 ?_
        refine lv_aload_n hx hb dX6_alike_70 rfl (lv_at hl 3 rfl) ?_
        obtain ⟨v23, hv23, hf⟩ := bd_s hf
        refine gt_261 C hw hv23 kw_77 dX6_alike_71 ?_
        obtain ⟨a24, ea24, hg⟩ := bd_s hf
        clear hf
        subst ea24
        have hf := hg
        clear hg
        obtain ⟨_, h25, hf⟩ := bd_s hf
        obtain ⟨r27, h26, hf⟩ := bd_s hf
        refine cl_V0 C hw hS (tX5_same l A D cy st sz sh d21 a24 v23 h26) cvX5_same kw_702 (kc_k h25) ⟨(Nat.le_of_ble_eq_true rfl), (Nat.le_of_ble_eq_true rfl)⟩ hl.1 rfl (Nat.le_of_ble_eq_true rfl) dX6_alike_74 ⟨Nat.zero_le _, Nat.zero_le _⟩ (fun H locs hw hS => ?_)
        obtain ⟨r29, h28, hf⟩ := bd_s hf
        refine cl_S0 C hw hS (tX6_oneIf l A D cy st sz sh d21 (bI r27) h28) csX6_oneIf kw_226 ⟨(Nat.le_of_ble_eq_true rfl), (Nat.le_of_ble_eq_true rfl)⟩ hl.1 rfl (Nat.le_of_ble_eq_true rfl) dX6_alike_77 ⟨Nat.zero_le _, Nat.zero_le _⟩ (fun H locs hw hS => ?_)
        cases hf
        exact rt_i C hw hS dX6_alike_80

set_option maxRecDepth 100000 in
set_option maxHeartbeats 4000000 in
theorem tX6_alike (l : Launch) (A : Nat → Prop) (D : va_G) (cy : Nat → ClassId) (st : Nat → Nat) (sz : Nat) (sh : Sh) (d : Dt) (x0 : Nat) (x1 : Int32) (x2 : Int32) (x3 : Int32) {r : Int32} {d9 : Dt} (hf : fX6_alike sh d x0 x1 x2 x3 = some (r, d9)) : Ct l yX6_alike cX6_alike 7 (some .int) 6 141 0 0 A D cy st [.ref x0, .int x1, .int x2, .int x3] sz sh d (some (.int r)) sz sh d9 := ct_of (by decide) (Nat.le_of_ble_eq_true rfl) (fun p e s m args below meth c C hw hS ls hl => wX6_alike_b0 C x0 x1 x2 x3 d hf hw hS hl)
theorem dX6_leaves_0 : decode cX6_leaves 0 = .ok (.aload_n 0, 1) := by decide +kernel
theorem dX6_leaves_1 : decode cX6_leaves 1 = .ok (.iload_n 1, 1) := by decide +kernel
theorem dX6_leaves_2 : decode cX6_leaves 2 = .ok (.invokevirtual 74, 3) := by decide +kernel
theorem dX6_leaves_5 : decode cX6_leaves 5 = .ok (.astore_n 3, 1) := by decide +kernel
theorem dX6_leaves_6 : decode cX6_leaves 6 = .ok (.aload_n 3, 1) := by decide +kernel
theorem dX6_leaves_7 : decode cX6_leaves 7 = .ok (.ifnull 9, 3) := by decide +kernel
theorem dX6_leaves_10 : decode cX6_leaves 10 = .ok (.iload_n 2, 1) := by decide +kernel
theorem dX6_leaves_11 : decode cX6_leaves 11 = .ok (.bipush 16, 2) := by decide +kernel
theorem dX6_leaves_13 : decode cX6_leaves 13 = .ok (.if_icmp .le 5, 3) := by decide +kernel
theorem dX6_leaves_16 : decode cX6_leaves 16 = .ok (.iconst (-1), 1) := by decide +kernel
theorem dX6_leaves_17 : decode cX6_leaves 17 = .ok (.ireturn, 1) := by decide +kernel
theorem dX6_leaves_18 : decode cX6_leaves 18 = .ok (.iload_n 2, 1) := by decide +kernel
theorem dX6_leaves_19 : decode cX6_leaves 19 = .ok (.ifCond .ge 9, 3) := by decide +kernel
theorem dX6_leaves_22 : decode cX6_leaves 22 = .ok (.aload_n 0, 1) := by decide +kernel
theorem dX6_leaves_23 : decode cX6_leaves 23 = .ok (.iconst 5, 1) := by decide +kernel
theorem dX6_leaves_24 : decode cX6_leaves 24 = .ok (.invokevirtual 100, 3) := by decide +kernel
theorem dX6_leaves_27 : decode cX6_leaves 27 = .ok (.ireturn, 1) := by decide +kernel
theorem dX6_leaves_28 : decode cX6_leaves 28 = .ok (.aload_n 3, 1) := by decide +kernel
theorem dX6_leaves_29 : decode cX6_leaves 29 = .ok (.getfield 224, 3) := by decide +kernel
theorem dX6_leaves_32 : decode cX6_leaves 32 = .ok (.iload_n 2, 1) := by decide +kernel
theorem dX6_leaves_33 : decode cX6_leaves 33 = .ok (.invokevirtual 228, 3) := by decide +kernel
theorem dX6_leaves_36 : decode cX6_leaves 36 = .ok (.iload_n 2, 1) := by decide +kernel
theorem dX6_leaves_37 : decode cX6_leaves 37 = .ok (.ireturn, 1) := by decide +kernel
theorem cvX6_leaves : CV yX6_leaves cX6_leaves 4 (some .int) 7 2 := ⟨kw_707, kw_708, kw_1, kw_709, ⟨_, _, rfl⟩, by decide, by decide +kernel, by decide +kernel, by decide +kernel⟩
def fX6_leaves_b0 (sh : Sh) (x0 : Nat) (x1 : Int32) (x2 : Int32) (d : Dt) : Option (Int32 × Dt) := bd (kc sh 8 x0) fun _ => bd (fX6_handAt sh d x0 x1) fun r3 => on r3 (some ((-1 : Int32), d)) (fun a4 => if x2 ≤ (16 : Int32) then (if 0 ≤ x2 then (bd (gR sh d 3 101 a4) fun v7 => bd v7 fun a8 => bd (kc sh 4 a8) fun _ => bd (fX2_renew sh d a8 x2) fun d12 => some (x2, d12)) else (bd2 (fX6_found sh d x0 (5 : Int32)) fun r14 d15 => some (r14, d15))) else (some ((-1 : Int32), d)))

def fX6_leaves (sh : Sh) (d : Dt) (x0 : Nat) (x1 : Int32) (x2 : Int32) : Option (Int32 × Dt) := fX6_leaves_b0 sh x0 x1 x2 d

set_option maxRecDepth 100000 in
set_option maxHeartbeats 4000000 in
theorem wX6_leaves_b0 (C : mx p s m args meth c yX6_leaves cX6_leaves 4 (some .int) A D cy st) {r : Int32} {d9 : Dt} : ∀ (x0 : Nat) (x1 : Int32) (x2 : Int32) (d : Dt), fX6_leaves_b0 sh x0 x1 x2 d = some (r, d9) → ∀ {H : Heap} {locs : List Loc} {ls : Array Slot}, HW A D cy sz sh d H → va_S A s.heap H locs → lv_has ls 4 [(0, .ref x0), (1, .int x1), (2, .int x2)] → GL p l e s m args below meth c 1 22 A D cy (some (.int r)) sz sh d9 H locs 0 ls [] := by
  have hx := C.1
  have hb := C.2.1
  intro x0 x1 x2 d hf H locs ls hw hS hl
  unfold fX6_leaves_b0 at hf
  refine lv_aload_n hx hb dX6_leaves_0 rfl (lv_at hl 0 rfl) ?_
  refine lv_iload_n hx hb dX6_leaves_1 rfl (lv_at hl 1 rfl) ?_
  obtain ⟨_, h1, hf⟩ := bd_s hf
  obtain ⟨r3, h2, hf⟩ := bd_s hf
  refine cl_V0 C hw hS (tX6_handAt l A D cy st sz sh d x0 x1 h2) cvX6_handAt kw_233 (kc_k h1) ⟨(Nat.le_of_ble_eq_true rfl), (Nat.le_of_ble_eq_true rfl)⟩ hl.1 rfl (Nat.le_of_ble_eq_true rfl) dX6_leaves_2 ⟨Nat.zero_le _, Nat.zero_le _⟩ (fun H locs hw hS => ?_)
  refine lq_astore_n (x := r3) (lv' := [(3, va_rf r3), (0, .ref x0), (1, .int x1), (2, .int x2)]) hx hb dX6_leaves_5 rfl hl (by decide) rfl (fun ls hl => ?_)
  refine lq_aload_n hx hb dX6_leaves_6 rfl (lv_at hl 0 rfl) ?_
  cases r3 with
  | none =>
    have hf := on_n hf
    refine lv_ifnullN (tgt := 16) hx hb dX6_leaves_7 (by decide) ?_
    refine lv_iconst (v := -1) hx hb dX6_leaves_16 (by decide) ?_
    cases hf
    exact rt_i C hw hS dX6_leaves_17
  | some a4 =>
    have hf := on_s hf
    refine lv_ifnull hx hb dX6_leaves_7 ?_
    refine lv_iload_n hx hb dX6_leaves_10 rfl (lv_at hl 3 rfl) ?_
    refine lv_bipush (v := 16) hx hb dX6_leaves_11 (by decide) ?_
    refine lv_icmp_le (tgt := 18) hx hb dX6_leaves_13 (by decide) (fun c_5 => ?_) (fun c_5 => ?_)
    · have hf := if_t c_5 hf
      refine lv_iload_n hx hb dX6_leaves_18 rfl (lv_at hl 3 rfl) ?_
      refine lv_if_ge (tgt := 28) hx hb dX6_leaves_19 (by decide) (fun c_6 => ?_) (fun c_6 => ?_)
      · have hf := if_t c_6 hf
        refine lq_aload_n hx hb dX6_leaves_28 rfl (lv_at hl 0 rfl) ?_
        obtain ⟨v7, hv7, hf⟩ := bd_s hf
        refine gt_101 C hw hv7 kw_161 dX6_leaves_29 ?_
        refine lv_iload_n hx hb dX6_leaves_32 rfl (lv_at hl 3 rfl) ?_
        obtain ⟨a8, ea8, hg⟩ := bd_s hf
        clear hf
        subst ea8
        have hf := hg
        clear hg
        obtain ⟨_, h9, hf⟩ := bd_s hf
        obtain ⟨d12, h10, hf⟩ := bd_s hf
        refine cl_V0 C hw hS (tX2_renew l A D cy st sz sh d a8 x2 h10) cvX2_renew kw_710 (kc_k h9) ⟨(Nat.le_of_ble_eq_true rfl), (Nat.le_of_ble_eq_true rfl)⟩ hl.1 rfl (Nat.le_of_ble_eq_true rfl) dX6_leaves_33 ⟨Nat.zero_le _, Nat.zero_le _⟩ (fun H locs hw hS => ?_)
        refine lv_iload_n hx hb dX6_leaves_36 rfl (lv_at hl 3 rfl) ?_
        cases hf
        exact rt_i C hw hS dX6_leaves_37
      · have hf := if_f c_6 hf
        refine lv_aload_n hx hb dX6_leaves_22 rfl (lv_at hl 1 rfl) ?_
        refine lv_iconst (v := 5) hx hb dX6_leaves_23 (by decide) ?_
        obtain ⟨r14, d15, h13, hf⟩ := bd2_s hf
        refine cl_V0 C hw hS (tX6_found l A D cy st sz sh d x0 (5 : Int32) h13) cvX6_found kw_258 (kc_k h1) ⟨(Nat.le_of_ble_eq_true rfl), (Nat.le_of_ble_eq_true rfl)⟩ hl.1 rfl (Nat.le_of_ble_eq_true rfl) dX6_leaves_24 ⟨Nat.zero_le _, Nat.zero_le _⟩ (fun H locs hw hS => ?_)
        cases hf
        exact rt_i C hw hS dX6_leaves_27
    · have hf := if_f c_5 hf
      refine lv_iconst (v := -1) hx hb dX6_leaves_16 (by decide) ?_
      cases hf
      exact rt_i C hw hS dX6_leaves_17

set_option maxRecDepth 100000 in
set_option maxHeartbeats 4000000 in
theorem tX6_leaves (l : Launch) (A : Nat → Prop) (D : va_G) (cy : Nat → ClassId) (st : Nat → Nat) (sz : Nat) (sh : Sh) (d : Dt) (x0 : Nat) (x1 : Int32) (x2 : Int32) {r : Int32} {d9 : Dt} (hf : fX6_leaves sh d x0 x1 x2 = some (r, d9)) : Ct l yX6_leaves cX6_leaves 4 (some .int) 1 22 0 0 A D cy st [.ref x0, .int x1, .int x2] sz sh d (some (.int r)) sz sh d9 := ct_of (by decide) (Nat.le_of_ble_eq_true rfl) (fun p e s m args below meth c C hw hS ls hl => wX6_leaves_b0 C x0 x1 x2 d hf hw hS hl)
theorem dX6_save_0 : decode cX6_save 0 = .ok (.aload_n 0, 1) := by decide +kernel
theorem dX6_save_1 : decode cX6_save 1 = .ok (.iload_n 1, 1) := by decide +kernel
theorem dX6_save_2 : decode cX6_save 2 = .ok (.invokevirtual 74, 3) := by decide +kernel
theorem dX6_save_5 : decode cX6_save 5 = .ok (.astore_n 3, 1) := by decide +kernel
theorem dX6_save_6 : decode cX6_save 6 = .ok (.aload_n 3, 1) := by decide +kernel
theorem dX6_save_7 : decode cX6_save 7 = .ok (.ifnonnull 5, 3) := by decide +kernel
theorem dX6_save_10 : decode cX6_save 10 = .ok (.iconst (-1), 1) := by decide +kernel
theorem dX6_save_11 : decode cX6_save 11 = .ok (.ireturn, 1) := by decide +kernel
theorem dX6_save_12 : decode cX6_save 12 = .ok (.aload_n 3, 1) := by decide +kernel
theorem dX6_save_13 : decode cX6_save 13 = .ok (.getfield 224, 3) := by decide +kernel
theorem dX6_save_16 : decode cX6_save 16 = .ok (.iload_n 2, 1) := by decide +kernel
theorem dX6_save_17 : decode cX6_save 17 = .ok (.iconst 1, 1) := by decide +kernel
theorem dX6_save_18 : decode cX6_save 18 = .ok (.invokevirtual 233, 3) := by decide +kernel
theorem dX6_save_21 : decode cX6_save 21 = .ok (.ifCond .ne 9, 3) := by decide +kernel
theorem dX6_save_24 : decode cX6_save 24 = .ok (.aload_n 0, 1) := by decide +kernel
theorem dX6_save_25 : decode cX6_save 25 = .ok (.iconst 2, 1) := by decide +kernel
theorem dX6_save_26 : decode cX6_save 26 = .ok (.invokevirtual 100, 3) := by decide +kernel
theorem dX6_save_29 : decode cX6_save 29 = .ok (.ireturn, 1) := by decide +kernel
theorem dX6_save_30 : decode cX6_save 30 = .ok (.aload_n 3, 1) := by decide +kernel
theorem dX6_save_31 : decode cX6_save 31 = .ok (.getfield 224, 3) := by decide +kernel
theorem dX6_save_34 : decode cX6_save 34 = .ok (.iload_n 2, 1) := by decide +kernel
theorem dX6_save_35 : decode cX6_save 35 = .ok (.aload_n 0, 1) := by decide +kernel
theorem dX6_save_36 : decode cX6_save 36 = .ok (.getfield 237, 3) := by decide +kernel
theorem dX6_save_39 : decode cX6_save 39 = .ok (.invokevirtual 240, 3) := by decide +kernel
theorem dX6_save_42 : decode cX6_save 42 = .ok (.iconst 1, 1) := by decide +kernel
theorem dX6_save_43 : decode cX6_save 43 = .ok (.ireturn, 1) := by decide +kernel
theorem cvX6_save : CV yX6_save cX6_save 4 (some .int) 7 2 := ⟨kw_715, kw_716, kw_1, kw_717, ⟨_, _, rfl⟩, by decide, by decide +kernel, by decide +kernel, by decide +kernel⟩
def fX6_save_b0 (sh : Sh) (x0 : Nat) (x1 : Int32) (x2 : Int32) (d : Dt) : Option (Int32 × Dt) := bd (kc sh 8 x0) fun _ => bd (fX6_handAt sh d x0 x1) fun r3 => on r3 (some ((-1 : Int32), d)) (fun a4 => bd (gR sh d 3 101 a4) fun v5 => bd v5 fun a6 => bd (kc sh 4 a6) fun _ => bd (fX2_spans sh d a6 x2 (1 : Int32)) fun r9 => if (bI r9) = 0 then (bd2 (fX6_found sh d x0 (2 : Int32)) fun r19 d20 => some (r19, d20)) else (bd (gR sh d 3 101 a4) fun v11 => bd (gL sh d 8 265 x0) fun v12 => bd v11 fun a13 => bd (kc sh 4 a13) fun _ => bd (fX2_store sh d a13 x2 v12) fun d17 => some ((1 : Int32), d17)))

def fX6_save (sh : Sh) (d : Dt) (x0 : Nat) (x1 : Int32) (x2 : Int32) : Option (Int32 × Dt) := fX6_save_b0 sh x0 x1 x2 d

set_option maxRecDepth 100000 in
set_option maxHeartbeats 4000000 in
theorem wX6_save_b0 (C : mx p s m args meth c yX6_save cX6_save 4 (some .int) A D cy st) {r : Int32} {d9 : Dt} : ∀ (x0 : Nat) (x1 : Int32) (x2 : Int32) (d : Dt), fX6_save_b0 sh x0 x1 x2 d = some (r, d9) → ∀ {H : Heap} {locs : List Loc} {ls : Array Slot}, HW A D cy sz sh d H → va_S A s.heap H locs → lv_has ls 4 [(0, .ref x0), (1, .int x1), (2, .int x2)] → GL p l e s m args below meth c 1 23 A D cy (some (.int r)) sz sh d9 H locs 0 ls [] := by
  have hx := C.1
  have hb := C.2.1
  intro x0 x1 x2 d hf H locs ls hw hS hl
  unfold fX6_save_b0 at hf
  refine lv_aload_n hx hb dX6_save_0 rfl (lv_at hl 0 rfl) ?_
  refine lv_iload_n hx hb dX6_save_1 rfl (lv_at hl 1 rfl) ?_
  obtain ⟨_, h1, hf⟩ := bd_s hf
  obtain ⟨r3, h2, hf⟩ := bd_s hf
  refine cl_V0 C hw hS (tX6_handAt l A D cy st sz sh d x0 x1 h2) cvX6_handAt kw_233 (kc_k h1) ⟨(Nat.le_of_ble_eq_true rfl), (Nat.le_of_ble_eq_true rfl)⟩ hl.1 rfl (Nat.le_of_ble_eq_true rfl) dX6_save_2 ⟨Nat.zero_le _, Nat.zero_le _⟩ (fun H locs hw hS => ?_)
  refine lq_astore_n (x := r3) (lv' := [(3, va_rf r3), (0, .ref x0), (1, .int x1), (2, .int x2)]) hx hb dX6_save_5 rfl hl (by decide) rfl (fun ls hl => ?_)
  refine lq_aload_n hx hb dX6_save_6 rfl (lv_at hl 0 rfl) ?_
  cases r3 with
  | none =>
    have hf := on_n hf
    refine lv_ifnonnullN hx hb dX6_save_7 ?_
    refine lv_iconst (v := -1) hx hb dX6_save_10 (by decide) ?_
    cases hf
    exact rt_i C hw hS dX6_save_11
  | some a4 =>
    have hf := on_s hf
    refine lv_ifnonnull (tgt := 12) hx hb dX6_save_7 (by decide) ?_
    refine lq_aload_n hx hb dX6_save_12 rfl (lv_at hl 0 rfl) ?_
    obtain ⟨v5, hv5, hf⟩ := bd_s hf
    refine gt_101 C hw hv5 kw_161 dX6_save_13 ?_
    refine lv_iload_n hx hb dX6_save_16 rfl (lv_at hl 3 rfl) ?_
    refine lv_iconst (v := 1) hx hb dX6_save_17 (by decide) ?_
    obtain ⟨a6, ea6, hg⟩ := bd_s hf
    clear hf
    subst ea6
    have hf := hg
    clear hg
    obtain ⟨_, h7, hf⟩ := bd_s hf
    obtain ⟨r9, h8, hf⟩ := bd_s hf
    refine cl_V0 C hw hS (tX2_spans l A D cy st sz sh d a6 x2 (1 : Int32) h8) cvX2_spans kw_718 (kc_k h7) ⟨(Nat.le_of_ble_eq_true rfl), (Nat.le_of_ble_eq_true rfl)⟩ hl.1 rfl (Nat.le_of_ble_eq_true rfl) dX6_save_18 ⟨Nat.zero_le _, Nat.zero_le _⟩ (fun H locs hw hS => ?_)
    refine lv_if_ne (tgt := 30) hx hb dX6_save_21 (by decide) (fun c_10 => ?_) (fun c_10 => ?_)
    · have hf := if_f c_10 hf
      refine lq_aload_n hx hb dX6_save_30 rfl (lv_at hl 0 rfl) ?_
      obtain ⟨v11, hv11, hf⟩ := bd_s hf
      refine gt_101 C hw hv11 kw_161 dX6_save_31 ?_
      refine lv_iload_n hx hb dX6_save_34 rfl (lv_at hl 3 rfl) ?_
      refine lv_aload_n hx hb dX6_save_35 rfl (lv_at hl 1 rfl) ?_
      obtain ⟨v12, hv12, hf⟩ := bd_s hf
      refine gt_265 C hw hv12 kw_81 dX6_save_36 ?_
      obtain ⟨a13, ea13, hg⟩ := bd_s hf
      clear hf
      subst ea13
      have hf := hg
      clear hg
      obtain ⟨_, h14, hf⟩ := bd_s hf
      obtain ⟨d17, h15, hf⟩ := bd_s hf
      refine cl_V0 C hw hS (tX2_store l A D cy st sz sh d a13 x2 v12 h15) cvX2_store kw_722 (kc_k h14) ⟨(Nat.le_of_ble_eq_true rfl), (Nat.le_of_ble_eq_true rfl)⟩ hl.1 rfl (Nat.le_of_ble_eq_true rfl) dX6_save_39 ⟨Nat.zero_le _, Nat.zero_le _⟩ (fun H locs hw hS => ?_)
      refine lv_iconst (v := 1) hx hb dX6_save_42 (by decide) ?_
      cases hf
      exact rt_i C hw hS dX6_save_43
    · have hf := if_t c_10 hf
      refine lv_aload_n hx hb dX6_save_24 rfl (lv_at hl 1 rfl) ?_
      refine lv_iconst (v := 2) hx hb dX6_save_25 (by decide) ?_
      obtain ⟨r19, d20, h18, hf⟩ := bd2_s hf
      refine cl_V0 C hw hS (tX6_found l A D cy st sz sh d x0 (2 : Int32) h18) cvX6_found kw_258 (kc_k h1) ⟨(Nat.le_of_ble_eq_true rfl), (Nat.le_of_ble_eq_true rfl)⟩ hl.1 rfl (Nat.le_of_ble_eq_true rfl) dX6_save_26 ⟨Nat.zero_le _, Nat.zero_le _⟩ (fun H locs hw hS => ?_)
      cases hf
      exact rt_i C hw hS dX6_save_29

set_option maxRecDepth 100000 in
set_option maxHeartbeats 4000000 in
theorem tX6_save (l : Launch) (A : Nat → Prop) (D : va_G) (cy : Nat → ClassId) (st : Nat → Nat) (sz : Nat) (sh : Sh) (d : Dt) (x0 : Nat) (x1 : Int32) (x2 : Int32) {r : Int32} {d9 : Dt} (hf : fX6_save sh d x0 x1 x2 = some (r, d9)) : Ct l yX6_save cX6_save 4 (some .int) 1 23 0 0 A D cy st [.ref x0, .int x1, .int x2] sz sh d (some (.int r)) sz sh d9 := ct_of (by decide) (Nat.le_of_ble_eq_true rfl) (fun p e s m args below meth c C hw hS ls hl => wX6_save_b0 C x0 x1 x2 d hf hw hS hl)
theorem dX6_refusalToRead_0 : decode cX6_refusalToRead 0 = .ok (.aload_n 1, 1) := by decide +kernel
theorem dX6_refusalToRead_1 : decode cX6_refusalToRead 1 = .ok (.iload_n 2, 1) := by decide +kernel
theorem dX6_refusalToRead_2 : decode cX6_refusalToRead 2 = .ok (.iconst 1, 1) := by decide +kernel
theorem dX6_refusalToRead_3 : decode cX6_refusalToRead 3 = .ok (.invokevirtual 233, 3) := by decide +kernel
theorem dX6_refusalToRead_6 : decode cX6_refusalToRead 6 = .ok (.ifCond .ne 9, 3) := by decide +kernel
theorem dX6_refusalToRead_9 : decode cX6_refusalToRead 9 = .ok (.aload_n 0, 1) := by decide +kernel
theorem dX6_refusalToRead_10 : decode cX6_refusalToRead 10 = .ok (.iconst 2, 1) := by decide +kernel
theorem dX6_refusalToRead_11 : decode cX6_refusalToRead 11 = .ok (.invokevirtual 100, 3) := by decide +kernel
theorem dX6_refusalToRead_14 : decode cX6_refusalToRead 14 = .ok (.ireturn, 1) := by decide +kernel
theorem dX6_refusalToRead_15 : decode cX6_refusalToRead 15 = .ok (.aload_n 1, 1) := by decide +kernel
theorem dX6_refusalToRead_16 : decode cX6_refusalToRead 16 = .ok (.iload_n 2, 1) := by decide +kernel
theorem dX6_refusalToRead_17 : decode cX6_refusalToRead 17 = .ok (.invokevirtual 285, 3) := by decide +kernel
theorem dX6_refusalToRead_20 : decode cX6_refusalToRead 20 = .ok (.ifCond .eq 7, 3) := by decide +kernel
theorem dX6_refusalToRead_23 : decode cX6_refusalToRead 23 = .ok (.iconst 0, 1) := by decide +kernel
theorem dX6_refusalToRead_24 : decode cX6_refusalToRead 24 = .ok (.goto 8, 3) := by decide +kernel
theorem dX6_refusalToRead_27 : decode cX6_refusalToRead 27 = .ok (.aload_n 0, 1) := by decide +kernel
theorem dX6_refusalToRead_28 : decode cX6_refusalToRead 28 = .ok (.iconst 1, 1) := by decide +kernel
theorem dX6_refusalToRead_29 : decode cX6_refusalToRead 29 = .ok (.invokevirtual 100, 3) := by decide +kernel
theorem dX6_refusalToRead_32 : decode cX6_refusalToRead 32 = .ok (.ireturn, 1) := by decide +kernel
theorem cvX6_refusalToRead : CV yX6_refusalToRead cX6_refusalToRead 3 (some .int) 7 2 := ⟨kw_732, ks_21, kw_1, kw_733, ⟨_, _, rfl⟩, by decide, by decide +kernel, by decide +kernel, by decide +kernel⟩
def fX6_refusalToRead_b0 (sh : Sh) (x0 : Nat) (x1 : Option Nat) (x2 : Int32) (d : Dt) : Option (Int32 × Dt) := bd x1 fun a1 => bd (kc sh 4 a1) fun _ => bd (fX2_spans sh d a1 x2 (1 : Int32)) fun r4 => if (bI r4) = 0 then (bd (kc sh 8 x0) fun _ => bd2 (fX6_found sh d x0 (2 : Int32)) fun r15 d16 => some (r15, d16)) else (bd (fX2_isThere sh d a1 x2) fun r7 => if (bI r7) = 0 then (bd (kc sh 8 x0) fun _ => bd2 (fX6_found sh d x0 (1 : Int32)) fun r11 d12 => some (r11, d12)) else (some ((0 : Int32), d)))

def fX6_refusalToRead (sh : Sh) (d : Dt) (x0 : Nat) (x1 : Option Nat) (x2 : Int32) : Option (Int32 × Dt) := fX6_refusalToRead_b0 sh x0 x1 x2 d

set_option maxRecDepth 100000 in
set_option maxHeartbeats 4000000 in
theorem wX6_refusalToRead_b0 (C : mx p s m args meth c yX6_refusalToRead cX6_refusalToRead 3 (some .int) A D cy st) {r : Int32} {d9 : Dt} : ∀ (x0 : Nat) (x1 : Option Nat) (x2 : Int32) (d : Dt), fX6_refusalToRead_b0 sh x0 x1 x2 d = some (r, d9) → ∀ {H : Heap} {locs : List Loc} {ls : Array Slot}, HW A D cy sz sh d H → va_S A s.heap H locs → lv_has ls 3 [(0, .ref x0), (1, va_rf x1), (2, .int x2)] → GL p l e s m args below meth c 1 22 A D cy (some (.int r)) sz sh d9 H locs 0 ls [] := by
  have hx := C.1
  have hb := C.2.1
  intro x0 x1 x2 d hf H locs ls hw hS hl
  unfold fX6_refusalToRead_b0 at hf
  refine lq_aload_n hx hb dX6_refusalToRead_0 rfl (lv_at hl 1 rfl) ?_
  refine lv_iload_n hx hb dX6_refusalToRead_1 rfl (lv_at hl 2 rfl) ?_
  refine lv_iconst (v := 1) hx hb dX6_refusalToRead_2 (by decide) ?_
  obtain ⟨a1, ea1, hg⟩ := bd_s hf
  clear hf
  subst ea1
  have hf := hg
  clear hg
  obtain ⟨_, h2, hf⟩ := bd_s hf
  obtain ⟨r4, h3, hf⟩ := bd_s hf
  refine cl_V0 C hw hS (tX2_spans l A D cy st sz sh d a1 x2 (1 : Int32) h3) cvX2_spans kw_718 (kc_k h2) ⟨(Nat.le_of_ble_eq_true rfl), (Nat.le_of_ble_eq_true rfl)⟩ hl.1 rfl (Nat.le_of_ble_eq_true rfl) dX6_refusalToRead_3 ⟨Nat.zero_le _, Nat.zero_le _⟩ (fun H locs hw hS => ?_)
  refine lv_if_ne (tgt := 15) hx hb dX6_refusalToRead_6 (by decide) (fun c_5 => ?_) (fun c_5 => ?_)
  · have hf := if_f c_5 hf
    refine lq_aload_n hx hb dX6_refusalToRead_15 rfl (lv_at hl 1 rfl) ?_
    refine lv_iload_n hx hb dX6_refusalToRead_16 rfl (lv_at hl 2 rfl) ?_
    obtain ⟨r7, h6, hf⟩ := bd_s hf
    refine cl_V0 C hw hS (tX2_isThere l A D cy st sz sh d a1 x2 h6) cvX2_isThere kw_734 (kc_k h2) ⟨(Nat.le_of_ble_eq_true rfl), (Nat.le_of_ble_eq_true rfl)⟩ hl.1 rfl (Nat.le_of_ble_eq_true rfl) dX6_refusalToRead_17 ⟨Nat.zero_le _, Nat.zero_le _⟩ (fun H locs hw hS => ?_)
    refine lv_if_eq (tgt := 27) hx hb dX6_refusalToRead_20 (by decide) (fun c_8 => ?_) (fun c_8 => ?_)
    · have hf := if_t c_8 hf
      refine lv_aload_n hx hb dX6_refusalToRead_27 rfl (lv_at hl 0 rfl) ?_
      refine lv_iconst (v := 1) hx hb dX6_refusalToRead_28 (by decide) ?_
      obtain ⟨_, h9, hf⟩ := bd_s hf
      obtain ⟨r11, d12, h10, hf⟩ := bd2_s hf
      refine cl_V0 C hw hS (tX6_found l A D cy st sz sh d x0 (1 : Int32) h10) cvX6_found kw_258 (kc_k h9) ⟨(Nat.le_of_ble_eq_true rfl), (Nat.le_of_ble_eq_true rfl)⟩ hl.1 rfl (Nat.le_of_ble_eq_true rfl) dX6_refusalToRead_29 ⟨Nat.zero_le _, Nat.zero_le _⟩ (fun H locs hw hS => ?_)
      cases hf
      exact rt_i C hw hS dX6_refusalToRead_32
    · have hf := if_f c_8 hf
      refine lv_iconst (v := 0) hx hb dX6_refusalToRead_23 (by decide) ?_
      refine lv_goto (tgt := 32) hx hb dX6_refusalToRead_24 (by decide) ?_
      cases hf
      exact rt_i C hw hS dX6_refusalToRead_32
  · have hf := if_t c_5 hf
    refine lv_aload_n hx hb dX6_refusalToRead_9 rfl (lv_at hl 0 rfl) ?_
    refine lv_iconst (v := 2) hx hb dX6_refusalToRead_10 (by decide) ?_
    obtain ⟨_, h13, hf⟩ := bd_s hf
    obtain ⟨r15, d16, h14, hf⟩ := bd2_s hf
    refine cl_V0 C hw hS (tX6_found l A D cy st sz sh d x0 (2 : Int32) h14) cvX6_found kw_258 (kc_k h13) ⟨(Nat.le_of_ble_eq_true rfl), (Nat.le_of_ble_eq_true rfl)⟩ hl.1 rfl (Nat.le_of_ble_eq_true rfl) dX6_refusalToRead_11 ⟨Nat.zero_le _, Nat.zero_le _⟩ (fun H locs hw hS => ?_)
    cases hf
    exact rt_i C hw hS dX6_refusalToRead_14

set_option maxRecDepth 100000 in
set_option maxHeartbeats 4000000 in
theorem tX6_refusalToRead (l : Launch) (A : Nat → Prop) (D : va_G) (cy : Nat → ClassId) (st : Nat → Nat) (sz : Nat) (sh : Sh) (d : Dt) (x0 : Nat) (x1 : Option Nat) (x2 : Int32) {r : Int32} {d9 : Dt} (hf : fX6_refusalToRead sh d x0 x1 x2 = some (r, d9)) : Ct l yX6_refusalToRead cX6_refusalToRead 3 (some .int) 1 22 0 0 A D cy st [.ref x0, va_rf x1, .int x2] sz sh d (some (.int r)) sz sh d9 := ct_of (by decide) (by simp [lg_sl, va_rf_c, cat_i, cat_l, cat_r]) (fun p e s m args below meth c C hw hS ls hl => wX6_refusalToRead_b0 C x0 x1 x2 d hf hw hS (by simpa [lv_args, va_rf_c, cat_i, cat_l, cat_r] using hl))
theorem dX6_tear_0 : decode cX6_tear 0 = .ok (.aload_n 0, 1) := by decide +kernel
theorem dX6_tear_1 : decode cX6_tear 1 = .ok (.iload_n 1, 1) := by decide +kernel
theorem dX6_tear_2 : decode cX6_tear 2 = .ok (.invokevirtual 74, 3) := by decide +kernel
theorem dX6_tear_5 : decode cX6_tear 5 = .ok (.astore_n 3, 1) := by decide +kernel
theorem dX6_tear_6 : decode cX6_tear 6 = .ok (.aload_n 3, 1) := by decide +kernel
theorem dX6_tear_7 : decode cX6_tear 7 = .ok (.ifnonnull 5, 3) := by decide +kernel
theorem dX6_tear_10 : decode cX6_tear 10 = .ok (.iconst (-1), 1) := by decide +kernel
theorem dX6_tear_11 : decode cX6_tear 11 = .ok (.ireturn, 1) := by decide +kernel
theorem dX6_tear_12 : decode cX6_tear 12 = .ok (.aload_n 0, 1) := by decide +kernel
theorem dX6_tear_13 : decode cX6_tear 13 = .ok (.aload_n 3, 1) := by decide +kernel
theorem dX6_tear_14 : decode cX6_tear 14 = .ok (.getfield 224, 3) := by decide +kernel
theorem dX6_tear_17 : decode cX6_tear 17 = .ok (.iload_n 2, 1) := by decide +kernel
theorem dX6_tear_18 : decode cX6_tear 18 = .ok (.invokevirtual 244, 3) := by decide +kernel
theorem dX6_tear_21 : decode cX6_tear 21 = .ok (.istore 4, 2) := by decide +kernel
theorem dX6_tear_23 : decode cX6_tear 23 = .ok (.iload 4, 2) := by decide +kernel
theorem dX6_tear_25 : decode cX6_tear 25 = .ok (.ifCond .eq 6, 3) := by decide +kernel
theorem dX6_tear_28 : decode cX6_tear 28 = .ok (.iload 4, 2) := by decide +kernel
theorem dX6_tear_30 : decode cX6_tear 30 = .ok (.ireturn, 1) := by decide +kernel
theorem dX6_tear_31 : decode cX6_tear 31 = .ok (.aload_n 3, 1) := by decide +kernel
theorem dX6_tear_32 : decode cX6_tear 32 = .ok (.getfield 224, 3) := by decide +kernel
theorem dX6_tear_35 : decode cX6_tear 35 = .ok (.iload_n 2, 1) := by decide +kernel
theorem dX6_tear_36 : decode cX6_tear 36 = .ok (.invokevirtual 248, 3) := by decide +kernel
theorem dX6_tear_39 : decode cX6_tear 39 = .ok (.iconst 1, 1) := by decide +kernel
theorem dX6_tear_40 : decode cX6_tear 40 = .ok (.ireturn, 1) := by decide +kernel
theorem cvX6_tear : CV yX6_tear cX6_tear 5 (some .int) 7 2 := ⟨kw_727, kw_728, kw_1, kw_729, ⟨_, _, rfl⟩, by decide, by decide +kernel, by decide +kernel, by decide +kernel⟩
def fX6_tear_b0 (sh : Sh) (x0 : Nat) (x1 : Int32) (x2 : Int32) (d : Dt) : Option (Int32 × Dt) := bd (kc sh 8 x0) fun _ => bd (fX6_handAt sh d x0 x1) fun r3 => on r3 (some ((-1 : Int32), d)) (fun a4 => bd (gR sh d 3 101 a4) fun v5 => bd2 (fX6_refusalToRead sh d x0 v5 x2) fun r7 d8 => if r7 = 0 then (bd (gR sh d8 3 101 a4) fun v10 => bd v10 fun a11 => bd (kc sh 4 a11) fun _ => bd (fX2_drop sh d8 a11 x2) fun d15 => some ((1 : Int32), d15)) else (some (r7, d8)))

def fX6_tear (sh : Sh) (d : Dt) (x0 : Nat) (x1 : Int32) (x2 : Int32) : Option (Int32 × Dt) := fX6_tear_b0 sh x0 x1 x2 d

set_option maxRecDepth 100000 in
set_option maxHeartbeats 4000000 in
theorem wX6_tear_b0 (C : mx p s m args meth c yX6_tear cX6_tear 5 (some .int) A D cy st) {r : Int32} {d9 : Dt} : ∀ (x0 : Nat) (x1 : Int32) (x2 : Int32) (d : Dt), fX6_tear_b0 sh x0 x1 x2 d = some (r, d9) → ∀ {H : Heap} {locs : List Loc} {ls : Array Slot}, HW A D cy sz sh d H → va_S A s.heap H locs → lv_has ls 5 [(0, .ref x0), (1, .int x1), (2, .int x2)] → GL p l e s m args below meth c 2 44 A D cy (some (.int r)) sz sh d9 H locs 0 ls [] := by
  have hx := C.1
  have hb := C.2.1
  intro x0 x1 x2 d hf H locs ls hw hS hl
  unfold fX6_tear_b0 at hf
  refine lv_aload_n hx hb dX6_tear_0 rfl (lv_at hl 0 rfl) ?_
  refine lv_iload_n hx hb dX6_tear_1 rfl (lv_at hl 1 rfl) ?_
  obtain ⟨_, h1, hf⟩ := bd_s hf
  obtain ⟨r3, h2, hf⟩ := bd_s hf
  refine cl_V0 C hw hS (tX6_handAt l A D cy st sz sh d x0 x1 h2) cvX6_handAt kw_233 (kc_k h1) ⟨(Nat.le_of_ble_eq_true rfl), (Nat.le_of_ble_eq_true rfl)⟩ hl.1 rfl (Nat.le_of_ble_eq_true rfl) dX6_tear_2 ⟨Nat.zero_le _, Nat.zero_le _⟩ (fun H locs hw hS => ?_)
  refine lq_astore_n (x := r3) (lv' := [(3, va_rf r3), (0, .ref x0), (1, .int x1), (2, .int x2)]) hx hb dX6_tear_5 rfl hl (by decide) rfl (fun ls hl => ?_)
  refine lq_aload_n hx hb dX6_tear_6 rfl (lv_at hl 0 rfl) ?_
  cases r3 with
  | none =>
    have hf := on_n hf
    refine lv_ifnonnullN hx hb dX6_tear_7 ?_
    refine lv_iconst (v := -1) hx hb dX6_tear_10 (by decide) ?_
    cases hf
    exact rt_i C hw hS dX6_tear_11
  | some a4 =>
    have hf := on_s hf
    refine lv_ifnonnull (tgt := 12) hx hb dX6_tear_7 (by decide) ?_
    refine lv_aload_n hx hb dX6_tear_12 rfl (lv_at hl 1 rfl) ?_
    refine lq_aload_n hx hb dX6_tear_13 rfl (lv_at hl 0 rfl) ?_
    obtain ⟨v5, hv5, hf⟩ := bd_s hf
    refine gt_101 C hw hv5 kw_161 dX6_tear_14 ?_
    refine lv_iload_n hx hb dX6_tear_17 rfl (lv_at hl 3 rfl) ?_
    obtain ⟨r7, d8, h6, hf⟩ := bd2_s hf
    refine cl_V0 C hw hS (tX6_refusalToRead l A D cy st sz sh d x0 v5 x2 h6) cvX6_refusalToRead kw_730 (kc_k h1) ⟨(Nat.le_of_ble_eq_true rfl), (Nat.le_of_ble_eq_true rfl)⟩ hl.1 rfl (Nat.le_of_ble_eq_true rfl) dX6_tear_18 ⟨Nat.zero_le _, Nat.zero_le _⟩ (fun H locs hw hS => ?_)
    refine lv_istore (i := 4) (lv' := [(4, .int r7), (3, va_rf (some a4)), (0, .ref x0), (1, .int x1), (2, .int x2)]) hx hb dX6_tear_21 hl (by decide) (by simp [va_rf_c, cat_i, cat_l, cat_r]) (fun ls hl => ?_)
    refine lv_iload hx hb dX6_tear_23 (lv_at hl 0 rfl) ?_
    refine lv_if_eq (tgt := 31) hx hb dX6_tear_25 (by decide) (fun c_9 => ?_) (fun c_9 => ?_)
    · have hf := if_t c_9 hf
      refine lq_aload_n hx hb dX6_tear_31 rfl (lv_at hl 1 rfl) ?_
      obtain ⟨v10, hv10, hf⟩ := bd_s hf
      refine gt_101 C hw hv10 kw_161 dX6_tear_32 ?_
      refine lv_iload_n hx hb dX6_tear_35 rfl (lv_at hl 4 rfl) ?_
      obtain ⟨a11, ea11, hg⟩ := bd_s hf
      clear hf
      subst ea11
      have hf := hg
      clear hg
      obtain ⟨_, h12, hf⟩ := bd_s hf
      obtain ⟨d15, h13, hf⟩ := bd_s hf
      refine cl_V0 C hw hS (tX2_drop l A D cy st sz sh d8 a11 x2 h13) cvX2_drop kw_738 (kc_k h12) ⟨(Nat.le_of_ble_eq_true rfl), (Nat.le_of_ble_eq_true rfl)⟩ hl.1 rfl (Nat.le_of_ble_eq_true rfl) dX6_tear_36 ⟨Nat.zero_le _, Nat.zero_le _⟩ (fun H locs hw hS => ?_)
      refine lv_iconst (v := 1) hx hb dX6_tear_39 (by decide) ?_
      cases hf
      exact rt_i C hw hS dX6_tear_40
    · have hf := if_f c_9 hf
      refine lv_iload hx hb dX6_tear_28 (lv_at hl 0 rfl) ?_
      cases hf
      exact rt_i C hw hS dX6_tear_30

set_option maxRecDepth 100000 in
set_option maxHeartbeats 4000000 in
theorem tX6_tear (l : Launch) (A : Nat → Prop) (D : va_G) (cy : Nat → ClassId) (st : Nat → Nat) (sz : Nat) (sh : Sh) (d : Dt) (x0 : Nat) (x1 : Int32) (x2 : Int32) {r : Int32} {d9 : Dt} (hf : fX6_tear sh d x0 x1 x2 = some (r, d9)) : Ct l yX6_tear cX6_tear 5 (some .int) 2 44 0 0 A D cy st [.ref x0, .int x1, .int x2] sz sh d (some (.int r)) sz sh d9 := ct_of (by decide) (Nat.le_of_ble_eq_true rfl) (fun p e s m args below meth c C hw hS ls hl => wX6_tear_b0 C x0 x1 x2 d hf hw hS hl)
theorem dX6_leaf_0 : decode cX6_leaf 0 = .ok (.aload_n 0, 1) := by decide +kernel
theorem dX6_leaf_1 : decode cX6_leaf 1 = .ok (.iload_n 1, 1) := by decide +kernel
theorem dX6_leaf_2 : decode cX6_leaf 2 = .ok (.invokevirtual 74, 3) := by decide +kernel
theorem dX6_leaf_5 : decode cX6_leaf 5 = .ok (.astore_n 3, 1) := by decide +kernel
theorem dX6_leaf_6 : decode cX6_leaf 6 = .ok (.aload_n 3, 1) := by decide +kernel
theorem dX6_leaf_7 : decode cX6_leaf 7 = .ok (.ifnonnull 5, 3) := by decide +kernel
theorem dX6_leaf_10 : decode cX6_leaf 10 = .ok (.iconst (-1), 1) := by decide +kernel
theorem dX6_leaf_11 : decode cX6_leaf 11 = .ok (.ireturn, 1) := by decide +kernel
theorem dX6_leaf_12 : decode cX6_leaf 12 = .ok (.aload_n 0, 1) := by decide +kernel
theorem dX6_leaf_13 : decode cX6_leaf 13 = .ok (.aload_n 3, 1) := by decide +kernel
theorem dX6_leaf_14 : decode cX6_leaf 14 = .ok (.getfield 224, 3) := by decide +kernel
theorem dX6_leaf_17 : decode cX6_leaf 17 = .ok (.iload_n 2, 1) := by decide +kernel
theorem dX6_leaf_18 : decode cX6_leaf 18 = .ok (.invokevirtual 244, 3) := by decide +kernel
theorem dX6_leaf_21 : decode cX6_leaf 21 = .ok (.istore 4, 2) := by decide +kernel
theorem dX6_leaf_23 : decode cX6_leaf 23 = .ok (.iload 4, 2) := by decide +kernel
theorem dX6_leaf_25 : decode cX6_leaf 25 = .ok (.ifCond .eq 8, 3) := by decide +kernel
theorem dX6_leaf_28 : decode cX6_leaf 28 = .ok (.iload 4, 2) := by decide +kernel
theorem dX6_leaf_30 : decode cX6_leaf 30 = .ok (.goto 17, 3) := by decide +kernel
theorem dX6_leaf_33 : decode cX6_leaf 33 = .ok (.aload_n 0, 1) := by decide +kernel
theorem dX6_leaf_34 : decode cX6_leaf 34 = .ok (.aload_n 3, 1) := by decide +kernel
theorem dX6_leaf_35 : decode cX6_leaf 35 = .ok (.getfield 224, 3) := by decide +kernel
theorem dX6_leaf_38 : decode cX6_leaf 38 = .ok (.getfield 251, 3) := by decide +kernel
theorem dX6_leaf_41 : decode cX6_leaf 41 = .ok (.iload_n 2, 1) := by decide +kernel
theorem dX6_leaf_42 : decode cX6_leaf 42 = .ok (.laload, 1) := by decide +kernel
theorem dX6_leaf_43 : decode cX6_leaf 43 = .ok (.iconst 1, 1) := by decide +kernel
theorem dX6_leaf_44 : decode cX6_leaf 44 = .ok (.invokevirtual 188, 3) := by decide +kernel
theorem dX6_leaf_47 : decode cX6_leaf 47 = .ok (.ireturn, 1) := by decide +kernel
theorem cvX6_leaf : CV yX6_leaf cX6_leaf 5 (some .int) 7 2 := ⟨kw_743, kw_744, kw_1, kw_745, ⟨_, _, rfl⟩, by decide, by decide +kernel, by decide +kernel, by decide +kernel⟩
def fX6_leaf_b0 (sh : Sh) (x0 : Nat) (x1 : Int32) (x2 : Int32) (d : Dt) : Option (Int32 × Dt) := bd (kc sh 8 x0) fun _ => bd (fX6_handAt sh d x0 x1) fun r3 => on r3 (some ((-1 : Int32), d)) (fun a4 => bd (gR sh d 3 101 a4) fun v5 => bd2 (fX6_refusalToRead sh d x0 v5 x2) fun r7 d8 => if r7 = 0 then (bd (gR sh d8 3 101 a4) fun v10 => bd v10 fun a11 => bd (gR sh d8 4 128 a11) fun v12 => bd v12 fun a13 => bd (aL sh d8 21 a13 x2) fun v14 => bd2 (fX6_tellAnd sh d8 x0 v14 (1 : Int32)) fun r16 d17 => some (r16, d17)) else (some (r7, d8)))

def fX6_leaf (sh : Sh) (d : Dt) (x0 : Nat) (x1 : Int32) (x2 : Int32) : Option (Int32 × Dt) := fX6_leaf_b0 sh x0 x1 x2 d

set_option maxRecDepth 100000 in
set_option maxHeartbeats 4000000 in
theorem wX6_leaf_b0 (C : mx p s m args meth c yX6_leaf cX6_leaf 5 (some .int) A D cy st) {r : Int32} {d9 : Dt} : ∀ (x0 : Nat) (x1 : Int32) (x2 : Int32) (d : Dt), fX6_leaf_b0 sh x0 x1 x2 d = some (r, d9) → ∀ {H : Heap} {locs : List Loc} {ls : Array Slot}, HW A D cy sz sh d H → va_S A s.heap H locs → lv_has ls 5 [(0, .ref x0), (1, .int x1), (2, .int x2)] → GL p l e s m args below meth c 2 44 A D cy (some (.int r)) sz sh d9 H locs 0 ls [] := by
  have hx := C.1
  have hb := C.2.1
  intro x0 x1 x2 d hf H locs ls hw hS hl
  unfold fX6_leaf_b0 at hf
  refine lv_aload_n hx hb dX6_leaf_0 rfl (lv_at hl 0 rfl) ?_
  refine lv_iload_n hx hb dX6_leaf_1 rfl (lv_at hl 1 rfl) ?_
  obtain ⟨_, h1, hf⟩ := bd_s hf
  obtain ⟨r3, h2, hf⟩ := bd_s hf
  refine cl_V0 C hw hS (tX6_handAt l A D cy st sz sh d x0 x1 h2) cvX6_handAt kw_233 (kc_k h1) ⟨(Nat.le_of_ble_eq_true rfl), (Nat.le_of_ble_eq_true rfl)⟩ hl.1 rfl (Nat.le_of_ble_eq_true rfl) dX6_leaf_2 ⟨Nat.zero_le _, Nat.zero_le _⟩ (fun H locs hw hS => ?_)
  refine lq_astore_n (x := r3) (lv' := [(3, va_rf r3), (0, .ref x0), (1, .int x1), (2, .int x2)]) hx hb dX6_leaf_5 rfl hl (by decide) rfl (fun ls hl => ?_)
  refine lq_aload_n hx hb dX6_leaf_6 rfl (lv_at hl 0 rfl) ?_
  cases r3 with
  | none =>
    have hf := on_n hf
    refine lv_ifnonnullN hx hb dX6_leaf_7 ?_
    refine lv_iconst (v := -1) hx hb dX6_leaf_10 (by decide) ?_
    cases hf
    exact rt_i C hw hS dX6_leaf_11
  | some a4 =>
    have hf := on_s hf
    refine lv_ifnonnull (tgt := 12) hx hb dX6_leaf_7 (by decide) ?_
    refine lv_aload_n hx hb dX6_leaf_12 rfl (lv_at hl 1 rfl) ?_
    refine lq_aload_n hx hb dX6_leaf_13 rfl (lv_at hl 0 rfl) ?_
    obtain ⟨v5, hv5, hf⟩ := bd_s hf
    refine gt_101 C hw hv5 kw_161 dX6_leaf_14 ?_
    refine lv_iload_n hx hb dX6_leaf_17 rfl (lv_at hl 3 rfl) ?_
    obtain ⟨r7, d8, h6, hf⟩ := bd2_s hf
    refine cl_V0 C hw hS (tX6_refusalToRead l A D cy st sz sh d x0 v5 x2 h6) cvX6_refusalToRead kw_730 (kc_k h1) ⟨(Nat.le_of_ble_eq_true rfl), (Nat.le_of_ble_eq_true rfl)⟩ hl.1 rfl (Nat.le_of_ble_eq_true rfl) dX6_leaf_18 ⟨Nat.zero_le _, Nat.zero_le _⟩ (fun H locs hw hS => ?_)
    refine lv_istore (i := 4) (lv' := [(4, .int r7), (3, va_rf (some a4)), (0, .ref x0), (1, .int x1), (2, .int x2)]) hx hb dX6_leaf_21 hl (by decide) (by simp [va_rf_c, cat_i, cat_l, cat_r]) (fun ls hl => ?_)
    refine lv_iload hx hb dX6_leaf_23 (lv_at hl 0 rfl) ?_
    refine lv_if_eq (tgt := 33) hx hb dX6_leaf_25 (by decide) (fun c_9 => ?_) (fun c_9 => ?_)
    · have hf := if_t c_9 hf
      refine lv_aload_n hx hb dX6_leaf_33 rfl (lv_at hl 2 rfl) ?_
      refine lq_aload_n hx hb dX6_leaf_34 rfl (lv_at hl 1 rfl) ?_
      obtain ⟨v10, hv10, hf⟩ := bd_s hf
      refine gt_101 C hw hv10 kw_161 dX6_leaf_35 ?_
      obtain ⟨a11, ea11, hg⟩ := bd_s hf
      clear hf
      subst ea11
      have hf := hg
      clear hg
      obtain ⟨v12, hv12, hf⟩ := bd_s hf
      refine gt_128 C hw hv12 kw_137 dX6_leaf_38 ?_
      refine lv_iload_n hx hb dX6_leaf_41 rfl (lv_at hl 4 rfl) ?_
      obtain ⟨a13, ea13, hg⟩ := bd_s hf
      clear hf
      subst ea13
      have hf := hg
      clear hg
      obtain ⟨v14, hv14, hf⟩ := bd_s hf
      refine w_lald C hw hv14 dX6_leaf_42 ?_
      refine lv_iconst (v := 1) hx hb dX6_leaf_43 (by decide) ?_
      obtain ⟨r16, d17, h15, hf⟩ := bd2_s hf
      refine cl_V0 C hw hS (tX6_tellAnd l A D cy st sz sh d8 x0 v14 (1 : Int32) h15) cvX6_tellAnd kw_601 (kc_k h1) ⟨(Nat.le_of_ble_eq_true rfl), (Nat.le_of_ble_eq_true rfl)⟩ hl.1 rfl (Nat.le_of_ble_eq_true rfl) dX6_leaf_44 ⟨Nat.zero_le _, Nat.zero_le _⟩ (fun H locs hw hS => ?_)
      cases hf
      exact rt_i C hw hS dX6_leaf_47
    · have hf := if_f c_9 hf
      refine lv_iload hx hb dX6_leaf_28 (lv_at hl 0 rfl) ?_
      refine lv_goto (tgt := 47) hx hb dX6_leaf_30 (by decide) ?_
      cases hf
      exact rt_i C hw hS dX6_leaf_47

set_option maxRecDepth 100000 in
set_option maxHeartbeats 4000000 in
theorem tX6_leaf (l : Launch) (A : Nat → Prop) (D : va_G) (cy : Nat → ClassId) (st : Nat → Nat) (sz : Nat) (sh : Sh) (d : Dt) (x0 : Nat) (x1 : Int32) (x2 : Int32) {r : Int32} {d9 : Dt} (hf : fX6_leaf sh d x0 x1 x2 = some (r, d9)) : Ct l yX6_leaf cX6_leaf 5 (some .int) 2 44 0 0 A D cy st [.ref x0, .int x1, .int x2] sz sh d (some (.int r)) sz sh d9 := ct_of (by decide) (Nat.le_of_ble_eq_true rfl) (fun p e s m args below meth c C hw hS ls hl => wX6_leaf_b0 C x0 x1 x2 d hf hw hS hl)
theorem dX6_copy_0 : decode cX6_copy 0 = .ok (.aload_n 0, 1) := by decide +kernel
theorem dX6_copy_1 : decode cX6_copy 1 = .ok (.iload_n 1, 1) := by decide +kernel
theorem dX6_copy_2 : decode cX6_copy 2 = .ok (.invokevirtual 74, 3) := by decide +kernel
theorem dX6_copy_5 : decode cX6_copy 5 = .ok (.astore 6, 2) := by decide +kernel
theorem dX6_copy_7 : decode cX6_copy 7 = .ok (.aload_n 0, 1) := by decide +kernel
theorem dX6_copy_8 : decode cX6_copy 8 = .ok (.iload_n 3, 1) := by decide +kernel
theorem dX6_copy_9 : decode cX6_copy 9 = .ok (.invokevirtual 74, 3) := by decide +kernel
theorem dX6_copy_12 : decode cX6_copy 12 = .ok (.astore 7, 2) := by decide +kernel
theorem dX6_copy_14 : decode cX6_copy 14 = .ok (.aload 6, 2) := by decide +kernel
theorem dX6_copy_16 : decode cX6_copy 16 = .ok (.ifnull 8, 3) := by decide +kernel
theorem dX6_copy_19 : decode cX6_copy 19 = .ok (.aload 7, 2) := by decide +kernel
theorem dX6_copy_21 : decode cX6_copy 21 = .ok (.ifnonnull 5, 3) := by decide +kernel
theorem dX6_copy_24 : decode cX6_copy 24 = .ok (.iconst (-1), 1) := by decide +kernel
theorem dX6_copy_25 : decode cX6_copy 25 = .ok (.ireturn, 1) := by decide +kernel
theorem dX6_copy_26 : decode cX6_copy 26 = .ok (.aload 6, 2) := by decide +kernel
theorem dX6_copy_28 : decode cX6_copy 28 = .ok (.getfield 224, 3) := by decide +kernel
theorem dX6_copy_31 : decode cX6_copy 31 = .ok (.iload_n 2, 1) := by decide +kernel
theorem dX6_copy_32 : decode cX6_copy 32 = .ok (.iload 5, 2) := by decide +kernel
theorem dX6_copy_34 : decode cX6_copy 34 = .ok (.invokevirtual 233, 3) := by decide +kernel
theorem dX6_copy_37 : decode cX6_copy 37 = .ok (.ifCond .eq 18, 3) := by decide +kernel
theorem dX6_copy_40 : decode cX6_copy 40 = .ok (.aload 7, 2) := by decide +kernel
theorem dX6_copy_42 : decode cX6_copy 42 = .ok (.getfield 224, 3) := by decide +kernel
theorem dX6_copy_45 : decode cX6_copy 45 = .ok (.iload 4, 2) := by decide +kernel
theorem dX6_copy_47 : decode cX6_copy 47 = .ok (.iload 5, 2) := by decide +kernel
theorem dX6_copy_49 : decode cX6_copy 49 = .ok (.invokevirtual 233, 3) := by decide +kernel
theorem dX6_copy_52 : decode cX6_copy 52 = .ok (.ifCond .ne 9, 3) := by decide +kernel
theorem dX6_copy_55 : decode cX6_copy 55 = .ok (.aload_n 0, 1) := by decide +kernel
theorem dX6_copy_56 : decode cX6_copy 56 = .ok (.iconst 2, 1) := by decide +kernel
theorem dX6_copy_57 : decode cX6_copy 57 = .ok (.invokevirtual 100, 3) := by decide +kernel
theorem dX6_copy_60 : decode cX6_copy 60 = .ok (.ireturn, 1) := by decide +kernel
theorem dX6_copy_61 : decode cX6_copy 61 = .ok (.aload 6, 2) := by decide +kernel
theorem dX6_copy_63 : decode cX6_copy 63 = .ok (.getfield 224, 3) := by decide +kernel
theorem dX6_copy_66 : decode cX6_copy 66 = .ok (.iload_n 2, 1) := by decide +kernel
theorem dX6_copy_67 : decode cX6_copy 67 = .ok (.aload 7, 2) := by decide +kernel
theorem dX6_copy_69 : decode cX6_copy 69 = .ok (.getfield 224, 3) := by decide +kernel
theorem dX6_copy_72 : decode cX6_copy 72 = .ok (.iload 4, 2) := by decide +kernel
theorem dX6_copy_74 : decode cX6_copy 74 = .ok (.iload 5, 2) := by decide +kernel
theorem dX6_copy_76 : decode cX6_copy 76 = .ok (.invokevirtual 255, 3) := by decide +kernel
theorem dX6_copy_79 : decode cX6_copy 79 = .ok (.iconst 1, 1) := by decide +kernel
theorem dX6_copy_80 : decode cX6_copy 80 = .ok (.ireturn, 1) := by decide +kernel
theorem cvX6_copy : CV yX6_copy cX6_copy 8 (some .int) 7 5 := ⟨kw_747, kw_748, kw_1, kw_749, ⟨_, _, rfl⟩, by decide, by decide +kernel, by decide +kernel, by decide +kernel⟩
def fX6_copy_b55 (sh : Sh) (x0 : Nat) (d : Dt) : Option (Int32 × Dt) := bd (kc sh 8 x0) fun _ => bd2 (fX6_found sh d x0 (2 : Int32)) fun r3 d4 => some (r3, d4)

def fX6_copy_b0 (sh : Sh) (x0 : Nat) (x1 : Int32) (x2 : Int32) (x3 : Int32) (x4 : Int32) (x5 : Int32) (d : Dt) : Option (Int32 × Dt) := bd (kc sh 8 x0) fun _ => bd (fX6_handAt sh d x0 x1) fun r3 => bd (fX6_handAt sh d x0 x3) fun r5 => on r3 (some ((-1 : Int32), d)) (fun a6 => on r5 (some ((-1 : Int32), d)) (fun a7 => bd (gR sh d 3 101 a6) fun v8 => bd v8 fun a9 => bd (kc sh 4 a9) fun _ => bd (fX2_spans sh d a9 x2 x5) fun r12 => if (bI r12) = 0 then (fX6_copy_b55 sh x0 d) else (bd (gR sh d 3 101 a7) fun v14 => bd v14 fun a15 => bd (kc sh 4 a15) fun _ => bd (fX2_spans sh d a15 x4 x5) fun r18 => if (bI r18) = 0 then (fX6_copy_b55 sh x0 d) else (bd (gR sh d 3 101 a6) fun v20 => bd (gR sh d 3 101 a7) fun v21 => bd v20 fun a22 => bd (kc sh 4 a22) fun _ => bd (fX2_copyTo sh d a22 x2 v21 x4 x5) fun d26 => some ((1 : Int32), d26)))))

def fX6_copy (sh : Sh) (d : Dt) (x0 : Nat) (x1 : Int32) (x2 : Int32) (x3 : Int32) (x4 : Int32) (x5 : Int32) : Option (Int32 × Dt) := fX6_copy_b0 sh x0 x1 x2 x3 x4 x5 d

set_option maxRecDepth 100000 in
set_option maxHeartbeats 4000000 in
theorem wX6_copy_b55 (C : mx p s m args meth c yX6_copy cX6_copy 8 (some .int) A D cy st) {r : Int32} {d9 : Dt} : ∀ (x0 : Nat) (d : Dt), fX6_copy_b55 sh x0 d = some (r, d9) → ∀ {H : Heap} {locs : List Loc} {ls : Array Slot}, HW A D cy sz sh d H → va_S A s.heap H locs → lv_has ls 8 [(0, .ref x0)] → GL p l e s m args below meth c 2 54 A D cy (some (.int r)) sz sh d9 H locs 55 ls [] := by
  have hx := C.1
  have hb := C.2.1
  intro x0 d hf H locs ls hw hS hl
  unfold fX6_copy_b55 at hf
  refine lv_aload_n hx hb dX6_copy_55 rfl (lv_at hl 0 rfl) ?_
  refine lv_iconst (v := 2) hx hb dX6_copy_56 (by decide) ?_
  obtain ⟨_, h1, hf⟩ := bd_s hf
  obtain ⟨r3, d4, h2, hf⟩ := bd2_s hf
  refine cl_V0 C hw hS (tX6_found l A D cy st sz sh d x0 (2 : Int32) h2) cvX6_found kw_258 (kc_k h1) ⟨(Nat.le_of_ble_eq_true rfl), (Nat.le_of_ble_eq_true rfl)⟩ hl.1 rfl (Nat.le_of_ble_eq_true rfl) dX6_copy_57 ⟨Nat.zero_le _, Nat.zero_le _⟩ (fun H locs hw hS => ?_)
  cases hf
  exact rt_i C hw hS dX6_copy_60

set_option maxRecDepth 100000 in
set_option maxHeartbeats 4000000 in
theorem wX6_copy_b0 (C : mx p s m args meth c yX6_copy cX6_copy 8 (some .int) A D cy st) {r : Int32} {d9 : Dt} : ∀ (x0 : Nat) (x1 : Int32) (x2 : Int32) (x3 : Int32) (x4 : Int32) (x5 : Int32) (d : Dt), fX6_copy_b0 sh x0 x1 x2 x3 x4 x5 d = some (r, d9) → ∀ {H : Heap} {locs : List Loc} {ls : Array Slot}, HW A D cy sz sh d H → va_S A s.heap H locs → lv_has ls 8 [(0, .ref x0), (1, .int x1), (2, .int x2), (3, .int x3), (4, .int x4), (5, .int x5)] → GL p l e s m args below meth c 2 54 A D cy (some (.int r)) sz sh d9 H locs 0 ls [] := by
  have hx := C.1
  have hb := C.2.1
  intro x0 x1 x2 x3 x4 x5 d hf H locs ls hw hS hl
  unfold fX6_copy_b0 at hf
  refine lv_aload_n hx hb dX6_copy_0 rfl (lv_at hl 0 rfl) ?_
  refine lv_iload_n hx hb dX6_copy_1 rfl (lv_at hl 1 rfl) ?_
  obtain ⟨_, h1, hf⟩ := bd_s hf
  obtain ⟨r3, h2, hf⟩ := bd_s hf
  refine cl_V0 C hw hS (tX6_handAt l A D cy st sz sh d x0 x1 h2) cvX6_handAt kw_233 (kc_k h1) ⟨(Nat.le_of_ble_eq_true rfl), (Nat.le_of_ble_eq_true rfl)⟩ hl.1 rfl (Nat.le_of_ble_eq_true rfl) dX6_copy_2 ⟨Nat.zero_le _, Nat.zero_le _⟩ (fun H locs hw hS => ?_)
  refine lq_astore (x := r3) (lv' := [(6, va_rf r3), (0, .ref x0), (1, .int x1), (2, .int x2), (3, .int x3), (4, .int x4), (5, .int x5)]) hx hb dX6_copy_5 hl (by decide) rfl (fun ls hl => ?_)
  refine lv_aload_n hx hb dX6_copy_7 rfl (lv_at hl 1 rfl) ?_
  refine lv_iload_n hx hb dX6_copy_8 rfl (lv_at hl 4 rfl) ?_
  obtain ⟨r5, h4, hf⟩ := bd_s hf
  refine cl_V0 C hw hS (tX6_handAt l A D cy st sz sh d x0 x3 h4) cvX6_handAt kw_233 (kc_k h1) ⟨(Nat.le_of_ble_eq_true rfl), (Nat.le_of_ble_eq_true rfl)⟩ hl.1 rfl (Nat.le_of_ble_eq_true rfl) dX6_copy_9 ⟨Nat.zero_le _, Nat.zero_le _⟩ (fun H locs hw hS => ?_)
  refine lq_astore (i := 7) (x := r5) (lv' := [(7, va_rf r5), (6, va_rf r3), (0, .ref x0), (1, .int x1), (2, .int x2), (3, .int x3), (4, .int x4), (5, .int x5)]) hx hb dX6_copy_12 hl (by decide) (by simp [va_rf_c, cat_i, cat_l, cat_r]) (fun ls hl => ?_)
  refine lq_aload hx hb dX6_copy_14 (lv_at hl 1 rfl) ?_
  cases r3 with
  | none =>
    have hf := on_n hf
    refine lv_ifnullN (tgt := 24) hx hb dX6_copy_16 (by decide) ?_
    refine lv_iconst (v := -1) hx hb dX6_copy_24 (by decide) ?_
    cases hf
    exact rt_i C hw hS dX6_copy_25
  | some a6 =>
    have hf := on_s hf
    refine lv_ifnull hx hb dX6_copy_16 ?_
    refine lq_aload hx hb dX6_copy_19 (lv_at hl 0 rfl) ?_
    cases r5 with
    | none =>
      have hf := on_n hf
      refine lv_ifnonnullN hx hb dX6_copy_21 ?_
      refine lv_iconst (v := -1) hx hb dX6_copy_24 (by decide) ?_
      cases hf
      exact rt_i C hw hS dX6_copy_25
    | some a7 =>
      have hf := on_s hf
      refine lv_ifnonnull (tgt := 26) hx hb dX6_copy_21 (by decide) ?_
      refine lq_aload hx hb dX6_copy_26 (lv_at hl 1 rfl) ?_
      obtain ⟨v8, hv8, hf⟩ := bd_s hf
      refine gt_101 C hw hv8 kw_161 dX6_copy_28 ?_
      refine lv_iload_n hx hb dX6_copy_31 rfl (lv_at hl 4 rfl) ?_
      refine lv_iload hx hb dX6_copy_32 (lv_at hl 7 rfl) ?_
      obtain ⟨a9, ea9, hg⟩ := bd_s hf
      clear hf
      subst ea9
      have hf := hg
      clear hg
      obtain ⟨_, h10, hf⟩ := bd_s hf
      obtain ⟨r12, h11, hf⟩ := bd_s hf
      refine cl_V0 C hw hS (tX2_spans l A D cy st sz sh d a9 x2 x5 h11) cvX2_spans kw_718 (kc_k h10) ⟨(Nat.le_of_ble_eq_true rfl), (Nat.le_of_ble_eq_true rfl)⟩ hl.1 rfl (Nat.le_of_ble_eq_true rfl) dX6_copy_34 ⟨Nat.zero_le _, Nat.zero_le _⟩ (fun H locs hw hS => ?_)
      refine lv_if_eq (tgt := 55) hx hb dX6_copy_37 (by decide) (fun c_13 => ?_) (fun c_13 => ?_)
      · have hf := if_t c_13 hf
        exact wX6_copy_b55 C x0 d hf hw hS (lv_sub hl [2] rfl)
      · have hf := if_f c_13 hf
        refine lq_aload hx hb dX6_copy_40 (lv_at hl 0 rfl) ?_
        obtain ⟨v14, hv14, hf⟩ := bd_s hf
        refine gt_101 C hw hv14 kw_161 dX6_copy_42 ?_
        refine lv_iload hx hb dX6_copy_45 (lv_at hl 6 rfl) ?_
        refine lv_iload hx hb dX6_copy_47 (lv_at hl 7 rfl) ?_
        obtain ⟨a15, ea15, hg⟩ := bd_s hf
        clear hf
        subst ea15
        have hf := hg
        clear hg
        obtain ⟨_, h16, hf⟩ := bd_s hf
        obtain ⟨r18, h17, hf⟩ := bd_s hf
        refine cl_V0 C hw hS (tX2_spans l A D cy st sz sh d a15 x4 x5 h17) cvX2_spans kw_718 (kc_k h16) ⟨(Nat.le_of_ble_eq_true rfl), (Nat.le_of_ble_eq_true rfl)⟩ hl.1 rfl (Nat.le_of_ble_eq_true rfl) dX6_copy_49 ⟨Nat.zero_le _, Nat.zero_le _⟩ (fun H locs hw hS => ?_)
        refine lv_if_ne (tgt := 61) hx hb dX6_copy_52 (by decide) (fun c_19 => ?_) (fun c_19 => ?_)
        · have hf := if_f c_19 hf
          refine lq_aload hx hb dX6_copy_61 (lv_at hl 1 rfl) ?_
          obtain ⟨v20, hv20, hf⟩ := bd_s hf
          refine gt_101 C hw hv20 kw_161 dX6_copy_63 ?_
          refine lv_iload_n hx hb dX6_copy_66 rfl (lv_at hl 4 rfl) ?_
          refine lq_aload hx hb dX6_copy_67 (lv_at hl 0 rfl) ?_
          obtain ⟨v21, hv21, hf⟩ := bd_s hf
          refine gt_101 C hw hv21 kw_161 dX6_copy_69 ?_
          refine lv_iload hx hb dX6_copy_72 (lv_at hl 6 rfl) ?_
          refine lv_iload hx hb dX6_copy_74 (lv_at hl 7 rfl) ?_
          obtain ⟨a22, ea22, hg⟩ := bd_s hf
          clear hf
          subst ea22
          have hf := hg
          clear hg
          obtain ⟨_, h23, hf⟩ := bd_s hf
          obtain ⟨d26, h24, hf⟩ := bd_s hf
          refine cl_V0 C hw hS (tX2_copyTo l A D cy st sz sh d a22 x2 v21 x4 x5 h24) cvX2_copyTo kw_750 (kc_k h23) ⟨(Nat.le_of_ble_eq_true rfl), (Nat.le_of_ble_eq_true rfl)⟩ hl.1 rfl (Nat.le_of_ble_eq_true rfl) dX6_copy_76 ⟨Nat.zero_le _, Nat.zero_le _⟩ (fun H locs hw hS => ?_)
          refine lv_iconst (v := 1) hx hb dX6_copy_79 (by decide) ?_
          cases hf
          exact rt_i C hw hS dX6_copy_80
        · have hf := if_t c_19 hf
          exact wX6_copy_b55 C x0 d hf hw hS (lv_sub hl [2] rfl)

set_option maxRecDepth 100000 in
set_option maxHeartbeats 4000000 in
theorem tX6_copy (l : Launch) (A : Nat → Prop) (D : va_G) (cy : Nat → ClassId) (st : Nat → Nat) (sz : Nat) (sh : Sh) (d : Dt) (x0 : Nat) (x1 : Int32) (x2 : Int32) (x3 : Int32) (x4 : Int32) (x5 : Int32) {r : Int32} {d9 : Dt} (hf : fX6_copy sh d x0 x1 x2 x3 x4 x5 = some (r, d9)) : Ct l yX6_copy cX6_copy 8 (some .int) 2 54 0 0 A D cy st [.ref x0, .int x1, .int x2, .int x3, .int x4, .int x5] sz sh d (some (.int r)) sz sh d9 := ct_of (by decide) (Nat.le_of_ble_eq_true rfl) (fun p e s m args below meth c C hw hS ls hl => wX6_copy_b0 C x0 x1 x2 x3 x4 x5 d hf hw hS hl)
theorem dX6_asked_0 : decode cX6_asked 0 = .ok (.aload_n 0, 1) := by decide +kernel
theorem dX6_asked_1 : decode cX6_asked 1 = .ok (.getfield 237, 3) := by decide +kernel
theorem dX6_asked_4 : decode cX6_asked 4 = .ok (.lreturn, 1) := by decide +kernel
theorem cvX6_asked : CV yX6_asked cX6_asked 1 (some .long) 7 0 := ⟨kw_756, kw_757, kw_1, kw_758, ⟨_, _, rfl⟩, by decide, by decide +kernel, by decide +kernel, by decide +kernel⟩
def fX6_asked_b0 (sh : Sh) (d : Dt) (x0 : Nat) : Option (Int64) := bd (gL sh d 8 265 x0) fun v1 => some v1

def fX6_asked (sh : Sh) (d : Dt) (x0 : Nat) : Option (Int64) := fX6_asked_b0 sh d x0

set_option maxRecDepth 100000 in
set_option maxHeartbeats 4000000 in
theorem wX6_asked_b0 (C : mx p s m args meth c yX6_asked cX6_asked 1 (some .long) A D cy st) {r : Int64} {d : Dt} : ∀ (x0 : Nat), fX6_asked_b0 sh d x0 = some r → ∀ {H : Heap} {locs : List Loc} {ls : Array Slot}, HW A D cy sz sh d H → va_S A s.heap H locs → lv_has ls 1 [(0, .ref x0)] → GL p l e s m args below meth c 0 0 A D cy (some (.long r)) sz sh d H locs 0 ls [] := by
  have hx := C.1
  have hb := C.2.1
  intro x0 hf H locs ls hw hS hl
  unfold fX6_asked_b0 at hf
  refine lv_aload_n hx hb dX6_asked_0 rfl (lv_at hl 0 rfl) ?_
  obtain ⟨v1, hv1, hf⟩ := bd_s hf
  refine gt_265 C hw hv1 kw_81 dX6_asked_1 ?_
  cases hf
  exact rt_l C hw hS dX6_asked_4

set_option maxRecDepth 100000 in
set_option maxHeartbeats 4000000 in
theorem tX6_asked (l : Launch) (A : Nat → Prop) (D : va_G) (cy : Nat → ClassId) (st : Nat → Nat) (sz : Nat) (sh : Sh) (d : Dt) (x0 : Nat) {r : Int64} (hf : fX6_asked sh d x0 = some r) : Ct l yX6_asked cX6_asked 1 (some .long) 0 0 0 0 A D cy st [.ref x0] sz sh d (some (.long r)) sz sh d := ct_of (by decide) (Nat.le_of_ble_eq_true rfl) (fun p e s m args below meth c C hw hS ls hl => wX6_asked_b0 C x0 hf hw hS hl)
theorem dX6_count_0 : decode cX6_count 0 = .ok (.iload_n 1, 1) := by decide +kernel
theorem dX6_count_1 : decode cX6_count 1 = .ok (.tableswitch 45 0 2 #[27, 32, 37], 27) := by decide +kernel
theorem dX6_count_28 : decode cX6_count 28 = .ok (.aload_n 0, 1) := by decide +kernel
theorem dX6_count_29 : decode cX6_count 29 = .ok (.getfield 42, 3) := by decide +kernel
theorem dX6_count_32 : decode cX6_count 32 = .ok (.ireturn, 1) := by decide +kernel
theorem dX6_count_33 : decode cX6_count 33 = .ok (.aload_n 0, 1) := by decide +kernel
theorem dX6_count_34 : decode cX6_count 34 = .ok (.getfield 57, 3) := by decide +kernel
theorem dX6_count_37 : decode cX6_count 37 = .ok (.ireturn, 1) := by decide +kernel
theorem dX6_count_38 : decode cX6_count 38 = .ok (.aload_n 0, 1) := by decide +kernel
theorem dX6_count_39 : decode cX6_count 39 = .ok (.getfield 24, 3) := by decide +kernel
theorem dX6_count_42 : decode cX6_count 42 = .ok (.invokevirtual 259, 3) := by decide +kernel
theorem dX6_count_45 : decode cX6_count 45 = .ok (.ireturn, 1) := by decide +kernel
theorem dX6_count_46 : decode cX6_count 46 = .ok (.iconst (-1), 1) := by decide +kernel
theorem dX6_count_47 : decode cX6_count 47 = .ok (.ireturn, 1) := by decide +kernel
theorem cvX6_count : CV yX6_count cX6_count 2 (some .int) 7 1 := ⟨kw_760, kw_761, kw_1, kw_762, ⟨_, _, rfl⟩, by decide, by decide +kernel, by decide +kernel, by decide +kernel⟩
def fX6_count_b0 (sh : Sh) (d : Dt) (x0 : Nat) (x1 : Int32) : Option (Int32) := if x1 = 0 then (bd (gI sh d 8 262 x0) fun v2 => some v2) else if x1 = 1 then (bd (gI sh d 8 263 x0) fun v4 => some v4) else if x1 = 2 then (bd (gR sh d 8 258 x0) fun v6 => bd v6 fun a7 => bd (kc sh 1 a7) fun _ => bd (fJx4a65c_size_8abf5 sh d a7) fun r10 => some r10) else (some (-1 : Int32))

def fX6_count (sh : Sh) (d : Dt) (x0 : Nat) (x1 : Int32) : Option (Int32) := fX6_count_b0 sh d x0 x1

set_option maxRecDepth 100000 in
set_option maxHeartbeats 4000000 in
theorem wX6_count_b0 (C : mx p s m args meth c yX6_count cX6_count 2 (some .int) A D cy st) {r : Int32} {d : Dt} : ∀ (x0 : Nat) (x1 : Int32), fX6_count_b0 sh d x0 x1 = some r → ∀ {H : Heap} {locs : List Loc} {ls : Array Slot}, HW A D cy sz sh d H → va_S A s.heap H locs → lv_has ls 2 [(0, .ref x0), (1, .int x1)] → GL p l e s m args below meth c 1 20 A D cy (some (.int r)) sz sh d H locs 0 ls [] := by
  have hx := C.1
  have hb := C.2.1
  intro x0 x1 hf H locs ls hw hS hl
  unfold fX6_count_b0 at hf
  refine lv_iload_n hx hb dX6_count_0 rfl (lv_at hl 1 rfl) ?_
  by_cases c_1 : x1 = 0
  · have hf := if_t c_1 hf
    refine lv_tableIn (tgt := 28) hx hb dX6_count_1 (by rw [c_1]; decide) (by rw [c_1]; decide) (by rw [c_1]; rfl) (by decide) ?_
    refine lv_aload_n hx hb dX6_count_28 rfl (lv_at hl 0 rfl) ?_
    obtain ⟨v2, hv2, hf⟩ := bd_s hf
    refine gt_262 C hw hv2 kw_78 dX6_count_29 ?_
    cases hf
    exact rt_i C hw hS dX6_count_32
  have hf := if_f c_1 hf
  by_cases c_3 : x1 = 1
  · have hf := if_t c_3 hf
    refine lv_tableIn (tgt := 33) hx hb dX6_count_1 (by rw [c_3]; decide) (by rw [c_3]; decide) (by rw [c_3]; rfl) (by decide) ?_
    refine lv_aload_n hx hb dX6_count_33 rfl (lv_at hl 0 rfl) ?_
    obtain ⟨v4, hv4, hf⟩ := bd_s hf
    refine gt_263 C hw hv4 kw_79 dX6_count_34 ?_
    cases hf
    exact rt_i C hw hS dX6_count_37
  have hf := if_f c_3 hf
  by_cases c_5 : x1 = 2
  · have hf := if_t c_5 hf
    refine lv_tableIn (tgt := 38) hx hb dX6_count_1 (by rw [c_5]; decide) (by rw [c_5]; decide) (by rw [c_5]; rfl) (by decide) ?_
    refine lv_aload_n hx hb dX6_count_38 rfl (lv_at hl 0 rfl) ?_
    obtain ⟨v6, hv6, hf⟩ := bd_s hf
    refine gt_258 C hw hv6 kw_74 dX6_count_39 ?_
    obtain ⟨a7, ea7, hg⟩ := bd_s hf
    clear hf
    subst ea7
    have hf := hg
    clear hg
    obtain ⟨_, h8, hf⟩ := bd_s hf
    obtain ⟨r10, h9, hf⟩ := bd_s hf
    refine cl_V0 C hw hS (tJx4a65c_size_8abf5 l A D cy st sz sh d a7 h9) cvJx4a65c_size_8abf5 kw_245 (kc_k h8) ⟨(Nat.le_of_ble_eq_true rfl), (Nat.le_of_ble_eq_true rfl)⟩ hl.1 rfl (Nat.le_of_ble_eq_true rfl) dX6_count_42 ⟨Nat.zero_le _, Nat.zero_le _⟩ (fun H locs hw hS => ?_)
    cases hf
    exact rt_i C hw hS dX6_count_45
  have hf := if_f c_5 hf
  refine lv_tableOut (tgt := 46) hx hb dX6_count_1 (by have z0 := lv_neT (a := 0) c_1 (by decide); have z1 := lv_neT (a := 1) c_3 (by decide); have z2 := lv_neT (a := 2) c_5 (by decide); omega) (by decide) ?_
  refine lv_iconst (v := -1) hx hb dX6_count_46 (by decide) ?_
  cases hf
  exact rt_i C hw hS dX6_count_47

set_option maxRecDepth 100000 in
set_option maxHeartbeats 4000000 in
theorem tX6_count (l : Launch) (A : Nat → Prop) (D : va_G) (cy : Nat → ClassId) (st : Nat → Nat) (sz : Nat) (sh : Sh) (d : Dt) (x0 : Nat) (x1 : Int32) {r : Int32} (hf : fX6_count sh d x0 x1 = some r) : Ct l yX6_count cX6_count 2 (some .int) 1 20 0 0 A D cy st [.ref x0, .int x1] sz sh d (some (.int r)) sz sh d := ct_of (by decide) (Nat.le_of_ble_eq_true rfl) (fun p e s m args below meth c C hw hS ls hl => wX6_count_b0 C x0 x1 hf hw hS hl)
theorem dX6_finding_0 : decode cX6_finding 0 = .ok (.aload_n 0, 1) := by decide +kernel
theorem dX6_finding_1 : decode cX6_finding 1 = .ok (.getfield 260, 3) := by decide +kernel
theorem dX6_finding_4 : decode cX6_finding 4 = .ok (.ireturn, 1) := by decide +kernel
theorem cvX6_finding : CV yX6_finding cX6_finding 1 (some .int) 7 0 := ⟨kw_764, kw_765, kw_1, kw_766, ⟨_, _, rfl⟩, by decide, by decide +kernel, by decide +kernel, by decide +kernel⟩
def fX6_finding_b0 (sh : Sh) (d : Dt) (x0 : Nat) : Option (Int32) := bd (gI sh d 8 264 x0) fun v1 => some v1

def fX6_finding (sh : Sh) (d : Dt) (x0 : Nat) : Option (Int32) := fX6_finding_b0 sh d x0

set_option maxRecDepth 100000 in
set_option maxHeartbeats 4000000 in
theorem wX6_finding_b0 (C : mx p s m args meth c yX6_finding cX6_finding 1 (some .int) A D cy st) {r : Int32} {d : Dt} : ∀ (x0 : Nat), fX6_finding_b0 sh d x0 = some r → ∀ {H : Heap} {locs : List Loc} {ls : Array Slot}, HW A D cy sz sh d H → va_S A s.heap H locs → lv_has ls 1 [(0, .ref x0)] → GL p l e s m args below meth c 0 0 A D cy (some (.int r)) sz sh d H locs 0 ls [] := by
  have hx := C.1
  have hb := C.2.1
  intro x0 hf H locs ls hw hS hl
  unfold fX6_finding_b0 at hf
  refine lv_aload_n hx hb dX6_finding_0 rfl (lv_at hl 0 rfl) ?_
  obtain ⟨v1, hv1, hf⟩ := bd_s hf
  refine gt_264 C hw hv1 kw_80 dX6_finding_1 ?_
  cases hf
  exact rt_i C hw hS dX6_finding_4

set_option maxRecDepth 100000 in
set_option maxHeartbeats 4000000 in
theorem tX6_finding (l : Launch) (A : Nat → Prop) (D : va_G) (cy : Nat → ClassId) (st : Nat → Nat) (sz : Nat) (sh : Sh) (d : Dt) (x0 : Nat) {r : Int32} (hf : fX6_finding sh d x0 = some r) : Ct l yX6_finding cX6_finding 1 (some .int) 0 0 0 0 A D cy st [.ref x0] sz sh d (some (.int r)) sz sh d := ct_of (by decide) (Nat.le_of_ble_eq_true rfl) (fun p e s m args below meth c C hw hS ls hl => wX6_finding_b0 C x0 hf hw hS hl)
theorem dX6_findings_0 : decode cX6_findings 0 = .ok (.iload_n 1, 1) := by decide +kernel
theorem dX6_findings_1 : decode cX6_findings 1 = .ok (.iconst 1, 1) := by decide +kernel
theorem dX6_findings_2 : decode cX6_findings 2 = .ok (.if_icmp .lt 8, 3) := by decide +kernel
theorem dX6_findings_5 : decode cX6_findings 5 = .ok (.iload_n 1, 1) := by decide +kernel
theorem dX6_findings_6 : decode cX6_findings 6 = .ok (.iconst 5, 1) := by decide +kernel
theorem dX6_findings_7 : decode cX6_findings 7 = .ok (.if_icmp .le 7, 3) := by decide +kernel
theorem dX6_findings_10 : decode cX6_findings 10 = .ok (.iconst (-1), 1) := by decide +kernel
theorem dX6_findings_11 : decode cX6_findings 11 = .ok (.goto 9, 3) := by decide +kernel
theorem dX6_findings_14 : decode cX6_findings 14 = .ok (.aload_n 0, 1) := by decide +kernel
theorem dX6_findings_15 : decode cX6_findings 15 = .ok (.getfield 28, 3) := by decide +kernel
theorem dX6_findings_18 : decode cX6_findings 18 = .ok (.iload_n 1, 1) := by decide +kernel
theorem dX6_findings_19 : decode cX6_findings 19 = .ok (.iaload, 1) := by decide +kernel
theorem dX6_findings_20 : decode cX6_findings 20 = .ok (.ireturn, 1) := by decide +kernel
theorem cvX6_findings : CV yX6_findings cX6_findings 2 (some .int) 7 1 := ⟨kw_768, kw_769, kw_1, kw_770, ⟨_, _, rfl⟩, by decide, by decide +kernel, by decide +kernel, by decide +kernel⟩
def fX6_findings_b0 (sh : Sh) (d : Dt) (x0 : Nat) (x1 : Int32) : Option (Int32) := if x1 < (1 : Int32) then (some (-1 : Int32)) else (if x1 ≤ (5 : Int32) then (bd (gR sh d 8 259 x0) fun v3 => bd v3 fun a4 => bd (aI sh d 20 a4 x1) fun v5 => some v5) else (some (-1 : Int32)))

def fX6_findings (sh : Sh) (d : Dt) (x0 : Nat) (x1 : Int32) : Option (Int32) := fX6_findings_b0 sh d x0 x1

set_option maxRecDepth 100000 in
set_option maxHeartbeats 4000000 in
theorem wX6_findings_b0 (C : mx p s m args meth c yX6_findings cX6_findings 2 (some .int) A D cy st) {r : Int32} {d : Dt} : ∀ (x0 : Nat) (x1 : Int32), fX6_findings_b0 sh d x0 x1 = some r → ∀ {H : Heap} {locs : List Loc} {ls : Array Slot}, HW A D cy sz sh d H → va_S A s.heap H locs → lv_has ls 2 [(0, .ref x0), (1, .int x1)] → GL p l e s m args below meth c 0 0 A D cy (some (.int r)) sz sh d H locs 0 ls [] := by
  have hx := C.1
  have hb := C.2.1
  intro x0 x1 hf H locs ls hw hS hl
  unfold fX6_findings_b0 at hf
  refine lv_iload_n hx hb dX6_findings_0 rfl (lv_at hl 1 rfl) ?_
  refine lv_iconst (v := 1) hx hb dX6_findings_1 (by decide) ?_
  refine lv_icmp_lt (tgt := 10) hx hb dX6_findings_2 (by decide) (fun c_1 => ?_) (fun c_1 => ?_)
  · have hf := if_t c_1 hf
    refine lv_iconst (v := -1) hx hb dX6_findings_10 (by decide) ?_
    refine lv_goto (tgt := 20) hx hb dX6_findings_11 (by decide) ?_
    cases hf
    exact rt_i C hw hS dX6_findings_20
  · have hf := if_f c_1 hf
    refine lv_iload_n hx hb dX6_findings_5 rfl (lv_at hl 1 rfl) ?_
    refine lv_iconst (v := 5) hx hb dX6_findings_6 (by decide) ?_
    refine lv_icmp_le (tgt := 14) hx hb dX6_findings_7 (by decide) (fun c_2 => ?_) (fun c_2 => ?_)
    · have hf := if_t c_2 hf
      refine lv_aload_n hx hb dX6_findings_14 rfl (lv_at hl 0 rfl) ?_
      obtain ⟨v3, hv3, hf⟩ := bd_s hf
      refine gt_259 C hw hv3 kw_75 dX6_findings_15 ?_
      refine lv_iload_n hx hb dX6_findings_18 rfl (lv_at hl 1 rfl) ?_
      obtain ⟨a4, ea4, hg⟩ := bd_s hf
      clear hf
      subst ea4
      have hf := hg
      clear hg
      obtain ⟨v5, hv5, hf⟩ := bd_s hf
      refine w_iald C hw hv5 dX6_findings_19 ?_
      cases hf
      exact rt_i C hw hS dX6_findings_20
    · have hf := if_f c_2 hf
      refine lv_iconst (v := -1) hx hb dX6_findings_10 (by decide) ?_
      refine lv_goto (tgt := 20) hx hb dX6_findings_11 (by decide) ?_
      cases hf
      exact rt_i C hw hS dX6_findings_20

set_option maxRecDepth 100000 in
set_option maxHeartbeats 4000000 in
theorem tX6_findings (l : Launch) (A : Nat → Prop) (D : va_G) (cy : Nat → ClassId) (st : Nat → Nat) (sz : Nat) (sh : Sh) (d : Dt) (x0 : Nat) (x1 : Int32) {r : Int32} (hf : fX6_findings sh d x0 x1 = some r) : Ct l yX6_findings cX6_findings 2 (some .int) 0 0 0 0 A D cy st [.ref x0, .int x1] sz sh d (some (.int r)) sz sh d := ct_of (by decide) (Nat.le_of_ble_eq_true rfl) (fun p e s m args below meth c C hw hS ls hl => wX6_findings_b0 C x0 x1 hf hw hS hl)
theorem dX6_digest_0 : decode cX6_digest 0 = .ok (.aload_n 0, 1) := by decide +kernel
theorem dX6_digest_1 : decode cX6_digest 1 = .ok (.iload_n 1, 1) := by decide +kernel
theorem dX6_digest_2 : decode cX6_digest 2 = .ok (.invokevirtual 74, 3) := by decide +kernel
theorem dX6_digest_5 : decode cX6_digest 5 = .ok (.astore_n 2, 1) := by decide +kernel
theorem dX6_digest_6 : decode cX6_digest 6 = .ok (.aload_n 2, 1) := by decide +kernel
theorem dX6_digest_7 : decode cX6_digest 7 = .ok (.ifnonnull 5, 3) := by decide +kernel
theorem dX6_digest_10 : decode cX6_digest 10 = .ok (.lconst 0, 1) := by decide +kernel
theorem dX6_digest_11 : decode cX6_digest 11 = .ok (.lreturn, 1) := by decide +kernel
theorem dX6_digest_12 : decode cX6_digest 12 = .ok (.ldc2_w 263, 3) := by decide +kernel
theorem dX6_digest_15 : decode cX6_digest 15 = .ok (.lstore_n 3, 1) := by decide +kernel
theorem dX6_digest_16 : decode cX6_digest 16 = .ok (.iconst 0, 1) := by decide +kernel
theorem dX6_digest_17 : decode cX6_digest 17 = .ok (.istore 5, 2) := by decide +kernel
theorem dX6_digest_19 : decode cX6_digest 19 = .ok (.iload 5, 2) := by decide +kernel
theorem dX6_digest_21 : decode cX6_digest 21 = .ok (.iconst 4, 1) := by decide +kernel
theorem dX6_digest_22 : decode cX6_digest 22 = .ok (.if_icmp .gt 21, 3) := by decide +kernel
theorem dX6_digest_25 : decode cX6_digest 25 = .ok (.lload_n 3, 1) := by decide +kernel
theorem dX6_digest_26 : decode cX6_digest 26 = .ok (.aload_n 2, 1) := by decide +kernel
theorem dX6_digest_27 : decode cX6_digest 27 = .ok (.iload 5, 2) := by decide +kernel
theorem dX6_digest_29 : decode cX6_digest 29 = .ok (.invokevirtual 166, 3) := by decide +kernel
theorem dX6_digest_32 : decode cX6_digest 32 = .ok (.i2l, 1) := by decide +kernel
theorem dX6_digest_33 : decode cX6_digest 33 = .ok (.invokestatic 265, 3) := by decide +kernel
theorem dX6_digest_36 : decode cX6_digest 36 = .ok (.lstore_n 3, 1) := by decide +kernel
theorem dX6_digest_37 : decode cX6_digest 37 = .ok (.iinc 5 1, 3) := by decide +kernel
theorem dX6_digest_40 : decode cX6_digest 40 = .ok (.goto (-21), 3) := by decide +kernel
theorem dX6_digest_43 : decode cX6_digest 43 = .ok (.iconst 0, 1) := by decide +kernel
theorem dX6_digest_44 : decode cX6_digest 44 = .ok (.istore 5, 2) := by decide +kernel
theorem dX6_digest_46 : decode cX6_digest 46 = .ok (.iload 5, 2) := by decide +kernel
theorem dX6_digest_48 : decode cX6_digest 48 = .ok (.aload_n 0, 1) := by decide +kernel
theorem dX6_digest_49 : decode cX6_digest 49 = .ok (.getfield 57, 3) := by decide +kernel
theorem dX6_digest_52 : decode cX6_digest 52 = .ok (.if_icmp .ge 80, 3) := by decide +kernel
theorem dX6_digest_55 : decode cX6_digest 55 = .ok (.aload_n 0, 1) := by decide +kernel
theorem dX6_digest_56 : decode cX6_digest 56 = .ok (.iload 5, 2) := by decide +kernel
theorem dX6_digest_58 : decode cX6_digest 58 = .ok (.invokevirtual 63, 3) := by decide +kernel
theorem dX6_digest_61 : decode cX6_digest 61 = .ok (.astore 6, 2) := by decide +kernel
theorem dX6_digest_63 : decode cX6_digest 63 = .ok (.aload 6, 2) := by decide +kernel
theorem dX6_digest_65 : decode cX6_digest 65 = .ok (.ifnull 61, 3) := by decide +kernel
theorem dX6_digest_68 : decode cX6_digest 68 = .ok (.lload_n 3, 1) := by decide +kernel
theorem dX6_digest_69 : decode cX6_digest 69 = .ok (.aload 6, 2) := by decide +kernel
theorem dX6_digest_71 : decode cX6_digest 71 = .ok (.getfield 93, 3) := by decide +kernel
theorem dX6_digest_74 : decode cX6_digest 74 = .ok (.i2l, 1) := by decide +kernel
theorem dX6_digest_75 : decode cX6_digest 75 = .ok (.invokestatic 265, 3) := by decide +kernel
theorem dX6_digest_78 : decode cX6_digest 78 = .ok (.aload_n 2, 1) := by decide +kernel
theorem dX6_digest_79 : decode cX6_digest 79 = .ok (.getfield 78, 3) := by decide +kernel
theorem dX6_digest_82 : decode cX6_digest 82 = .ok (.aload 6, 2) := by decide +kernel
theorem dX6_digest_84 : decode cX6_digest 84 = .ok (.getfield 82, 3) := by decide +kernel
theorem dX6_digest_87 : decode cX6_digest 87 = .ok (.baload, 1) := by decide +kernel
theorem dX6_digest_88 : decode cX6_digest 88 = .ok (.ifCond .ne 7, 3) := by decide +kernel
theorem dX6_digest_91 : decode cX6_digest 91 = .ok (.iconst 1, 1) := by decide +kernel
theorem dX6_digest_92 : decode cX6_digest 92 = .ok (.goto 4, 3) := by decide +kernel
theorem dX6_digest_95 : decode cX6_digest 95 = .ok (.iconst 0, 1) := by decide +kernel
theorem dX6_digest_96 : decode cX6_digest 96 = .ok (.invokestatic 70, 3) := by decide +kernel
theorem dX6_digest_99 : decode cX6_digest 99 = .ok (.i2l, 1) := by decide +kernel
theorem dX6_digest_100 : decode cX6_digest 100 = .ok (.invokestatic 265, 3) := by decide +kernel
theorem dX6_digest_103 : decode cX6_digest 103 = .ok (.lstore_n 3, 1) := by decide +kernel
theorem dX6_digest_104 : decode cX6_digest 104 = .ok (.aload 6, 2) := by decide +kernel
theorem dX6_digest_106 : decode cX6_digest 106 = .ok (.aload_n 2, 1) := by decide +kernel
theorem dX6_digest_107 : decode cX6_digest 107 = .ok (.getfield 107, 3) := by decide +kernel
theorem dX6_digest_110 : decode cX6_digest 110 = .ok (.aload_n 0, 1) := by decide +kernel
theorem dX6_digest_111 : decode cX6_digest 111 = .ok (.getfield 35, 3) := by decide +kernel
theorem dX6_digest_114 : decode cX6_digest 114 = .ok (.invokevirtual 216, 3) := by decide +kernel
theorem dX6_digest_117 : decode cX6_digest 117 = .ok (.aload_n 0, 1) := by decide +kernel
theorem dX6_digest_118 : decode cX6_digest 118 = .ok (.getfield 35, 3) := by decide +kernel
theorem dX6_digest_121 : decode cX6_digest 121 = .ok (.lload_n 3, 1) := by decide +kernel
theorem dX6_digest_122 : decode cX6_digest 122 = .ok (.invokevirtual 269, 3) := by decide +kernel
theorem dX6_digest_125 : decode cX6_digest 125 = .ok (.lstore_n 3, 1) := by decide +kernel
theorem dX6_digest_126 : decode cX6_digest 126 = .ok (.iinc 5 1, 3) := by decide +kernel
theorem dX6_digest_129 : decode cX6_digest 129 = .ok (.goto (-83), 3) := by decide +kernel
theorem dX6_digest_132 : decode cX6_digest 132 = .ok (.aload_n 2, 1) := by decide +kernel
theorem dX6_digest_133 : decode cX6_digest 133 = .ok (.getfield 224, 3) := by decide +kernel
theorem dX6_digest_136 : decode cX6_digest 136 = .ok (.lload_n 3, 1) := by decide +kernel
theorem dX6_digest_137 : decode cX6_digest 137 = .ok (.invokevirtual 273, 3) := by decide +kernel
theorem dX6_digest_140 : decode cX6_digest 140 = .ok (.lreturn, 1) := by decide +kernel
theorem cvX6_digest : CV yX6_digest cX6_digest 7 (some .long) 7 1 := ⟨kw_772, kw_773, kw_1, kw_774, ⟨_, _, rfl⟩, by decide, by decide +kernel, by decide +kernel, by decide +kernel⟩
def fX6_digest_b96 (sh : Sh) (k46 : Nat → Option Nat → Int64 → Int32 → Dt → Option (Int64 × Dt)) (x0 : Nat) (x2 : Option Nat) (x5 : Int32) (x6 : Option Nat) (t0 : Int64) (t1 : Int32) (d : Dt) : Option (Int64 × Dt) := bd (fX6_oneIf sh d t1) fun r2 => bd (fX6_folded sh d t0 r2.toInt64) fun r4 => bd x2 fun a5 => bd (gR sh d 3 97 a5) fun v6 => bd (gR sh d 8 260 x0) fun v7 => bd x6 fun a8 => bd (kc sh 5 a8) fun _ => bd (fX3_tell sh d a8 v6 v7) fun d12 => bd (gR sh d12 8 260 x0) fun v13 => bd v13 fun a14 => bd (kc sh 7 a14) fun _ => bd (fX5_foldedOnto sh d12 a14 r4) fun r17 => k46 x0 (some a5) r17 (x5 + 1) d12

def fX6_digest_b46 (sh : Sh) : Nat → Nat → Option Nat → Int64 → Int32 → Dt → Option (Int64 × Dt)
  | 0, _, _, _, _, _ => none
  | n + 1, x0, x2, x3, x5, d => bd (gI sh d 8 263 x0) fun v1 => if v1 ≤ x5 then (bd x2 fun a3 => bd (gR sh d 3 101 a3) fun v4 => bd v4 fun a5 => bd (kc sh 4 a5) fun _ => bd (fX2_foldedOnto sh d a5 x3) fun r8 => some (r8, d)) else (bd (fX6_pageAt sh d x0 x5) fun r10 => on r10 (fX6_digest_b46 sh n x0 x2 x3 (x5 + 1) d) (fun a11 => bd (gI sh d 5 161 a11) fun v12 => bd (fX6_folded sh d x3 v12.toInt64) fun r14 => bd x2 fun a15 => bd (gR sh d 3 100 a15) fun v16 => bd (gI sh d 5 160 a11) fun v17 => bd v16 fun a18 => bd (aI sh d 22 a18 v17) fun v19 => if v19 = 0 then (fX6_digest_b96 sh (fX6_digest_b46 sh n) x0 (some a15) x5 (some a11) r14 (1 : Int32) d) else (fX6_digest_b96 sh (fX6_digest_b46 sh n) x0 (some a15) x5 (some a11) r14 (0 : Int32) d)))

def fX6_digest_b19 (sh : Sh) : Nat → Nat → Option Nat → Int64 → Int32 → Dt → Option (Int64 × Dt)
  | 0, _, _, _, _, _ => none
  | n + 1, x0, x2, x3, x5, d => if (4 : Int32) < x5 then (fX6_digest_b46 sh fu x0 x2 x3 (0 : Int32) d) else (bd x2 fun a2 => bd (kc sh 3 a2) fun _ => bd (fX1_report sh d a2 x5) fun r5 => bd (fX6_folded sh d x3 r5.toInt64) fun r7 => fX6_digest_b19 sh n x0 (some a2) r7 (x5 + 1) d)

def fX6_digest_b0 (sh : Sh) (x0 : Nat) (x1 : Int32) (d : Dt) : Option (Int64 × Dt) := bd (kc sh 8 x0) fun _ => bd (fX6_handAt sh d x0 x1) fun r3 => on r3 (some ((0 : Int64), d)) (fun a4 => fX6_digest_b19 sh fu x0 (some a4) (17 : Int64) (0 : Int32) d)

def fX6_digest (sh : Sh) (d : Dt) (x0 : Nat) (x1 : Int32) : Option (Int64 × Dt) := fX6_digest_b0 sh x0 x1 d

set_option maxRecDepth 100000 in
set_option maxHeartbeats 4000000 in
theorem wX6_digest_b96 (C : mx p s m args meth c yX6_digest cX6_digest 7 (some .long) A D cy st) {k46 : Nat → Option Nat → Int64 → Int32 → Dt → Option (Int64 × Dt)} {r : Int64} {d9 : Dt} (Hk46 : ∀ (x0 : Nat) (x2 : Option Nat) (x3 : Int64) (x5 : Int32) (d : Dt), k46 x0 x2 x3 x5 d = some (r, d9) → ∀ {H : Heap} {locs : List Loc} {ls : Array Slot}, HW A D cy sz sh d H → va_S A s.heap H locs → lv_has ls 7 [(0, .ref x0), (2, va_rf x2), (3, .long x3), (5, .int x5)] → GL p l e s m args below meth c 6 141 A D cy (some (.long r)) sz sh d9 H locs 46 ls []) : ∀ (x0 : Nat) (x2 : Option Nat) (x5 : Int32) (x6 : Option Nat) (t0 : Int64) (t1 : Int32) (d : Dt), fX6_digest_b96 sh k46 x0 x2 x5 x6 t0 t1 d = some (r, d9) → ∀ {H : Heap} {locs : List Loc} {ls : Array Slot}, HW A D cy sz sh d H → va_S A s.heap H locs → lv_has ls 7 [(0, .ref x0), (2, va_rf x2), (5, .int x5), (6, va_rf x6)] → GL p l e s m args below meth c 6 141 A D cy (some (.long r)) sz sh d9 H locs 96 ls [.int t1, .long t0] := by
  have hx := C.1
  have hb := C.2.1
  intro x0 x2 x5 x6 t0 t1 d hf H locs ls hw hS hl
  unfold fX6_digest_b96 at hf
  obtain ⟨r2, h1, hf⟩ := bd_s hf
  refine cl_S0 C hw hS (tX6_oneIf l A D cy st sz sh d t1 h1) csX6_oneIf kw_226 ⟨(Nat.le_of_ble_eq_true rfl), (Nat.le_of_ble_eq_true rfl)⟩ hl.1 rfl (Nat.le_of_ble_eq_true rfl) dX6_digest_96 ⟨Nat.zero_le _, Nat.zero_le _⟩ (fun H locs hw hS => ?_)
  refine lv_i2l hx hb dX6_digest_99 rfl ?_
  obtain ⟨r4, h3, hf⟩ := bd_s hf
  refine cl_S0 C hw hS (tX6_folded l A D cy st sz sh d t0 r2.toInt64 h3) csX6_folded kw_776 ⟨(Nat.le_of_ble_eq_true rfl), (Nat.le_of_ble_eq_true rfl)⟩ hl.1 rfl (Nat.le_of_ble_eq_true rfl) dX6_digest_100 ⟨Nat.zero_le _, Nat.zero_le _⟩ (fun H locs hw hS => ?_)
  refine lv_lstore_n (i := 3) (lv' := [(3, .long r4), (0, .ref x0), (2, va_rf x2), (5, .int x5), (6, va_rf x6)]) hx hb dX6_digest_103 rfl hl (by decide) (by simp [va_rf_c, cat_i, cat_l, cat_r]) (fun ls hl => ?_)
  refine lq_aload hx hb dX6_digest_104 (lv_at hl 4 rfl) ?_
  refine lq_aload_n hx hb dX6_digest_106 rfl (lv_at hl 2 rfl) ?_
  obtain ⟨a5, ea5, hg⟩ := bd_s hf
  clear hf
  subst ea5
  have hf := hg
  clear hg
  obtain ⟨v6, hv6, hf⟩ := bd_s hf
  refine gt_97 C hw hv6 kw_153 dX6_digest_107 ?_
  refine lv_aload_n hx hb dX6_digest_110 rfl (lv_at hl 1 rfl) ?_
  obtain ⟨v7, hv7, hf⟩ := bd_s hf
  refine gt_260 C hw hv7 kw_76 dX6_digest_111 ?_
  obtain ⟨a8, ea8, hg⟩ := bd_s hf
  clear hf
  subst ea8
  have hf := hg
  clear hg
  obtain ⟨_, h9, hf⟩ := bd_s hf
  obtain ⟨d12, h10, hf⟩ := bd_s hf
  refine cl_V0 C hw hS (tX3_tell l A D cy st sz sh d a8 v6 v7 h10) cvX3_tell kw_679 (kc_k h9) ⟨(Nat.le_of_ble_eq_true rfl), (Nat.le_of_ble_eq_true rfl)⟩ hl.1 rfl (Nat.le_of_ble_eq_true rfl) dX6_digest_114 ⟨Nat.zero_le _, Nat.zero_le _⟩ (fun H locs hw hS => ?_)
  refine lv_aload_n hx hb dX6_digest_117 rfl (lv_at hl 1 rfl) ?_
  obtain ⟨v13, hv13, hf⟩ := bd_s hf
  refine gt_260 C hw hv13 kw_76 dX6_digest_118 ?_
  refine lv_lload_n hx hb dX6_digest_121 rfl (lv_at hl 0 rfl) ?_
  obtain ⟨a14, ea14, hg⟩ := bd_s hf
  clear hf
  subst ea14
  have hf := hg
  clear hg
  obtain ⟨_, h15, hf⟩ := bd_s hf
  obtain ⟨r17, h16, hf⟩ := bd_s hf
  refine cl_V0 C hw hS (tX5_foldedOnto l A D cy st sz sh d12 a14 r4 h16) cvX5_foldedOnto kw_780 (kc_k h15) ⟨(Nat.le_of_ble_eq_true rfl), (Nat.le_of_ble_eq_true rfl)⟩ hl.1 rfl (Nat.le_of_ble_eq_true rfl) dX6_digest_122 ⟨Nat.zero_le _, Nat.zero_le _⟩ (fun H locs hw hS => ?_)
  refine lv_lstore_n (i := 3) (lv' := [(3, .long r17), (0, .ref x0), (2, va_rf (some a5)), (5, .int x5), (6, va_rf (some a8))]) hx hb dX6_digest_125 rfl hl (by decide) (by simp [va_rf_c, cat_i, cat_l, cat_r]) (fun ls hl => ?_)
  refine lv_iinc (v := (x5 + 1)) (lv' := [(5, .int (x5 + 1)), (3, .long r17), (0, .ref x0), (2, va_rf (some a5)), (6, va_rf (some a8))]) hx hb dX6_digest_126 hl (k := 3) rfl rfl (by decide) rfl (fun ls hl => ?_)
  refine lv_goto (tgt := 46) hx hb dX6_digest_129 (by decide) ?_
  exact Hk46 x0 (some a5) r17 (x5 + 1) d12 hf hw hS (lv_sub hl [2, 3, 1, 0] rfl)

set_option maxRecDepth 100000 in
set_option maxHeartbeats 4000000 in
theorem wX6_digest_b46 (C : mx p s m args meth c yX6_digest cX6_digest 7 (some .long) A D cy st) {r : Int64} {d9 : Dt} : ∀ (n : Nat) (x0 : Nat) (x2 : Option Nat) (x3 : Int64) (x5 : Int32) (d : Dt), fX6_digest_b46 sh n x0 x2 x3 x5 d = some (r, d9) → ∀ {H : Heap} {locs : List Loc} {ls : Array Slot}, HW A D cy sz sh d H → va_S A s.heap H locs → lv_has ls 7 [(0, .ref x0), (2, va_rf x2), (3, .long x3), (5, .int x5)] → GL p l e s m args below meth c 6 141 A D cy (some (.long r)) sz sh d9 H locs 46 ls [] := by
  have hx := C.1
  have hb := C.2.1
  intro n
  induction n with
  | zero => intro x0 x2 x3 x5 d hf; cases hf
  | succ n ih =>
    intro x0 x2 x3 x5 d hf H locs ls hw hS hl
    rw [fX6_digest_b46] at hf
    refine lv_iload hx hb dX6_digest_46 (lv_at hl 3 rfl) ?_
    refine lv_aload_n hx hb dX6_digest_48 rfl (lv_at hl 0 rfl) ?_
    obtain ⟨v1, hv1, hf⟩ := bd_s hf
    refine gt_263 C hw hv1 kw_79 dX6_digest_49 ?_
    refine lv_icmp_ge (tgt := 132) hx hb dX6_digest_52 (by decide) (fun c_2 => ?_) (fun c_2 => ?_)
    · have hf := if_t c_2 hf
      refine lq_aload_n hx hb dX6_digest_132 rfl (lv_at hl 1 rfl) ?_
      obtain ⟨a3, ea3, hg⟩ := bd_s hf
      clear hf
      subst ea3
      have hf := hg
      clear hg
      obtain ⟨v4, hv4, hf⟩ := bd_s hf
      refine gt_101 C hw hv4 kw_161 dX6_digest_133 ?_
      refine lv_lload_n hx hb dX6_digest_136 rfl (lv_at hl 2 rfl) ?_
      obtain ⟨a5, ea5, hg⟩ := bd_s hf
      clear hf
      subst ea5
      have hf := hg
      clear hg
      obtain ⟨_, h6, hf⟩ := bd_s hf
      obtain ⟨r8, h7, hf⟩ := bd_s hf
      refine cl_V0 C hw hS (tX2_foldedOnto l A D cy st sz sh d a5 x3 h7) cvX2_foldedOnto kw_785 (kc_k h6) ⟨(Nat.le_of_ble_eq_true rfl), (Nat.le_of_ble_eq_true rfl)⟩ hl.1 rfl (Nat.le_of_ble_eq_true rfl) dX6_digest_137 ⟨Nat.zero_le _, Nat.zero_le _⟩ (fun H locs hw hS => ?_)
      cases hf
      exact rt_l C hw hS dX6_digest_140
    · have hf := if_f c_2 hf
      refine lv_aload_n hx hb dX6_digest_55 rfl (lv_at hl 0 rfl) ?_
      refine lv_iload hx hb dX6_digest_56 (lv_at hl 3 rfl) ?_
      obtain ⟨r10, h9, hf⟩ := bd_s hf
      refine cl_V0 C hw hS (tX6_pageAt l A D cy st sz sh d x0 x5 h9) cvX6_pageAt kw_216 (gI_s hv1).1 ⟨(Nat.le_of_ble_eq_true rfl), (Nat.le_of_ble_eq_true rfl)⟩ hl.1 rfl (Nat.le_of_ble_eq_true rfl) dX6_digest_58 ⟨Nat.zero_le _, Nat.zero_le _⟩ (fun H locs hw hS => ?_)
      refine lq_astore (x := r10) (lv' := [(6, va_rf r10), (0, .ref x0), (2, va_rf x2), (3, .long x3), (5, .int x5)]) hx hb dX6_digest_61 hl (by decide) rfl (fun ls hl => ?_)
      refine lq_aload hx hb dX6_digest_63 (lv_at hl 0 rfl) ?_
      cases r10 with
      | none =>
        have hf := on_n hf
        refine lv_ifnullN (tgt := 126) hx hb dX6_digest_65 (by decide) ?_
        refine lv_iinc (v := (x5 + 1)) (lv' := [(5, .int (x5 + 1)), (6, va_rf none), (0, .ref x0), (2, va_rf x2), (3, .long x3)]) hx hb dX6_digest_126 hl (k := 4) rfl rfl (by decide) rfl (fun ls hl => ?_)
        refine lv_goto (tgt := 46) hx hb dX6_digest_129 (by decide) ?_
        exact ih x0 x2 x3 (x5 + 1) d hf hw hS (lv_sub hl [2, 3, 4, 0] rfl)
      | some a11 =>
        have hf := on_s hf
        refine lv_ifnull hx hb dX6_digest_65 ?_
        refine lv_lload_n hx hb dX6_digest_68 rfl (lv_at hl 3 rfl) ?_
        refine lq_aload hx hb dX6_digest_69 (lv_at hl 0 rfl) ?_
        obtain ⟨v12, hv12, hf⟩ := bd_s hf
        refine gt_161 C hw hv12 kw_199 dX6_digest_71 ?_
        refine lv_i2l hx hb dX6_digest_74 rfl ?_
        obtain ⟨r14, h13, hf⟩ := bd_s hf
        refine cl_S0 C hw hS (tX6_folded l A D cy st sz sh d x3 v12.toInt64 h13) csX6_folded kw_776 ⟨(Nat.le_of_ble_eq_true rfl), (Nat.le_of_ble_eq_true rfl)⟩ hl.1 rfl (Nat.le_of_ble_eq_true rfl) dX6_digest_75 ⟨Nat.zero_le _, Nat.zero_le _⟩ (fun H locs hw hS => ?_)
        refine lq_aload_n hx hb dX6_digest_78 rfl (lv_at hl 2 rfl) ?_
        obtain ⟨a15, ea15, hg⟩ := bd_s hf
        clear hf
        subst ea15
        have hf := hg
        clear hg
        obtain ⟨v16, hv16, hf⟩ := bd_s hf
        refine gt_100 C hw hv16 kw_159 dX6_digest_79 ?_
        refine lq_aload hx hb dX6_digest_82 (lv_at hl 0 rfl) ?_
        obtain ⟨v17, hv17, hf⟩ := bd_s hf
        refine gt_160 C hw hv17 kw_197 dX6_digest_84 ?_
        obtain ⟨a18, ea18, hg⟩ := bd_s hf
        clear hf
        subst ea18
        have hf := hg
        clear hg
        obtain ⟨v19, hv19, hf⟩ := bd_s hf
        refine w_zald C hw hv19 dX6_digest_87 ?_
        refine lv_if_ne (tgt := 95) hx hb dX6_digest_88 (by decide) (fun c_20 => ?_) (fun c_20 => ?_)
        · have hf := if_f c_20 hf
          refine lv_iconst (v := 0) hx hb dX6_digest_95 (by decide) ?_
          exact wX6_digest_b96 C ih x0 (some a15) x5 (some a11) r14 (0 : Int32) d hf hw hS (lv_sub hl [1, 2, 4, 0] rfl)
        · have hf := if_t c_20 hf
          refine lv_iconst (v := 1) hx hb dX6_digest_91 (by decide) ?_
          refine lv_goto (tgt := 96) hx hb dX6_digest_92 (by decide) ?_
          exact wX6_digest_b96 C ih x0 (some a15) x5 (some a11) r14 (1 : Int32) d hf hw hS (lv_sub hl [1, 2, 4, 0] rfl)

set_option maxRecDepth 100000 in
set_option maxHeartbeats 4000000 in
theorem wX6_digest_b19 (C : mx p s m args meth c yX6_digest cX6_digest 7 (some .long) A D cy st) {r : Int64} {d9 : Dt} : ∀ (n : Nat) (x0 : Nat) (x2 : Option Nat) (x3 : Int64) (x5 : Int32) (d : Dt), fX6_digest_b19 sh n x0 x2 x3 x5 d = some (r, d9) → ∀ {H : Heap} {locs : List Loc} {ls : Array Slot}, HW A D cy sz sh d H → va_S A s.heap H locs → lv_has ls 7 [(0, .ref x0), (2, va_rf x2), (3, .long x3), (5, .int x5)] → GL p l e s m args below meth c 6 141 A D cy (some (.long r)) sz sh d9 H locs 19 ls [] := by
  have hx := C.1
  have hb := C.2.1
  intro n
  induction n with
  | zero => intro x0 x2 x3 x5 d hf; cases hf
  | succ n ih =>
    intro x0 x2 x3 x5 d hf H locs ls hw hS hl
    rw [fX6_digest_b19] at hf
    refine lv_iload hx hb dX6_digest_19 (lv_at hl 3 rfl) ?_
    refine lv_iconst (v := 4) hx hb dX6_digest_21 (by decide) ?_
    refine lv_icmp_gt (tgt := 43) hx hb dX6_digest_22 (by decide) (fun c_1 => ?_) (fun c_1 => ?_)
    · have hf := if_t c_1 hf
      refine lv_iconst (v := 0) hx hb dX6_digest_43 (by decide) ?_
      refine lv_istore (lv' := [(5, .int (0 : Int32)), (0, .ref x0), (2, va_rf x2), (3, .long x3)]) hx hb dX6_digest_44 hl (by decide) rfl (fun ls hl => ?_)
      exact wX6_digest_b46 C fu x0 x2 x3 (0 : Int32) d hf hw hS (lv_sub hl [1, 2, 3, 0] rfl)
    · have hf := if_f c_1 hf
      refine lv_lload_n hx hb dX6_digest_25 rfl (lv_at hl 2 rfl) ?_
      refine lq_aload_n hx hb dX6_digest_26 rfl (lv_at hl 1 rfl) ?_
      refine lv_iload hx hb dX6_digest_27 (lv_at hl 3 rfl) ?_
      obtain ⟨a2, ea2, hg⟩ := bd_s hf
      clear hf
      subst ea2
      have hf := hg
      clear hg
      obtain ⟨_, h3, hf⟩ := bd_s hf
      obtain ⟨r5, h4, hf⟩ := bd_s hf
      refine cl_V0 C hw hS (tX1_report l A D cy st sz sh d a2 x5 h4) cvX1_report kw_578 (kc_k h3) ⟨(Nat.le_of_ble_eq_true rfl), (Nat.le_of_ble_eq_true rfl)⟩ hl.1 rfl (Nat.le_of_ble_eq_true rfl) dX6_digest_29 ⟨Nat.zero_le _, Nat.zero_le _⟩ (fun H locs hw hS => ?_)
      refine lv_i2l hx hb dX6_digest_32 rfl ?_
      obtain ⟨r7, h6, hf⟩ := bd_s hf
      refine cl_S0 C hw hS (tX6_folded l A D cy st sz sh d x3 r5.toInt64 h6) csX6_folded kw_776 ⟨(Nat.le_of_ble_eq_true rfl), (Nat.le_of_ble_eq_true rfl)⟩ hl.1 rfl (Nat.le_of_ble_eq_true rfl) dX6_digest_33 ⟨Nat.zero_le _, Nat.zero_le _⟩ (fun H locs hw hS => ?_)
      refine lv_lstore_n (i := 3) (lv' := [(3, .long r7), (0, .ref x0), (2, va_rf (some a2)), (5, .int x5)]) hx hb dX6_digest_36 rfl hl (by decide) (by simp [va_rf_c, cat_i, cat_l, cat_r]) (fun ls hl => ?_)
      refine lv_iinc (v := (x5 + 1)) (lv' := [(5, .int (x5 + 1)), (3, .long r7), (0, .ref x0), (2, va_rf (some a2))]) hx hb dX6_digest_37 hl (k := 3) rfl rfl (by decide) rfl (fun ls hl => ?_)
      refine lv_goto (tgt := 19) hx hb dX6_digest_40 (by decide) ?_
      exact ih x0 (some a2) r7 (x5 + 1) d hf hw hS (lv_sub hl [2, 3, 1, 0] rfl)

set_option maxRecDepth 100000 in
set_option maxHeartbeats 4000000 in
theorem wX6_digest_b0 (C : mx p s m args meth c yX6_digest cX6_digest 7 (some .long) A D cy st) {r : Int64} {d9 : Dt} : ∀ (x0 : Nat) (x1 : Int32) (d : Dt), fX6_digest_b0 sh x0 x1 d = some (r, d9) → ∀ {H : Heap} {locs : List Loc} {ls : Array Slot}, HW A D cy sz sh d H → va_S A s.heap H locs → lv_has ls 7 [(0, .ref x0), (1, .int x1)] → GL p l e s m args below meth c 6 141 A D cy (some (.long r)) sz sh d9 H locs 0 ls [] := by
  have hx := C.1
  have hb := C.2.1
  intro x0 x1 d hf H locs ls hw hS hl
  unfold fX6_digest_b0 at hf
  refine lv_aload_n hx hb dX6_digest_0 rfl (lv_at hl 0 rfl) ?_
  refine lv_iload_n hx hb dX6_digest_1 rfl (lv_at hl 1 rfl) ?_
  obtain ⟨_, h1, hf⟩ := bd_s hf
  obtain ⟨r3, h2, hf⟩ := bd_s hf
  refine cl_V0 C hw hS (tX6_handAt l A D cy st sz sh d x0 x1 h2) cvX6_handAt kw_233 (kc_k h1) ⟨(Nat.le_of_ble_eq_true rfl), (Nat.le_of_ble_eq_true rfl)⟩ hl.1 rfl (Nat.le_of_ble_eq_true rfl) dX6_digest_2 ⟨Nat.zero_le _, Nat.zero_le _⟩ (fun H locs hw hS => ?_)
  refine lq_astore_n (x := r3) (lv' := [(2, va_rf r3), (0, .ref x0), (1, .int x1)]) hx hb dX6_digest_5 rfl hl (by decide) rfl (fun ls hl => ?_)
  refine lq_aload_n hx hb dX6_digest_6 rfl (lv_at hl 0 rfl) ?_
  cases r3 with
  | none =>
    have hf := on_n hf
    refine lv_ifnonnullN hx hb dX6_digest_7 ?_
    refine lv_lconst (v := 0) hx hb dX6_digest_10 (by decide) ?_
    cases hf
    exact rt_l C hw hS dX6_digest_11
  | some a4 =>
    have hf := on_s hf
    refine lv_ifnonnull (tgt := 12) hx hb dX6_digest_7 (by decide) ?_
    refine lv_ldc2 (v := 17) hx hb C.2.2.2.2.2.1 (C.2.2.2.2.1 _ kw_775) dX6_digest_12 ?_
    refine lv_lstore_n (i := 3) (lv' := [(3, .long (17 : Int64)), (2, va_rf (some a4)), (0, .ref x0), (1, .int x1)]) hx hb dX6_digest_15 rfl hl (by decide) (by simp [va_rf_c, cat_i, cat_l, cat_r]) (fun ls hl => ?_)
    refine lv_iconst (v := 0) hx hb dX6_digest_16 (by decide) ?_
    refine lv_istore (lv' := [(5, .int (0 : Int32)), (3, .long (17 : Int64)), (2, va_rf (some a4)), (0, .ref x0), (1, .int x1)]) hx hb dX6_digest_17 hl (by decide) rfl (fun ls hl => ?_)
    exact wX6_digest_b19 C fu x0 (some a4) (17 : Int64) (0 : Int32) d hf hw hS (lv_sub hl [3, 2, 1, 0] rfl)

set_option maxRecDepth 100000 in
set_option maxHeartbeats 4000000 in
theorem tX6_digest (l : Launch) (A : Nat → Prop) (D : va_G) (cy : Nat → ClassId) (st : Nat → Nat) (sz : Nat) (sh : Sh) (d : Dt) (x0 : Nat) (x1 : Int32) {r : Int64} {d9 : Dt} (hf : fX6_digest sh d x0 x1 = some (r, d9)) : Ct l yX6_digest cX6_digest 7 (some .long) 6 141 0 0 A D cy st [.ref x0, .int x1] sz sh d (some (.long r)) sz sh d9 := ct_of (by decide) (Nat.le_of_ble_eq_true rfl) (fun p e s m args below meth c C hw hS ls hl => wX6_digest_b0 C x0 x1 d hf hw hS hl)
end
