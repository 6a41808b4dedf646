section
variable {p : Program} {l : Launch} {e : Env} {s : State} {m : MethodId} {args : Array Value} {below : List Frame} {meth : Method} {c : Code} {A : Nat → Prop} {D : va_G} {cy : Nat → ClassId} {st : Nat → Nat} {sz : Nat} {sh : Sh}
theorem dX7_in_0 : decode cX7_in 0 = .ok (.iload_n 0, 1) := by decide +kernel
theorem dX7_in_1 : decode cX7_in 1 = .ok (.iload_n 1, 1) := by decide +kernel
theorem dX7_in_2 : decode cX7_in 2 = .ok (.if_icmp .lt 12, 3) := by decide +kernel
theorem dX7_in_5 : decode cX7_in 5 = .ok (.iload_n 0, 1) := by decide +kernel
theorem dX7_in_6 : decode cX7_in 6 = .ok (.iload_n 2, 1) := by decide +kernel
theorem dX7_in_7 : decode cX7_in 7 = .ok (.if_icmp .gt 7, 3) := by decide +kernel
theorem dX7_in_10 : decode cX7_in 10 = .ok (.iconst 1, 1) := by decide +kernel
theorem dX7_in_11 : decode cX7_in 11 = .ok (.goto 4, 3) := by decide +kernel
theorem dX7_in_14 : decode cX7_in 14 = .ok (.iconst 0, 1) := by decide +kernel
theorem dX7_in_15 : decode cX7_in 15 = .ok (.ireturn, 1) := by decide +kernel
theorem csX7_in : CS yX7_in cX7_in 3 (some .boolean) 3 := ⟨kw_891, kw_6, kw_892, by decide +kernel, by decide +kernel, by decide +kernel⟩
def fX7_in_b0 (sh : Sh) (d : Dt) (x0 : Int32) (x1 : Int32) (x2 : Int32) : Option (Bool) := if x0 < x1 then (some false) else (if x2 < x0 then (some false) else (some true))

def fX7_in (sh : Sh) (d : Dt) (x0 : Int32) (x1 : Int32) (x2 : Int32) : Option (Bool) := fX7_in_b0 sh d x0 x1 x2

set_option maxRecDepth 100000 in
set_option maxHeartbeats 4000000 in
theorem wX7_in_b0 (C : mx p s m args meth c yX7_in cX7_in 3 (some .boolean) A D cy st) {r : Bool} {d : Dt} : ∀ (x0 : Int32) (x1 : Int32) (x2 : Int32), fX7_in_b0 sh d x0 x1 x2 = some r → ∀ {H : Heap} {locs : List Loc} {ls : Array Slot}, HW A D cy sz sh d H → va_S A s.heap H locs → lv_has ls 3 [(0, .int x0), (1, .int x1), (2, .int x2)] → GL p l e s m args below meth c 0 0 A D cy (some (.int (bI r))) sz sh d H locs 0 ls [] := by
  have hx := C.1
  have hb := C.2.1
  intro x0 x1 x2 hf H locs ls hw hS hl
  unfold fX7_in_b0 at hf
  refine lv_iload_n hx hb dX7_in_0 rfl (lv_at hl 0 rfl) ?_
  refine lv_iload_n hx hb dX7_in_1 rfl (lv_at hl 1 rfl) ?_
  refine lv_icmp_lt (tgt := 14) hx hb dX7_in_2 (by decide) (fun c_1 => ?_) (fun c_1 => ?_)
  · have hf := if_t c_1 hf
    refine lv_iconst (v := 0) hx hb dX7_in_14 (by decide) ?_
    cases hf
    exact rt_z C hw hS _ rfl dX7_in_15
  · have hf := if_f c_1 hf
    refine lv_iload_n hx hb dX7_in_5 rfl (lv_at hl 0 rfl) ?_
    refine lv_iload_n hx hb dX7_in_6 rfl (lv_at hl 2 rfl) ?_
    refine lv_icmp_gt (tgt := 14) hx hb dX7_in_7 (by decide) (fun c_2 => ?_) (fun c_2 => ?_)
    · have hf := if_t c_2 hf
      refine lv_iconst (v := 0) hx hb dX7_in_14 (by decide) ?_
      cases hf
      exact rt_z C hw hS _ rfl dX7_in_15
    · have hf := if_f c_2 hf
      refine lv_iconst (v := 1) hx hb dX7_in_10 (by decide) ?_
      refine lv_goto (tgt := 15) hx hb dX7_in_11 (by decide) ?_
      cases hf
      exact rt_z C hw hS _ rfl dX7_in_15

set_option maxRecDepth 100000 in
set_option maxHeartbeats 4000000 in
theorem tX7_in (l : Launch) (A : Nat → Prop) (D : va_G) (cy : Nat → ClassId) (st : Nat → Nat) (sz : Nat) (sh : Sh) (d : Dt) (x0 : Int32) (x1 : Int32) (x2 : Int32) {r : Bool} (hf : fX7_in sh d x0 x1 x2 = some r) : Ct l yX7_in cX7_in 3 (some .boolean) 0 0 0 0 A D cy st [.int x0, .int x1, .int x2] sz sh d (some (.int (bI r))) sz sh d := ct_of (by decide) (Nat.le_of_ble_eq_true rfl) (fun p e s m args below meth c C hw hS ls hl => wX7_in_b0 C x0 x1 x2 hf hw hS hl)
theorem dX7_meets_0 : decode cX7_meets 0 = .ok (.aload_n 0, 1) := by decide +kernel
theorem dX7_meets_1 : decode cX7_meets 1 = .ok (.iload_n 1, 1) := by decide +kernel
theorem dX7_meets_2 : decode cX7_meets 2 = .ok (.putfield 78, 3) := by decide +kernel
theorem dX7_meets_5 : decode cX7_meets 5 = .ok (.aload_n 0, 1) := by decide +kernel
theorem dX7_meets_6 : decode cX7_meets 6 = .ok (.getfield 7, 3) := by decide +kernel
theorem dX7_meets_9 : decode cX7_meets 9 = .ok (.iload_n 1, 1) := by decide +kernel
theorem dX7_meets_10 : decode cX7_meets 10 = .ok (.dup2, 1) := by decide +kernel
theorem dX7_meets_11 : decode cX7_meets 11 = .ok (.iaload, 1) := by decide +kernel
theorem dX7_meets_12 : decode cX7_meets 12 = .ok (.iconst 1, 1) := by decide +kernel
theorem dX7_meets_13 : decode cX7_meets 13 = .ok (.iadd, 1) := by decide +kernel
theorem dX7_meets_14 : decode cX7_meets 14 = .ok (.iastore, 1) := by decide +kernel
theorem dX7_meets_15 : decode cX7_meets 15 = .ok (.bipush (-3), 2) := by decide +kernel
theorem dX7_meets_17 : decode cX7_meets 17 = .ok (.ireturn, 1) := by decide +kernel
theorem cvX7_meets : CV yX7_meets cX7_meets 2 (some .int) 8 1 := ⟨kw_942, ks_28, kw_6, kw_943, ⟨_, _, rfl⟩, by decide, by decide +kernel, by decide +kernel, by decide +kernel⟩
def fX7_meets_b0 (sh : Sh) (x0 : Nat) (x1 : Int32) (d : Dt) : Option (Int32 × Dt) := bd (pI sh d 9 288 x0 x1) fun d1 => bd (gR sh d1 9 289 x0) fun v2 => bd v2 fun a3 => bd (aI sh d1 20 a3 x1) fun v4 => bd (sI sh d1 20 a3 x1 (v4 + (1 : Int32))) fun d5 => some ((-3 : Int32), d5)

def fX7_meets (sh : Sh) (d : Dt) (x0 : Nat) (x1 : Int32) : Option (Int32 × Dt) := fX7_meets_b0 sh x0 x1 d

set_option maxRecDepth 100000 in
set_option maxHeartbeats 4000000 in
theorem wX7_meets_b0 (C : mx p s m args meth c yX7_meets cX7_meets 2 (some .int) A D cy st) {r : Int32} {d9 : Dt} : ∀ (x0 : Nat) (x1 : Int32) (d : Dt), fX7_meets_b0 sh x0 x1 d = some (r, d9) → ∀ {H : Heap} {locs : List Loc} {ls : Array Slot}, HW A D cy sz sh d H → va_S A s.heap H locs → lv_has ls 2 [(0, .ref x0), (1, .int x1)] → GL p l e s m args below meth c 0 0 A D cy (some (.int r)) sz sh d9 H locs 0 ls [] := by
  have hx := C.1
  have hb := C.2.1
  intro x0 x1 d hf H locs ls hw hS hl
  unfold fX7_meets_b0 at hf
  refine lv_aload_n hx hb dX7_meets_0 rfl (lv_at hl 0 rfl) ?_
  refine lv_iload_n hx hb dX7_meets_1 rfl (lv_at hl 1 rfl) ?_
  obtain ⟨d1, hd1, hf⟩ := bd_s hf
  refine pt_288 C hw hS hd1 kw_797 dX7_meets_2 (fun H locs hw hS => ?_)
  refine lv_aload_n hx hb dX7_meets_5 rfl (lv_at hl 0 rfl) ?_
  obtain ⟨v2, hv2, hf⟩ := bd_s hf
  refine gt_289 C hw hv2 kw_798 dX7_meets_6 ?_
  refine lv_iload_n hx hb dX7_meets_9 rfl (lv_at hl 1 rfl) ?_
  refine lv_dup2_11 hx hb dX7_meets_10 rfl (va_rf_c _) ?_
  obtain ⟨a3, ea3, hg⟩ := bd_s hf
  clear hf
  subst ea3
  have hf := hg
  clear hg
  obtain ⟨v4, hv4, hf⟩ := bd_s hf
  refine w_iald C hw hv4 dX7_meets_11 ?_
  refine lv_iconst (v := 1) hx hb dX7_meets_12 (by decide) ?_
  refine lv_iadd hx hb dX7_meets_13 ?_
  obtain ⟨d5, hd5, hf⟩ := bd_s hf
  refine w_iast C hw hS hd5 dX7_meets_14 (fun H locs hw hS => ?_)
  refine lv_bipush (v := -3) hx hb dX7_meets_15 (by decide) ?_
  cases hf
  exact rt_i C hw hS dX7_meets_17

set_option maxRecDepth 100000 in
set_option maxHeartbeats 4000000 in
theorem tX7_meets (l : Launch) (A : Nat → Prop) (D : va_G) (cy : Nat → ClassId) (st : Nat → Nat) (sz : Nat) (sh : Sh) (d : Dt) (x0 : Nat) (x1 : Int32) {r : Int32} {d9 : Dt} (hf : fX7_meets sh d x0 x1 = some (r, d9)) : Ct l yX7_meets cX7_meets 2 (some .int) 0 0 0 0 A D cy st [.ref x0, .int x1] sz sh d (some (.int r)) sz sh d9 := ct_of (by decide) (Nat.le_of_ble_eq_true rfl) (fun p e s m args below meth c C hw hS ls hl => wX7_meets_b0 C x0 x1 d hf hw hS hl)
theorem dX7_finding_0 : decode cX7_finding 0 = .ok (.aload_n 0, 1) := by decide +kernel
theorem dX7_finding_1 : decode cX7_finding 1 = .ok (.getfield 78, 3) := by decide +kernel
theorem dX7_finding_4 : decode cX7_finding 4 = .ok (.ireturn, 1) := by decide +kernel
theorem cvX7_finding : CV yX7_finding cX7_finding 1 (some .int) 8 0 := ⟨kw_883, kw_884, kw_6, kw_885, ⟨_, _, rfl⟩, by decide, by decide +kernel, by decide +kernel, by decide +kernel⟩
def fX7_finding_b0 (sh : Sh) (d : Dt) (x0 : Nat) : Option (Int32) := bd (gI sh d 9 288 x0) fun v1 => some v1

def fX7_finding (sh : Sh) (d : Dt) (x0 : Nat) : Option (Int32) := fX7_finding_b0 sh d x0

set_option maxRecDepth 100000 in
set_option maxHeartbeats 4000000 in
theorem wX7_finding_b0 (C : mx p s m args meth c yX7_finding cX7_finding 1 (some .int) A D cy st) {r : Int32} {d : Dt} : ∀ (x0 : Nat), fX7_finding_b0 sh d x0 = some r → ∀ {H : Heap} {locs : List Loc} {ls : Array Slot}, HW A D cy sz sh d H → va_S A s.heap H locs → lv_has ls 1 [(0, .ref x0)] → GL p l e s m args below meth c 0 0 A D cy (some (.int r)) sz sh d H locs 0 ls [] := by
  have hx := C.1
  have hb := C.2.1
  intro x0 hf H locs ls hw hS hl
  unfold fX7_finding_b0 at hf
  refine lv_aload_n hx hb dX7_finding_0 rfl (lv_at hl 0 rfl) ?_
  obtain ⟨v1, hv1, hf⟩ := bd_s hf
  refine gt_288 C hw hv1 kw_797 dX7_finding_1 ?_
  cases hf
  exact rt_i C hw hS dX7_finding_4

set_option maxRecDepth 100000 in
set_option maxHeartbeats 4000000 in
theorem tX7_finding (l : Launch) (A : Nat → Prop) (D : va_G) (cy : Nat → ClassId) (st : Nat → Nat) (sz : Nat) (sh : Sh) (d : Dt) (x0 : Nat) {r : Int32} (hf : fX7_finding sh d x0 = some r) : Ct l yX7_finding cX7_finding 1 (some .int) 0 0 0 0 A D cy st [.ref x0] sz sh d (some (.int r)) sz sh d := ct_of (by decide) (Nat.le_of_ble_eq_true rfl) (fun p e s m args below meth c C hw hS ls hl => wX7_finding_b0 C x0 hf hw hS hl)
theorem dX7_findings_0 : decode cX7_findings 0 = .ok (.iload_n 1, 1) := by decide +kernel
theorem dX7_findings_1 : decode cX7_findings 1 = .ok (.iconst 1, 1) := by decide +kernel
theorem dX7_findings_2 : decode cX7_findings 2 = .ok (.iconst 5, 1) := by decide +kernel
theorem dX7_findings_3 : decode cX7_findings 3 = .ok (.invokestatic 82, 3) := by decide +kernel
theorem dX7_findings_6 : decode cX7_findings 6 = .ok (.ifCond .eq 12, 3) := by decide +kernel
theorem dX7_findings_9 : decode cX7_findings 9 = .ok (.aload_n 0, 1) := by decide +kernel
theorem dX7_findings_10 : decode cX7_findings 10 = .ok (.getfield 7, 3) := by decide +kernel
theorem dX7_findings_13 : decode cX7_findings 13 = .ok (.iload_n 1, 1) := by decide +kernel
theorem dX7_findings_14 : decode cX7_findings 14 = .ok (.iaload, 1) := by decide +kernel
theorem dX7_findings_15 : decode cX7_findings 15 = .ok (.goto 4, 3) := by decide +kernel
theorem dX7_findings_18 : decode cX7_findings 18 = .ok (.iconst (-1), 1) := by decide +kernel
theorem dX7_findings_19 : decode cX7_findings 19 = .ok (.ireturn, 1) := by decide +kernel
theorem cvX7_findings : CV yX7_findings cX7_findings 2 (some .int) 8 1 := ⟨kw_887, kw_888, kw_6, kw_889, ⟨_, _, rfl⟩, by decide, by decide +kernel, by decide +kernel, by decide +kernel⟩
def fX7_findings_b0 (sh : Sh) (d : Dt) (x0 : Nat) (x1 : Int32) : Option (Int32) := bd (fX7_in sh d x1 (1 : Int32) (5 : Int32)) fun r2 => if (bI r2) = 0 then (some (-1 : Int32)) else (bd (gR sh d 9 289 x0) fun v4 => bd v4 fun a5 => bd (aI sh d 20 a5 x1) fun v6 => some v6)

def fX7_findings (sh : Sh) (d : Dt) (x0 : Nat) (x1 : Int32) : Option (Int32) := fX7_findings_b0 sh d x0 x1

set_option maxRecDepth 100000 in
set_option maxHeartbeats 4000000 in
theorem wX7_findings_b0 (C : mx p s m args meth c yX7_findings cX7_findings 2 (some .int) A D cy st) {r : Int32} {d : Dt} : ∀ (x0 : Nat) (x1 : Int32), fX7_findings_b0 sh d x0 x1 = some r → ∀ {H : Heap} {locs : List Loc} {ls : Array Slot}, HW A D cy sz sh d H → va_S A s.heap H locs → lv_has ls 2 [(0, .ref x0), (1, .int x1)] → GL p l e s m args below meth c 1 22 A D cy (some (.int r)) sz sh d H locs 0 ls [] := by
  have hx := C.1
  have hb := C.2.1
  intro x0 x1 hf H locs ls hw hS hl
  unfold fX7_findings_b0 at hf
  refine lv_iload_n hx hb dX7_findings_0 rfl (lv_at hl 1 rfl) ?_
  refine lv_iconst (v := 1) hx hb dX7_findings_1 (by decide) ?_
  refine lv_iconst (v := 5) hx hb dX7_findings_2 (by decide) ?_
  obtain ⟨r2, h1, hf⟩ := bd_s hf
  refine cl_S0 C hw hS (tX7_in l A D cy st sz sh d x1 (1 : Int32) (5 : Int32) h1) csX7_in kw_890 ⟨Nat.le_of_ble_eq_true rfl, Nat.le_of_ble_eq_true rfl⟩ hl.1 rfl (Nat.le_of_ble_eq_true rfl) dX7_findings_3 ⟨Nat.zero_le _, Nat.zero_le _⟩ (fun H locs hw hS => ?_)
  refine lv_if_eq (tgt := 18) hx hb dX7_findings_6 (by decide) (fun c_3 => ?_) (fun c_3 => ?_)
  · have hf := if_t c_3 hf
    refine lv_iconst (v := -1) hx hb dX7_findings_18 (by decide) ?_
    cases hf
    exact rt_i C hw hS dX7_findings_19
  · have hf := if_f c_3 hf
    refine lv_aload_n hx hb dX7_findings_9 rfl (lv_at hl 0 rfl) ?_
    obtain ⟨v4, hv4, hf⟩ := bd_s hf
    refine gt_289 C hw hv4 kw_798 dX7_findings_10 ?_
    refine lv_iload_n hx hb dX7_findings_13 rfl (lv_at hl 1 rfl) ?_
    obtain ⟨a5, ea5, hg⟩ := bd_s hf
    clear hf
    subst ea5
    have hf := hg
    clear hg
    obtain ⟨v6, hv6, hf⟩ := bd_s hf
    refine w_iald C hw hv6 dX7_findings_14 ?_
    refine lv_goto (tgt := 19) hx hb dX7_findings_15 (by decide) ?_
    cases hf
    exact rt_i C hw hS dX7_findings_19

set_option maxRecDepth 100000 in
set_option maxHeartbeats 4000000 in
theorem tX7_findings (l : Launch) (A : Nat → Prop) (D : va_G) (cy : Nat → ClassId) (st : Nat → Nat) (sz : Nat) (sh : Sh) (d : Dt) (x0 : Nat) (x1 : Int32) {r : Int32} (hf : fX7_findings sh d x0 x1 = some r) : Ct l yX7_findings cX7_findings 2 (some .int) 1 22 0 0 A D cy st [.ref x0, .int x1] sz sh d (some (.int r)) sz sh d := ct_of (by decide) (Nat.le_of_ble_eq_true rfl) (fun p e s m args below meth c C hw hS ls hl => wX7_findings_b0 C x0 x1 hf hw hS hl)
theorem dX7_isIn_0 : decode cX7_isIn 0 = .ok (.aload_n 0, 1) := by decide +kernel
theorem dX7_isIn_1 : decode cX7_isIn 1 = .ok (.bipush 7, 2) := by decide +kernel
theorem dX7_isIn_3 : decode cX7_isIn 3 = .ok (.iload_n 1, 1) := by decide +kernel
theorem dX7_isIn_4 : decode cX7_isIn 4 = .ok (.imul, 1) := by decide +kernel
theorem dX7_isIn_5 : decode cX7_isIn 5 = .ok (.iload_n 2, 1) := by decide +kernel
theorem dX7_isIn_6 : decode cX7_isIn 6 = .ok (.bipush 64, 2) := by decide +kernel
theorem dX7_isIn_8 : decode cX7_isIn 8 = .ok (.idiv, 1) := by decide +kernel
theorem dX7_isIn_9 : decode cX7_isIn 9 = .ok (.iadd, 1) := by decide +kernel
theorem dX7_isIn_10 : decode cX7_isIn 10 = .ok (.laload, 1) := by decide +kernel
theorem dX7_isIn_11 : decode cX7_isIn 11 = .ok (.iload_n 2, 1) := by decide +kernel
theorem dX7_isIn_12 : decode cX7_isIn 12 = .ok (.bipush 64, 2) := by decide +kernel
theorem dX7_isIn_14 : decode cX7_isIn 14 = .ok (.irem, 1) := by decide +kernel
theorem dX7_isIn_15 : decode cX7_isIn 15 = .ok (.lshr, 1) := by decide +kernel
theorem dX7_isIn_16 : decode cX7_isIn 16 = .ok (.lconst 1, 1) := by decide +kernel
theorem dX7_isIn_17 : decode cX7_isIn 17 = .ok (.land, 1) := by decide +kernel
theorem dX7_isIn_18 : decode cX7_isIn 18 = .ok (.lconst 1, 1) := by decide +kernel
theorem dX7_isIn_19 : decode cX7_isIn 19 = .ok (.lcmp, 1) := by decide +kernel
theorem dX7_isIn_20 : decode cX7_isIn 20 = .ok (.ifCond .ne 7, 3) := by decide +kernel
theorem dX7_isIn_23 : decode cX7_isIn 23 = .ok (.iconst 1, 1) := by decide +kernel
theorem dX7_isIn_24 : decode cX7_isIn 24 = .ok (.goto 4, 3) := by decide +kernel
theorem dX7_isIn_27 : decode cX7_isIn 27 = .ok (.iconst 0, 1) := by decide +kernel
theorem dX7_isIn_28 : decode cX7_isIn 28 = .ok (.ireturn, 1) := by decide +kernel
theorem csX7_isIn : CS yX7_isIn cX7_isIn 3 (some .boolean) 3 := ⟨kw_934, kw_6, kw_935, by decide +kernel, by decide +kernel, by decide +kernel⟩
def fX7_isIn_b0 (sh : Sh) (d : Dt) (x0 : Option Nat) (x1 : Int32) (x2 : Int32) : Option (Bool) := bd x0 fun a1 => bd (aL sh d 21 a1 (((7 : Int32) * x1) + (x2 / (64 : Int32)))) fun v2 => if (lg_cmp ((v2 >>> ((x2 - x2 / (64 : Int32) * (64 : Int32)).toInt64 &&& 63)) &&& (1 : Int64)) (1 : Int64)) = 0 then (some true) else (some false)

def fX7_isIn (sh : Sh) (d : Dt) (x0 : Option Nat) (x1 : Int32) (x2 : Int32) : Option (Bool) := fX7_isIn_b0 sh d x0 x1 x2

set_option maxRecDepth 100000 in
set_option maxHeartbeats 4000000 in
theorem wX7_isIn_b0 (C : mx p s m args meth c yX7_isIn cX7_isIn 3 (some .boolean) A D cy st) {r : Bool} {d : Dt} : ∀ (x0 : Option Nat) (x1 : Int32) (x2 : Int32), fX7_isIn_b0 sh d x0 x1 x2 = some r → ∀ {H : Heap} {locs : List Loc} {ls : Array Slot}, HW A D cy sz sh d H → va_S A s.heap H locs → lv_has ls 3 [(0, va_rf x0), (1, .int x1), (2, .int x2)] → GL p l e s m args below meth c 0 0 A D cy (some (.int (bI r))) sz sh d H locs 0 ls [] := by
  have hx := C.1
  have hb := C.2.1
  intro x0 x1 x2 hf H locs ls hw hS hl
  unfold fX7_isIn_b0 at hf
  refine lq_aload_n hx hb dX7_isIn_0 rfl (lv_at hl 0 rfl) ?_
  refine lv_bipush (v := 7) hx hb dX7_isIn_1 (by decide) ?_
  refine lv_iload_n hx hb dX7_isIn_3 rfl (lv_at hl 1 rfl) ?_
  refine lv_imul hx hb dX7_isIn_4 ?_
  refine lv_iload_n hx hb dX7_isIn_5 rfl (lv_at hl 2 rfl) ?_
  refine lv_bipush (v := 64) hx hb dX7_isIn_6 (by decide) ?_
  refine lv_idiv hx hb dX7_isIn_8 (by decide) ?_
  refine lv_iadd hx hb dX7_isIn_9 ?_
  obtain ⟨a1, ea1, hg⟩ := bd_s hf
  clear hf
  subst ea1
  have hf := hg
  clear hg
  obtain ⟨v2, hv2, hf⟩ := bd_s hf
  refine w_lald C hw hv2 dX7_isIn_10 ?_
  refine lv_iload_n hx hb dX7_isIn_11 rfl (lv_at hl 2 rfl) ?_
  refine lv_bipush (v := 64) hx hb dX7_isIn_12 (by decide) ?_
  refine lv_irem hx hb dX7_isIn_14 (by decide) ?_
  refine lv_lshr hx hb dX7_isIn_15 rfl ?_
  refine lv_lconst (v := 1) hx hb dX7_isIn_16 (by decide) ?_
  refine lv_land hx hb dX7_isIn_17 ?_
  refine lv_lconst (v := 1) hx hb dX7_isIn_18 (by decide) ?_
  refine W.lcmp hx hb dX7_isIn_19 ?_
  refine lv_if_ne (tgt := 27) hx hb dX7_isIn_20 (by decide) (fun c_3 => ?_) (fun c_3 => ?_)
  · have hf := if_f c_3 hf
    refine lv_iconst (v := 0) hx hb dX7_isIn_27 (by decide) ?_
    cases hf
    exact rt_z C hw hS _ rfl dX7_isIn_28
  · have hf := if_t c_3 hf
    refine lv_iconst (v := 1) hx hb dX7_isIn_23 (by decide) ?_
    refine lv_goto (tgt := 28) hx hb dX7_isIn_24 (by decide) ?_
    cases hf
    exact rt_z C hw hS _ rfl dX7_isIn_28

set_option maxRecDepth 100000 in
set_option maxHeartbeats 4000000 in
theorem tX7_isIn (l : Launch) (A : Nat → Prop) (D : va_G) (cy : Nat → ClassId) (st : Nat → Nat) (sz : Nat) (sh : Sh) (d : Dt) (x0 : Option Nat) (x1 : Int32) (x2 : Int32) {r : Bool} (hf : fX7_isIn sh d x0 x1 x2 = some r) : Ct l yX7_isIn cX7_isIn 3 (some .boolean) 0 0 0 0 A D cy st [va_rf x0, .int x1, .int x2] sz sh d (some (.int (bI r))) sz sh d := ct_of (by decide) (by simp [lg_sl, va_rf_c, cat_i, cat_l, cat_r]) (fun p e s m args below meth c C hw hS ls hl => wX7_isIn_b0 C x0 x1 x2 hf hw hS (by simpa [lv_args, va_rf_c, cat_i, cat_l, cat_r] using hl))
theorem dX7_enter_0 : decode cX7_enter 0 = .ok (.aload_n 0, 1) := by decide +kernel
theorem dX7_enter_1 : decode cX7_enter 1 = .ok (.bipush 7, 2) := by decide +kernel
theorem dX7_enter_3 : decode cX7_enter 3 = .ok (.iload_n 1, 1) := by decide +kernel
theorem dX7_enter_4 : decode cX7_enter 4 = .ok (.imul, 1) := by decide +kernel
theorem dX7_enter_5 : decode cX7_enter 5 = .ok (.iload_n 2, 1) := by decide +kernel
theorem dX7_enter_6 : decode cX7_enter 6 = .ok (.bipush 64, 2) := by decide +kernel
theorem dX7_enter_8 : decode cX7_enter 8 = .ok (.idiv, 1) := by decide +kernel
theorem dX7_enter_9 : decode cX7_enter 9 = .ok (.iadd, 1) := by decide +kernel
theorem dX7_enter_10 : decode cX7_enter 10 = .ok (.dup2, 1) := by decide +kernel
theorem dX7_enter_11 : decode cX7_enter 11 = .ok (.laload, 1) := by decide +kernel
theorem dX7_enter_12 : decode cX7_enter 12 = .ok (.lconst 1, 1) := by decide +kernel
theorem dX7_enter_13 : decode cX7_enter 13 = .ok (.iload_n 2, 1) := by decide +kernel
theorem dX7_enter_14 : decode cX7_enter 14 = .ok (.bipush 64, 2) := by decide +kernel
theorem dX7_enter_16 : decode cX7_enter 16 = .ok (.irem, 1) := by decide +kernel
theorem dX7_enter_17 : decode cX7_enter 17 = .ok (.lshl, 1) := by decide +kernel
theorem dX7_enter_18 : decode cX7_enter 18 = .ok (.lor, 1) := by decide +kernel
theorem dX7_enter_19 : decode cX7_enter 19 = .ok (.lastore, 1) := by decide +kernel
theorem dX7_enter_20 : decode cX7_enter 20 = .ok (.return_, 1) := by decide +kernel
theorem csX7_enter : CS yX7_enter cX7_enter 3 none 3 := ⟨kw_953, kw_6, kw_954, by decide +kernel, by decide +kernel, by decide +kernel⟩
def fX7_enter_b0 (sh : Sh) (x0 : Option Nat) (x1 : Int32) (x2 : Int32) (d : Dt) : Option (Dt) := bd x0 fun a1 => bd (aL sh d 21 a1 (((7 : Int32) * x1) + (x2 / (64 : Int32)))) fun v2 => bd (sL sh d 21 a1 (((7 : Int32) * x1) + (x2 / (64 : Int32))) (v2 ||| ((1 : Int64) <<< ((x2 - x2 / (64 : Int32) * (64 : Int32)).toInt64 &&& 63)))) fun d3 => some d3

def fX7_enter (sh : Sh) (d : Dt) (x0 : Option Nat) (x1 : Int32) (x2 : Int32) : Option (Dt) := fX7_enter_b0 sh x0 x1 x2 d

set_option maxRecDepth 100000 in
set_option maxHeartbeats 4000000 in
theorem wX7_enter_b0 (C : mx p s m args meth c yX7_enter cX7_enter 3 none A D cy st) {d9 : Dt} : ∀ (x0 : Option Nat) (x1 : Int32) (x2 : Int32) (d : Dt), fX7_enter_b0 sh x0 x1 x2 d = some d9 → ∀ {H : Heap} {locs : List Loc} {ls : Array Slot}, HW A D cy sz sh d H → va_S A s.heap H locs → lv_has ls 3 [(0, va_rf x0), (1, .int x1), (2, .int x2)] → GL p l e s m args below meth c 0 0 A D cy none sz sh d9 H locs 0 ls [] := by
  have hx := C.1
  have hb := C.2.1
  intro x0 x1 x2 d hf H locs ls hw hS hl
  unfold fX7_enter_b0 at hf
  refine lq_aload_n hx hb dX7_enter_0 rfl (lv_at hl 0 rfl) ?_
  refine lv_bipush (v := 7) hx hb dX7_enter_1 (by decide) ?_
  refine lv_iload_n hx hb dX7_enter_3 rfl (lv_at hl 1 rfl) ?_
  refine lv_imul hx hb dX7_enter_4 ?_
  refine lv_iload_n hx hb dX7_enter_5 rfl (lv_at hl 2 rfl) ?_
  refine lv_bipush (v := 64) hx hb dX7_enter_6 (by decide) ?_
  refine lv_idiv hx hb dX7_enter_8 (by decide) ?_
  refine lv_iadd hx hb dX7_enter_9 ?_
  refine lv_dup2_11 hx hb dX7_enter_10 rfl (va_rf_c _) ?_
  obtain ⟨a1, ea1, hg⟩ := bd_s hf
  clear hf
  subst ea1
  have hf := hg
  clear hg
  obtain ⟨v2, hv2, hf⟩ := bd_s hf
  refine w_lald C hw hv2 dX7_enter_11 ?_
  refine lv_lconst (v := 1) hx hb dX7_enter_12 (by decide) ?_
  refine lv_iload_n hx hb dX7_enter_13 rfl (lv_at hl 2 rfl) ?_
  refine lv_bipush (v := 64) hx hb dX7_enter_14 (by decide) ?_
  refine lv_irem hx hb dX7_enter_16 (by decide) ?_
  refine lv_lshl hx hb dX7_enter_17 rfl ?_
  refine lv_lor hx hb dX7_enter_18 ?_
  obtain ⟨d3, hd3, hf⟩ := bd_s hf
  refine w_last C hw hS hd3 dX7_enter_19 (fun H locs hw hS => ?_)
  cases hf
  exact rt_v C hw hS dX7_enter_20

set_option maxRecDepth 100000 in
set_option maxHeartbeats 4000000 in
theorem tX7_enter (l : Launch) (A : Nat → Prop) (D : va_G) (cy : Nat → ClassId) (st : Nat → Nat) (sz : Nat) (sh : Sh) (d : Dt) (x0 : Option Nat) (x1 : Int32) (x2 : Int32) {d9 : Dt} (hf : fX7_enter sh d x0 x1 x2 = some d9) : Ct l yX7_enter cX7_enter 3 none 0 0 0 0 A D cy st [va_rf x0, .int x1, .int x2] sz sh d none sz sh d9 := ct_of (by decide) (by simp [lg_sl, va_rf_c, cat_i, cat_l, cat_r]) (fun p e s m args below meth c C hw hS ls hl => wX7_enter_b0 C x0 x1 x2 d hf hw hS (by simpa [lv_args, va_rf_c, cat_i, cat_l, cat_r] using hl))
theorem dX7_leave_0 : decode cX7_leave 0 = .ok (.aload_n 0, 1) := by decide +kernel
theorem dX7_leave_1 : decode cX7_leave 1 = .ok (.bipush 7, 2) := by decide +kernel
theorem dX7_leave_3 : decode cX7_leave 3 = .ok (.iload_n 1, 1) := by decide +kernel
theorem dX7_leave_4 : decode cX7_leave 4 = .ok (.imul, 1) := by decide +kernel
theorem dX7_leave_5 : decode cX7_leave 5 = .ok (.iload_n 2, 1) := by decide +kernel
theorem dX7_leave_6 : decode cX7_leave 6 = .ok (.bipush 64, 2) := by decide +kernel
theorem dX7_leave_8 : decode cX7_leave 8 = .ok (.idiv, 1) := by decide +kernel
theorem dX7_leave_9 : decode cX7_leave 9 = .ok (.iadd, 1) := by decide +kernel
theorem dX7_leave_10 : decode cX7_leave 10 = .ok (.dup2, 1) := by decide +kernel
theorem dX7_leave_11 : decode cX7_leave 11 = .ok (.laload, 1) := by decide +kernel
theorem dX7_leave_12 : decode cX7_leave 12 = .ok (.lconst 1, 1) := by decide +kernel
theorem dX7_leave_13 : decode cX7_leave 13 = .ok (.iload_n 2, 1) := by decide +kernel
theorem dX7_leave_14 : decode cX7_leave 14 = .ok (.bipush 64, 2) := by decide +kernel
theorem dX7_leave_16 : decode cX7_leave 16 = .ok (.irem, 1) := by decide +kernel
theorem dX7_leave_17 : decode cX7_leave 17 = .ok (.lshl, 1) := by decide +kernel
theorem dX7_leave_18 : decode cX7_leave 18 = .ok (.ldc2_w 86, 3) := by decide +kernel
theorem dX7_leave_21 : decode cX7_leave 21 = .ok (.lxor, 1) := by decide +kernel
theorem dX7_leave_22 : decode cX7_leave 22 = .ok (.land, 1) := by decide +kernel
theorem dX7_leave_23 : decode cX7_leave 23 = .ok (.lastore, 1) := by decide +kernel
theorem dX7_leave_24 : decode cX7_leave 24 = .ok (.return_, 1) := by decide +kernel
theorem csX7_leave : CS yX7_leave cX7_leave 3 none 3 := ⟨kw_1028, kw_6, kw_1029, by decide +kernel, by decide +kernel, by decide +kernel⟩
def fX7_leave_b0 (sh : Sh) (x0 : Option Nat) (x1 : Int32) (x2 : Int32) (d : Dt) : Option (Dt) := bd x0 fun a1 => bd (aL sh d 21 a1 (((7 : Int32) * x1) + (x2 / (64 : Int32)))) fun v2 => bd (sL sh d 21 a1 (((7 : Int32) * x1) + (x2 / (64 : Int32))) (v2 &&& (((1 : Int64) <<< ((x2 - x2 / (64 : Int32) * (64 : Int32)).toInt64 &&& 63)) ^^^ (-1 : Int64)))) fun d3 => some d3

def fX7_leave (sh : Sh) (d : Dt) (x0 : Option Nat) (x1 : Int32) (x2 : Int32) : Option (Dt) := fX7_leave_b0 sh x0 x1 x2 d

set_option maxRecDepth 100000 in
set_option maxHeartbeats 4000000 in
theorem wX7_leave_b0 (C : mx p s m args meth c yX7_leave cX7_leave 3 none A D cy st) {d9 : Dt} : ∀ (x0 : Option Nat) (x1 : Int32) (x2 : Int32) (d : Dt), fX7_leave_b0 sh x0 x1 x2 d = some d9 → ∀ {H : Heap} {locs : List Loc} {ls : Array Slot}, HW A D cy sz sh d H → va_S A s.heap H locs → lv_has ls 3 [(0, va_rf x0), (1, .int x1), (2, .int x2)] → GL p l e s m args below meth c 0 0 A D cy none sz sh d9 H locs 0 ls [] := by
  have hx := C.1
  have hb := C.2.1
  intro x0 x1 x2 d hf H locs ls hw hS hl
  unfold fX7_leave_b0 at hf
  refine lq_aload_n hx hb dX7_leave_0 rfl (lv_at hl 0 rfl) ?_
  refine lv_bipush (v := 7) hx hb dX7_leave_1 (by decide) ?_
  refine lv_iload_n hx hb dX7_leave_3 rfl (lv_at hl 1 rfl) ?_
  refine lv_imul hx hb dX7_leave_4 ?_
  refine lv_iload_n hx hb dX7_leave_5 rfl (lv_at hl 2 rfl) ?_
  refine lv_bipush (v := 64) hx hb dX7_leave_6 (by decide) ?_
  refine lv_idiv hx hb dX7_leave_8 (by decide) ?_
  refine lv_iadd hx hb dX7_leave_9 ?_
  refine lv_dup2_11 hx hb dX7_leave_10 rfl (va_rf_c _) ?_
  obtain ⟨a1, ea1, hg⟩ := bd_s hf
  clear hf
  subst ea1
  have hf := hg
  clear hg
  obtain ⟨v2, hv2, hf⟩ := bd_s hf
  refine w_lald C hw hv2 dX7_leave_11 ?_
  refine lv_lconst (v := 1) hx hb dX7_leave_12 (by decide) ?_
  refine lv_iload_n hx hb dX7_leave_13 rfl (lv_at hl 2 rfl) ?_
  refine lv_bipush (v := 64) hx hb dX7_leave_14 (by decide) ?_
  refine lv_irem hx hb dX7_leave_16 (by decide) ?_
  refine lv_lshl hx hb dX7_leave_17 rfl ?_
  refine lv_ldc2 (v := -1) hx hb C.2.2.2.2.2.1 (C.2.2.2.2.1 _ kw_1022) dX7_leave_18 ?_
  refine lv_lxor hx hb dX7_leave_21 ?_
  refine lv_land hx hb dX7_leave_22 ?_
  obtain ⟨d3, hd3, hf⟩ := bd_s hf
  refine w_last C hw hS hd3 dX7_leave_23 (fun H locs hw hS => ?_)
  cases hf
  exact rt_v C hw hS dX7_leave_24

set_option maxRecDepth 100000 in
set_option maxHeartbeats 4000000 in
theorem tX7_leave (l : Launch) (A : Nat → Prop) (D : va_G) (cy : Nat → ClassId) (st : Nat → Nat) (sz : Nat) (sh : Sh) (d : Dt) (x0 : Option Nat) (x1 : Int32) (x2 : Int32) {d9 : Dt} (hf : fX7_leave sh d x0 x1 x2 = some d9) : Ct l yX7_leave cX7_leave 3 none 0 0 0 0 A D cy st [va_rf x0, .int x1, .int x2] sz sh d none sz sh d9 := ct_of (by decide) (by simp [lg_sl, va_rf_c, cat_i, cat_l, cat_r]) (fun p e s m args below meth c C hw hS ls hl => wX7_leave_b0 C x0 x1 x2 d hf hw hS (by simpa [lv_args, va_rf_c, cat_i, cat_l, cat_r] using hl))
theorem dX7_clear_0 : decode cX7_clear 0 = .ok (.iconst 0, 1) := by decide +kernel
theorem dX7_clear_1 : decode cX7_clear 1 = .ok (.istore_n 2, 1) := by decide +kernel
theorem dX7_clear_2 : decode cX7_clear 2 = .ok (.iload_n 2, 1) := by decide +kernel
theorem dX7_clear_3 : decode cX7_clear 3 = .ok (.bipush 7, 2) := by decide +kernel
theorem dX7_clear_5 : decode cX7_clear 5 = .ok (.if_icmp .ge 18, 3) := by decide +kernel
theorem dX7_clear_8 : decode cX7_clear 8 = .ok (.aload_n 0, 1) := by decide +kernel
theorem dX7_clear_9 : decode cX7_clear 9 = .ok (.bipush 7, 2) := by decide +kernel
theorem dX7_clear_11 : decode cX7_clear 11 = .ok (.iload_n 1, 1) := by decide +kernel
theorem dX7_clear_12 : decode cX7_clear 12 = .ok (.imul, 1) := by decide +kernel
theorem dX7_clear_13 : decode cX7_clear 13 = .ok (.iload_n 2, 1) := by decide +kernel
theorem dX7_clear_14 : decode cX7_clear 14 = .ok (.iadd, 1) := by decide +kernel
theorem dX7_clear_15 : decode cX7_clear 15 = .ok (.lconst 0, 1) := by decide +kernel
theorem dX7_clear_16 : decode cX7_clear 16 = .ok (.lastore, 1) := by decide +kernel
theorem dX7_clear_17 : decode cX7_clear 17 = .ok (.iinc 2 1, 3) := by decide +kernel
theorem dX7_clear_20 : decode cX7_clear 20 = .ok (.goto (-18), 3) := by decide +kernel
theorem dX7_clear_23 : decode cX7_clear 23 = .ok (.return_, 1) := by decide +kernel
theorem csX7_clear : CS yX7_clear cX7_clear 3 none 2 := ⟨kw_1048, kw_6, kw_1049, by decide +kernel, by decide +kernel, by decide +kernel⟩
def fX7_clear_b2 (sh : Sh) : Nat → Option Nat → Int32 → Int32 → Dt → Option (Dt)
  | 0, _, _, _, _ => none
  | n + 1, x0, x1, x2, d => if (7 : Int32) ≤ x2 then (some d) else (bd x0 fun a2 => bd (sL sh d 21 a2 (((7 : Int32) * x1) + x2) (0 : Int64)) fun d3 => fX7_clear_b2 sh n (some a2) x1 (x2 + 1) d3)

def fX7_clear_b0 (sh : Sh) (x0 : Option Nat) (x1 : Int32) (d : Dt) : Option (Dt) := fX7_clear_b2 sh fu x0 x1 (0 : Int32) d

def fX7_clear (sh : Sh) (d : Dt) (x0 : Option Nat) (x1 : Int32) : Option (Dt) := fX7_clear_b0 sh x0 x1 d

set_option maxRecDepth 100000 in
set_option maxHeartbeats 4000000 in
theorem wX7_clear_b2 (C : mx p s m args meth c yX7_clear cX7_clear 3 none A D cy st) {d9 : Dt} : ∀ (n : Nat) (x0 : Option Nat) (x1 : Int32) (x2 : Int32) (d : Dt), fX7_clear_b2 sh n x0 x1 x2 d = some d9 → ∀ {H : Heap} {locs : List Loc} {ls : Array Slot}, HW A D cy sz sh d H → va_S A s.heap H locs → lv_has ls 3 [(0, va_rf x0), (1, .int x1), (2, .int x2)] → GL p l e s m args below meth c 0 0 A D cy none sz sh d9 H locs 2 ls [] := by
  have hx := C.1
  have hb := C.2.1
  intro n
  induction n with
  | zero => intro x0 x1 x2 d hf; cases hf
  | succ n ih =>
    intro x0 x1 x2 d hf H locs ls hw hS hl
    rw [fX7_clear_b2] at hf
    refine lv_iload_n hx hb dX7_clear_2 rfl (lv_at hl 2 rfl) ?_
    refine lv_bipush (v := 7) hx hb dX7_clear_3 (by decide) ?_
    refine lv_icmp_ge (tgt := 23) hx hb dX7_clear_5 (by decide) (fun c_1 => ?_) (fun c_1 => ?_)
    · have hf := if_t c_1 hf
      cases hf
      exact rt_v C hw hS dX7_clear_23
    · have hf := if_f c_1 hf
      refine lq_aload_n hx hb dX7_clear_8 rfl (lv_at hl 0 rfl) ?_
      refine lv_bipush (v := 7) hx hb dX7_clear_9 (by decide) ?_
      refine lv_iload_n hx hb dX7_clear_11 rfl (lv_at hl 1 rfl) ?_
      refine lv_imul hx hb dX7_clear_12 ?_
      refine lv_iload_n hx hb dX7_clear_13 rfl (lv_at hl 2 rfl) ?_
      refine lv_iadd hx hb dX7_clear_14 ?_
      refine lv_lconst (v := 0) hx hb dX7_clear_15 (by decide) ?_
      obtain ⟨a2, ea2, hg⟩ := bd_s hf
      clear hf
      subst ea2
      have hf := hg
      clear hg
      obtain ⟨d3, hd3, hf⟩ := bd_s hf
      refine w_last C hw hS hd3 dX7_clear_16 (fun H locs hw hS => ?_)
      refine lv_iinc (v := (x2 + 1)) (lv' := [(2, .int (x2 + 1)), (0, va_rf (some a2)), (1, .int x1)]) hx hb dX7_clear_17 hl (k := 2) rfl rfl (by decide) rfl (fun ls hl => ?_)
      refine lv_goto (tgt := 2) hx hb dX7_clear_20 (by decide) ?_
      exact ih (some a2) x1 (x2 + 1) d3 hf hw hS (lv_sub hl [1, 2, 0] rfl)

set_option maxRecDepth 100000 in
set_option maxHeartbeats 4000000 in
theorem wX7_clear_b0 (C : mx p s m args meth c yX7_clear cX7_clear 3 none A D cy st) {d9 : Dt} : ∀ (x0 : Option Nat) (x1 : Int32) (d : Dt), fX7_clear_b0 sh x0 x1 d = some d9 → ∀ {H : Heap} {locs : List Loc} {ls : Array Slot}, HW A D cy sz sh d H → va_S A s.heap H locs → lv_has ls 3 [(0, va_rf x0), (1, .int x1)] → GL p l e s m args below meth c 0 0 A D cy none sz sh d9 H locs 0 ls [] := by
  have hx := C.1
  have hb := C.2.1
  intro x0 x1 d hf H locs ls hw hS hl
  unfold fX7_clear_b0 at hf
  refine lv_iconst (v := 0) hx hb dX7_clear_0 (by decide) ?_
  refine lv_istore_n (lv' := [(2, .int (0 : Int32)), (0, va_rf x0), (1, .int x1)]) hx hb dX7_clear_1 rfl hl (by decide) rfl (fun ls hl => ?_)
  exact wX7_clear_b2 C fu x0 x1 (0 : Int32) d hf hw hS (lv_sub hl [1, 2, 0] rfl)

set_option maxRecDepth 100000 in
set_option maxHeartbeats 4000000 in
theorem tX7_clear (l : Launch) (A : Nat → Prop) (D : va_G) (cy : Nat → ClassId) (st : Nat → Nat) (sz : Nat) (sh : Sh) (d : Dt) (x0 : Option Nat) (x1 : Int32) {d9 : Dt} (hf : fX7_clear sh d x0 x1 = some d9) : Ct l yX7_clear cX7_clear 3 none 0 0 0 0 A D cy st [va_rf x0, .int x1] sz sh d none sz sh d9 := ct_of (by decide) (by simp [lg_sl, va_rf_c, cat_i, cat_l, cat_r]) (fun p e s m args below meth c C hw hS ls hl => wX7_clear_b0 C x0 x1 d hf hw hS (by simpa [lv_args, va_rf_c, cat_i, cat_l, cat_r] using hl))
theorem dX7_size_0 : decode cX7_size 0 = .ok (.iconst 0, 1) := by decide +kernel
theorem dX7_size_1 : decode cX7_size 1 = .ok (.istore_n 3, 1) := by decide +kernel
theorem dX7_size_2 : decode cX7_size 2 = .ok (.iconst 0, 1) := by decide +kernel
theorem dX7_size_3 : decode cX7_size 3 = .ok (.istore 4, 2) := by decide +kernel
theorem dX7_size_5 : decode cX7_size 5 = .ok (.iload 4, 2) := by decide +kernel
theorem dX7_size_7 : decode cX7_size 7 = .ok (.aload_n 0, 1) := by decide +kernel
theorem dX7_size_8 : decode cX7_size 8 = .ok (.getfield 88, 3) := by decide +kernel
theorem dX7_size_11 : decode cX7_size 11 = .ok (.if_icmp .ge 27, 3) := by decide +kernel
theorem dX7_size_14 : decode cX7_size 14 = .ok (.iload_n 3, 1) := by decide +kernel
theorem dX7_size_15 : decode cX7_size 15 = .ok (.aload_n 1, 1) := by decide +kernel
theorem dX7_size_16 : decode cX7_size 16 = .ok (.iload_n 2, 1) := by decide +kernel
theorem dX7_size_17 : decode cX7_size 17 = .ok (.iload 4, 2) := by decide +kernel
theorem dX7_size_19 : decode cX7_size 19 = .ok (.invokestatic 91, 3) := by decide +kernel
theorem dX7_size_22 : decode cX7_size 22 = .ok (.ifCond .eq 7, 3) := by decide +kernel
theorem dX7_size_25 : decode cX7_size 25 = .ok (.iconst 1, 1) := by decide +kernel
theorem dX7_size_26 : decode cX7_size 26 = .ok (.goto 4, 3) := by decide +kernel
theorem dX7_size_29 : decode cX7_size 29 = .ok (.iconst 0, 1) := by decide +kernel
theorem dX7_size_30 : decode cX7_size 30 = .ok (.iadd, 1) := by decide +kernel
theorem dX7_size_31 : decode cX7_size 31 = .ok (.istore_n 3, 1) := by decide +kernel
theorem dX7_size_32 : decode cX7_size 32 = .ok (.iinc 4 1, 3) := by decide +kernel
theorem dX7_size_35 : decode cX7_size 35 = .ok (.goto (-30), 3) := by decide +kernel
theorem dX7_size_38 : decode cX7_size 38 = .ok (.iload_n 3, 1) := by decide +kernel
theorem dX7_size_39 : decode cX7_size 39 = .ok (.ireturn, 1) := by decide +kernel
theorem cvX7_size : CV yX7_size cX7_size 5 (some .int) 8 2 := ⟨kw_1005, ks_35, kw_6, kw_1006, ⟨_, _, rfl⟩, by decide, by decide +kernel, by decide +kernel, by decide +kernel⟩
def fX7_size_b5 (sh : Sh) (d : Dt) : Nat → Nat → Option Nat → Int32 → Int32 → Int32 → Option (Int32)
  | 0, _, _, _, _, _ => none
  | n + 1, x0, x1, x2, x3, x4 => bd (gI sh d 9 297 x0) fun v1 => if v1 ≤ x4 then (some x3) else (bd (fX7_isIn sh d x1 x2 x4) fun r4 => if (bI r4) = 0 then (fX7_size_b5 sh d n x0 x1 x2 (x3 + (0 : Int32)) (x4 + 1)) else (fX7_size_b5 sh d n x0 x1 x2 (x3 + (1 : Int32)) (x4 + 1)))

def fX7_size_b0 (sh : Sh) (d : Dt) (x0 : Nat) (x1 : Option Nat) (x2 : Int32) : Option (Int32) := fX7_size_b5 sh d fu x0 x1 x2 (0 : Int32) (0 : Int32)

def fX7_size (sh : Sh) (d : Dt) (x0 : Nat) (x1 : Option Nat) (x2 : Int32) : Option (Int32) := fX7_size_b0 sh d x0 x1 x2

set_option maxRecDepth 100000 in
set_option maxHeartbeats 4000000 in
theorem wX7_size_b5 (C : mx p s m args meth c yX7_size cX7_size 5 (some .int) A D cy st) {r : Int32} {d : Dt} : ∀ (n : Nat) (x0 : Nat) (x1 : Option Nat) (x2 : Int32) (x3 : Int32) (x4 : Int32), fX7_size_b5 sh d n x0 x1 x2 x3 x4 = some r → ∀ {H : Heap} {locs : List Loc} {ls : Array Slot}, HW A D cy sz sh d H → va_S A s.heap H locs → lv_has ls 5 [(0, .ref x0), (1, va_rf x1), (2, .int x2), (3, .int x3), (4, .int x4)] → GL p l e s m args below meth c 1 22 A D cy (some (.int r)) sz sh d H locs 5 ls [] := by
  have hx := C.1
  have hb := C.2.1
  intro n
  induction n with
  | zero => intro x0 x1 x2 x3 x4 hf; cases hf
  | succ n ih =>
    intro x0 x1 x2 x3 x4 hf H locs ls hw hS hl
    rw [fX7_size_b5] at hf
    refine lv_iload hx hb dX7_size_5 (lv_at hl 4 rfl) ?_
    refine lv_aload_n hx hb dX7_size_7 rfl (lv_at hl 0 rfl) ?_
    obtain ⟨v1, hv1, hf⟩ := bd_s hf
    refine gt_297 C hw hv1 kw_806 dX7_size_8 ?_
    refine lv_icmp_ge (tgt := 38) hx hb dX7_size_11 (by decide) (fun c_2 => ?_) (fun c_2 => ?_)
    · have hf := if_t c_2 hf
      refine lv_iload_n hx hb dX7_size_38 rfl (lv_at hl 3 rfl) ?_
      cases hf
      exact rt_i C hw hS dX7_size_39
    · have hf := if_f c_2 hf
      refine lv_iload_n hx hb dX7_size_14 rfl (lv_at hl 3 rfl) ?_
      refine lq_aload_n hx hb dX7_size_15 rfl (lv_at hl 1 rfl) ?_
      refine lv_iload_n hx hb dX7_size_16 rfl (lv_at hl 2 rfl) ?_
      refine lv_iload hx hb dX7_size_17 (lv_at hl 4 rfl) ?_
      obtain ⟨r4, h3, hf⟩ := bd_s hf
      refine cl_S0 C hw hS (tX7_isIn l A D cy st sz sh d x1 x2 x4 h3) csX7_isIn kw_933 ⟨Nat.le_of_ble_eq_true rfl, Nat.le_of_ble_eq_true rfl⟩ hl.1 rfl (Nat.le_of_ble_eq_true rfl) dX7_size_19 ⟨Nat.zero_le _, Nat.zero_le _⟩ (fun H locs hw hS => ?_)
      refine lv_if_eq (tgt := 29) hx hb dX7_size_22 (by decide) (fun c_5 => ?_) (fun c_5 => ?_)
      · have hf := if_t c_5 hf
        refine lv_iconst (v := 0) hx hb dX7_size_29 (by decide) ?_
        refine lv_iadd hx hb dX7_size_30 ?_
        refine lv_istore_n (lv' := [(3, .int (x3 + (0 : Int32))), (0, .ref x0), (1, va_rf x1), (2, .int x2), (4, .int x4)]) hx hb dX7_size_31 rfl hl (by decide) rfl (fun ls hl => ?_)
        refine lv_iinc (v := (x4 + 1)) (lv' := [(4, .int (x4 + 1)), (3, .int (x3 + (0 : Int32))), (0, .ref x0), (1, va_rf x1), (2, .int x2)]) hx hb dX7_size_32 hl (k := 4) rfl rfl (by decide) rfl (fun ls hl => ?_)
        refine lv_goto (tgt := 5) hx hb dX7_size_35 (by decide) ?_
        exact ih x0 x1 x2 (x3 + (0 : Int32)) (x4 + 1) hf hw hS (lv_sub hl [2, 3, 4, 1, 0] rfl)
      · have hf := if_f c_5 hf
        refine lv_iconst (v := 1) hx hb dX7_size_25 (by decide) ?_
        refine lv_goto (tgt := 30) hx hb dX7_size_26 (by decide) ?_
        refine lv_iadd hx hb dX7_size_30 ?_
        refine lv_istore_n (lv' := [(3, .int (x3 + (1 : Int32))), (0, .ref x0), (1, va_rf x1), (2, .int x2), (4, .int x4)]) hx hb dX7_size_31 rfl hl (by decide) rfl (fun ls hl => ?_)
        refine lv_iinc (v := (x4 + 1)) (lv' := [(4, .int (x4 + 1)), (3, .int (x3 + (1 : Int32))), (0, .ref x0), (1, va_rf x1), (2, .int x2)]) hx hb dX7_size_32 hl (k := 4) rfl rfl (by decide) rfl (fun ls hl => ?_)
        refine lv_goto (tgt := 5) hx hb dX7_size_35 (by decide) ?_
        exact ih x0 x1 x2 (x3 + (1 : Int32)) (x4 + 1) hf hw hS (lv_sub hl [2, 3, 4, 1, 0] rfl)

set_option maxRecDepth 100000 in
set_option maxHeartbeats 4000000 in
theorem wX7_size_b0 (C : mx p s m args meth c yX7_size cX7_size 5 (some .int) A D cy st) {r : Int32} {d : Dt} : ∀ (x0 : Nat) (x1 : Option Nat) (x2 : Int32), fX7_size_b0 sh d x0 x1 x2 = some r → ∀ {H : Heap} {locs : List Loc} {ls : Array Slot}, HW A D cy sz sh d H → va_S A s.heap H locs → lv_has ls 5 [(0, .ref x0), (1, va_rf x1), (2, .int x2)] → GL p l e s m args below meth c 1 22 A D cy (some (.int r)) sz sh d H locs 0 ls [] := by
  have hx := C.1
  have hb := C.2.1
  intro x0 x1 x2 hf H locs ls hw hS hl
  unfold fX7_size_b0 at hf
  refine lv_iconst (v := 0) hx hb dX7_size_0 (by decide) ?_
  refine lv_istore_n (lv' := [(3, .int (0 : Int32)), (0, .ref x0), (1, va_rf x1), (2, .int x2)]) hx hb dX7_size_1 rfl hl (by decide) rfl (fun ls hl => ?_)
  refine lv_iconst (v := 0) hx hb dX7_size_2 (by decide) ?_
  refine lv_istore (lv' := [(4, .int (0 : Int32)), (3, .int (0 : Int32)), (0, .ref x0), (1, va_rf x1), (2, .int x2)]) hx hb dX7_size_3 hl (by decide) rfl (fun ls hl => ?_)
  exact wX7_size_b5 C fu x0 x1 x2 (0 : Int32) (0 : Int32) hf hw hS (lv_sub hl [2, 3, 4, 1, 0] rfl)

set_option maxRecDepth 100000 in
set_option maxHeartbeats 4000000 in
theorem tX7_size (l : Launch) (A : Nat → Prop) (D : va_G) (cy : Nat → ClassId) (st : Nat → Nat) (sz : Nat) (sh : Sh) (d : Dt) (x0 : Nat) (x1 : Option Nat) (x2 : Int32) {r : Int32} (hf : fX7_size sh d x0 x1 x2 = some r) : Ct l yX7_size cX7_size 5 (some .int) 1 22 0 0 A D cy st [.ref x0, va_rf x1, .int x2] sz sh d (some (.int r)) sz sh d := ct_of (by decide) (by simp [lg_sl, va_rf_c, cat_i, cat_l, cat_r]) (fun p e s m args below meth c C hw hS ls hl => wX7_size_b0 C x0 x1 x2 hf hw hS (by simpa [lv_args, va_rf_c, cat_i, cat_l, cat_r] using hl))
theorem dX7_isWithin_0 : decode cX7_isWithin 0 = .ok (.iconst 1, 1) := by decide +kernel
theorem dX7_isWithin_1 : decode cX7_isWithin 1 = .ok (.istore 4, 2) := by decide +kernel
theorem dX7_isWithin_3 : decode cX7_isWithin 3 = .ok (.iconst 0, 1) := by decide +kernel
theorem dX7_isWithin_4 : decode cX7_isWithin 4 = .ok (.istore 5, 2) := by decide +kernel
theorem dX7_isWithin_6 : decode cX7_isWithin 6 = .ok (.iload 5, 2) := by decide +kernel
theorem dX7_isWithin_8 : decode cX7_isWithin 8 = .ok (.bipush 7, 2) := by decide +kernel
theorem dX7_isWithin_10 : decode cX7_isWithin 10 = .ok (.if_icmp .ge 49, 3) := by decide +kernel
theorem dX7_isWithin_13 : decode cX7_isWithin 13 = .ok (.iload 4, 2) := by decide +kernel
theorem dX7_isWithin_15 : decode cX7_isWithin 15 = .ok (.ifCond .eq 35, 3) := by decide +kernel
theorem dX7_isWithin_18 : decode cX7_isWithin 18 = .ok (.aload_n 0, 1) := by decide +kernel
theorem dX7_isWithin_19 : decode cX7_isWithin 19 = .ok (.bipush 7, 2) := by decide +kernel
theorem dX7_isWithin_21 : decode cX7_isWithin 21 = .ok (.iload_n 1, 1) := by decide +kernel
theorem dX7_isWithin_22 : decode cX7_isWithin 22 = .ok (.imul, 1) := by decide +kernel
theorem dX7_isWithin_23 : decode cX7_isWithin 23 = .ok (.iload 5, 2) := by decide +kernel
theorem dX7_isWithin_25 : decode cX7_isWithin 25 = .ok (.iadd, 1) := by decide +kernel
theorem dX7_isWithin_26 : decode cX7_isWithin 26 = .ok (.laload, 1) := by decide +kernel
theorem dX7_isWithin_27 : decode cX7_isWithin 27 = .ok (.aload_n 2, 1) := by decide +kernel
theorem dX7_isWithin_28 : decode cX7_isWithin 28 = .ok (.bipush 7, 2) := by decide +kernel
theorem dX7_isWithin_30 : decode cX7_isWithin 30 = .ok (.iload_n 3, 1) := by decide +kernel
theorem dX7_isWithin_31 : decode cX7_isWithin 31 = .ok (.imul, 1) := by decide +kernel
theorem dX7_isWithin_32 : decode cX7_isWithin 32 = .ok (.iload 5, 2) := by decide +kernel
theorem dX7_isWithin_34 : decode cX7_isWithin 34 = .ok (.iadd, 1) := by decide +kernel
theorem dX7_isWithin_35 : decode cX7_isWithin 35 = .ok (.laload, 1) := by decide +kernel
theorem dX7_isWithin_36 : decode cX7_isWithin 36 = .ok (.ldc2_w 86, 3) := by decide +kernel
theorem dX7_isWithin_39 : decode cX7_isWithin 39 = .ok (.lxor, 1) := by decide +kernel
theorem dX7_isWithin_40 : decode cX7_isWithin 40 = .ok (.land, 1) := by decide +kernel
theorem dX7_isWithin_41 : decode cX7_isWithin 41 = .ok (.lconst 0, 1) := by decide +kernel
theorem dX7_isWithin_42 : decode cX7_isWithin 42 = .ok (.lcmp, 1) := by decide +kernel
theorem dX7_isWithin_43 : decode cX7_isWithin 43 = .ok (.ifCond .ne 7, 3) := by decide +kernel
theorem dX7_isWithin_46 : decode cX7_isWithin 46 = .ok (.iconst 1, 1) := by decide +kernel
theorem dX7_isWithin_47 : decode cX7_isWithin 47 = .ok (.goto 4, 3) := by decide +kernel
theorem dX7_isWithin_50 : decode cX7_isWithin 50 = .ok (.iconst 0, 1) := by decide +kernel
theorem dX7_isWithin_51 : decode cX7_isWithin 51 = .ok (.istore 4, 2) := by decide +kernel
theorem dX7_isWithin_53 : decode cX7_isWithin 53 = .ok (.iinc 5 1, 3) := by decide +kernel
theorem dX7_isWithin_56 : decode cX7_isWithin 56 = .ok (.goto (-50), 3) := by decide +kernel
theorem dX7_isWithin_59 : decode cX7_isWithin 59 = .ok (.iload 4, 2) := by decide +kernel
theorem dX7_isWithin_61 : decode cX7_isWithin 61 = .ok (.ireturn, 1) := by decide +kernel
theorem csX7_isWithin : CS yX7_isWithin cX7_isWithin 6 (some .boolean) 4 := ⟨kw_1020, kw_6, kw_1021, by decide +kernel, by decide +kernel, by decide +kernel⟩
def fX7_isWithin_b6 (sh : Sh) (d : Dt) : Nat → Option Nat → Int32 → Option Nat → Int32 → Int32 → Int32 → Option (Bool)
  | 0, _, _, _, _, _, _ => none
  | n + 1, x0, x1, x2, x3, x4, x5 => if (7 : Int32) ≤ x5 then (if x4 = 0 then some false else if x4 = 1 then some true else none) else (if x4 = 0 then (fX7_isWithin_b6 sh d n x0 x1 x2 x3 (0 : Int32) (x5 + 1)) else (bd x0 fun a4 => bd (aL sh d 21 a4 (((7 : Int32) * x1) + x5)) fun v5 => bd x2 fun a6 => bd (aL sh d 21 a6 (((7 : Int32) * x3) + x5)) fun v7 => if (lg_cmp (v5 &&& (v7 ^^^ (-1 : Int64))) (0 : Int64)) = 0 then (fX7_isWithin_b6 sh d n (some a4) x1 (some a6) x3 (1 : Int32) (x5 + 1)) else (fX7_isWithin_b6 sh d n (some a4) x1 (some a6) x3 (0 : Int32) (x5 + 1))))

def fX7_isWithin_b0 (sh : Sh) (d : Dt) (x0 : Option Nat) (x1 : Int32) (x2 : Option Nat) (x3 : Int32) : Option (Bool) := fX7_isWithin_b6 sh d fu x0 x1 x2 x3 (1 : Int32) (0 : Int32)

def fX7_isWithin (sh : Sh) (d : Dt) (x0 : Option Nat) (x1 : Int32) (x2 : Option Nat) (x3 : Int32) : Option (Bool) := fX7_isWithin_b0 sh d x0 x1 x2 x3

set_option maxRecDepth 100000 in
set_option maxHeartbeats 4000000 in
theorem wX7_isWithin_b6 (C : mx p s m args meth c yX7_isWithin cX7_isWithin 6 (some .boolean) A D cy st) {r : Bool} {d : Dt} : ∀ (n : Nat) (x0 : Option Nat) (x1 : Int32) (x2 : Option Nat) (x3 : Int32) (x4 : Int32) (x5 : Int32), fX7_isWithin_b6 sh d n x0 x1 x2 x3 x4 x5 = some r → ∀ {H : Heap} {locs : List Loc} {ls : Array Slot}, HW A D cy sz sh d H → va_S A s.heap H locs → lv_has ls 6 [(0, va_rf x0), (1, .int x1), (2, va_rf x2), (3, .int x3), (4, .int x4), (5, .int x5)] → GL p l e s m args below meth c 0 0 A D cy (some (.int (bI r))) sz sh d H locs 6 ls [] := by
  have hx := C.1
  have hb := C.2.1
  intro n
  induction n with
  | zero => intro x0 x1 x2 x3 x4 x5 hf; cases hf
  | succ n ih =>
    intro x0 x1 x2 x3 x4 x5 hf H locs ls hw hS hl
    rw [fX7_isWithin_b6] at hf
    refine lv_iload hx hb dX7_isWithin_6 (lv_at hl 5 rfl) ?_
    refine lv_bipush (v := 7) hx hb dX7_isWithin_8 (by decide) ?_
    refine lv_icmp_ge (tgt := 59) hx hb dX7_isWithin_10 (by decide) (fun c_1 => ?_) (fun c_1 => ?_)
    · have hf := if_t c_1 hf
      refine lv_iload hx hb dX7_isWithin_59 (lv_at hl 4 rfl) ?_
      by_cases c_2 : x4 = 0
      · have hf := if_t c_2 hf
        cases hf
        exact rt_z C hw hS false c_2 dX7_isWithin_61
      have hf := if_f c_2 hf
      by_cases c_2b : x4 = 1
      · have hf := if_t c_2b hf
        cases hf
        exact rt_z C hw hS true c_2b dX7_isWithin_61
      have hf := if_f c_2b hf
      cases hf
    · have hf := if_f c_1 hf
      refine lv_iload hx hb dX7_isWithin_13 (lv_at hl 4 rfl) ?_
      refine lv_if_eq (tgt := 50) hx hb dX7_isWithin_15 (by decide) (fun c_3 => ?_) (fun c_3 => ?_)
      · have hf := if_t c_3 hf
        refine lv_iconst (v := 0) hx hb dX7_isWithin_50 (by decide) ?_
        refine lv_istore (lv' := [(4, .int (0 : Int32)), (0, va_rf x0), (1, .int x1), (2, va_rf x2), (3, .int x3), (5, .int x5)]) hx hb dX7_isWithin_51 hl (by decide) rfl (fun ls hl => ?_)
        refine lv_iinc (v := (x5 + 1)) (lv' := [(5, .int (x5 + 1)), (4, .int (0 : Int32)), (0, va_rf x0), (1, .int x1), (2, va_rf x2), (3, .int x3)]) hx hb dX7_isWithin_53 hl (k := 5) rfl rfl (by decide) rfl (fun ls hl => ?_)
        refine lv_goto (tgt := 6) hx hb dX7_isWithin_56 (by decide) ?_
        exact ih x0 x1 x2 x3 (0 : Int32) (x5 + 1) hf hw hS (lv_sub hl [2, 3, 4, 5, 1, 0] rfl)
      · have hf := if_f c_3 hf
        refine lq_aload_n hx hb dX7_isWithin_18 rfl (lv_at hl 0 rfl) ?_
        refine lv_bipush (v := 7) hx hb dX7_isWithin_19 (by decide) ?_
        refine lv_iload_n hx hb dX7_isWithin_21 rfl (lv_at hl 1 rfl) ?_
        refine lv_imul hx hb dX7_isWithin_22 ?_
        refine lv_iload hx hb dX7_isWithin_23 (lv_at hl 5 rfl) ?_
        refine lv_iadd hx hb dX7_isWithin_25 ?_
        obtain ⟨a4, ea4, hg⟩ := bd_s hf
        clear hf
        subst ea4
        have hf := hg
        clear hg
        obtain ⟨v5, hv5, hf⟩ := bd_s hf
        refine w_lald C hw hv5 dX7_isWithin_26 ?_
        refine lq_aload_n hx hb dX7_isWithin_27 rfl (lv_at hl 2 rfl) ?_
        refine lv_bipush (v := 7) hx hb dX7_isWithin_28 (by decide) ?_
        refine lv_iload_n hx hb dX7_isWithin_30 rfl (lv_at hl 3 rfl) ?_
        refine lv_imul hx hb dX7_isWithin_31 ?_
        refine lv_iload hx hb dX7_isWithin_32 (lv_at hl 5 rfl) ?_
        refine lv_iadd hx hb dX7_isWithin_34 ?_
        obtain ⟨a6, ea6, hg⟩ := bd_s hf
        clear hf
        subst ea6
        have hf := hg
        clear hg
        obtain ⟨v7, hv7, hf⟩ := bd_s hf
        refine w_lald C hw hv7 dX7_isWithin_35 ?_
        refine lv_ldc2 (v := -1) hx hb C.2.2.2.2.2.1 (C.2.2.2.2.1 _ kw_1022) dX7_isWithin_36 ?_
        refine lv_lxor hx hb dX7_isWithin_39 ?_
        refine lv_land hx hb dX7_isWithin_40 ?_
        refine lv_lconst (v := 0) hx hb dX7_isWithin_41 (by decide) ?_
        refine W.lcmp hx hb dX7_isWithin_42 ?_
        refine lv_if_ne (tgt := 50) hx hb dX7_isWithin_43 (by decide) (fun c_8 => ?_) (fun c_8 => ?_)
        · have hf := if_f c_8 hf
          refine lv_iconst (v := 0) hx hb dX7_isWithin_50 (by decide) ?_
          refine lv_istore (lv' := [(4, .int (0 : Int32)), (0, va_rf (some a4)), (1, .int x1), (2, va_rf (some a6)), (3, .int x3), (5, .int x5)]) hx hb dX7_isWithin_51 hl (by decide) rfl (fun ls hl => ?_)
          refine lv_iinc (v := (x5 + 1)) (lv' := [(5, .int (x5 + 1)), (4, .int (0 : Int32)), (0, va_rf (some a4)), (1, .int x1), (2, va_rf (some a6)), (3, .int x3)]) hx hb dX7_isWithin_53 hl (k := 5) rfl rfl (by decide) rfl (fun ls hl => ?_)
          refine lv_goto (tgt := 6) hx hb dX7_isWithin_56 (by decide) ?_
          exact ih (some a4) x1 (some a6) x3 (0 : Int32) (x5 + 1) hf hw hS (lv_sub hl [2, 3, 4, 5, 1, 0] rfl)
        · have hf := if_t c_8 hf
          refine lv_iconst (v := 1) hx hb dX7_isWithin_46 (by decide) ?_
          refine lv_goto (tgt := 51) hx hb dX7_isWithin_47 (by decide) ?_
          refine lv_istore (lv' := [(4, .int (1 : Int32)), (0, va_rf (some a4)), (1, .int x1), (2, va_rf (some a6)), (3, .int x3), (5, .int x5)]) hx hb dX7_isWithin_51 hl (by decide) rfl (fun ls hl => ?_)
          refine lv_iinc (v := (x5 + 1)) (lv' := [(5, .int (x5 + 1)), (4, .int (1 : Int32)), (0, va_rf (some a4)), (1, .int x1), (2, va_rf (some a6)), (3, .int x3)]) hx hb dX7_isWithin_53 hl (k := 5) rfl rfl (by decide) rfl (fun ls hl => ?_)
          refine lv_goto (tgt := 6) hx hb dX7_isWithin_56 (by decide) ?_
          exact ih (some a4) x1 (some a6) x3 (1 : Int32) (x5 + 1) hf hw hS (lv_sub hl [2, 3, 4, 5, 1, 0] rfl)

set_option maxRecDepth 100000 in
set_option maxHeartbeats 4000000 in
theorem wX7_isWithin_b0 (C : mx p s m args meth c yX7_isWithin cX7_isWithin 6 (some .boolean) A D cy st) {r : Bool} {d : Dt} : ∀ (x0 : Option Nat) (x1 : Int32) (x2 : Option Nat) (x3 : Int32), fX7_isWithin_b0 sh d x0 x1 x2 x3 = some r → ∀ {H : Heap} {locs : List Loc} {ls : Array Slot}, HW A D cy sz sh d H → va_S A s.heap H locs → lv_has ls 6 [(0, va_rf x0), (1, .int x1), (2, va_rf x2), (3, .int x3)] → GL p l e s m args below meth c 0 0 A D cy (some (.int (bI r))) sz sh d H locs 0 ls [] := by
  have hx := C.1
  have hb := C.2.1
  intro x0 x1 x2 x3 hf H locs ls hw hS hl
  unfold fX7_isWithin_b0 at hf
  refine lv_iconst (v := 1) hx hb dX7_isWithin_0 (by decide) ?_
  refine lv_istore (lv' := [(4, .int (1 : Int32)), (0, va_rf x0), (1, .int x1), (2, va_rf x2), (3, .int x3)]) hx hb dX7_isWithin_1 hl (by decide) rfl (fun ls hl => ?_)
  refine lv_iconst (v := 0) hx hb dX7_isWithin_3 (by decide) ?_
  refine lv_istore (lv' := [(5, .int (0 : Int32)), (4, .int (1 : Int32)), (0, va_rf x0), (1, .int x1), (2, va_rf x2), (3, .int x3)]) hx hb dX7_isWithin_4 hl (by decide) rfl (fun ls hl => ?_)
  exact wX7_isWithin_b6 C fu x0 x1 x2 x3 (1 : Int32) (0 : Int32) hf hw hS (lv_sub hl [2, 3, 4, 5, 1, 0] rfl)

set_option maxRecDepth 100000 in
set_option maxHeartbeats 4000000 in
theorem tX7_isWithin (l : Launch) (A : Nat → Prop) (D : va_G) (cy : Nat → ClassId) (st : Nat → Nat) (sz : Nat) (sh : Sh) (d : Dt) (x0 : Option Nat) (x1 : Int32) (x2 : Option Nat) (x3 : Int32) {r : Bool} (hf : fX7_isWithin sh d x0 x1 x2 x3 = some r) : Ct l yX7_isWithin cX7_isWithin 6 (some .boolean) 0 0 0 0 A D cy st [va_rf x0, .int x1, va_rf x2, .int x3] sz sh d (some (.int (bI r))) sz sh d := ct_of (by decide) (by simp [lg_sl, va_rf_c, cat_i, cat_l, cat_r]) (fun p e s m args below meth c C hw hS ls hl => wX7_isWithin_b0 C x0 x1 x2 x3 hf hw hS (by simpa [lv_args, va_rf_c, cat_i, cat_l, cat_r] using hl))
theorem dX7_isHand_0 : decode cX7_isHand 0 = .ok (.iload_n 1, 1) := by decide +kernel
theorem dX7_isHand_1 : decode cX7_isHand 1 = .ok (.iconst 0, 1) := by decide +kernel
theorem dX7_isHand_2 : decode cX7_isHand 2 = .ok (.aload_n 0, 1) := by decide +kernel
theorem dX7_isHand_3 : decode cX7_isHand 3 = .ok (.getfield 95, 3) := by decide +kernel
theorem dX7_isHand_6 : decode cX7_isHand 6 = .ok (.iconst 1, 1) := by decide +kernel
theorem dX7_isHand_7 : decode cX7_isHand 7 = .ok (.isub, 1) := by decide +kernel
theorem dX7_isHand_8 : decode cX7_isHand 8 = .ok (.invokestatic 82, 3) := by decide +kernel
theorem dX7_isHand_11 : decode cX7_isHand 11 = .ok (.ireturn, 1) := by decide +kernel
theorem cvX7_isHand : CV yX7_isHand cX7_isHand 2 (some .boolean) 8 1 := ⟨kw_919, ks_24, kw_6, kw_920, ⟨_, _, rfl⟩, by decide, by decide +kernel, by decide +kernel, by decide +kernel⟩
def fX7_isHand_b0 (sh : Sh) (d : Dt) (x0 : Nat) (x1 : Int32) : Option (Bool) := bd (gI sh d 9 290 x0) fun v1 => bd (fX7_in sh d x1 (0 : Int32) (v1 - (1 : Int32))) fun r3 => some r3

def fX7_isHand (sh : Sh) (d : Dt) (x0 : Nat) (x1 : Int32) : Option (Bool) := fX7_isHand_b0 sh d x0 x1

set_option maxRecDepth 100000 in
set_option maxHeartbeats 4000000 in
theorem wX7_isHand_b0 (C : mx p s m args meth c yX7_isHand cX7_isHand 2 (some .boolean) A D cy st) {r : Bool} {d : Dt} : ∀ (x0 : Nat) (x1 : Int32), fX7_isHand_b0 sh d x0 x1 = some r → ∀ {H : Heap} {locs : List Loc} {ls : Array Slot}, HW A D cy sz sh d H → va_S A s.heap H locs → lv_has ls 2 [(0, .ref x0), (1, .int x1)] → GL p l e s m args below meth c 1 22 A D cy (some (.int (bI r))) sz sh d H locs 0 ls [] := by
  have hx := C.1
  have hb := C.2.1
  intro x0 x1 hf H locs ls hw hS hl
  unfold fX7_isHand_b0 at hf
  refine lv_iload_n hx hb dX7_isHand_0 rfl (lv_at hl 1 rfl) ?_
  refine lv_iconst (v := 0) hx hb dX7_isHand_1 (by decide) ?_
  refine lv_aload_n hx hb dX7_isHand_2 rfl (lv_at hl 0 rfl) ?_
  obtain ⟨v1, hv1, hf⟩ := bd_s hf
  refine gt_290 C hw hv1 kw_799 dX7_isHand_3 ?_
  refine lv_iconst (v := 1) hx hb dX7_isHand_6 (by decide) ?_
  refine lv_isub hx hb dX7_isHand_7 ?_
  obtain ⟨r3, h2, hf⟩ := bd_s hf
  refine cl_S0 C hw hS (tX7_in l A D cy st sz sh d x1 (0 : Int32) (v1 - (1 : Int32)) h2) csX7_in kw_890 ⟨Nat.le_of_ble_eq_true rfl, Nat.le_of_ble_eq_true rfl⟩ hl.1 rfl (Nat.le_of_ble_eq_true rfl) dX7_isHand_8 ⟨Nat.zero_le _, Nat.zero_le _⟩ (fun H locs hw hS => ?_)
  cases hf
  exact rt_z C hw hS _ rfl dX7_isHand_11

set_option maxRecDepth 100000 in
set_option maxHeartbeats 4000000 in
theorem tX7_isHand (l : Launch) (A : Nat → Prop) (D : va_G) (cy : Nat → ClassId) (st : Nat → Nat) (sz : Nat) (sh : Sh) (d : Dt) (x0 : Nat) (x1 : Int32) {r : Bool} (hf : fX7_isHand sh d x0 x1 = some r) : Ct l yX7_isHand cX7_isHand 2 (some .boolean) 1 22 0 0 A D cy st [.ref x0, .int x1] sz sh d (some (.int (bI r))) sz sh d := ct_of (by decide) (Nat.le_of_ble_eq_true rfl) (fun p e s m args below meth c C hw hS ls hl => wX7_isHand_b0 C x0 x1 hf hw hS hl)
theorem dX7_isPage_0 : decode cX7_isPage 0 = .ok (.iload_n 1, 1) := by decide +kernel
theorem dX7_isPage_1 : decode cX7_isPage 1 = .ok (.iconst 0, 1) := by decide +kernel
theorem dX7_isPage_2 : decode cX7_isPage 2 = .ok (.aload_n 0, 1) := by decide +kernel
theorem dX7_isPage_3 : decode cX7_isPage 3 = .ok (.getfield 98, 3) := by decide +kernel
theorem dX7_isPage_6 : decode cX7_isPage 6 = .ok (.iconst 1, 1) := by decide +kernel
theorem dX7_isPage_7 : decode cX7_isPage 7 = .ok (.isub, 1) := by decide +kernel
theorem dX7_isPage_8 : decode cX7_isPage 8 = .ok (.invokestatic 82, 3) := by decide +kernel
theorem dX7_isPage_11 : decode cX7_isPage 11 = .ok (.ireturn, 1) := by decide +kernel
theorem cvX7_isPage : CV yX7_isPage cX7_isPage 2 (some .boolean) 8 1 := ⟨kw_907, ks_22, kw_6, kw_908, ⟨_, _, rfl⟩, by decide, by decide +kernel, by decide +kernel, by decide +kernel⟩
def fX7_isPage_b0 (sh : Sh) (d : Dt) (x0 : Nat) (x1 : Int32) : Option (Bool) := bd (gI sh d 9 295 x0) fun v1 => bd (fX7_in sh d x1 (0 : Int32) (v1 - (1 : Int32))) fun r3 => some r3

def fX7_isPage (sh : Sh) (d : Dt) (x0 : Nat) (x1 : Int32) : Option (Bool) := fX7_isPage_b0 sh d x0 x1

set_option maxRecDepth 100000 in
set_option maxHeartbeats 4000000 in
theorem wX7_isPage_b0 (C : mx p s m args meth c yX7_isPage cX7_isPage 2 (some .boolean) A D cy st) {r : Bool} {d : Dt} : ∀ (x0 : Nat) (x1 : Int32), fX7_isPage_b0 sh d x0 x1 = some r → ∀ {H : Heap} {locs : List Loc} {ls : Array Slot}, HW A D cy sz sh d H → va_S A s.heap H locs → lv_has ls 2 [(0, .ref x0), (1, .int x1)] → GL p l e s m args below meth c 1 22 A D cy (some (.int (bI r))) sz sh d H locs 0 ls [] := by
  have hx := C.1
  have hb := C.2.1
  intro x0 x1 hf H locs ls hw hS hl
  unfold fX7_isPage_b0 at hf
  refine lv_iload_n hx hb dX7_isPage_0 rfl (lv_at hl 1 rfl) ?_
  refine lv_iconst (v := 0) hx hb dX7_isPage_1 (by decide) ?_
  refine lv_aload_n hx hb dX7_isPage_2 rfl (lv_at hl 0 rfl) ?_
  obtain ⟨v1, hv1, hf⟩ := bd_s hf
  refine gt_295 C hw hv1 kw_804 dX7_isPage_3 ?_
  refine lv_iconst (v := 1) hx hb dX7_isPage_6 (by decide) ?_
  refine lv_isub hx hb dX7_isPage_7 ?_
  obtain ⟨r3, h2, hf⟩ := bd_s hf
  refine cl_S0 C hw hS (tX7_in l A D cy st sz sh d x1 (0 : Int32) (v1 - (1 : Int32)) h2) csX7_in kw_890 ⟨Nat.le_of_ble_eq_true rfl, Nat.le_of_ble_eq_true rfl⟩ hl.1 rfl (Nat.le_of_ble_eq_true rfl) dX7_isPage_8 ⟨Nat.zero_le _, Nat.zero_le _⟩ (fun H locs hw hS => ?_)
  cases hf
  exact rt_z C hw hS _ rfl dX7_isPage_11

set_option maxRecDepth 100000 in
set_option maxHeartbeats 4000000 in
theorem tX7_isPage (l : Launch) (A : Nat → Prop) (D : va_G) (cy : Nat → ClassId) (st : Nat → Nat) (sz : Nat) (sh : Sh) (d : Dt) (x0 : Nat) (x1 : Int32) {r : Bool} (hf : fX7_isPage sh d x0 x1 = some r) : Ct l yX7_isPage cX7_isPage 2 (some .boolean) 1 22 0 0 A D cy st [.ref x0, .int x1] sz sh d (some (.int (bI r))) sz sh d := ct_of (by decide) (Nat.le_of_ble_eq_true rfl) (fun p e s m args below meth c C hw hS ls hl => wX7_isPage_b0 C x0 x1 hf hw hS hl)
theorem dX7_isChange_0 : decode cX7_isChange 0 = .ok (.iload_n 1, 1) := by decide +kernel
theorem dX7_isChange_1 : decode cX7_isChange 1 = .ok (.iconst 0, 1) := by decide +kernel
theorem dX7_isChange_2 : decode cX7_isChange 2 = .ok (.aload_n 0, 1) := by decide +kernel
theorem dX7_isChange_3 : decode cX7_isChange 3 = .ok (.getfield 88, 3) := by decide +kernel
theorem dX7_isChange_6 : decode cX7_isChange 6 = .ok (.iconst 1, 1) := by decide +kernel
theorem dX7_isChange_7 : decode cX7_isChange 7 = .ok (.isub, 1) := by decide +kernel
theorem dX7_isChange_8 : decode cX7_isChange 8 = .ok (.invokestatic 82, 3) := by decide +kernel
theorem dX7_isChange_11 : decode cX7_isChange 11 = .ok (.ireturn, 1) := by decide +kernel
theorem cvX7_isChange : CV yX7_isChange cX7_isChange 2 (some .boolean) 8 1 := ⟨kw_1001, ks_34, kw_6, kw_1002, ⟨_, _, rfl⟩, by decide, by decide +kernel, by decide +kernel, by decide +kernel⟩
def fX7_isChange_b0 (sh : Sh) (d : Dt) (x0 : Nat) (x1 : Int32) : Option (Bool) := bd (gI sh d 9 297 x0) fun v1 => bd (fX7_in sh d x1 (0 : Int32) (v1 - (1 : Int32))) fun r3 => some r3

def fX7_isChange (sh : Sh) (d : Dt) (x0 : Nat) (x1 : Int32) : Option (Bool) := fX7_isChange_b0 sh d x0 x1

set_option maxRecDepth 100000 in
set_option maxHeartbeats 4000000 in
theorem wX7_isChange_b0 (C : mx p s m args meth c yX7_isChange cX7_isChange 2 (some .boolean) A D cy st) {r : Bool} {d : Dt} : ∀ (x0 : Nat) (x1 : Int32), fX7_isChange_b0 sh d x0 x1 = some r → ∀ {H : Heap} {locs : List Loc} {ls : Array Slot}, HW A D cy sz sh d H → va_S A s.heap H locs → lv_has ls 2 [(0, .ref x0), (1, .int x1)] → GL p l e s m args below meth c 1 22 A D cy (some (.int (bI r))) sz sh d H locs 0 ls [] := by
  have hx := C.1
  have hb := C.2.1
  intro x0 x1 hf H locs ls hw hS hl
  unfold fX7_isChange_b0 at hf
  refine lv_iload_n hx hb dX7_isChange_0 rfl (lv_at hl 1 rfl) ?_
  refine lv_iconst (v := 0) hx hb dX7_isChange_1 (by decide) ?_
  refine lv_aload_n hx hb dX7_isChange_2 rfl (lv_at hl 0 rfl) ?_
  obtain ⟨v1, hv1, hf⟩ := bd_s hf
  refine gt_297 C hw hv1 kw_806 dX7_isChange_3 ?_
  refine lv_iconst (v := 1) hx hb dX7_isChange_6 (by decide) ?_
  refine lv_isub hx hb dX7_isChange_7 ?_
  obtain ⟨r3, h2, hf⟩ := bd_s hf
  refine cl_S0 C hw hS (tX7_in l A D cy st sz sh d x1 (0 : Int32) (v1 - (1 : Int32)) h2) csX7_in kw_890 ⟨Nat.le_of_ble_eq_true rfl, Nat.le_of_ble_eq_true rfl⟩ hl.1 rfl (Nat.le_of_ble_eq_true rfl) dX7_isChange_8 ⟨Nat.zero_le _, Nat.zero_le _⟩ (fun H locs hw hS => ?_)
  cases hf
  exact rt_z C hw hS _ rfl dX7_isChange_11

set_option maxRecDepth 100000 in
set_option maxHeartbeats 4000000 in
theorem tX7_isChange (l : Launch) (A : Nat → Prop) (D : va_G) (cy : Nat → ClassId) (st : Nat → Nat) (sz : Nat) (sh : Sh) (d : Dt) (x0 : Nat) (x1 : Int32) {r : Bool} (hf : fX7_isChange sh d x0 x1 = some r) : Ct l yX7_isChange cX7_isChange 2 (some .boolean) 1 22 0 0 A D cy st [.ref x0, .int x1] sz sh d (some (.int (bI r))) sz sh d := ct_of (by decide) (Nat.le_of_ble_eq_true rfl) (fun p e s m args below meth c C hw hS ls hl => wX7_isChange_b0 C x0 x1 hf hw hS hl)
theorem dX7_hand_0 : decode cX7_hand 0 = .ok (.aload_n 0, 1) := by decide +kernel
theorem dX7_hand_1 : decode cX7_hand 1 = .ok (.getfield 95, 3) := by decide +kernel
theorem dX7_hand_4 : decode cX7_hand 4 = .ok (.bipush 6, 2) := by decide +kernel
theorem dX7_hand_6 : decode cX7_hand 6 = .ok (.if_icmp .ne 6, 3) := by decide +kernel
theorem dX7_hand_9 : decode cX7_hand 9 = .ok (.bipush (-2), 2) := by decide +kernel
theorem dX7_hand_11 : decode cX7_hand 11 = .ok (.ireturn, 1) := by decide +kernel
theorem dX7_hand_12 : decode cX7_hand 12 = .ok (.aload_n 0, 1) := by decide +kernel
theorem dX7_hand_13 : decode cX7_hand 13 = .ok (.getfield 88, 3) := by decide +kernel
theorem dX7_hand_16 : decode cX7_hand 16 = .ok (.ifCond .le 6, 3) := by decide +kernel
theorem dX7_hand_19 : decode cX7_hand 19 = .ok (.bipush (-4), 2) := by decide +kernel
theorem dX7_hand_21 : decode cX7_hand 21 = .ok (.ireturn, 1) := by decide +kernel
theorem dX7_hand_22 : decode cX7_hand 22 = .ok (.aload_n 0, 1) := by decide +kernel
theorem dX7_hand_23 : decode cX7_hand 23 = .ok (.dup, 1) := by decide +kernel
theorem dX7_hand_24 : decode cX7_hand 24 = .ok (.getfield 95, 3) := by decide +kernel
theorem dX7_hand_27 : decode cX7_hand 27 = .ok (.iconst 1, 1) := by decide +kernel
theorem dX7_hand_28 : decode cX7_hand 28 = .ok (.iadd, 1) := by decide +kernel
theorem dX7_hand_29 : decode cX7_hand 29 = .ok (.putfield 95, 3) := by decide +kernel
theorem dX7_hand_32 : decode cX7_hand 32 = .ok (.aload_n 0, 1) := by decide +kernel
theorem dX7_hand_33 : decode cX7_hand 33 = .ok (.getfield 95, 3) := by decide +kernel
theorem dX7_hand_36 : decode cX7_hand 36 = .ok (.iconst 1, 1) := by decide +kernel
theorem dX7_hand_37 : decode cX7_hand 37 = .ok (.isub, 1) := by decide +kernel
theorem dX7_hand_38 : decode cX7_hand 38 = .ok (.ireturn, 1) := by decide +kernel
theorem cvX7_hand : CV yX7_hand cX7_hand 1 (some .int) 8 0 := ⟨kw_894, kw_895, kw_6, kw_896, ⟨_, _, rfl⟩, by decide, by decide +kernel, by decide +kernel, by decide +kernel⟩
def fX7_hand_b0 (sh : Sh) (x0 : Nat) (d : Dt) : Option (Int32 × Dt) := bd (gI sh d 9 290 x0) fun v1 => if v1 = (6 : Int32) then (some ((-2 : Int32), d)) else (bd (gI sh d 9 297 x0) fun v3 => if v3 ≤ 0 then (bd (gI sh d 9 290 x0) fun v5 => bd (pI sh d 9 290 x0 (v5 + (1 : Int32))) fun d6 => bd (gI sh d6 9 290 x0) fun v7 => some ((v7 - (1 : Int32)), d6)) else (some ((-4 : Int32), d)))

def fX7_hand (sh : Sh) (d : Dt) (x0 : Nat) : Option (Int32 × Dt) := fX7_hand_b0 sh x0 d

set_option maxRecDepth 100000 in
set_option maxHeartbeats 4000000 in
theorem wX7_hand_b0 (C : mx p s m args meth c yX7_hand cX7_hand 1 (some .int) A D cy st) {r : Int32} {d9 : Dt} : ∀ (x0 : Nat) (d : Dt), fX7_hand_b0 sh x0 d = some (r, d9) → ∀ {H : Heap} {locs : List Loc} {ls : Array Slot}, HW A D cy sz sh d H → va_S A s.heap H locs → lv_has ls 1 [(0, .ref x0)] → GL p l e s m args below meth c 0 0 A D cy (some (.int r)) sz sh d9 H locs 0 ls [] := by
  have hx := C.1
  have hb := C.2.1
  intro x0 d hf H locs ls hw hS hl
  unfold fX7_hand_b0 at hf
  refine lv_aload_n hx hb dX7_hand_0 rfl (lv_at hl 0 rfl) ?_
  obtain ⟨v1, hv1, hf⟩ := bd_s hf
  refine gt_290 C hw hv1 kw_799 dX7_hand_1 ?_
  refine lv_bipush (v := 6) hx hb dX7_hand_4 (by decide) ?_
  refine lv_icmp_ne (tgt := 12) hx hb dX7_hand_6 (by decide) (fun c_2 => ?_) (fun c_2 => ?_)
  · have hf := if_f c_2 hf
    refine lv_aload_n hx hb dX7_hand_12 rfl (lv_at hl 0 rfl) ?_
    obtain ⟨v3, hv3, hf⟩ := bd_s hf
    refine gt_297 C hw hv3 kw_806 dX7_hand_13 ?_
    refine lv_if_le (tgt := 22) hx hb dX7_hand_16 (by decide) (fun c_4 => ?_) (fun c_4 => ?_)
    · have hf := if_t c_4 hf
      refine lv_aload_n hx hb dX7_hand_22 rfl (lv_at hl 0 rfl) ?_
      refine lv_dup hx hb dX7_hand_23 rfl ?_
      obtain ⟨v5, hv5, hf⟩ := bd_s hf
      refine gt_290 C hw hv5 kw_799 dX7_hand_24 ?_
      refine lv_iconst (v := 1) hx hb dX7_hand_27 (by decide) ?_
      refine lv_iadd hx hb dX7_hand_28 ?_
      obtain ⟨d6, hd6, hf⟩ := bd_s hf
      refine pt_290 C hw hS hd6 kw_799 dX7_hand_29 (fun H locs hw hS => ?_)
      refine lv_aload_n hx hb dX7_hand_32 rfl (lv_at hl 0 rfl) ?_
      obtain ⟨v7, hv7, hf⟩ := bd_s hf
      refine gt_290 C hw hv7 kw_799 dX7_hand_33 ?_
      refine lv_iconst (v := 1) hx hb dX7_hand_36 (by decide) ?_
      refine lv_isub hx hb dX7_hand_37 ?_
      cases hf
      exact rt_i C hw hS dX7_hand_38
    · have hf := if_f c_4 hf
      refine lv_bipush (v := -4) hx hb dX7_hand_19 (by decide) ?_
      cases hf
      exact rt_i C hw hS dX7_hand_21
  · have hf := if_t c_2 hf
    refine lv_bipush (v := -2) hx hb dX7_hand_9 (by decide) ?_
    cases hf
    exact rt_i C hw hS dX7_hand_11

set_option maxRecDepth 100000 in
set_option maxHeartbeats 4000000 in
theorem tX7_hand (l : Launch) (A : Nat → Prop) (D : va_G) (cy : Nat → ClassId) (st : Nat → Nat) (sz : Nat) (sh : Sh) (d : Dt) (x0 : Nat) {r : Int32} {d9 : Dt} (hf : fX7_hand sh d x0 = some (r, d9)) : Ct l yX7_hand cX7_hand 1 (some .int) 0 0 0 0 A D cy st [.ref x0] sz sh d (some (.int r)) sz sh d9 := ct_of (by decide) (Nat.le_of_ble_eq_true rfl) (fun p e s m args below meth c C hw hS ls hl => wX7_hand_b0 C x0 d hf hw hS hl)
theorem dX7_page_0 : decode cX7_page 0 = .ok (.iload_n 1, 1) := by decide +kernel
theorem dX7_page_1 : decode cX7_page 1 = .ok (.iconst 0, 1) := by decide +kernel
theorem dX7_page_2 : decode cX7_page 2 = .ok (.bipush 7, 2) := by decide +kernel
theorem dX7_page_4 : decode cX7_page 4 = .ok (.invokestatic 82, 3) := by decide +kernel
theorem dX7_page_7 : decode cX7_page 7 = .ok (.ifCond .ne 5, 3) := by decide +kernel
theorem dX7_page_10 : decode cX7_page 10 = .ok (.iconst (-1), 1) := by decide +kernel
theorem dX7_page_11 : decode cX7_page 11 = .ok (.ireturn, 1) := by decide +kernel
theorem dX7_page_12 : decode cX7_page 12 = .ok (.aload_n 0, 1) := by decide +kernel
theorem dX7_page_13 : decode cX7_page 13 = .ok (.getfield 98, 3) := by decide +kernel
theorem dX7_page_16 : decode cX7_page 16 = .ok (.bipush 10, 2) := by decide +kernel
theorem dX7_page_18 : decode cX7_page 18 = .ok (.if_icmp .ne 6, 3) := by decide +kernel
theorem dX7_page_21 : decode cX7_page 21 = .ok (.bipush (-2), 2) := by decide +kernel
theorem dX7_page_23 : decode cX7_page 23 = .ok (.ireturn, 1) := by decide +kernel
theorem dX7_page_24 : decode cX7_page 24 = .ok (.aload_n 0, 1) := by decide +kernel
theorem dX7_page_25 : decode cX7_page 25 = .ok (.getfield 27, 3) := by decide +kernel
theorem dX7_page_28 : decode cX7_page 28 = .ok (.aload_n 0, 1) := by decide +kernel
theorem dX7_page_29 : decode cX7_page 29 = .ok (.getfield 98, 3) := by decide +kernel
theorem dX7_page_32 : decode cX7_page 32 = .ok (.iload_n 1, 1) := by decide +kernel
theorem dX7_page_33 : decode cX7_page 33 = .ok (.iastore, 1) := by decide +kernel
theorem dX7_page_34 : decode cX7_page 34 = .ok (.aload_n 0, 1) := by decide +kernel
theorem dX7_page_35 : decode cX7_page 35 = .ok (.dup, 1) := by decide +kernel
theorem dX7_page_36 : decode cX7_page 36 = .ok (.getfield 98, 3) := by decide +kernel
theorem dX7_page_39 : decode cX7_page 39 = .ok (.iconst 1, 1) := by decide +kernel
theorem dX7_page_40 : decode cX7_page 40 = .ok (.iadd, 1) := by decide +kernel
theorem dX7_page_41 : decode cX7_page 41 = .ok (.putfield 98, 3) := by decide +kernel
theorem dX7_page_44 : decode cX7_page 44 = .ok (.aload_n 0, 1) := by decide +kernel
theorem dX7_page_45 : decode cX7_page 45 = .ok (.getfield 98, 3) := by decide +kernel
theorem dX7_page_48 : decode cX7_page 48 = .ok (.iconst 1, 1) := by decide +kernel
theorem dX7_page_49 : decode cX7_page 49 = .ok (.isub, 1) := by decide +kernel
theorem dX7_page_50 : decode cX7_page 50 = .ok (.ireturn, 1) := by decide +kernel
theorem cvX7_page : CV yX7_page cX7_page 2 (some .int) 8 1 := ⟨kw_898, kw_899, kw_6, kw_900, ⟨_, _, rfl⟩, by decide, by decide +kernel, by decide +kernel, by decide +kernel⟩
def fX7_page_b0 (sh : Sh) (x0 : Nat) (x1 : Int32) (d : Dt) : Option (Int32 × Dt) := bd (fX7_in sh d x1 (0 : Int32) (7 : Int32)) fun r2 => if (bI r2) = 0 then (some ((-1 : Int32), d)) else (bd (gI sh d 9 295 x0) fun v4 => if v4 = (10 : Int32) then (some ((-2 : Int32), d)) else (bd (gR sh d 9 296 x0) fun v6 => bd (gI sh d 9 295 x0) fun v7 => bd v6 fun a8 => bd (sI sh d 20 a8 v7 x1) fun d9 => bd (gI sh d9 9 295 x0) fun v10 => bd (pI sh d9 9 295 x0 (v10 + (1 : Int32))) fun d11 => bd (gI sh d11 9 295 x0) fun v12 => some ((v12 - (1 : Int32)), d11)))

def fX7_page (sh : Sh) (d : Dt) (x0 : Nat) (x1 : Int32) : Option (Int32 × Dt) := fX7_page_b0 sh x0 x1 d

set_option maxRecDepth 100000 in
set_option maxHeartbeats 4000000 in
theorem wX7_page_b0 (C : mx p s m args meth c yX7_page cX7_page 2 (some .int) A D cy st) {r : Int32} {d9 : Dt} : ∀ (x0 : Nat) (x1 : Int32) (d : Dt), fX7_page_b0 sh x0 x1 d = some (r, d9) → ∀ {H : Heap} {locs : List Loc} {ls : Array Slot}, HW A D cy sz sh d H → va_S A s.heap H locs → lv_has ls 2 [(0, .ref x0), (1, .int x1)] → GL p l e s m args below meth c 1 22 A D cy (some (.int r)) sz sh d9 H locs 0 ls [] := by
  have hx := C.1
  have hb := C.2.1
  intro x0 x1 d hf H locs ls hw hS hl
  unfold fX7_page_b0 at hf
  refine lv_iload_n hx hb dX7_page_0 rfl (lv_at hl 1 rfl) ?_
  refine lv_iconst (v := 0) hx hb dX7_page_1 (by decide) ?_
  refine lv_bipush (v := 7) hx hb dX7_page_2 (by decide) ?_
  obtain ⟨r2, h1, hf⟩ := bd_s hf
  refine cl_S0 C hw hS (tX7_in l A D cy st sz sh d x1 (0 : Int32) (7 : Int32) h1) csX7_in kw_890 ⟨Nat.le_of_ble_eq_true rfl, Nat.le_of_ble_eq_true rfl⟩ hl.1 rfl (Nat.le_of_ble_eq_true rfl) dX7_page_4 ⟨Nat.zero_le _, Nat.zero_le _⟩ (fun H locs hw hS => ?_)
  refine lv_if_ne (tgt := 12) hx hb dX7_page_7 (by decide) (fun c_3 => ?_) (fun c_3 => ?_)
  · have hf := if_f c_3 hf
    refine lv_aload_n hx hb dX7_page_12 rfl (lv_at hl 0 rfl) ?_
    obtain ⟨v4, hv4, hf⟩ := bd_s hf
    refine gt_295 C hw hv4 kw_804 dX7_page_13 ?_
    refine lv_bipush (v := 10) hx hb dX7_page_16 (by decide) ?_
    refine lv_icmp_ne (tgt := 24) hx hb dX7_page_18 (by decide) (fun c_5 => ?_) (fun c_5 => ?_)
    · have hf := if_f c_5 hf
      refine lv_aload_n hx hb dX7_page_24 rfl (lv_at hl 0 rfl) ?_
      obtain ⟨v6, hv6, hf⟩ := bd_s hf
      refine gt_296 C hw hv6 kw_805 dX7_page_25 ?_
      refine lv_aload_n hx hb dX7_page_28 rfl (lv_at hl 0 rfl) ?_
      obtain ⟨v7, hv7, hf⟩ := bd_s hf
      refine gt_295 C hw hv7 kw_804 dX7_page_29 ?_
      refine lv_iload_n hx hb dX7_page_32 rfl (lv_at hl 1 rfl) ?_
      obtain ⟨a8, ea8, hg⟩ := bd_s hf
      clear hf
      subst ea8
      have hf := hg
      clear hg
      obtain ⟨d9, hd9, hf⟩ := bd_s hf
      refine w_iast C hw hS hd9 dX7_page_33 (fun H locs hw hS => ?_)
      refine lv_aload_n hx hb dX7_page_34 rfl (lv_at hl 0 rfl) ?_
      refine lv_dup hx hb dX7_page_35 rfl ?_
      obtain ⟨v10, hv10, hf⟩ := bd_s hf
      refine gt_295 C hw hv10 kw_804 dX7_page_36 ?_
      refine lv_iconst (v := 1) hx hb dX7_page_39 (by decide) ?_
      refine lv_iadd hx hb dX7_page_40 ?_
      obtain ⟨d11, hd11, hf⟩ := bd_s hf
      refine pt_295 C hw hS hd11 kw_804 dX7_page_41 (fun H locs hw hS => ?_)
      refine lv_aload_n hx hb dX7_page_44 rfl (lv_at hl 0 rfl) ?_
      obtain ⟨v12, hv12, hf⟩ := bd_s hf
      refine gt_295 C hw hv12 kw_804 dX7_page_45 ?_
      refine lv_iconst (v := 1) hx hb dX7_page_48 (by decide) ?_
      refine lv_isub hx hb dX7_page_49 ?_
      cases hf
      exact rt_i C hw hS dX7_page_50
    · have hf := if_t c_5 hf
      refine lv_bipush (v := -2) hx hb dX7_page_21 (by decide) ?_
      cases hf
      exact rt_i C hw hS dX7_page_23
  · have hf := if_t c_3 hf
    refine lv_iconst (v := -1) hx hb dX7_page_10 (by decide) ?_
    cases hf
    exact rt_i C hw hS dX7_page_11

set_option maxRecDepth 100000 in
set_option maxHeartbeats 4000000 in
theorem tX7_page (l : Launch) (A : Nat → Prop) (D : va_G) (cy : Nat → ClassId) (st : Nat → Nat) (sz : Nat) (sh : Sh) (d : Dt) (x0 : Nat) (x1 : Int32) {r : Int32} {d9 : Dt} (hf : fX7_page sh d x0 x1 = some (r, d9)) : Ct l yX7_page cX7_page 2 (some .int) 1 22 0 0 A D cy st [.ref x0, .int x1] sz sh d (some (.int r)) sz sh d9 := ct_of (by decide) (Nat.le_of_ble_eq_true rfl) (fun p e s m args below meth c C hw hS ls hl => wX7_page_b0 C x0 x1 d hf hw hS hl)
theorem dX7_isOf_0 : decode cX7_isOf 0 = .ok (.aload_n 0, 1) := by decide +kernel
theorem dX7_isOf_1 : decode cX7_isOf 1 = .ok (.getfield 27, 3) := by decide +kernel
theorem dX7_isOf_4 : decode cX7_isOf 4 = .ok (.iload_n 1, 1) := by decide +kernel
theorem dX7_isOf_5 : decode cX7_isOf 5 = .ok (.iaload, 1) := by decide +kernel
theorem dX7_isOf_6 : decode cX7_isOf 6 = .ok (.istore_n 3, 1) := by decide +kernel
theorem dX7_isOf_7 : decode cX7_isOf 7 = .ok (.iload_n 3, 1) := by decide +kernel
theorem dX7_isOf_8 : decode cX7_isOf 8 = .ok (.iload_n 2, 1) := by decide +kernel
theorem dX7_isOf_9 : decode cX7_isOf 9 = .ok (.if_icmp .eq 39, 3) := by decide +kernel
theorem dX7_isOf_12 : decode cX7_isOf 12 = .ok (.iload_n 2, 1) := by decide +kernel
theorem dX7_isOf_13 : decode cX7_isOf 13 = .ok (.ifCond .ne 13, 3) := by decide +kernel
theorem dX7_isOf_16 : decode cX7_isOf 16 = .ok (.iload_n 3, 1) := by decide +kernel
theorem dX7_isOf_17 : decode cX7_isOf 17 = .ok (.iconst 1, 1) := by decide +kernel
theorem dX7_isOf_18 : decode cX7_isOf 18 = .ok (.if_icmp .eq 30, 3) := by decide +kernel
theorem dX7_isOf_21 : decode cX7_isOf 21 = .ok (.iload_n 3, 1) := by decide +kernel
theorem dX7_isOf_22 : decode cX7_isOf 22 = .ok (.iconst 4, 1) := by decide +kernel
theorem dX7_isOf_23 : decode cX7_isOf 23 = .ok (.if_icmp .eq 25, 3) := by decide +kernel
theorem dX7_isOf_26 : decode cX7_isOf 26 = .ok (.iload_n 2, 1) := by decide +kernel
theorem dX7_isOf_27 : decode cX7_isOf 27 = .ok (.iconst 2, 1) := by decide +kernel
theorem dX7_isOf_28 : decode cX7_isOf 28 = .ok (.if_icmp .ne 8, 3) := by decide +kernel
theorem dX7_isOf_31 : decode cX7_isOf 31 = .ok (.iload_n 3, 1) := by decide +kernel
theorem dX7_isOf_32 : decode cX7_isOf 32 = .ok (.iconst 5, 1) := by decide +kernel
theorem dX7_isOf_33 : decode cX7_isOf 33 = .ok (.if_icmp .eq 15, 3) := by decide +kernel
theorem dX7_isOf_36 : decode cX7_isOf 36 = .ok (.iload_n 2, 1) := by decide +kernel
theorem dX7_isOf_37 : decode cX7_isOf 37 = .ok (.bipush 6, 2) := by decide +kernel
theorem dX7_isOf_39 : decode cX7_isOf 39 = .ok (.if_icmp .ne 13, 3) := by decide +kernel
theorem dX7_isOf_42 : decode cX7_isOf 42 = .ok (.iload_n 3, 1) := by decide +kernel
theorem dX7_isOf_43 : decode cX7_isOf 43 = .ok (.bipush 7, 2) := by decide +kernel
theorem dX7_isOf_45 : decode cX7_isOf 45 = .ok (.if_icmp .ne 7, 3) := by decide +kernel
theorem dX7_isOf_48 : decode cX7_isOf 48 = .ok (.iconst 1, 1) := by decide +kernel
theorem dX7_isOf_49 : decode cX7_isOf 49 = .ok (.goto 4, 3) := by decide +kernel
theorem dX7_isOf_52 : decode cX7_isOf 52 = .ok (.iconst 0, 1) := by decide +kernel
theorem dX7_isOf_53 : decode cX7_isOf 53 = .ok (.ireturn, 1) := by decide +kernel
theorem cvX7_isOf : CV yX7_isOf cX7_isOf 4 (some .boolean) 8 2 := ⟨kw_911, ks_23, kw_6, kw_912, ⟨_, _, rfl⟩, by decide, by decide +kernel, by decide +kernel, by decide +kernel⟩
def fX7_isOf_b36 (sh : Sh) (d : Dt) (x2 : Int32) (x3 : Int32) : Option (Bool) := if x2 = (6 : Int32) then (if x3 = (7 : Int32) then (some true) else (some false)) else (some false)

def fX7_isOf_b26 (sh : Sh) (d : Dt) (x2 : Int32) (x3 : Int32) : Option (Bool) := if x2 = (2 : Int32) then (if x3 = (5 : Int32) then (some true) else (fX7_isOf_b36 sh d x2 x3)) else (fX7_isOf_b36 sh d x2 x3)

def fX7_isOf_b0 (sh : Sh) (d : Dt) (x0 : Nat) (x1 : Int32) (x2 : Int32) : Option (Bool) := bd (gR sh d 9 296 x0) fun v1 => bd v1 fun a2 => bd (aI sh d 20 a2 x1) fun v3 => if v3 = x2 then (some true) else (if x2 = 0 then (if v3 = (1 : Int32) then (some true) else (if v3 = (4 : Int32) then (some true) else (fX7_isOf_b26 sh d x2 v3))) else (fX7_isOf_b26 sh d x2 v3))

def fX7_isOf (sh : Sh) (d : Dt) (x0 : Nat) (x1 : Int32) (x2 : Int32) : Option (Bool) := fX7_isOf_b0 sh d x0 x1 x2

set_option maxRecDepth 100000 in
set_option maxHeartbeats 4000000 in
theorem wX7_isOf_b36 (C : mx p s m args meth c yX7_isOf cX7_isOf 4 (some .boolean) A D cy st) {r : Bool} {d : Dt} : ∀ (x2 : Int32) (x3 : Int32), fX7_isOf_b36 sh d x2 x3 = some r → ∀ {H : Heap} {locs : List Loc} {ls : Array Slot}, HW A D cy sz sh d H → va_S A s.heap H locs → lv_has ls 4 [(2, .int x2), (3, .int x3)] → GL p l e s m args below meth c 0 0 A D cy (some (.int (bI r))) sz sh d H locs 36 ls [] := by
  have hx := C.1
  have hb := C.2.1
  intro x2 x3 hf H locs ls hw hS hl
  unfold fX7_isOf_b36 at hf
  refine lv_iload_n hx hb dX7_isOf_36 rfl (lv_at hl 0 rfl) ?_
  refine lv_bipush (v := 6) hx hb dX7_isOf_37 (by decide) ?_
  refine lv_icmp_ne (tgt := 52) hx hb dX7_isOf_39 (by decide) (fun c_1 => ?_) (fun c_1 => ?_)
  · have hf := if_f c_1 hf
    refine lv_iconst (v := 0) hx hb dX7_isOf_52 (by decide) ?_
    cases hf
    exact rt_z C hw hS _ rfl dX7_isOf_53
  · have hf := if_t c_1 hf
    refine lv_iload_n hx hb dX7_isOf_42 rfl (lv_at hl 1 rfl) ?_
    refine lv_bipush (v := 7) hx hb dX7_isOf_43 (by decide) ?_
    refine lv_icmp_ne (tgt := 52) hx hb dX7_isOf_45 (by decide) (fun c_2 => ?_) (fun c_2 => ?_)
    · have hf := if_f c_2 hf
      refine lv_iconst (v := 0) hx hb dX7_isOf_52 (by decide) ?_
      cases hf
      exact rt_z C hw hS _ rfl dX7_isOf_53
    · have hf := if_t c_2 hf
      refine lv_iconst (v := 1) hx hb dX7_isOf_48 (by decide) ?_
      refine lv_goto (tgt := 53) hx hb dX7_isOf_49 (by decide) ?_
      cases hf
      exact rt_z C hw hS _ rfl dX7_isOf_53

set_option maxRecDepth 100000 in
set_option maxHeartbeats 4000000 in
theorem wX7_isOf_b26 (C : mx p s m args meth c yX7_isOf cX7_isOf 4 (some .boolean) A D cy st) {r : Bool} {d : Dt} : ∀ (x2 : Int32) (x3 : Int32), fX7_isOf_b26 sh d x2 x3 = some r → ∀ {H : Heap} {locs : List Loc} {ls : Array Slot}, HW A D cy sz sh d H → va_S A s.heap H locs → lv_has ls 4 [(2, .int x2), (3, .int x3)] → GL p l e s m args below meth c 0 0 A D cy (some (.int (bI r))) sz sh d H locs 26 ls [] := by
  have hx := C.1
  have hb := C.2.1
  intro x2 x3 hf H locs ls hw hS hl
  unfold fX7_isOf_b26 at hf
  refine lv_iload_n hx hb dX7_isOf_26 rfl (lv_at hl 0 rfl) ?_
  refine lv_iconst (v := 2) hx hb dX7_isOf_27 (by decide) ?_
  refine lv_icmp_ne (tgt := 36) hx hb dX7_isOf_28 (by decide) (fun c_1 => ?_) (fun c_1 => ?_)
  · have hf := if_f c_1 hf
    exact wX7_isOf_b36 C x2 x3 hf hw hS (lv_sub hl [0, 1] rfl)
  · have hf := if_t c_1 hf
    refine lv_iload_n hx hb dX7_isOf_31 rfl (lv_at hl 1 rfl) ?_
    refine lv_iconst (v := 5) hx hb dX7_isOf_32 (by decide) ?_
    refine lv_icmp_eq (tgt := 48) hx hb dX7_isOf_33 (by decide) (fun c_2 => ?_) (fun c_2 => ?_)
    · have hf := if_t c_2 hf
      refine lv_iconst (v := 1) hx hb dX7_isOf_48 (by decide) ?_
      refine lv_goto (tgt := 53) hx hb dX7_isOf_49 (by decide) ?_
      cases hf
      exact rt_z C hw hS _ rfl dX7_isOf_53
    · have hf := if_f c_2 hf
      exact wX7_isOf_b36 C x2 x3 hf hw hS (lv_sub hl [0, 1] rfl)

set_option maxRecDepth 100000 in
set_option maxHeartbeats 4000000 in
theorem wX7_isOf_b0 (C : mx p s m args meth c yX7_isOf cX7_isOf 4 (some .boolean) A D cy st) {r : Bool} {d : Dt} : ∀ (x0 : Nat) (x1 : Int32) (x2 : Int32), fX7_isOf_b0 sh d x0 x1 x2 = some r → ∀ {H : Heap} {locs : List Loc} {ls : Array Slot}, HW A D cy sz sh d H → va_S A s.heap H locs → lv_has ls 4 [(0, .ref x0), (1, .int x1), (2, .int x2)] → GL p l e s m args below meth c 0 0 A D cy (some (.int (bI r))) sz sh d H locs 0 ls [] := by
  have hx := C.1
  have hb := C.2.1
  intro x0 x1 x2 hf H locs ls hw hS hl
  unfold fX7_isOf_b0 at hf
  refine lv_aload_n hx hb dX7_isOf_0 rfl (lv_at hl 0 rfl) ?_
  obtain ⟨v1, hv1, hf⟩ := bd_s hf
  refine gt_296 C hw hv1 kw_805 dX7_isOf_1 ?_
  refine lv_iload_n hx hb dX7_isOf_4 rfl (lv_at hl 1 rfl) ?_
  obtain ⟨a2, ea2, hg⟩ := bd_s hf
  clear hf
  subst ea2
  have hf := hg
  clear hg
  obtain ⟨v3, hv3, hf⟩ := bd_s hf
  refine w_iald C hw hv3 dX7_isOf_5 ?_
  refine lv_istore_n (lv' := [(3, .int v3), (0, .ref x0), (1, .int x1), (2, .int x2)]) hx hb dX7_isOf_6 rfl hl (by decide) rfl (fun ls hl => ?_)
  refine lv_iload_n hx hb dX7_isOf_7 rfl (lv_at hl 0 rfl) ?_
  refine lv_iload_n hx hb dX7_isOf_8 rfl (lv_at hl 3 rfl) ?_
  refine lv_icmp_eq (tgt := 48) hx hb dX7_isOf_9 (by decide) (fun c_4 => ?_) (fun c_4 => ?_)
  · have hf := if_t c_4 hf
    refine lv_iconst (v := 1) hx hb dX7_isOf_48 (by decide) ?_
    refine lv_goto (tgt := 53) hx hb dX7_isOf_49 (by decide) ?_
    cases hf
    exact rt_z C hw hS _ rfl dX7_isOf_53
  · have hf := if_f c_4 hf
    refine lv_iload_n hx hb dX7_isOf_12 rfl (lv_at hl 3 rfl) ?_
    refine lv_if_ne (tgt := 26) hx hb dX7_isOf_13 (by decide) (fun c_5 => ?_) (fun c_5 => ?_)
    · have hf := if_f c_5 hf
      exact wX7_isOf_b26 C x2 v3 hf hw hS (lv_sub hl [3, 0] rfl)
    · have hf := if_t c_5 hf
      refine lv_iload_n hx hb dX7_isOf_16 rfl (lv_at hl 0 rfl) ?_
      refine lv_iconst (v := 1) hx hb dX7_isOf_17 (by decide) ?_
      refine lv_icmp_eq (tgt := 48) hx hb dX7_isOf_18 (by decide) (fun c_6 => ?_) (fun c_6 => ?_)
      · have hf := if_t c_6 hf
        refine lv_iconst (v := 1) hx hb dX7_isOf_48 (by decide) ?_
        refine lv_goto (tgt := 53) hx hb dX7_isOf_49 (by decide) ?_
        cases hf
        exact rt_z C hw hS _ rfl dX7_isOf_53
      · have hf := if_f c_6 hf
        refine lv_iload_n hx hb dX7_isOf_21 rfl (lv_at hl 0 rfl) ?_
        refine lv_iconst (v := 4) hx hb dX7_isOf_22 (by decide) ?_
        refine lv_icmp_eq (tgt := 48) hx hb dX7_isOf_23 (by decide) (fun c_7 => ?_) (fun c_7 => ?_)
        · have hf := if_t c_7 hf
          refine lv_iconst (v := 1) hx hb dX7_isOf_48 (by decide) ?_
          refine lv_goto (tgt := 53) hx hb dX7_isOf_49 (by decide) ?_
          cases hf
          exact rt_z C hw hS _ rfl dX7_isOf_53
        · have hf := if_f c_7 hf
          exact wX7_isOf_b26 C x2 v3 hf hw hS (lv_sub hl [3, 0] rfl)

set_option maxRecDepth 100000 in
set_option maxHeartbeats 4000000 in
theorem tX7_isOf (l : Launch) (A : Nat → Prop) (D : va_G) (cy : Nat → ClassId) (st : Nat → Nat) (sz : Nat) (sh : Sh) (d : Dt) (x0 : Nat) (x1 : Int32) (x2 : Int32) {r : Bool} (hf : fX7_isOf sh d x0 x1 x2 = some r) : Ct l yX7_isOf cX7_isOf 4 (some .boolean) 0 0 0 0 A D cy st [.ref x0, .int x1, .int x2] sz sh d (some (.int (bI r))) sz sh d := ct_of (by decide) (Nat.le_of_ble_eq_true rfl) (fun p e s m args below meth c C hw hS ls hl => wX7_isOf_b0 C x0 x1 x2 hf hw hS hl)
theorem dX7_is_0 : decode cX7_is 0 = .ok (.aload_n 0, 1) := by decide +kernel
theorem dX7_is_1 : decode cX7_is 1 = .ok (.iload_n 1, 1) := by decide +kernel
theorem dX7_is_2 : decode cX7_is 2 = .ok (.invokevirtual 101, 3) := by decide +kernel
theorem dX7_is_5 : decode cX7_is 5 = .ok (.ifCond .eq 13, 3) := by decide +kernel
theorem dX7_is_8 : decode cX7_is 8 = .ok (.iload_n 2, 1) := by decide +kernel
theorem dX7_is_9 : decode cX7_is 9 = .ok (.iconst 0, 1) := by decide +kernel
theorem dX7_is_10 : decode cX7_is 10 = .ok (.bipush 7, 2) := by decide +kernel
theorem dX7_is_12 : decode cX7_is 12 = .ok (.invokestatic 82, 3) := by decide +kernel
theorem dX7_is_15 : decode cX7_is 15 = .ok (.ifCond .ne 7, 3) := by decide +kernel
theorem dX7_is_18 : decode cX7_is 18 = .ok (.iconst (-1), 1) := by decide +kernel
theorem dX7_is_19 : decode cX7_is 19 = .ok (.goto 17, 3) := by decide +kernel
theorem dX7_is_22 : decode cX7_is 22 = .ok (.aload_n 0, 1) := by decide +kernel
theorem dX7_is_23 : decode cX7_is 23 = .ok (.iload_n 1, 1) := by decide +kernel
theorem dX7_is_24 : decode cX7_is 24 = .ok (.iload_n 2, 1) := by decide +kernel
theorem dX7_is_25 : decode cX7_is 25 = .ok (.invokevirtual 105, 3) := by decide +kernel
theorem dX7_is_28 : decode cX7_is 28 = .ok (.ifCond .eq 7, 3) := by decide +kernel
theorem dX7_is_31 : decode cX7_is 31 = .ok (.iconst 1, 1) := by decide +kernel
theorem dX7_is_32 : decode cX7_is 32 = .ok (.goto 4, 3) := by decide +kernel
theorem dX7_is_35 : decode cX7_is 35 = .ok (.iconst 0, 1) := by decide +kernel
theorem dX7_is_36 : decode cX7_is 36 = .ok (.ireturn, 1) := by decide +kernel
theorem cvX7_is : CV yX7_is cX7_is 3 (some .int) 8 2 := ⟨kw_902, kw_903, kw_6, kw_904, ⟨_, _, rfl⟩, by decide, by decide +kernel, by decide +kernel, by decide +kernel⟩
def fX7_is_b0 (sh : Sh) (d : Dt) (x0 : Nat) (x1 : Int32) (x2 : Int32) : Option (Int32) := bd (kc sh 9 x0) fun _ => bd (fX7_isPage sh d x0 x1) fun r3 => if (bI r3) = 0 then (some (-1 : Int32)) else (bd (fX7_in sh d x2 (0 : Int32) (7 : Int32)) fun r6 => if (bI r6) = 0 then (some (-1 : Int32)) else (bd (fX7_isOf sh d x0 x1 x2) fun r9 => if (bI r9) = 0 then (some (0 : Int32)) else (some (1 : Int32))))

def fX7_is (sh : Sh) (d : Dt) (x0 : Nat) (x1 : Int32) (x2 : Int32) : Option (Int32) := fX7_is_b0 sh d x0 x1 x2

set_option maxRecDepth 100000 in
set_option maxHeartbeats 4000000 in
theorem wX7_is_b0 (C : mx p s m args meth c yX7_is cX7_is 3 (some .int) A D cy st) {r : Int32} {d : Dt} : ∀ (x0 : Nat) (x1 : Int32) (x2 : Int32), fX7_is_b0 sh d x0 x1 x2 = some r → ∀ {H : Heap} {locs : List Loc} {ls : Array Slot}, HW A D cy sz sh d H → va_S A s.heap H locs → lv_has ls 3 [(0, .ref x0), (1, .int x1), (2, .int x2)] → GL p l e s m args below meth c 2 43 A D cy (some (.int r)) sz sh d H locs 0 ls [] := by
  have hx := C.1
  have hb := C.2.1
  intro x0 x1 x2 hf H locs ls hw hS hl
  unfold fX7_is_b0 at hf
  refine lv_aload_n hx hb dX7_is_0 rfl (lv_at hl 0 rfl) ?_
  refine lv_iload_n hx hb dX7_is_1 rfl (lv_at hl 1 rfl) ?_
  obtain ⟨_, h1, hf⟩ := bd_s hf
  obtain ⟨r3, h2, hf⟩ := bd_s hf
  refine cl_V0 C hw hS (tX7_isPage l A D cy st sz sh d x0 x1 h2) cvX7_isPage kw_905 (kc_k h1) ⟨Nat.le_of_ble_eq_true rfl, Nat.le_of_ble_eq_true rfl⟩ hl.1 rfl (Nat.le_of_ble_eq_true rfl) dX7_is_2 ⟨Nat.zero_le _, Nat.zero_le _⟩ (fun H locs hw hS => ?_)
  refine lv_if_eq (tgt := 18) hx hb dX7_is_5 (by decide) (fun c_4 => ?_) (fun c_4 => ?_)
  · have hf := if_t c_4 hf
    refine lv_iconst (v := -1) hx hb dX7_is_18 (by decide) ?_
    refine lv_goto (tgt := 36) hx hb dX7_is_19 (by decide) ?_
    cases hf
    exact rt_i C hw hS dX7_is_36
  · have hf := if_f c_4 hf
    refine lv_iload_n hx hb dX7_is_8 rfl (lv_at hl 2 rfl) ?_
    refine lv_iconst (v := 0) hx hb dX7_is_9 (by decide) ?_
    refine lv_bipush (v := 7) hx hb dX7_is_10 (by decide) ?_
    obtain ⟨r6, h5, hf⟩ := bd_s hf
    refine cl_S0 C hw hS (tX7_in l A D cy st sz sh d x2 (0 : Int32) (7 : Int32) h5) csX7_in kw_890 ⟨Nat.le_of_ble_eq_true rfl, Nat.le_of_ble_eq_true rfl⟩ hl.1 rfl (Nat.le_of_ble_eq_true rfl) dX7_is_12 ⟨Nat.zero_le _, Nat.zero_le _⟩ (fun H locs hw hS => ?_)
    refine lv_if_ne (tgt := 22) hx hb dX7_is_15 (by decide) (fun c_7 => ?_) (fun c_7 => ?_)
    · have hf := if_f c_7 hf
      refine lv_aload_n hx hb dX7_is_22 rfl (lv_at hl 0 rfl) ?_
      refine lv_iload_n hx hb dX7_is_23 rfl (lv_at hl 1 rfl) ?_
      refine lv_iload_n hx hb dX7_is_24 rfl (lv_at hl 2 rfl) ?_
      obtain ⟨r9, h8, hf⟩ := bd_s hf
      refine cl_V0 C hw hS (tX7_isOf l A D cy st sz sh d x0 x1 x2 h8) cvX7_isOf kw_909 (kc_k h1) ⟨Nat.le_of_ble_eq_true rfl, Nat.le_of_ble_eq_true rfl⟩ hl.1 rfl (Nat.le_of_ble_eq_true rfl) dX7_is_25 ⟨Nat.zero_le _, Nat.zero_le _⟩ (fun H locs hw hS => ?_)
      refine lv_if_eq (tgt := 35) hx hb dX7_is_28 (by decide) (fun c_10 => ?_) (fun c_10 => ?_)
      · have hf := if_t c_10 hf
        refine lv_iconst (v := 0) hx hb dX7_is_35 (by decide) ?_
        cases hf
        exact rt_i C hw hS dX7_is_36
      · have hf := if_f c_10 hf
        refine lv_iconst (v := 1) hx hb dX7_is_31 (by decide) ?_
        refine lv_goto (tgt := 36) hx hb dX7_is_32 (by decide) ?_
        cases hf
        exact rt_i C hw hS dX7_is_36
    · have hf := if_t c_7 hf
      refine lv_iconst (v := -1) hx hb dX7_is_18 (by decide) ?_
      refine lv_goto (tgt := 36) hx hb dX7_is_19 (by decide) ?_
      cases hf
      exact rt_i C hw hS dX7_is_36

set_option maxRecDepth 100000 in
set_option maxHeartbeats 4000000 in
theorem tX7_is (l : Launch) (A : Nat → Prop) (D : va_G) (cy : Nat → ClassId) (st : Nat → Nat) (sz : Nat) (sh : Sh) (d : Dt) (x0 : Nat) (x1 : Int32) (x2 : Int32) {r : Int32} (hf : fX7_is sh d x0 x1 x2 = some r) : Ct l yX7_is cX7_is 3 (some .int) 2 43 0 0 A D cy st [.ref x0, .int x1, .int x2] sz sh d (some (.int r)) sz sh d := ct_of (by decide) (Nat.le_of_ble_eq_true rfl) (fun p e s m args below meth c C hw hS ls hl => wX7_is_b0 C x0 x1 x2 hf hw hS hl)
theorem dX7_keep_0 : decode cX7_keep 0 = .ok (.aload_n 0, 1) := by decide +kernel
theorem dX7_keep_1 : decode cX7_keep 1 = .ok (.iload_n 1, 1) := by decide +kernel
theorem dX7_keep_2 : decode cX7_keep 2 = .ok (.invokevirtual 109, 3) := by decide +kernel
theorem dX7_keep_5 : decode cX7_keep 5 = .ok (.ifCond .eq 11, 3) := by decide +kernel
theorem dX7_keep_8 : decode cX7_keep 8 = .ok (.aload_n 0, 1) := by decide +kernel
theorem dX7_keep_9 : decode cX7_keep 9 = .ok (.iload_n 2, 1) := by decide +kernel
theorem dX7_keep_10 : decode cX7_keep 10 = .ok (.invokevirtual 101, 3) := by decide +kernel
theorem dX7_keep_13 : decode cX7_keep 13 = .ok (.ifCond .ne 5, 3) := by decide +kernel
theorem dX7_keep_16 : decode cX7_keep 16 = .ok (.iconst (-1), 1) := by decide +kernel
theorem dX7_keep_17 : decode cX7_keep 17 = .ok (.ireturn, 1) := by decide +kernel
theorem dX7_keep_18 : decode cX7_keep 18 = .ok (.aload_n 0, 1) := by decide +kernel
theorem dX7_keep_19 : decode cX7_keep 19 = .ok (.getfield 20, 3) := by decide +kernel
theorem dX7_keep_22 : decode cX7_keep 22 = .ok (.bipush 10, 2) := by decide +kernel
theorem dX7_keep_24 : decode cX7_keep 24 = .ok (.iload_n 1, 1) := by decide +kernel
theorem dX7_keep_25 : decode cX7_keep 25 = .ok (.imul, 1) := by decide +kernel
theorem dX7_keep_26 : decode cX7_keep 26 = .ok (.iload_n 2, 1) := by decide +kernel
theorem dX7_keep_27 : decode cX7_keep 27 = .ok (.iadd, 1) := by decide +kernel
theorem dX7_keep_28 : decode cX7_keep 28 = .ok (.baload, 1) := by decide +kernel
theorem dX7_keep_29 : decode cX7_keep 29 = .ok (.ifCond .eq 7, 3) := by decide +kernel
theorem dX7_keep_32 : decode cX7_keep 32 = .ok (.iconst 0, 1) := by decide +kernel
theorem dX7_keep_33 : decode cX7_keep 33 = .ok (.goto 4, 3) := by decide +kernel
theorem dX7_keep_36 : decode cX7_keep 36 = .ok (.iconst 1, 1) := by decide +kernel
theorem dX7_keep_37 : decode cX7_keep 37 = .ok (.istore 4, 2) := by decide +kernel
theorem dX7_keep_39 : decode cX7_keep 39 = .ok (.aload_n 0, 1) := by decide +kernel
theorem dX7_keep_40 : decode cX7_keep 40 = .ok (.getfield 20, 3) := by decide +kernel
theorem dX7_keep_43 : decode cX7_keep 43 = .ok (.bipush 10, 2) := by decide +kernel
theorem dX7_keep_45 : decode cX7_keep 45 = .ok (.iload_n 1, 1) := by decide +kernel
theorem dX7_keep_46 : decode cX7_keep 46 = .ok (.imul, 1) := by decide +kernel
theorem dX7_keep_47 : decode cX7_keep 47 = .ok (.iload_n 2, 1) := by decide +kernel
theorem dX7_keep_48 : decode cX7_keep 48 = .ok (.iadd, 1) := by decide +kernel
theorem dX7_keep_49 : decode cX7_keep 49 = .ok (.iload_n 3, 1) := by decide +kernel
theorem dX7_keep_50 : decode cX7_keep 50 = .ok (.ifCond .ne 7, 3) := by decide +kernel
theorem dX7_keep_53 : decode cX7_keep 53 = .ok (.iconst 1, 1) := by decide +kernel
theorem dX7_keep_54 : decode cX7_keep 54 = .ok (.goto 4, 3) := by decide +kernel
theorem dX7_keep_57 : decode cX7_keep 57 = .ok (.iconst 0, 1) := by decide +kernel
theorem dX7_keep_58 : decode cX7_keep 58 = .ok (.bastore, 1) := by decide +kernel
theorem dX7_keep_59 : decode cX7_keep 59 = .ok (.iload 4, 2) := by decide +kernel
theorem dX7_keep_61 : decode cX7_keep 61 = .ok (.ireturn, 1) := by decide +kernel
theorem cvX7_keep : CV yX7_keep cX7_keep 5 (some .int) 8 3 := ⟨kw_914, kw_915, kw_6, kw_916, ⟨_, _, rfl⟩, by decide, by decide +kernel, by decide +kernel, by decide +kernel⟩
def fX7_keep_b58 (sh : Sh) (x4 : Int32) (t0 : Option Nat) (t1 : Int32) (t2 : Int32) (d : Dt) : Option (Int32 × Dt) := bd t0 fun a1 => bd (sZ sh d 22 a1 t1 t2) fun d2 => some (x4, d2)

def fX7_keep_b37 (sh : Sh) (x0 : Nat) (x1 : Int32) (x2 : Int32) (x3 : Int32) (t0 : Int32) (d : Dt) : Option (Int32 × Dt) := bd (gR sh d 9 293 x0) fun v1 => if x3 = 0 then (fX7_keep_b58 sh t0 v1 (((10 : Int32) * x1) + x2) (1 : Int32) d) else (fX7_keep_b58 sh t0 v1 (((10 : Int32) * x1) + x2) (0 : Int32) d)

def fX7_keep_b0 (sh : Sh) (x0 : Nat) (x1 : Int32) (x2 : Int32) (x3 : Int32) (d : Dt) : Option (Int32 × Dt) := bd (kc sh 9 x0) fun _ => bd (fX7_isHand sh d x0 x1) fun r3 => if (bI r3) = 0 then (some ((-1 : Int32), d)) else (bd (fX7_isPage sh d x0 x2) fun r6 => if (bI r6) = 0 then (some ((-1 : Int32), d)) else (bd (gR sh d 9 293 x0) fun v8 => bd v8 fun a9 => bd (aI sh d 22 a9 (((10 : Int32) * x1) + x2)) fun v10 => if v10 = 0 then (fX7_keep_b37 sh x0 x1 x2 x3 (1 : Int32) d) else (fX7_keep_b37 sh x0 x1 x2 x3 (0 : Int32) d)))

def fX7_keep (sh : Sh) (d : Dt) (x0 : Nat) (x1 : Int32) (x2 : Int32) (x3 : Int32) : Option (Int32 × Dt) := fX7_keep_b0 sh x0 x1 x2 x3 d

set_option maxRecDepth 100000 in
set_option maxHeartbeats 4000000 in
theorem wX7_keep_b58 (C : mx p s m args meth c yX7_keep cX7_keep 5 (some .int) A D cy st) {r : Int32} {d9 : Dt} : ∀ (x4 : Int32) (t0 : Option Nat) (t1 : Int32) (t2 : Int32) (d : Dt), fX7_keep_b58 sh x4 t0 t1 t2 d = some (r, d9) → ∀ {H : Heap} {locs : List Loc} {ls : Array Slot}, HW A D cy sz sh d H → va_S A s.heap H locs → lv_has ls 5 [(4, .int x4)] → GL p l e s m args below meth c 2 43 A D cy (some (.int r)) sz sh d9 H locs 58 ls [.int t2, .int t1, va_rf t0] := by
  have hx := C.1
  have hb := C.2.1
  intro x4 t0 t1 t2 d hf H locs ls hw hS hl
  unfold fX7_keep_b58 at hf
  obtain ⟨a1, ea1, hg⟩ := bd_s hf
  clear hf
  subst ea1
  have hf := hg
  clear hg
  obtain ⟨d2, hd2, hf⟩ := bd_s hf
  refine w_zast C hw hS hd2 dX7_keep_58 (fun H locs hw hS => ?_)
  refine lv_iload hx hb dX7_keep_59 (lv_at hl 0 rfl) ?_
  cases hf
  exact rt_i C hw hS dX7_keep_61

set_option maxRecDepth 100000 in
set_option maxHeartbeats 4000000 in
theorem wX7_keep_b37 (C : mx p s m args meth c yX7_keep cX7_keep 5 (some .int) A D cy st) {r : Int32} {d9 : Dt} : ∀ (x0 : Nat) (x1 : Int32) (x2 : Int32) (x3 : Int32) (t0 : Int32) (d : Dt), fX7_keep_b37 sh x0 x1 x2 x3 t0 d = some (r, d9) → ∀ {H : Heap} {locs : List Loc} {ls : Array Slot}, HW A D cy sz sh d H → va_S A s.heap H locs → lv_has ls 5 [(0, .ref x0), (1, .int x1), (2, .int x2), (3, .int x3)] → GL p l e s m args below meth c 2 43 A D cy (some (.int r)) sz sh d9 H locs 37 ls [.int t0] := by
  have hx := C.1
  have hb := C.2.1
  intro x0 x1 x2 x3 t0 d hf H locs ls hw hS hl
  unfold fX7_keep_b37 at hf
  refine lv_istore (lv' := [(4, .int t0), (0, .ref x0), (1, .int x1), (2, .int x2), (3, .int x3)]) hx hb dX7_keep_37 hl (by decide) rfl (fun ls hl => ?_)
  refine lv_aload_n hx hb dX7_keep_39 rfl (lv_at hl 1 rfl) ?_
  obtain ⟨v1, hv1, hf⟩ := bd_s hf
  refine gt_293 C hw hv1 kw_802 dX7_keep_40 ?_
  refine lv_bipush (v := 10) hx hb dX7_keep_43 (by decide) ?_
  refine lv_iload_n hx hb dX7_keep_45 rfl (lv_at hl 2 rfl) ?_
  refine lv_imul hx hb dX7_keep_46 ?_
  refine lv_iload_n hx hb dX7_keep_47 rfl (lv_at hl 3 rfl) ?_
  refine lv_iadd hx hb dX7_keep_48 ?_
  refine lv_iload_n hx hb dX7_keep_49 rfl (lv_at hl 4 rfl) ?_
  refine lv_if_ne (tgt := 57) hx hb dX7_keep_50 (by decide) (fun c_2 => ?_) (fun c_2 => ?_)
  · have hf := if_f c_2 hf
    refine lv_iconst (v := 0) hx hb dX7_keep_57 (by decide) ?_
    exact wX7_keep_b58 C t0 v1 (((10 : Int32) * x1) + x2) (0 : Int32) d hf hw hS (lv_sub hl [0] rfl)
  · have hf := if_t c_2 hf
    refine lv_iconst (v := 1) hx hb dX7_keep_53 (by decide) ?_
    refine lv_goto (tgt := 58) hx hb dX7_keep_54 (by decide) ?_
    exact wX7_keep_b58 C t0 v1 (((10 : Int32) * x1) + x2) (1 : Int32) d hf hw hS (lv_sub hl [0] rfl)

set_option maxRecDepth 100000 in
set_option maxHeartbeats 4000000 in
theorem wX7_keep_b0 (C : mx p s m args meth c yX7_keep cX7_keep 5 (some .int) A D cy st) {r : Int32} {d9 : Dt} : ∀ (x0 : Nat) (x1 : Int32) (x2 : Int32) (x3 : Int32) (d : Dt), fX7_keep_b0 sh x0 x1 x2 x3 d = some (r, d9) → ∀ {H : Heap} {locs : List Loc} {ls : Array Slot}, HW A D cy sz sh d H → va_S A s.heap H locs → lv_has ls 5 [(0, .ref x0), (1, .int x1), (2, .int x2), (3, .int x3)] → GL p l e s m args below meth c 2 43 A D cy (some (.int r)) sz sh d9 H locs 0 ls [] := by
  have hx := C.1
  have hb := C.2.1
  intro x0 x1 x2 x3 d hf H locs ls hw hS hl
  unfold fX7_keep_b0 at hf
  refine lv_aload_n hx hb dX7_keep_0 rfl (lv_at hl 0 rfl) ?_
  refine lv_iload_n hx hb dX7_keep_1 rfl (lv_at hl 1 rfl) ?_
  obtain ⟨_, h1, hf⟩ := bd_s hf
  obtain ⟨r3, h2, hf⟩ := bd_s hf
  refine cl_V0 C hw hS (tX7_isHand l A D cy st sz sh d x0 x1 h2) cvX7_isHand kw_917 (kc_k h1) ⟨Nat.le_of_ble_eq_true rfl, Nat.le_of_ble_eq_true rfl⟩ hl.1 rfl (Nat.le_of_ble_eq_true rfl) dX7_keep_2 ⟨Nat.zero_le _, Nat.zero_le _⟩ (fun H locs hw hS => ?_)
  refine lv_if_eq (tgt := 16) hx hb dX7_keep_5 (by decide) (fun c_4 => ?_) (fun c_4 => ?_)
  · have hf := if_t c_4 hf
    refine lv_iconst (v := -1) hx hb dX7_keep_16 (by decide) ?_
    cases hf
    exact rt_i C hw hS dX7_keep_17
  · have hf := if_f c_4 hf
    refine lv_aload_n hx hb dX7_keep_8 rfl (lv_at hl 0 rfl) ?_
    refine lv_iload_n hx hb dX7_keep_9 rfl (lv_at hl 2 rfl) ?_
    obtain ⟨r6, h5, hf⟩ := bd_s hf
    refine cl_V0 C hw hS (tX7_isPage l A D cy st sz sh d x0 x2 h5) cvX7_isPage kw_905 (kc_k h1) ⟨Nat.le_of_ble_eq_true rfl, Nat.le_of_ble_eq_true rfl⟩ hl.1 rfl (Nat.le_of_ble_eq_true rfl) dX7_keep_10 ⟨Nat.zero_le _, Nat.zero_le _⟩ (fun H locs hw hS => ?_)
    refine lv_if_ne (tgt := 18) hx hb dX7_keep_13 (by decide) (fun c_7 => ?_) (fun c_7 => ?_)
    · have hf := if_f c_7 hf
      refine lv_aload_n hx hb dX7_keep_18 rfl (lv_at hl 0 rfl) ?_
      obtain ⟨v8, hv8, hf⟩ := bd_s hf
      refine gt_293 C hw hv8 kw_802 dX7_keep_19 ?_
      refine lv_bipush (v := 10) hx hb dX7_keep_22 (by decide) ?_
      refine lv_iload_n hx hb dX7_keep_24 rfl (lv_at hl 1 rfl) ?_
      refine lv_imul hx hb dX7_keep_25 ?_
      refine lv_iload_n hx hb dX7_keep_26 rfl (lv_at hl 2 rfl) ?_
      refine lv_iadd hx hb dX7_keep_27 ?_
      obtain ⟨a9, ea9, hg⟩ := bd_s hf
      clear hf
      subst ea9
      have hf := hg
      clear hg
      obtain ⟨v10, hv10, hf⟩ := bd_s hf
      refine w_zald C hw hv10 dX7_keep_28 ?_
      refine lv_if_eq (tgt := 36) hx hb dX7_keep_29 (by decide) (fun c_11 => ?_) (fun c_11 => ?_)
      · have hf := if_t c_11 hf
        refine lv_iconst (v := 1) hx hb dX7_keep_36 (by decide) ?_
        exact wX7_keep_b37 C x0 x1 x2 x3 (1 : Int32) d hf hw hS (lv_sub hl [0, 1, 2, 3] rfl)
      · have hf := if_f c_11 hf
        refine lv_iconst (v := 0) hx hb dX7_keep_32 (by decide) ?_
        refine lv_goto (tgt := 37) hx hb dX7_keep_33 (by decide) ?_
        exact wX7_keep_b37 C x0 x1 x2 x3 (0 : Int32) d hf hw hS (lv_sub hl [0, 1, 2, 3] rfl)
    · have hf := if_t c_7 hf
      refine lv_iconst (v := -1) hx hb dX7_keep_16 (by decide) ?_
      cases hf
      exact rt_i C hw hS dX7_keep_17

set_option maxRecDepth 100000 in
set_option maxHeartbeats 4000000 in
theorem tX7_keep (l : Launch) (A : Nat → Prop) (D : va_G) (cy : Nat → ClassId) (st : Nat → Nat) (sz : Nat) (sh : Sh) (d : Dt) (x0 : Nat) (x1 : Int32) (x2 : Int32) (x3 : Int32) {r : Int32} {d9 : Dt} (hf : fX7_keep sh d x0 x1 x2 x3 = some (r, d9)) : Ct l yX7_keep cX7_keep 5 (some .int) 2 43 0 0 A D cy st [.ref x0, .int x1, .int x2, .int x3] sz sh d (some (.int r)) sz sh d9 := ct_of (by decide) (Nat.le_of_ble_eq_true rfl) (fun p e s m args below meth c C hw hS ls hl => wX7_keep_b0 C x0 x1 x2 x3 d hf hw hS hl)
theorem dX7_isAfter_0 : decode cX7_isAfter 0 = .ok (.aload_n 0, 1) := by decide +kernel
theorem dX7_isAfter_1 : decode cX7_isAfter 1 = .ok (.getfield 36, 3) := by decide +kernel
theorem dX7_isAfter_4 : decode cX7_isAfter 4 = .ok (.iload_n 1, 1) := by decide +kernel
theorem dX7_isAfter_5 : decode cX7_isAfter 5 = .ok (.iaload, 1) := by decide +kernel
theorem dX7_isAfter_6 : decode cX7_isAfter 6 = .ok (.aload_n 0, 1) := by decide +kernel
theorem dX7_isAfter_7 : decode cX7_isAfter 7 = .ok (.getfield 36, 3) := by decide +kernel
theorem dX7_isAfter_10 : decode cX7_isAfter 10 = .ok (.iload_n 2, 1) := by decide +kernel
theorem dX7_isAfter_11 : decode cX7_isAfter 11 = .ok (.iaload, 1) := by decide +kernel
theorem dX7_isAfter_12 : decode cX7_isAfter 12 = .ok (.if_icmp .gt 33, 3) := by decide +kernel
theorem dX7_isAfter_15 : decode cX7_isAfter 15 = .ok (.aload_n 0, 1) := by decide +kernel
theorem dX7_isAfter_16 : decode cX7_isAfter 16 = .ok (.getfield 36, 3) := by decide +kernel
theorem dX7_isAfter_19 : decode cX7_isAfter 19 = .ok (.iload_n 1, 1) := by decide +kernel
theorem dX7_isAfter_20 : decode cX7_isAfter 20 = .ok (.iaload, 1) := by decide +kernel
theorem dX7_isAfter_21 : decode cX7_isAfter 21 = .ok (.aload_n 0, 1) := by decide +kernel
theorem dX7_isAfter_22 : decode cX7_isAfter 22 = .ok (.getfield 36, 3) := by decide +kernel
theorem dX7_isAfter_25 : decode cX7_isAfter 25 = .ok (.iload_n 2, 1) := by decide +kernel
theorem dX7_isAfter_26 : decode cX7_isAfter 26 = .ok (.iaload, 1) := by decide +kernel
theorem dX7_isAfter_27 : decode cX7_isAfter 27 = .ok (.if_icmp .ne 22, 3) := by decide +kernel
theorem dX7_isAfter_30 : decode cX7_isAfter 30 = .ok (.aload_n 0, 1) := by decide +kernel
theorem dX7_isAfter_31 : decode cX7_isAfter 31 = .ok (.getfield 30, 3) := by decide +kernel
theorem dX7_isAfter_34 : decode cX7_isAfter 34 = .ok (.iload_n 1, 1) := by decide +kernel
theorem dX7_isAfter_35 : decode cX7_isAfter 35 = .ok (.iaload, 1) := by decide +kernel
theorem dX7_isAfter_36 : decode cX7_isAfter 36 = .ok (.aload_n 0, 1) := by decide +kernel
theorem dX7_isAfter_37 : decode cX7_isAfter 37 = .ok (.getfield 30, 3) := by decide +kernel
theorem dX7_isAfter_40 : decode cX7_isAfter 40 = .ok (.iload_n 2, 1) := by decide +kernel
theorem dX7_isAfter_41 : decode cX7_isAfter 41 = .ok (.iaload, 1) := by decide +kernel
theorem dX7_isAfter_42 : decode cX7_isAfter 42 = .ok (.if_icmp .le 7, 3) := by decide +kernel
theorem dX7_isAfter_45 : decode cX7_isAfter 45 = .ok (.iconst 1, 1) := by decide +kernel
theorem dX7_isAfter_46 : decode cX7_isAfter 46 = .ok (.goto 4, 3) := by decide +kernel
theorem dX7_isAfter_49 : decode cX7_isAfter 49 = .ok (.iconst 0, 1) := by decide +kernel
theorem dX7_isAfter_50 : decode cX7_isAfter 50 = .ok (.ireturn, 1) := by decide +kernel
theorem cvX7_isAfter : CV yX7_isAfter cX7_isAfter 3 (some .boolean) 8 2 := ⟨kw_1036, ks_39, kw_6, kw_1037, ⟨_, _, rfl⟩, by decide, by decide +kernel, by decide +kernel, by decide +kernel⟩
def fX7_isAfter_b0 (sh : Sh) (d : Dt) (x0 : Nat) (x1 : Int32) (x2 : Int32) : Option (Bool) := bd (gR sh d 9 300 x0) fun v1 => bd v1 fun a2 => bd (aI sh d 20 a2 x1) fun v3 => bd (gR sh d 9 300 x0) fun v4 => bd v4 fun a5 => bd (aI sh d 20 a5 x2) fun v6 => if v6 < v3 then (some true) else (bd (gR sh d 9 300 x0) fun v8 => bd v8 fun a9 => bd (aI sh d 20 a9 x1) fun v10 => bd (gR sh d 9 300 x0) fun v11 => bd v11 fun a12 => bd (aI sh d 20 a12 x2) fun v13 => if v10 = v13 then (bd (gR sh d 9 298 x0) fun v15 => bd v15 fun a16 => bd (aI sh d 20 a16 x1) fun v17 => bd (gR sh d 9 298 x0) fun v18 => bd v18 fun a19 => bd (aI sh d 20 a19 x2) fun v20 => if v17 ≤ v20 then (some false) else (some true)) else (some false))

def fX7_isAfter (sh : Sh) (d : Dt) (x0 : Nat) (x1 : Int32) (x2 : Int32) : Option (Bool) := fX7_isAfter_b0 sh d x0 x1 x2

set_option maxRecDepth 100000 in
set_option maxHeartbeats 4000000 in
theorem wX7_isAfter_b0 (C : mx p s m args meth c yX7_isAfter cX7_isAfter 3 (some .boolean) A D cy st) {r : Bool} {d : Dt} : ∀ (x0 : Nat) (x1 : Int32) (x2 : Int32), fX7_isAfter_b0 sh d x0 x1 x2 = some r → ∀ {H : Heap} {locs : List Loc} {ls : Array Slot}, HW A D cy sz sh d H → va_S A s.heap H locs → lv_has ls 3 [(0, .ref x0), (1, .int x1), (2, .int x2)] → GL p l e s m args below meth c 0 0 A D cy (some (.int (bI r))) sz sh d H locs 0 ls [] := by
  have hx := C.1
  have hb := C.2.1
  intro x0 x1 x2 hf H locs ls hw hS hl
  unfold fX7_isAfter_b0 at hf
  refine lv_aload_n hx hb dX7_isAfter_0 rfl (lv_at hl 0 rfl) ?_
  obtain ⟨v1, hv1, hf⟩ := bd_s hf
  refine gt_300 C hw hv1 kw_809 dX7_isAfter_1 ?_
  refine lv_iload_n hx hb dX7_isAfter_4 rfl (lv_at hl 1 rfl) ?_
  obtain ⟨a2, ea2, hg⟩ := bd_s hf
  clear hf
  subst ea2
  have hf := hg
  clear hg
  obtain ⟨v3, hv3, hf⟩ := bd_s hf
  refine w_iald C hw hv3 dX7_isAfter_5 ?_
  refine lv_aload_n hx hb dX7_isAfter_6 rfl (lv_at hl 0 rfl) ?_
  obtain ⟨v4, hv4, hf⟩ := bd_s hf
  refine gt_300 C hw hv4 kw_809 dX7_isAfter_7 ?_
  refine lv_iload_n hx hb dX7_isAfter_10 rfl (lv_at hl 2 rfl) ?_
  obtain ⟨a5, ea5, hg⟩ := bd_s hf
  clear hf
  subst ea5
  have hf := hg
  clear hg
  obtain ⟨v6, hv6, hf⟩ := bd_s hf
  refine w_iald C hw hv6 dX7_isAfter_11 ?_
  refine lv_icmp_gt (tgt := 45) hx hb dX7_isAfter_12 (by decide) (fun c_7 => ?_) (fun c_7 => ?_)
  · have hf := if_t c_7 hf
    refine lv_iconst (v := 1) hx hb dX7_isAfter_45 (by decide) ?_
    refine lv_goto (tgt := 50) hx hb dX7_isAfter_46 (by decide) ?_
    cases hf
    exact rt_z C hw hS _ rfl dX7_isAfter_50
  · have hf := if_f c_7 hf
    refine lv_aload_n hx hb dX7_isAfter_15 rfl (lv_at hl 0 rfl) ?_
    obtain ⟨v8, hv8, hf⟩ := bd_s hf
    refine gt_300 C hw hv8 kw_809 dX7_isAfter_16 ?_
    refine lv_iload_n hx hb dX7_isAfter_19 rfl (lv_at hl 1 rfl) ?_
    obtain ⟨a9, ea9, hg⟩ := bd_s hf
    clear hf
    subst ea9
    have hf := hg
    clear hg
    obtain ⟨v10, hv10, hf⟩ := bd_s hf
    refine w_iald C hw hv10 dX7_isAfter_20 ?_
    refine lv_aload_n hx hb dX7_isAfter_21 rfl (lv_at hl 0 rfl) ?_
    obtain ⟨v11, hv11, hf⟩ := bd_s hf
    refine gt_300 C hw hv11 kw_809 dX7_isAfter_22 ?_
    refine lv_iload_n hx hb dX7_isAfter_25 rfl (lv_at hl 2 rfl) ?_
    obtain ⟨a12, ea12, hg⟩ := bd_s hf
    clear hf
    subst ea12
    have hf := hg
    clear hg
    obtain ⟨v13, hv13, hf⟩ := bd_s hf
    refine w_iald C hw hv13 dX7_isAfter_26 ?_
    refine lv_icmp_ne (tgt := 49) hx hb dX7_isAfter_27 (by decide) (fun c_14 => ?_) (fun c_14 => ?_)
    · have hf := if_f c_14 hf
      refine lv_iconst (v := 0) hx hb dX7_isAfter_49 (by decide) ?_
      cases hf
      exact rt_z C hw hS _ rfl dX7_isAfter_50
    · have hf := if_t c_14 hf
      refine lv_aload_n hx hb dX7_isAfter_30 rfl (lv_at hl 0 rfl) ?_
      obtain ⟨v15, hv15, hf⟩ := bd_s hf
      refine gt_298 C hw hv15 kw_807 dX7_isAfter_31 ?_
      refine lv_iload_n hx hb dX7_isAfter_34 rfl (lv_at hl 1 rfl) ?_
      obtain ⟨a16, ea16, hg⟩ := bd_s hf
      clear hf
      subst ea16
      have hf := hg
      clear hg
      obtain ⟨v17, hv17, hf⟩ := bd_s hf
      refine w_iald C hw hv17 dX7_isAfter_35 ?_
      refine lv_aload_n hx hb dX7_isAfter_36 rfl (lv_at hl 0 rfl) ?_
      obtain ⟨v18, hv18, hf⟩ := bd_s hf
      refine gt_298 C hw hv18 kw_807 dX7_isAfter_37 ?_
      refine lv_iload_n hx hb dX7_isAfter_40 rfl (lv_at hl 2 rfl) ?_
      obtain ⟨a19, ea19, hg⟩ := bd_s hf
      clear hf
      subst ea19
      have hf := hg
      clear hg
      obtain ⟨v20, hv20, hf⟩ := bd_s hf
      refine w_iald C hw hv20 dX7_isAfter_41 ?_
      refine lv_icmp_le (tgt := 49) hx hb dX7_isAfter_42 (by decide) (fun c_21 => ?_) (fun c_21 => ?_)
      · have hf := if_t c_21 hf
        refine lv_iconst (v := 0) hx hb dX7_isAfter_49 (by decide) ?_
        cases hf
        exact rt_z C hw hS _ rfl dX7_isAfter_50
      · have hf := if_f c_21 hf
        refine lv_iconst (v := 1) hx hb dX7_isAfter_45 (by decide) ?_
        refine lv_goto (tgt := 50) hx hb dX7_isAfter_46 (by decide) ?_
        cases hf
        exact rt_z C hw hS _ rfl dX7_isAfter_50

set_option maxRecDepth 100000 in
set_option maxHeartbeats 4000000 in
theorem tX7_isAfter (l : Launch) (A : Nat → Prop) (D : va_G) (cy : Nat → ClassId) (st : Nat → Nat) (sz : Nat) (sh : Sh) (d : Dt) (x0 : Nat) (x1 : Int32) (x2 : Int32) {r : Bool} (hf : fX7_isAfter sh d x0 x1 x2 = some r) : Ct l yX7_isAfter cX7_isAfter 3 (some .boolean) 0 0 0 0 A D cy st [.ref x0, .int x1, .int x2] sz sh d (some (.int (bI r))) sz sh d := ct_of (by decide) (Nat.le_of_ble_eq_true rfl) (fun p e s m args below meth c C hw hS ls hl => wX7_isAfter_b0 C x0 x1 x2 hf hw hS hl)
theorem dX7_greatestCount_0 : decode cX7_greatestCount 0 = .ok (.iconst 0, 1) := by decide +kernel
theorem dX7_greatestCount_1 : decode cX7_greatestCount 1 = .ok (.istore_n 2, 1) := by decide +kernel
theorem dX7_greatestCount_2 : decode cX7_greatestCount 2 = .ok (.iconst 0, 1) := by decide +kernel
theorem dX7_greatestCount_3 : decode cX7_greatestCount 3 = .ok (.istore_n 3, 1) := by decide +kernel
theorem dX7_greatestCount_4 : decode cX7_greatestCount 4 = .ok (.iload_n 3, 1) := by decide +kernel
theorem dX7_greatestCount_5 : decode cX7_greatestCount 5 = .ok (.aload_n 0, 1) := by decide +kernel
theorem dX7_greatestCount_6 : decode cX7_greatestCount 6 = .ok (.getfield 88, 3) := by decide +kernel
theorem dX7_greatestCount_9 : decode cX7_greatestCount 9 = .ok (.if_icmp .ge 42, 3) := by decide +kernel
theorem dX7_greatestCount_12 : decode cX7_greatestCount 12 = .ok (.aload_n 0, 1) := by decide +kernel
theorem dX7_greatestCount_13 : decode cX7_greatestCount 13 = .ok (.getfield 13, 3) := by decide +kernel
theorem dX7_greatestCount_16 : decode cX7_greatestCount 16 = .ok (.iload_n 1, 1) := by decide +kernel
theorem dX7_greatestCount_17 : decode cX7_greatestCount 17 = .ok (.iload_n 3, 1) := by decide +kernel
theorem dX7_greatestCount_18 : decode cX7_greatestCount 18 = .ok (.invokestatic 91, 3) := by decide +kernel
theorem dX7_greatestCount_21 : decode cX7_greatestCount 21 = .ok (.ifCond .eq 22, 3) := by decide +kernel
theorem dX7_greatestCount_24 : decode cX7_greatestCount 24 = .ok (.aload_n 0, 1) := by decide +kernel
theorem dX7_greatestCount_25 : decode cX7_greatestCount 25 = .ok (.getfield 36, 3) := by decide +kernel
theorem dX7_greatestCount_28 : decode cX7_greatestCount 28 = .ok (.iload_n 3, 1) := by decide +kernel
theorem dX7_greatestCount_29 : decode cX7_greatestCount 29 = .ok (.iaload, 1) := by decide +kernel
theorem dX7_greatestCount_30 : decode cX7_greatestCount 30 = .ok (.iload_n 2, 1) := by decide +kernel
theorem dX7_greatestCount_31 : decode cX7_greatestCount 31 = .ok (.if_icmp .le 12, 3) := by decide +kernel
theorem dX7_greatestCount_34 : decode cX7_greatestCount 34 = .ok (.aload_n 0, 1) := by decide +kernel
theorem dX7_greatestCount_35 : decode cX7_greatestCount 35 = .ok (.getfield 36, 3) := by decide +kernel
theorem dX7_greatestCount_38 : decode cX7_greatestCount 38 = .ok (.iload_n 3, 1) := by decide +kernel
theorem dX7_greatestCount_39 : decode cX7_greatestCount 39 = .ok (.iaload, 1) := by decide +kernel
theorem dX7_greatestCount_40 : decode cX7_greatestCount 40 = .ok (.goto 4, 3) := by decide +kernel
theorem dX7_greatestCount_43 : decode cX7_greatestCount 43 = .ok (.iload_n 2, 1) := by decide +kernel
theorem dX7_greatestCount_44 : decode cX7_greatestCount 44 = .ok (.istore_n 2, 1) := by decide +kernel
theorem dX7_greatestCount_45 : decode cX7_greatestCount 45 = .ok (.iinc 3 1, 3) := by decide +kernel
theorem dX7_greatestCount_48 : decode cX7_greatestCount 48 = .ok (.goto (-44), 3) := by decide +kernel
theorem dX7_greatestCount_51 : decode cX7_greatestCount 51 = .ok (.iload_n 2, 1) := by decide +kernel
theorem dX7_greatestCount_52 : decode cX7_greatestCount 52 = .ok (.ireturn, 1) := by decide +kernel
theorem cvX7_greatestCount : CV yX7_greatestCount cX7_greatestCount 4 (some .int) 8 1 := ⟨kw_950, ks_30, kw_6, kw_951, ⟨_, _, rfl⟩, by decide, by decide +kernel, by decide +kernel, by decide +kernel⟩
def fX7_greatestCount_b4 (sh : Sh) (d : Dt) : Nat → Nat → Int32 → Int32 → Int32 → Option (Int32)
  | 0, _, _, _, _ => none
  | n + 1, x0, x1, x2, x3 => bd (gI sh d 9 297 x0) fun v1 => if v1 ≤ x3 then (some x2) else (bd (gR sh d 9 291 x0) fun v3 => bd (fX7_isIn sh d v3 x1 x3) fun r5 => if (bI r5) = 0 then (fX7_greatestCount_b4 sh d n x0 x1 x2 (x3 + 1)) else (bd (gR sh d 9 300 x0) fun v7 => bd v7 fun a8 => bd (aI sh d 20 a8 x3) fun v9 => if v9 ≤ x2 then (fX7_greatestCount_b4 sh d n x0 x1 x2 (x3 + 1)) else (bd (gR sh d 9 300 x0) fun v11 => bd v11 fun a12 => bd (aI sh d 20 a12 x3) fun v13 => fX7_greatestCount_b4 sh d n x0 x1 v13 (x3 + 1))))

def fX7_greatestCount_b0 (sh : Sh) (d : Dt) (x0 : Nat) (x1 : Int32) : Option (Int32) := fX7_greatestCount_b4 sh d fu x0 x1 (0 : Int32) (0 : Int32)

def fX7_greatestCount (sh : Sh) (d : Dt) (x0 : Nat) (x1 : Int32) : Option (Int32) := fX7_greatestCount_b0 sh d x0 x1

set_option maxRecDepth 100000 in
set_option maxHeartbeats 4000000 in
theorem wX7_greatestCount_b4 (C : mx p s m args meth c yX7_greatestCount cX7_greatestCount 4 (some .int) A D cy st) {r : Int32} {d : Dt} : ∀ (n : Nat) (x0 : Nat) (x1 : Int32) (x2 : Int32) (x3 : Int32), fX7_greatestCount_b4 sh d n x0 x1 x2 x3 = some r → ∀ {H : Heap} {locs : List Loc} {ls : Array Slot}, HW A D cy sz sh d H → va_S A s.heap H locs → lv_has ls 4 [(0, .ref x0), (1, .int x1), (2, .int x2), (3, .int x3)] → GL p l e s m args below meth c 1 22 A D cy (some (.int r)) sz sh d H locs 4 ls [] := by
  have hx := C.1
  have hb := C.2.1
  intro n
  induction n with
  | zero => intro x0 x1 x2 x3 hf; cases hf
  | succ n ih =>
    intro x0 x1 x2 x3 hf H locs ls hw hS hl
    rw [fX7_greatestCount_b4] at hf
    refine lv_iload_n hx hb dX7_greatestCount_4 rfl (lv_at hl 3 rfl) ?_
    refine lv_aload_n hx hb dX7_greatestCount_5 rfl (lv_at hl 0 rfl) ?_
    obtain ⟨v1, hv1, hf⟩ := bd_s hf
    refine gt_297 C hw hv1 kw_806 dX7_greatestCount_6 ?_
    refine lv_icmp_ge (tgt := 51) hx hb dX7_greatestCount_9 (by decide) (fun c_2 => ?_) (fun c_2 => ?_)
    · have hf := if_t c_2 hf
      refine lv_iload_n hx hb dX7_greatestCount_51 rfl (lv_at hl 2 rfl) ?_
      cases hf
      exact rt_i C hw hS dX7_greatestCount_52
    · have hf := if_f c_2 hf
      refine lv_aload_n hx hb dX7_greatestCount_12 rfl (lv_at hl 0 rfl) ?_
      obtain ⟨v3, hv3, hf⟩ := bd_s hf
      refine gt_291 C hw hv3 kw_800 dX7_greatestCount_13 ?_
      refine lv_iload_n hx hb dX7_greatestCount_16 rfl (lv_at hl 1 rfl) ?_
      refine lv_iload_n hx hb dX7_greatestCount_17 rfl (lv_at hl 3 rfl) ?_
      obtain ⟨r5, h4, hf⟩ := bd_s hf
      refine cl_S0 C hw hS (tX7_isIn l A D cy st sz sh d v3 x1 x3 h4) csX7_isIn kw_933 ⟨Nat.le_of_ble_eq_true rfl, Nat.le_of_ble_eq_true rfl⟩ hl.1 rfl (Nat.le_of_ble_eq_true rfl) dX7_greatestCount_18 ⟨Nat.zero_le _, Nat.zero_le _⟩ (fun H locs hw hS => ?_)
      refine lv_if_eq (tgt := 43) hx hb dX7_greatestCount_21 (by decide) (fun c_6 => ?_) (fun c_6 => ?_)
      · have hf := if_t c_6 hf
        refine lv_iload_n hx hb dX7_greatestCount_43 rfl (lv_at hl 2 rfl) ?_
        refine lv_istore_n (lv' := [(2, .int x2), (0, .ref x0), (1, .int x1), (3, .int x3)]) hx hb dX7_greatestCount_44 rfl hl (by decide) rfl (fun ls hl => ?_)
        refine lv_iinc (v := (x3 + 1)) (lv' := [(3, .int (x3 + 1)), (2, .int x2), (0, .ref x0), (1, .int x1)]) hx hb dX7_greatestCount_45 hl (k := 3) rfl rfl (by decide) rfl (fun ls hl => ?_)
        refine lv_goto (tgt := 4) hx hb dX7_greatestCount_48 (by decide) ?_
        exact ih x0 x1 x2 (x3 + 1) hf hw hS (lv_sub hl [2, 3, 1, 0] rfl)
      · have hf := if_f c_6 hf
        refine lv_aload_n hx hb dX7_greatestCount_24 rfl (lv_at hl 0 rfl) ?_
        obtain ⟨v7, hv7, hf⟩ := bd_s hf
        refine gt_300 C hw hv7 kw_809 dX7_greatestCount_25 ?_
        refine lv_iload_n hx hb dX7_greatestCount_28 rfl (lv_at hl 3 rfl) ?_
        obtain ⟨a8, ea8, hg⟩ := bd_s hf
        clear hf
        subst ea8
        have hf := hg
        clear hg
        obtain ⟨v9, hv9, hf⟩ := bd_s hf
        refine w_iald C hw hv9 dX7_greatestCount_29 ?_
        refine lv_iload_n hx hb dX7_greatestCount_30 rfl (lv_at hl 2 rfl) ?_
        refine lv_icmp_le (tgt := 43) hx hb dX7_greatestCount_31 (by decide) (fun c_10 => ?_) (fun c_10 => ?_)
        · have hf := if_t c_10 hf
          refine lv_iload_n hx hb dX7_greatestCount_43 rfl (lv_at hl 2 rfl) ?_
          refine lv_istore_n (lv' := [(2, .int x2), (0, .ref x0), (1, .int x1), (3, .int x3)]) hx hb dX7_greatestCount_44 rfl hl (by decide) rfl (fun ls hl => ?_)
          refine lv_iinc (v := (x3 + 1)) (lv' := [(3, .int (x3 + 1)), (2, .int x2), (0, .ref x0), (1, .int x1)]) hx hb dX7_greatestCount_45 hl (k := 3) rfl rfl (by decide) rfl (fun ls hl => ?_)
          refine lv_goto (tgt := 4) hx hb dX7_greatestCount_48 (by decide) ?_
          exact ih x0 x1 x2 (x3 + 1) hf hw hS (lv_sub hl [2, 3, 1, 0] rfl)
        · have hf := if_f c_10 hf
          refine lv_aload_n hx hb dX7_greatestCount_34 rfl (lv_at hl 0 rfl) ?_
          obtain ⟨v11, hv11, hf⟩ := bd_s hf
          refine gt_300 C hw hv11 kw_809 dX7_greatestCount_35 ?_
          refine lv_iload_n hx hb dX7_greatestCount_38 rfl (lv_at hl 3 rfl) ?_
          obtain ⟨a12, ea12, hg⟩ := bd_s hf
          clear hf
          subst ea12
          have hf := hg
          clear hg
          obtain ⟨v13, hv13, hf⟩ := bd_s hf
          refine w_iald C hw hv13 dX7_greatestCount_39 ?_
          refine lv_goto (tgt := 44) hx hb dX7_greatestCount_40 (by decide) ?_
          refine lv_istore_n (lv' := [(2, .int v13), (0, .ref x0), (1, .int x1), (3, .int x3)]) hx hb dX7_greatestCount_44 rfl hl (by decide) rfl (fun ls hl => ?_)
          refine lv_iinc (v := (x3 + 1)) (lv' := [(3, .int (x3 + 1)), (2, .int v13), (0, .ref x0), (1, .int x1)]) hx hb dX7_greatestCount_45 hl (k := 3) rfl rfl (by decide) rfl (fun ls hl => ?_)
          refine lv_goto (tgt := 4) hx hb dX7_greatestCount_48 (by decide) ?_
          exact ih x0 x1 v13 (x3 + 1) hf hw hS (lv_sub hl [2, 3, 1, 0] rfl)

set_option maxRecDepth 100000 in
set_option maxHeartbeats 4000000 in
theorem wX7_greatestCount_b0 (C : mx p s m args meth c yX7_greatestCount cX7_greatestCount 4 (some .int) A D cy st) {r : Int32} {d : Dt} : ∀ (x0 : Nat) (x1 : Int32), fX7_greatestCount_b0 sh d x0 x1 = some r → ∀ {H : Heap} {locs : List Loc} {ls : Array Slot}, HW A D cy sz sh d H → va_S A s.heap H locs → lv_has ls 4 [(0, .ref x0), (1, .int x1)] → GL p l e s m args below meth c 1 22 A D cy (some (.int r)) sz sh d H locs 0 ls [] := by
  have hx := C.1
  have hb := C.2.1
  intro x0 x1 hf H locs ls hw hS hl
  unfold fX7_greatestCount_b0 at hf
  refine lv_iconst (v := 0) hx hb dX7_greatestCount_0 (by decide) ?_
  refine lv_istore_n (lv' := [(2, .int (0 : Int32)), (0, .ref x0), (1, .int x1)]) hx hb dX7_greatestCount_1 rfl hl (by decide) rfl (fun ls hl => ?_)
  refine lv_iconst (v := 0) hx hb dX7_greatestCount_2 (by decide) ?_
  refine lv_istore_n (lv' := [(3, .int (0 : Int32)), (2, .int (0 : Int32)), (0, .ref x0), (1, .int x1)]) hx hb dX7_greatestCount_3 rfl hl (by decide) rfl (fun ls hl => ?_)
  exact wX7_greatestCount_b4 C fu x0 x1 (0 : Int32) (0 : Int32) hf hw hS (lv_sub hl [2, 3, 1, 0] rfl)

set_option maxRecDepth 100000 in
set_option maxHeartbeats 4000000 in
theorem tX7_greatestCount (l : Launch) (A : Nat → Prop) (D : va_G) (cy : Nat → ClassId) (st : Nat → Nat) (sz : Nat) (sh : Sh) (d : Dt) (x0 : Nat) (x1 : Int32) {r : Int32} (hf : fX7_greatestCount sh d x0 x1 = some r) : Ct l yX7_greatestCount cX7_greatestCount 4 (some .int) 1 22 0 0 A D cy st [.ref x0, .int x1] sz sh d (some (.int r)) sz sh d := ct_of (by decide) (Nat.le_of_ble_eq_true rfl) (fun p e s m args below meth c C hw hS ls hl => wX7_greatestCount_b0 C x0 x1 hf hw hS hl)
theorem dX7_ownOf_0 : decode cX7_ownOf 0 = .ok (.iconst 0, 1) := by decide +kernel
theorem dX7_ownOf_1 : decode cX7_ownOf 1 = .ok (.istore_n 2, 1) := by decide +kernel
theorem dX7_ownOf_2 : decode cX7_ownOf 2 = .ok (.iconst 0, 1) := by decide +kernel
theorem dX7_ownOf_3 : decode cX7_ownOf 3 = .ok (.istore_n 3, 1) := by decide +kernel
theorem dX7_ownOf_4 : decode cX7_ownOf 4 = .ok (.iload_n 3, 1) := by decide +kernel
theorem dX7_ownOf_5 : decode cX7_ownOf 5 = .ok (.aload_n 0, 1) := by decide +kernel
theorem dX7_ownOf_6 : decode cX7_ownOf 6 = .ok (.getfield 88, 3) := by decide +kernel
theorem dX7_ownOf_9 : decode cX7_ownOf 9 = .ok (.if_icmp .ge 39, 3) := by decide +kernel
theorem dX7_ownOf_12 : decode cX7_ownOf 12 = .ok (.iload_n 2, 1) := by decide +kernel
theorem dX7_ownOf_13 : decode cX7_ownOf 13 = .ok (.aload_n 0, 1) := by decide +kernel
theorem dX7_ownOf_14 : decode cX7_ownOf 14 = .ok (.getfield 13, 3) := by decide +kernel
theorem dX7_ownOf_17 : decode cX7_ownOf 17 = .ok (.iload_n 1, 1) := by decide +kernel
theorem dX7_ownOf_18 : decode cX7_ownOf 18 = .ok (.iload_n 3, 1) := by decide +kernel
theorem dX7_ownOf_19 : decode cX7_ownOf 19 = .ok (.invokestatic 91, 3) := by decide +kernel
theorem dX7_ownOf_22 : decode cX7_ownOf 22 = .ok (.ifCond .eq 17, 3) := by decide +kernel
theorem dX7_ownOf_25 : decode cX7_ownOf 25 = .ok (.aload_n 0, 1) := by decide +kernel
theorem dX7_ownOf_26 : decode cX7_ownOf 26 = .ok (.getfield 30, 3) := by decide +kernel
theorem dX7_ownOf_29 : decode cX7_ownOf 29 = .ok (.iload_n 3, 1) := by decide +kernel
theorem dX7_ownOf_30 : decode cX7_ownOf 30 = .ok (.iaload, 1) := by decide +kernel
theorem dX7_ownOf_31 : decode cX7_ownOf 31 = .ok (.iload_n 1, 1) := by decide +kernel
theorem dX7_ownOf_32 : decode cX7_ownOf 32 = .ok (.if_icmp .ne 7, 3) := by decide +kernel
theorem dX7_ownOf_35 : decode cX7_ownOf 35 = .ok (.iconst 1, 1) := by decide +kernel
theorem dX7_ownOf_36 : decode cX7_ownOf 36 = .ok (.goto 4, 3) := by decide +kernel
theorem dX7_ownOf_39 : decode cX7_ownOf 39 = .ok (.iconst 0, 1) := by decide +kernel
theorem dX7_ownOf_40 : decode cX7_ownOf 40 = .ok (.iadd, 1) := by decide +kernel
theorem dX7_ownOf_41 : decode cX7_ownOf 41 = .ok (.istore_n 2, 1) := by decide +kernel
theorem dX7_ownOf_42 : decode cX7_ownOf 42 = .ok (.iinc 3 1, 3) := by decide +kernel
theorem dX7_ownOf_45 : decode cX7_ownOf 45 = .ok (.goto (-41), 3) := by decide +kernel
theorem dX7_ownOf_48 : decode cX7_ownOf 48 = .ok (.iload_n 2, 1) := by decide +kernel
theorem dX7_ownOf_49 : decode cX7_ownOf 49 = .ok (.ireturn, 1) := by decide +kernel
theorem cvX7_ownOf : CV yX7_ownOf cX7_ownOf 4 (some .int) 8 1 := ⟨kw_931, ks_26, kw_6, kw_932, ⟨_, _, rfl⟩, by decide, by decide +kernel, by decide +kernel, by decide +kernel⟩
def fX7_ownOf_b4 (sh : Sh) (d : Dt) : Nat → Nat → Int32 → Int32 → Int32 → Option (Int32)
  | 0, _, _, _, _ => none
  | n + 1, x0, x1, x2, x3 => bd (gI sh d 9 297 x0) fun v1 => if v1 ≤ x3 then (some x2) else (bd (gR sh d 9 291 x0) fun v3 => bd (fX7_isIn sh d v3 x1 x3) fun r5 => if (bI r5) = 0 then (fX7_ownOf_b4 sh d n x0 x1 (x2 + (0 : Int32)) (x3 + 1)) else (bd (gR sh d 9 298 x0) fun v7 => bd v7 fun a8 => bd (aI sh d 20 a8 x3) fun v9 => if v9 = x1 then (fX7_ownOf_b4 sh d n x0 x1 (x2 + (1 : Int32)) (x3 + 1)) else (fX7_ownOf_b4 sh d n x0 x1 (x2 + (0 : Int32)) (x3 + 1))))

def fX7_ownOf_b0 (sh : Sh) (d : Dt) (x0 : Nat) (x1 : Int32) : Option (Int32) := fX7_ownOf_b4 sh d fu x0 x1 (0 : Int32) (0 : Int32)

def fX7_ownOf (sh : Sh) (d : Dt) (x0 : Nat) (x1 : Int32) : Option (Int32) := fX7_ownOf_b0 sh d x0 x1

set_option maxRecDepth 100000 in
set_option maxHeartbeats 4000000 in
theorem wX7_ownOf_b4 (C : mx p s m args meth c yX7_ownOf cX7_ownOf 4 (some .int) A D cy st) {r : Int32} {d : Dt} : ∀ (n : Nat) (x0 : Nat) (x1 : Int32) (x2 : Int32) (x3 : Int32), fX7_ownOf_b4 sh d n x0 x1 x2 x3 = some r → ∀ {H : Heap} {locs : List Loc} {ls : Array Slot}, HW A D cy sz sh d H → va_S A s.heap H locs → lv_has ls 4 [(0, .ref x0), (1, .int x1), (2, .int x2), (3, .int x3)] → GL p l e s m args below meth c 1 22 A D cy (some (.int r)) sz sh d H locs 4 ls [] := by
  have hx := C.1
  have hb := C.2.1
  intro n
  induction n with
  | zero => intro x0 x1 x2 x3 hf; cases hf
  | succ n ih =>
    intro x0 x1 x2 x3 hf H locs ls hw hS hl
    rw [fX7_ownOf_b4] at hf
    refine lv_iload_n hx hb dX7_ownOf_4 rfl (lv_at hl 3 rfl) ?_
    refine lv_aload_n hx hb dX7_ownOf_5 rfl (lv_at hl 0 rfl) ?_
    obtain ⟨v1, hv1, hf⟩ := bd_s hf
    refine gt_297 C hw hv1 kw_806 dX7_ownOf_6 ?_
    refine lv_icmp_ge (tgt := 48) hx hb dX7_ownOf_9 (by decide) (fun c_2 => ?_) (fun c_2 => ?_)
    · have hf := if_t c_2 hf
      refine lv_iload_n hx hb dX7_ownOf_48 rfl (lv_at hl 2 rfl) ?_
      cases hf
      exact rt_i C hw hS dX7_ownOf_49
    · have hf := if_f c_2 hf
      refine lv_iload_n hx hb dX7_ownOf_12 rfl (lv_at hl 2 rfl) ?_
      refine lv_aload_n hx hb dX7_ownOf_13 rfl (lv_at hl 0 rfl) ?_
      obtain ⟨v3, hv3, hf⟩ := bd_s hf
      refine gt_291 C hw hv3 kw_800 dX7_ownOf_14 ?_
      refine lv_iload_n hx hb dX7_ownOf_17 rfl (lv_at hl 1 rfl) ?_
      refine lv_iload_n hx hb dX7_ownOf_18 rfl (lv_at hl 3 rfl) ?_
      obtain ⟨r5, h4, hf⟩ := bd_s hf
      refine cl_S0 C hw hS (tX7_isIn l A D cy st sz sh d v3 x1 x3 h4) csX7_isIn kw_933 ⟨Nat.le_of_ble_eq_true rfl, Nat.le_of_ble_eq_true rfl⟩ hl.1 rfl (Nat.le_of_ble_eq_true rfl) dX7_ownOf_19 ⟨Nat.zero_le _, Nat.zero_le _⟩ (fun H locs hw hS => ?_)
      refine lv_if_eq (tgt := 39) hx hb dX7_ownOf_22 (by decide) (fun c_6 => ?_) (fun c_6 => ?_)
      · have hf := if_t c_6 hf
        refine lv_iconst (v := 0) hx hb dX7_ownOf_39 (by decide) ?_
        refine lv_iadd hx hb dX7_ownOf_40 ?_
        refine lv_istore_n (lv' := [(2, .int (x2 + (0 : Int32))), (0, .ref x0), (1, .int x1), (3, .int x3)]) hx hb dX7_ownOf_41 rfl hl (by decide) rfl (fun ls hl => ?_)
        refine lv_iinc (v := (x3 + 1)) (lv' := [(3, .int (x3 + 1)), (2, .int (x2 + (0 : Int32))), (0, .ref x0), (1, .int x1)]) hx hb dX7_ownOf_42 hl (k := 3) rfl rfl (by decide) rfl (fun ls hl => ?_)
        refine lv_goto (tgt := 4) hx hb dX7_ownOf_45 (by decide) ?_
        exact ih x0 x1 (x2 + (0 : Int32)) (x3 + 1) hf hw hS (lv_sub hl [2, 3, 1, 0] rfl)
      · have hf := if_f c_6 hf
        refine lv_aload_n hx hb dX7_ownOf_25 rfl (lv_at hl 0 rfl) ?_
        obtain ⟨v7, hv7, hf⟩ := bd_s hf
        refine gt_298 C hw hv7 kw_807 dX7_ownOf_26 ?_
        refine lv_iload_n hx hb dX7_ownOf_29 rfl (lv_at hl 3 rfl) ?_
        obtain ⟨a8, ea8, hg⟩ := bd_s hf
        clear hf
        subst ea8
        have hf := hg
        clear hg
        obtain ⟨v9, hv9, hf⟩ := bd_s hf
        refine w_iald C hw hv9 dX7_ownOf_30 ?_
        refine lv_iload_n hx hb dX7_ownOf_31 rfl (lv_at hl 1 rfl) ?_
        refine lv_icmp_ne (tgt := 39) hx hb dX7_ownOf_32 (by decide) (fun c_10 => ?_) (fun c_10 => ?_)
        · have hf := if_f c_10 hf
          refine lv_iconst (v := 0) hx hb dX7_ownOf_39 (by decide) ?_
          refine lv_iadd hx hb dX7_ownOf_40 ?_
          refine lv_istore_n (lv' := [(2, .int (x2 + (0 : Int32))), (0, .ref x0), (1, .int x1), (3, .int x3)]) hx hb dX7_ownOf_41 rfl hl (by decide) rfl (fun ls hl => ?_)
          refine lv_iinc (v := (x3 + 1)) (lv' := [(3, .int (x3 + 1)), (2, .int (x2 + (0 : Int32))), (0, .ref x0), (1, .int x1)]) hx hb dX7_ownOf_42 hl (k := 3) rfl rfl (by decide) rfl (fun ls hl => ?_)
          refine lv_goto (tgt := 4) hx hb dX7_ownOf_45 (by decide) ?_
          exact ih x0 x1 (x2 + (0 : Int32)) (x3 + 1) hf hw hS (lv_sub hl [2, 3, 1, 0] rfl)
        · have hf := if_t c_10 hf
          refine lv_iconst (v := 1) hx hb dX7_ownOf_35 (by decide) ?_
          refine lv_goto (tgt := 40) hx hb dX7_ownOf_36 (by decide) ?_
          refine lv_iadd hx hb dX7_ownOf_40 ?_
          refine lv_istore_n (lv' := [(2, .int (x2 + (1 : Int32))), (0, .ref x0), (1, .int x1), (3, .int x3)]) hx hb dX7_ownOf_41 rfl hl (by decide) rfl (fun ls hl => ?_)
          refine lv_iinc (v := (x3 + 1)) (lv' := [(3, .int (x3 + 1)), (2, .int (x2 + (1 : Int32))), (0, .ref x0), (1, .int x1)]) hx hb dX7_ownOf_42 hl (k := 3) rfl rfl (by decide) rfl (fun ls hl => ?_)
          refine lv_goto (tgt := 4) hx hb dX7_ownOf_45 (by decide) ?_
          exact ih x0 x1 (x2 + (1 : Int32)) (x3 + 1) hf hw hS (lv_sub hl [2, 3, 1, 0] rfl)

set_option maxRecDepth 100000 in
set_option maxHeartbeats 4000000 in
theorem wX7_ownOf_b0 (C : mx p s m args meth c yX7_ownOf cX7_ownOf 4 (some .int) A D cy st) {r : Int32} {d : Dt} : ∀ (x0 : Nat) (x1 : Int32), fX7_ownOf_b0 sh d x0 x1 = some r → ∀ {H : Heap} {locs : List Loc} {ls : Array Slot}, HW A D cy sz sh d H → va_S A s.heap H locs → lv_has ls 4 [(0, .ref x0), (1, .int x1)] → GL p l e s m args below meth c 1 22 A D cy (some (.int r)) sz sh d H locs 0 ls [] := by
  have hx := C.1
  have hb := C.2.1
  intro x0 x1 hf H locs ls hw hS hl
  unfold fX7_ownOf_b0 at hf
  refine lv_iconst (v := 0) hx hb dX7_ownOf_0 (by decide) ?_
  refine lv_istore_n (lv' := [(2, .int (0 : Int32)), (0, .ref x0), (1, .int x1)]) hx hb dX7_ownOf_1 rfl hl (by decide) rfl (fun ls hl => ?_)
  refine lv_iconst (v := 0) hx hb dX7_ownOf_2 (by decide) ?_
  refine lv_istore_n (lv' := [(3, .int (0 : Int32)), (2, .int (0 : Int32)), (0, .ref x0), (1, .int x1)]) hx hb dX7_ownOf_3 rfl hl (by decide) rfl (fun ls hl => ?_)
  exact wX7_ownOf_b4 C fu x0 x1 (0 : Int32) (0 : Int32) hf hw hS (lv_sub hl [2, 3, 1, 0] rfl)

set_option maxRecDepth 100000 in
set_option maxHeartbeats 4000000 in
theorem tX7_ownOf (l : Launch) (A : Nat → Prop) (D : va_G) (cy : Nat → ClassId) (st : Nat → Nat) (sz : Nat) (sh : Sh) (d : Dt) (x0 : Nat) (x1 : Int32) {r : Int32} (hf : fX7_ownOf sh d x0 x1 = some r) : Ct l yX7_ownOf cX7_ownOf 4 (some .int) 1 22 0 0 A D cy st [.ref x0, .int x1] sz sh d (some (.int r)) sz sh d := ct_of (by decide) (Nat.le_of_ble_eq_true rfl) (fun p e s m args below meth c C hw hS ls hl => wX7_ownOf_b0 C x0 x1 hf hw hS hl)
theorem dX7_needSee_0 : decode cX7_needSee 0 = .ok (.aload_n 0, 1) := by decide +kernel
theorem dX7_needSee_1 : decode cX7_needSee 1 = .ok (.getfield 20, 3) := by decide +kernel
theorem dX7_needSee_4 : decode cX7_needSee 4 = .ok (.bipush 10, 2) := by decide +kernel
theorem dX7_needSee_6 : decode cX7_needSee 6 = .ok (.iload_n 1, 1) := by decide +kernel
theorem dX7_needSee_7 : decode cX7_needSee 7 = .ok (.imul, 1) := by decide +kernel
theorem dX7_needSee_8 : decode cX7_needSee 8 = .ok (.iload_n 2, 1) := by decide +kernel
theorem dX7_needSee_9 : decode cX7_needSee 9 = .ok (.iadd, 1) := by decide +kernel
theorem dX7_needSee_10 : decode cX7_needSee 10 = .ok (.baload, 1) := by decide +kernel
theorem dX7_needSee_11 : decode cX7_needSee 11 = .ok (.ifCond .eq 11, 3) := by decide +kernel
theorem dX7_needSee_14 : decode cX7_needSee 14 = .ok (.aload_n 0, 1) := by decide +kernel
theorem dX7_needSee_15 : decode cX7_needSee 15 = .ok (.iconst 1, 1) := by decide +kernel
theorem dX7_needSee_16 : decode cX7_needSee 16 = .ok (.invokevirtual 120, 3) := by decide +kernel
theorem dX7_needSee_19 : decode cX7_needSee 19 = .ok (.goto 21, 3) := by decide +kernel
theorem dX7_needSee_22 : decode cX7_needSee 22 = .ok (.aload_n 0, 1) := by decide +kernel
theorem dX7_needSee_23 : decode cX7_needSee 23 = .ok (.iload_n 2, 1) := by decide +kernel
theorem dX7_needSee_24 : decode cX7_needSee 24 = .ok (.iload_n 3, 1) := by decide +kernel
theorem dX7_needSee_25 : decode cX7_needSee 25 = .ok (.invokevirtual 105, 3) := by decide +kernel
theorem dX7_needSee_28 : decode cX7_needSee 28 = .ok (.ifCond .ne 11, 3) := by decide +kernel
theorem dX7_needSee_31 : decode cX7_needSee 31 = .ok (.aload_n 0, 1) := by decide +kernel
theorem dX7_needSee_32 : decode cX7_needSee 32 = .ok (.iconst 3, 1) := by decide +kernel
theorem dX7_needSee_33 : decode cX7_needSee 33 = .ok (.invokevirtual 120, 3) := by decide +kernel
theorem dX7_needSee_36 : decode cX7_needSee 36 = .ok (.goto 4, 3) := by decide +kernel
theorem dX7_needSee_39 : decode cX7_needSee 39 = .ok (.iconst 0, 1) := by decide +kernel
theorem dX7_needSee_40 : decode cX7_needSee 40 = .ok (.ireturn, 1) := by decide +kernel
theorem cvX7_needSee : CV yX7_needSee cX7_needSee 4 (some .int) 8 3 := ⟨kw_938, ks_27, kw_6, kw_939, ⟨_, _, rfl⟩, by decide, by decide +kernel, by decide +kernel, by decide +kernel⟩
def fX7_needSee_b0 (sh : Sh) (x0 : Nat) (x1 : Int32) (x2 : Int32) (x3 : Int32) (d : Dt) : Option (Int32 × Dt) := bd (gR sh d 9 293 x0) fun v1 => bd v1 fun a2 => bd (aI sh d 22 a2 (((10 : Int32) * x1) + x2)) fun v3 => if v3 = 0 then (bd (fX7_isOf sh d x0 x2 x3) fun r6 => if (bI r6) = 0 then (bd2 (fX7_meets sh d x0 (3 : Int32)) fun r9 d10 => some (r9, d10)) else (some ((0 : Int32), d))) else (bd2 (fX7_meets sh d x0 (1 : Int32)) fun r12 d13 => some (r12, d13))

def fX7_needSee (sh : Sh) (d : Dt) (x0 : Nat) (x1 : Int32) (x2 : Int32) (x3 : Int32) : Option (Int32 × Dt) := fX7_needSee_b0 sh x0 x1 x2 x3 d

set_option maxRecDepth 100000 in
set_option maxHeartbeats 4000000 in
theorem wX7_needSee_b0 (C : mx p s m args meth c yX7_needSee cX7_needSee 4 (some .int) A D cy st) {r : Int32} {d9 : Dt} : ∀ (x0 : Nat) (x1 : Int32) (x2 : Int32) (x3 : Int32) (d : Dt), fX7_needSee_b0 sh x0 x1 x2 x3 d = some (r, d9) → ∀ {H : Heap} {locs : List Loc} {ls : Array Slot}, HW A D cy sz sh d H → va_S A s.heap H locs → lv_has ls 4 [(0, .ref x0), (1, .int x1), (2, .int x2), (3, .int x3)] → GL p l e s m args below meth c 1 23 A D cy (some (.int r)) sz sh d9 H locs 0 ls [] := by
  have hx := C.1
  have hb := C.2.1
  intro x0 x1 x2 x3 d hf H locs ls hw hS hl
  unfold fX7_needSee_b0 at hf
  refine lv_aload_n hx hb dX7_needSee_0 rfl (lv_at hl 0 rfl) ?_
  obtain ⟨v1, hv1, hf⟩ := bd_s hf
  refine gt_293 C hw hv1 kw_802 dX7_needSee_1 ?_
  refine lv_bipush (v := 10) hx hb dX7_needSee_4 (by decide) ?_
  refine lv_iload_n hx hb dX7_needSee_6 rfl (lv_at hl 1 rfl) ?_
  refine lv_imul hx hb dX7_needSee_7 ?_
  refine lv_iload_n hx hb dX7_needSee_8 rfl (lv_at hl 2 rfl) ?_
  refine lv_iadd hx hb dX7_needSee_9 ?_
  obtain ⟨a2, ea2, hg⟩ := bd_s hf
  clear hf
  subst ea2
  have hf := hg
  clear hg
  obtain ⟨v3, hv3, hf⟩ := bd_s hf
  refine w_zald C hw hv3 dX7_needSee_10 ?_
  refine lv_if_eq (tgt := 22) hx hb dX7_needSee_11 (by decide) (fun c_4 => ?_) (fun c_4 => ?_)
  · have hf := if_t c_4 hf
    refine lv_aload_n hx hb dX7_needSee_22 rfl (lv_at hl 0 rfl) ?_
    refine lv_iload_n hx hb dX7_needSee_23 rfl (lv_at hl 2 rfl) ?_
    refine lv_iload_n hx hb dX7_needSee_24 rfl (lv_at hl 3 rfl) ?_
    obtain ⟨r6, h5, hf⟩ := bd_s hf
    refine cl_V0 C hw hS (tX7_isOf l A D cy st sz sh d x0 x2 x3 h5) cvX7_isOf kw_909 (gR_s hv1).1 ⟨Nat.le_of_ble_eq_true rfl, Nat.le_of_ble_eq_true rfl⟩ hl.1 rfl (Nat.le_of_ble_eq_true rfl) dX7_needSee_25 ⟨Nat.zero_le _, Nat.zero_le _⟩ (fun H locs hw hS => ?_)
    refine lv_if_ne (tgt := 39) hx hb dX7_needSee_28 (by decide) (fun c_7 => ?_) (fun c_7 => ?_)
    · have hf := if_f c_7 hf
      refine lv_iconst (v := 0) hx hb dX7_needSee_39 (by decide) ?_
      cases hf
      exact rt_i C hw hS dX7_needSee_40
    · have hf := if_t c_7 hf
      refine lv_aload_n hx hb dX7_needSee_31 rfl (lv_at hl 0 rfl) ?_
      refine lv_iconst (v := 3) hx hb dX7_needSee_32 (by decide) ?_
      obtain ⟨r9, d10, h8, hf⟩ := bd2_s hf
      refine cl_V0 C hw hS (tX7_meets l A D cy st sz sh d x0 (3 : Int32) h8) cvX7_meets kw_940 (gR_s hv1).1 ⟨Nat.le_of_ble_eq_true rfl, Nat.le_of_ble_eq_true rfl⟩ hl.1 rfl (Nat.le_of_ble_eq_true rfl) dX7_needSee_33 ⟨Nat.zero_le _, Nat.zero_le _⟩ (fun H locs hw hS => ?_)
      refine lv_goto (tgt := 40) hx hb dX7_needSee_36 (by decide) ?_
      cases hf
      exact rt_i C hw hS dX7_needSee_40
  · have hf := if_f c_4 hf
    refine lv_aload_n hx hb dX7_needSee_14 rfl (lv_at hl 0 rfl) ?_
    refine lv_iconst (v := 1) hx hb dX7_needSee_15 (by decide) ?_
    obtain ⟨r12, d13, h11, hf⟩ := bd2_s hf
    refine cl_V0 C hw hS (tX7_meets l A D cy st sz sh d x0 (1 : Int32) h11) cvX7_meets kw_940 (gR_s hv1).1 ⟨Nat.le_of_ble_eq_true rfl, Nat.le_of_ble_eq_true rfl⟩ hl.1 rfl (Nat.le_of_ble_eq_true rfl) dX7_needSee_16 ⟨Nat.zero_le _, Nat.zero_le _⟩ (fun H locs hw hS => ?_)
    refine lv_goto (tgt := 40) hx hb dX7_needSee_19 (by decide) ?_
    cases hf
    exact rt_i C hw hS dX7_needSee_40

set_option maxRecDepth 100000 in
set_option maxHeartbeats 4000000 in
theorem tX7_needSee (l : Launch) (A : Nat → Prop) (D : va_G) (cy : Nat → ClassId) (st : Nat → Nat) (sz : Nat) (sh : Sh) (d : Dt) (x0 : Nat) (x1 : Int32) (x2 : Int32) (x3 : Int32) {r : Int32} {d9 : Dt} (hf : fX7_needSee sh d x0 x1 x2 x3 = some (r, d9)) : Ct l yX7_needSee cX7_needSee 4 (some .int) 1 23 0 0 A D cy st [.ref x0, .int x1, .int x2, .int x3] sz sh d (some (.int r)) sz sh d9 := ct_of (by decide) (Nat.le_of_ble_eq_true rfl) (fun p e s m args below meth c C hw hS ls hl => wX7_needSee_b0 C x0 x1 x2 x3 d hf hw hS hl)
theorem dX7_needMake_0 : decode cX7_needMake 0 = .ok (.aload_n 0, 1) := by decide +kernel
theorem dX7_needMake_1 : decode cX7_needMake 1 = .ok (.iload_n 2, 1) := by decide +kernel
theorem dX7_needMake_2 : decode cX7_needMake 2 = .ok (.invokevirtual 109, 3) := by decide +kernel
theorem dX7_needMake_5 : decode cX7_needMake 5 = .ok (.ifCond .eq 15, 3) := by decide +kernel
theorem dX7_needMake_8 : decode cX7_needMake 8 = .ok (.aload_n 0, 1) := by decide +kernel
theorem dX7_needMake_9 : decode cX7_needMake 9 = .ok (.iload_n 3, 1) := by decide +kernel
theorem dX7_needMake_10 : decode cX7_needMake 10 = .ok (.invokevirtual 101, 3) := by decide +kernel
theorem dX7_needMake_13 : decode cX7_needMake 13 = .ok (.ifCond .eq 7, 3) := by decide +kernel
theorem dX7_needMake_16 : decode cX7_needMake 16 = .ok (.iload_n 1, 1) := by decide +kernel
theorem dX7_needMake_17 : decode cX7_needMake 17 = .ok (.ifCond .ne 5, 3) := by decide +kernel
theorem dX7_needMake_20 : decode cX7_needMake 20 = .ok (.iconst (-1), 1) := by decide +kernel
theorem dX7_needMake_21 : decode cX7_needMake 21 = .ok (.ireturn, 1) := by decide +kernel
theorem dX7_needMake_22 : decode cX7_needMake 22 = .ok (.aload_n 0, 1) := by decide +kernel
theorem dX7_needMake_23 : decode cX7_needMake 23 = .ok (.getfield 88, 3) := by decide +kernel
theorem dX7_needMake_26 : decode cX7_needMake 26 = .ok (.sipush 400, 3) := by decide +kernel
theorem dX7_needMake_29 : decode cX7_needMake 29 = .ok (.if_icmp .ne 6, 3) := by decide +kernel
theorem dX7_needMake_32 : decode cX7_needMake 32 = .ok (.bipush (-2), 2) := by decide +kernel
theorem dX7_needMake_34 : decode cX7_needMake 34 = .ok (.ireturn, 1) := by decide +kernel
theorem dX7_needMake_35 : decode cX7_needMake 35 = .ok (.aload_n 0, 1) := by decide +kernel
theorem dX7_needMake_36 : decode cX7_needMake 36 = .ok (.iload_n 2, 1) := by decide +kernel
theorem dX7_needMake_37 : decode cX7_needMake 37 = .ok (.invokevirtual 112, 3) := by decide +kernel
theorem dX7_needMake_40 : decode cX7_needMake 40 = .ok (.aload_n 0, 1) := by decide +kernel
theorem dX7_needMake_41 : decode cX7_needMake 41 = .ok (.getfield 24, 3) := by decide +kernel
theorem dX7_needMake_44 : decode cX7_needMake 44 = .ok (.iload_n 2, 1) := by decide +kernel
theorem dX7_needMake_45 : decode cX7_needMake 45 = .ok (.iaload, 1) := by decide +kernel
theorem dX7_needMake_46 : decode cX7_needMake 46 = .ok (.if_icmp .ge 6, 3) := by decide +kernel
theorem dX7_needMake_49 : decode cX7_needMake 49 = .ok (.bipush (-4), 2) := by decide +kernel
theorem dX7_needMake_51 : decode cX7_needMake 51 = .ok (.ireturn, 1) := by decide +kernel
theorem dX7_needMake_52 : decode cX7_needMake 52 = .ok (.aload_n 0, 1) := by decide +kernel
theorem dX7_needMake_53 : decode cX7_needMake 53 = .ok (.iload_n 2, 1) := by decide +kernel
theorem dX7_needMake_54 : decode cX7_needMake 54 = .ok (.iload_n 3, 1) := by decide +kernel
theorem dX7_needMake_55 : decode cX7_needMake 55 = .ok (.iload 4, 2) := by decide +kernel
theorem dX7_needMake_57 : decode cX7_needMake 57 = .ok (.invokevirtual 116, 3) := by decide +kernel
theorem dX7_needMake_60 : decode cX7_needMake 60 = .ok (.ireturn, 1) := by decide +kernel
theorem cvX7_needMake : CV yX7_needMake cX7_needMake 5 (some .int) 8 4 := ⟨kw_927, ks_25, kw_6, kw_928, ⟨_, _, rfl⟩, by decide, by decide +kernel, by decide +kernel, by decide +kernel⟩
def fX7_needMake_b0 (sh : Sh) (x0 : Nat) (x1 : Int32) (x2 : Int32) (x3 : Int32) (x4 : Int32) (d : Dt) : Option (Int32 × Dt) := bd (kc sh 9 x0) fun _ => bd (fX7_isHand sh d x0 x2) fun r3 => if (bI r3) = 0 then (some ((-1 : Int32), d)) else (bd (fX7_isPage sh d x0 x3) fun r6 => if (bI r6) = 0 then (some ((-1 : Int32), d)) else (if x1 = 0 then (some ((-1 : Int32), d)) else (bd (gI sh d 9 297 x0) fun v9 => if v9 = (400 : Int32) then (some ((-2 : Int32), d)) else (bd (fX7_ownOf sh d x0 x2) fun r12 => bd (gR sh d 9 294 x0) fun v13 => bd v13 fun a14 => bd (aI sh d 20 a14 x2) fun v15 => if v15 ≤ r12 then (bd2 (fX7_needSee sh d x0 x2 x3 x4) fun r18 d19 => some (r18, d19)) else (some ((-4 : Int32), d))))))

def fX7_needMake (sh : Sh) (d : Dt) (x0 : Nat) (x1 : Int32) (x2 : Int32) (x3 : Int32) (x4 : Int32) : Option (Int32 × Dt) := fX7_needMake_b0 sh x0 x1 x2 x3 x4 d

set_option maxRecDepth 100000 in
set_option maxHeartbeats 4000000 in
theorem wX7_needMake_b0 (C : mx p s m args meth c yX7_needMake cX7_needMake 5 (some .int) A D cy st) {r : Int32} {d9 : Dt} : ∀ (x0 : Nat) (x1 : Int32) (x2 : Int32) (x3 : Int32) (x4 : Int32) (d : Dt), fX7_needMake_b0 sh x0 x1 x2 x3 x4 d = some (r, d9) → ∀ {H : Heap} {locs : List Loc} {ls : Array Slot}, HW A D cy sz sh d H → va_S A s.heap H locs → lv_has ls 5 [(0, .ref x0), (1, .int x1), (2, .int x2), (3, .int x3), (4, .int x4)] → GL p l e s m args below meth c 2 46 A D cy (some (.int r)) sz sh d9 H locs 0 ls [] := by
  have hx := C.1
  have hb := C.2.1
  intro x0 x1 x2 x3 x4 d hf H locs ls hw hS hl
  unfold fX7_needMake_b0 at hf
  refine lv_aload_n hx hb dX7_needMake_0 rfl (lv_at hl 0 rfl) ?_
  refine lv_iload_n hx hb dX7_needMake_1 rfl (lv_at hl 2 rfl) ?_
  obtain ⟨_, h1, hf⟩ := bd_s hf
  obtain ⟨r3, h2, hf⟩ := bd_s hf
  refine cl_V0 C hw hS (tX7_isHand l A D cy st sz sh d x0 x2 h2) cvX7_isHand kw_917 (kc_k h1) ⟨Nat.le_of_ble_eq_true rfl, Nat.le_of_ble_eq_true rfl⟩ hl.1 rfl (Nat.le_of_ble_eq_true rfl) dX7_needMake_2 ⟨Nat.zero_le _, Nat.zero_le _⟩ (fun H locs hw hS => ?_)
  refine lv_if_eq (tgt := 20) hx hb dX7_needMake_5 (by decide) (fun c_4 => ?_) (fun c_4 => ?_)
  · have hf := if_t c_4 hf
    refine lv_iconst (v := -1) hx hb dX7_needMake_20 (by decide) ?_
    cases hf
    exact rt_i C hw hS dX7_needMake_21
  · have hf := if_f c_4 hf
    refine lv_aload_n hx hb dX7_needMake_8 rfl (lv_at hl 0 rfl) ?_
    refine lv_iload_n hx hb dX7_needMake_9 rfl (lv_at hl 3 rfl) ?_
    obtain ⟨r6, h5, hf⟩ := bd_s hf
    refine cl_V0 C hw hS (tX7_isPage l A D cy st sz sh d x0 x3 h5) cvX7_isPage kw_905 (kc_k h1) ⟨Nat.le_of_ble_eq_true rfl, Nat.le_of_ble_eq_true rfl⟩ hl.1 rfl (Nat.le_of_ble_eq_true rfl) dX7_needMake_10 ⟨Nat.zero_le _, Nat.zero_le _⟩ (fun H locs hw hS => ?_)
    refine lv_if_eq (tgt := 20) hx hb dX7_needMake_13 (by decide) (fun c_7 => ?_) (fun c_7 => ?_)
    · have hf := if_t c_7 hf
      refine lv_iconst (v := -1) hx hb dX7_needMake_20 (by decide) ?_
      cases hf
      exact rt_i C hw hS dX7_needMake_21
    · have hf := if_f c_7 hf
      refine lv_iload_n hx hb dX7_needMake_16 rfl (lv_at hl 1 rfl) ?_
      refine lv_if_ne (tgt := 22) hx hb dX7_needMake_17 (by decide) (fun c_8 => ?_) (fun c_8 => ?_)
      · have hf := if_f c_8 hf
        refine lv_aload_n hx hb dX7_needMake_22 rfl (lv_at hl 0 rfl) ?_
        obtain ⟨v9, hv9, hf⟩ := bd_s hf
        refine gt_297 C hw hv9 kw_806 dX7_needMake_23 ?_
        refine lv_sipush (v := 400) hx hb dX7_needMake_26 (by decide) ?_
        refine lv_icmp_ne (tgt := 35) hx hb dX7_needMake_29 (by decide) (fun c_10 => ?_) (fun c_10 => ?_)
        · have hf := if_f c_10 hf
          refine lv_aload_n hx hb dX7_needMake_35 rfl (lv_at hl 0 rfl) ?_
          refine lv_iload_n hx hb dX7_needMake_36 rfl (lv_at hl 2 rfl) ?_
          obtain ⟨r12, h11, hf⟩ := bd_s hf
          refine cl_V0 C hw hS (tX7_ownOf l A D cy st sz sh d x0 x2 h11) cvX7_ownOf kw_929 (gI_s hv9).1 ⟨Nat.le_of_ble_eq_true rfl, Nat.le_of_ble_eq_true rfl⟩ hl.1 rfl (Nat.le_of_ble_eq_true rfl) dX7_needMake_37 ⟨Nat.zero_le _, Nat.zero_le _⟩ (fun H locs hw hS => ?_)
          refine lv_aload_n hx hb dX7_needMake_40 rfl (lv_at hl 0 rfl) ?_
          obtain ⟨v13, hv13, hf⟩ := bd_s hf
          refine gt_294 C hw hv13 kw_803 dX7_needMake_41 ?_
          refine lv_iload_n hx hb dX7_needMake_44 rfl (lv_at hl 2 rfl) ?_
          obtain ⟨a14, ea14, hg⟩ := bd_s hf
          clear hf
          subst ea14
          have hf := hg
          clear hg
          obtain ⟨v15, hv15, hf⟩ := bd_s hf
          refine w_iald C hw hv15 dX7_needMake_45 ?_
          refine lv_icmp_ge (tgt := 52) hx hb dX7_needMake_46 (by decide) (fun c_16 => ?_) (fun c_16 => ?_)
          · have hf := if_t c_16 hf
            refine lv_aload_n hx hb dX7_needMake_52 rfl (lv_at hl 0 rfl) ?_
            refine lv_iload_n hx hb dX7_needMake_53 rfl (lv_at hl 2 rfl) ?_
            refine lv_iload_n hx hb dX7_needMake_54 rfl (lv_at hl 3 rfl) ?_
            refine lv_iload hx hb dX7_needMake_55 (lv_at hl 4 rfl) ?_
            obtain ⟨r18, d19, h17, hf⟩ := bd2_s hf
            refine cl_V0 C hw hS (tX7_needSee l A D cy st sz sh d x0 x2 x3 x4 h17) cvX7_needSee kw_936 (gR_s hv13).1 ⟨Nat.le_of_ble_eq_true rfl, Nat.le_of_ble_eq_true rfl⟩ hl.1 rfl (Nat.le_of_ble_eq_true rfl) dX7_needMake_57 ⟨Nat.zero_le _, Nat.zero_le _⟩ (fun H locs hw hS => ?_)
            cases hf
            exact rt_i C hw hS dX7_needMake_60
          · have hf := if_f c_16 hf
            refine lv_bipush (v := -4) hx hb dX7_needMake_49 (by decide) ?_
            cases hf
            exact rt_i C hw hS dX7_needMake_51
        · have hf := if_t c_10 hf
          refine lv_bipush (v := -2) hx hb dX7_needMake_32 (by decide) ?_
          cases hf
          exact rt_i C hw hS dX7_needMake_34
      · have hf := if_t c_8 hf
        refine lv_iconst (v := -1) hx hb dX7_needMake_20 (by decide) ?_
        cases hf
        exact rt_i C hw hS dX7_needMake_21

set_option maxRecDepth 100000 in
set_option maxHeartbeats 4000000 in
theorem tX7_needMake (l : Launch) (A : Nat → Prop) (D : va_G) (cy : Nat → ClassId) (st : Nat → Nat) (sz : Nat) (sh : Sh) (d : Dt) (x0 : Nat) (x1 : Int32) (x2 : Int32) (x3 : Int32) (x4 : Int32) {r : Int32} {d9 : Dt} (hf : fX7_needMake sh d x0 x1 x2 x3 x4 = some (r, d9)) : Ct l yX7_needMake cX7_needMake 5 (some .int) 2 46 0 0 A D cy st [.ref x0, .int x1, .int x2, .int x3, .int x4] sz sh d (some (.int r)) sz sh d9 := ct_of (by decide) (Nat.le_of_ble_eq_true rfl) (fun p e s m args below meth c C hw hS ls hl => wX7_needMake_b0 C x0 x1 x2 x3 x4 d hf hw hS hl)
theorem dX7_make_0 : decode cX7_make 0 = .ok (.aload_n 0, 1) := by decide +kernel
theorem dX7_make_1 : decode cX7_make 1 = .ok (.getfield 88, 3) := by decide +kernel
theorem dX7_make_4 : decode cX7_make 4 = .ok (.istore 8, 2) := by decide +kernel
theorem dX7_make_6 : decode cX7_make 6 = .ok (.iconst 1, 1) := by decide +kernel
theorem dX7_make_7 : decode cX7_make 7 = .ok (.aload_n 0, 1) := by decide +kernel
theorem dX7_make_8 : decode cX7_make 8 = .ok (.iload_n 1, 1) := by decide +kernel
theorem dX7_make_9 : decode cX7_make 9 = .ok (.invokevirtual 123, 3) := by decide +kernel
theorem dX7_make_12 : decode cX7_make 12 = .ok (.iadd, 1) := by decide +kernel
theorem dX7_make_13 : decode cX7_make 13 = .ok (.istore 9, 2) := by decide +kernel
theorem dX7_make_15 : decode cX7_make 15 = .ok (.aload_n 0, 1) := by decide +kernel
theorem dX7_make_16 : decode cX7_make 16 = .ok (.getfield 30, 3) := by decide +kernel
theorem dX7_make_19 : decode cX7_make 19 = .ok (.iload 8, 2) := by decide +kernel
theorem dX7_make_21 : decode cX7_make 21 = .ok (.iload_n 1, 1) := by decide +kernel
theorem dX7_make_22 : decode cX7_make 22 = .ok (.iastore, 1) := by decide +kernel
theorem dX7_make_23 : decode cX7_make 23 = .ok (.aload_n 0, 1) := by decide +kernel
theorem dX7_make_24 : decode cX7_make 24 = .ok (.getfield 33, 3) := by decide +kernel
theorem dX7_make_27 : decode cX7_make 27 = .ok (.iload 8, 2) := by decide +kernel
theorem dX7_make_29 : decode cX7_make 29 = .ok (.iload_n 2, 1) := by decide +kernel
theorem dX7_make_30 : decode cX7_make 30 = .ok (.iastore, 1) := by decide +kernel
theorem dX7_make_31 : decode cX7_make 31 = .ok (.aload_n 0, 1) := by decide +kernel
theorem dX7_make_32 : decode cX7_make 32 = .ok (.getfield 36, 3) := by decide +kernel
theorem dX7_make_35 : decode cX7_make 35 = .ok (.iload 8, 2) := by decide +kernel
theorem dX7_make_37 : decode cX7_make 37 = .ok (.iload 9, 2) := by decide +kernel
theorem dX7_make_39 : decode cX7_make 39 = .ok (.iastore, 1) := by decide +kernel
theorem dX7_make_40 : decode cX7_make 40 = .ok (.aload_n 0, 1) := by decide +kernel
theorem dX7_make_41 : decode cX7_make 41 = .ok (.getfield 39, 3) := by decide +kernel
theorem dX7_make_44 : decode cX7_make 44 = .ok (.iload 8, 2) := by decide +kernel
theorem dX7_make_46 : decode cX7_make 46 = .ok (.iload_n 3, 1) := by decide +kernel
theorem dX7_make_47 : decode cX7_make 47 = .ok (.iastore, 1) := by decide +kernel
theorem dX7_make_48 : decode cX7_make 48 = .ok (.aload_n 0, 1) := by decide +kernel
theorem dX7_make_49 : decode cX7_make 49 = .ok (.getfield 42, 3) := by decide +kernel
theorem dX7_make_52 : decode cX7_make 52 = .ok (.iload 8, 2) := by decide +kernel
theorem dX7_make_54 : decode cX7_make 54 = .ok (.iload 4, 2) := by decide +kernel
theorem dX7_make_56 : decode cX7_make 56 = .ok (.iastore, 1) := by decide +kernel
theorem dX7_make_57 : decode cX7_make 57 = .ok (.aload_n 0, 1) := by decide +kernel
theorem dX7_make_58 : decode cX7_make 58 = .ok (.getfield 45, 3) := by decide +kernel
theorem dX7_make_61 : decode cX7_make 61 = .ok (.iload 8, 2) := by decide +kernel
theorem dX7_make_63 : decode cX7_make 63 = .ok (.iload 5, 2) := by decide +kernel
theorem dX7_make_65 : decode cX7_make 65 = .ok (.iastore, 1) := by decide +kernel
theorem dX7_make_66 : decode cX7_make 66 = .ok (.aload_n 0, 1) := by decide +kernel
theorem dX7_make_67 : decode cX7_make 67 = .ok (.getfield 48, 3) := by decide +kernel
theorem dX7_make_70 : decode cX7_make 70 = .ok (.iload 8, 2) := by decide +kernel
theorem dX7_make_72 : decode cX7_make 72 = .ok (.lload 6, 2) := by decide +kernel
theorem dX7_make_74 : decode cX7_make 74 = .ok (.lastore, 1) := by decide +kernel
theorem dX7_make_75 : decode cX7_make 75 = .ok (.iconst 0, 1) := by decide +kernel
theorem dX7_make_76 : decode cX7_make 76 = .ok (.istore 10, 2) := by decide +kernel
theorem dX7_make_78 : decode cX7_make 78 = .ok (.iload 10, 2) := by decide +kernel
theorem dX7_make_80 : decode cX7_make 80 = .ok (.bipush 7, 2) := by decide +kernel
theorem dX7_make_82 : decode cX7_make 82 = .ok (.if_icmp .ge 34, 3) := by decide +kernel
theorem dX7_make_85 : decode cX7_make 85 = .ok (.aload_n 0, 1) := by decide +kernel
theorem dX7_make_86 : decode cX7_make 86 = .ok (.getfield 51, 3) := by decide +kernel
theorem dX7_make_89 : decode cX7_make 89 = .ok (.bipush 7, 2) := by decide +kernel
theorem dX7_make_91 : decode cX7_make 91 = .ok (.iload 8, 2) := by decide +kernel
theorem dX7_make_93 : decode cX7_make 93 = .ok (.imul, 1) := by decide +kernel
theorem dX7_make_94 : decode cX7_make 94 = .ok (.iload 10, 2) := by decide +kernel
theorem dX7_make_96 : decode cX7_make 96 = .ok (.iadd, 1) := by decide +kernel
theorem dX7_make_97 : decode cX7_make 97 = .ok (.aload_n 0, 1) := by decide +kernel
theorem dX7_make_98 : decode cX7_make 98 = .ok (.getfield 13, 3) := by decide +kernel
theorem dX7_make_101 : decode cX7_make 101 = .ok (.bipush 7, 2) := by decide +kernel
theorem dX7_make_103 : decode cX7_make 103 = .ok (.iload_n 1, 1) := by decide +kernel
theorem dX7_make_104 : decode cX7_make 104 = .ok (.imul, 1) := by decide +kernel
theorem dX7_make_105 : decode cX7_make 105 = .ok (.iload 10, 2) := by decide +kernel
theorem dX7_make_107 : decode cX7_make 107 = .ok (.iadd, 1) := by decide +kernel
theorem dX7_make_108 : decode cX7_make 108 = .ok (.laload, 1) := by decide +kernel
theorem dX7_make_109 : decode cX7_make 109 = .ok (.lastore, 1) := by decide +kernel
theorem dX7_make_110 : decode cX7_make 110 = .ok (.iinc 10 1, 3) := by decide +kernel
theorem dX7_make_113 : decode cX7_make 113 = .ok (.goto (-35), 3) := by decide +kernel
theorem dX7_make_116 : decode cX7_make 116 = .ok (.aload_n 0, 1) := by decide +kernel
theorem dX7_make_117 : decode cX7_make 117 = .ok (.dup, 1) := by decide +kernel
theorem dX7_make_118 : decode cX7_make 118 = .ok (.getfield 88, 3) := by decide +kernel
theorem dX7_make_121 : decode cX7_make 121 = .ok (.iconst 1, 1) := by decide +kernel
theorem dX7_make_122 : decode cX7_make 122 = .ok (.iadd, 1) := by decide +kernel
theorem dX7_make_123 : decode cX7_make 123 = .ok (.putfield 88, 3) := by decide +kernel
theorem dX7_make_126 : decode cX7_make 126 = .ok (.aload_n 0, 1) := by decide +kernel
theorem dX7_make_127 : decode cX7_make 127 = .ok (.getfield 13, 3) := by decide +kernel
theorem dX7_make_130 : decode cX7_make 130 = .ok (.iload_n 1, 1) := by decide +kernel
theorem dX7_make_131 : decode cX7_make 131 = .ok (.iload 8, 2) := by decide +kernel
theorem dX7_make_133 : decode cX7_make 133 = .ok (.invokestatic 126, 3) := by decide +kernel
theorem dX7_make_136 : decode cX7_make 136 = .ok (.aload_n 0, 1) := by decide +kernel
theorem dX7_make_137 : decode cX7_make 137 = .ok (.getfield 24, 3) := by decide +kernel
theorem dX7_make_140 : decode cX7_make 140 = .ok (.iload_n 1, 1) := by decide +kernel
theorem dX7_make_141 : decode cX7_make 141 = .ok (.dup2, 1) := by decide +kernel
theorem dX7_make_142 : decode cX7_make 142 = .ok (.iaload, 1) := by decide +kernel
theorem dX7_make_143 : decode cX7_make 143 = .ok (.iconst 1, 1) := by decide +kernel
theorem dX7_make_144 : decode cX7_make 144 = .ok (.iadd, 1) := by decide +kernel
theorem dX7_make_145 : decode cX7_make 145 = .ok (.iastore, 1) := by decide +kernel
theorem dX7_make_146 : decode cX7_make 146 = .ok (.iload 8, 2) := by decide +kernel
theorem dX7_make_148 : decode cX7_make 148 = .ok (.ireturn, 1) := by decide +kernel
theorem cvX7_make : CV yX7_make cX7_make 11 (some .int) 8 6 := ⟨kw_946, ks_29, kw_6, kw_947, ⟨_, _, rfl⟩, by decide, by decide +kernel, by decide +kernel, by decide +kernel⟩
def fX7_make_b78 (sh : Sh) : Nat → Nat → Int32 → Int32 → Int32 → Dt → Option (Int32 × Dt)
  | 0, _, _, _, _, _ => none
  | n + 1, x0, x1, x8, x10, d => if (7 : Int32) ≤ x10 then (bd (gI sh d 9 297 x0) fun v2 => bd (pI sh d 9 297 x0 (v2 + (1 : Int32))) fun d3 => bd (gR sh d3 9 291 x0) fun v4 => bd (fX7_enter sh d3 v4 x1 x8) fun d7 => bd (gR sh d7 9 294 x0) fun v8 => bd v8 fun a9 => bd (aI sh d7 20 a9 x1) fun v10 => bd (sI sh d7 20 a9 x1 (v10 + (1 : Int32))) fun d11 => some (x8, d11)) else (bd (gR sh d 9 305 x0) fun v12 => bd (gR sh d 9 291 x0) fun v13 => bd v13 fun a14 => bd (aL sh d 21 a14 (((7 : Int32) * x1) + x10)) fun v15 => bd v12 fun a16 => bd (sL sh d 21 a16 (((7 : Int32) * x8) + x10) v15) fun d17 => fX7_make_b78 sh n x0 x1 x8 (x10 + 1) d17)

def fX7_make_b0 (sh : Sh) (x0 : Nat) (x1 : Int32) (x2 : Int32) (x3 : Int32) (x4 : Int32) (x5 : Int32) (x6 : Int64) (d : Dt) : Option (Int32 × Dt) := bd (gI sh d 9 297 x0) fun v1 => bd (fX7_greatestCount sh d x0 x1) fun r3 => bd (gR sh d 9 298 x0) fun v4 => bd v4 fun a5 => bd (sI sh d 20 a5 v1 x1) fun d6 => bd (gR sh d6 9 299 x0) fun v7 => bd v7 fun a8 => bd (sI sh d6 20 a8 v1 x2) fun d9 => bd (gR sh d9 9 300 x0) fun v10 => bd v10 fun a11 => bd (sI sh d9 20 a11 v1 ((1 : Int32) + r3)) fun d12 => bd (gR sh d12 9 301 x0) fun v13 => bd v13 fun a14 => bd (sI sh d12 20 a14 v1 x3) fun d15 => bd (gR sh d15 9 302 x0) fun v16 => bd v16 fun a17 => bd (sI sh d15 20 a17 v1 x4) fun d18 => bd (gR sh d18 9 303 x0) fun v19 => bd v19 fun a20 => bd (sI sh d18 20 a20 v1 x5) fun d21 => bd (gR sh d21 9 304 x0) fun v22 => bd v22 fun a23 => bd (sL sh d21 21 a23 v1 x6) fun d24 => fX7_make_b78 sh fu x0 x1 v1 (0 : Int32) d24

def fX7_make (sh : Sh) (d : Dt) (x0 : Nat) (x1 : Int32) (x2 : Int32) (x3 : Int32) (x4 : Int32) (x5 : Int32) (x6 : Int64) : Option (Int32 × Dt) := fX7_make_b0 sh x0 x1 x2 x3 x4 x5 x6 d

set_option maxRecDepth 100000 in
set_option maxHeartbeats 4000000 in
theorem wX7_make_b78 (C : mx p s m args meth c yX7_make cX7_make 11 (some .int) A D cy st) {r : Int32} {d9 : Dt} : ∀ (n : Nat) (x0 : Nat) (x1 : Int32) (x8 : Int32) (x10 : Int32) (d : Dt), fX7_make_b78 sh n x0 x1 x8 x10 d = some (r, d9) → ∀ {H : Heap} {locs : List Loc} {ls : Array Slot}, HW A D cy sz sh d H → va_S A s.heap H locs → lv_has ls 11 [(0, .ref x0), (1, .int x1), (8, .int x8), (10, .int x10)] → GL p l e s m args below meth c 2 45 A D cy (some (.int r)) sz sh d9 H locs 78 ls [] := by
  have hx := C.1
  have hb := C.2.1
  intro n
  induction n with
  | zero => intro x0 x1 x8 x10 d hf; cases hf
  | succ n ih =>
    intro x0 x1 x8 x10 d hf H locs ls hw hS hl
    rw [fX7_make_b78] at hf
    refine lv_iload hx hb dX7_make_78 (lv_at hl 3 rfl) ?_
    refine lv_bipush (v := 7) hx hb dX7_make_80 (by decide) ?_
    refine lv_icmp_ge (tgt := 116) hx hb dX7_make_82 (by decide) (fun c_1 => ?_) (fun c_1 => ?_)
    · have hf := if_t c_1 hf
      refine lv_aload_n hx hb dX7_make_116 rfl (lv_at hl 0 rfl) ?_
      refine lv_dup hx hb dX7_make_117 rfl ?_
      obtain ⟨v2, hv2, hf⟩ := bd_s hf
      refine gt_297 C hw hv2 kw_806 dX7_make_118 ?_
      refine lv_iconst (v := 1) hx hb dX7_make_121 (by decide) ?_
      refine lv_iadd hx hb dX7_make_122 ?_
      obtain ⟨d3, hd3, hf⟩ := bd_s hf
      refine pt_297 C hw hS hd3 kw_806 dX7_make_123 (fun H locs hw hS => ?_)
      refine lv_aload_n hx hb dX7_make_126 rfl (lv_at hl 0 rfl) ?_
      obtain ⟨v4, hv4, hf⟩ := bd_s hf
      refine gt_291 C hw hv4 kw_800 dX7_make_127 ?_
      refine lv_iload_n hx hb dX7_make_130 rfl (lv_at hl 1 rfl) ?_
      refine lv_iload hx hb dX7_make_131 (lv_at hl 2 rfl) ?_
      obtain ⟨d7, h5, hf⟩ := bd_s hf
      refine cl_S0 C hw hS (tX7_enter l A D cy st sz sh d3 v4 x1 x8 h5) csX7_enter kw_952 ⟨Nat.le_of_ble_eq_true rfl, Nat.le_of_ble_eq_true rfl⟩ hl.1 rfl (Nat.le_of_ble_eq_true rfl) dX7_make_133 ⟨Nat.zero_le _, Nat.zero_le _⟩ (fun H locs hw hS => ?_)
      refine lv_aload_n hx hb dX7_make_136 rfl (lv_at hl 0 rfl) ?_
      obtain ⟨v8, hv8, hf⟩ := bd_s hf
      refine gt_294 C hw hv8 kw_803 dX7_make_137 ?_
      refine lv_iload_n hx hb dX7_make_140 rfl (lv_at hl 1 rfl) ?_
      refine lv_dup2_11 hx hb dX7_make_141 rfl (va_rf_c _) ?_
      obtain ⟨a9, ea9, hg⟩ := bd_s hf
      clear hf
      subst ea9
      have hf := hg
      clear hg
      obtain ⟨v10, hv10, hf⟩ := bd_s hf
      refine w_iald C hw hv10 dX7_make_142 ?_
      refine lv_iconst (v := 1) hx hb dX7_make_143 (by decide) ?_
      refine lv_iadd hx hb dX7_make_144 ?_
      obtain ⟨d11, hd11, hf⟩ := bd_s hf
      refine w_iast C hw hS hd11 dX7_make_145 (fun H locs hw hS => ?_)
      refine lv_iload hx hb dX7_make_146 (lv_at hl 2 rfl) ?_
      cases hf
      exact rt_i C hw hS dX7_make_148
    · have hf := if_f c_1 hf
      refine lv_aload_n hx hb dX7_make_85 rfl (lv_at hl 0 rfl) ?_
      obtain ⟨v12, hv12, hf⟩ := bd_s hf
      refine gt_305 C hw hv12 kw_814 dX7_make_86 ?_
      refine lv_bipush (v := 7) hx hb dX7_make_89 (by decide) ?_
      refine lv_iload hx hb dX7_make_91 (lv_at hl 2 rfl) ?_
      refine lv_imul hx hb dX7_make_93 ?_
      refine lv_iload hx hb dX7_make_94 (lv_at hl 3 rfl) ?_
      refine lv_iadd hx hb dX7_make_96 ?_
      refine lv_aload_n hx hb dX7_make_97 rfl (lv_at hl 0 rfl) ?_
      obtain ⟨v13, hv13, hf⟩ := bd_s hf
      refine gt_291 C hw hv13 kw_800 dX7_make_98 ?_
      refine lv_bipush (v := 7) hx hb dX7_make_101 (by decide) ?_
      refine lv_iload_n hx hb dX7_make_103 rfl (lv_at hl 1 rfl) ?_
      refine lv_imul hx hb dX7_make_104 ?_
      refine lv_iload hx hb dX7_make_105 (lv_at hl 3 rfl) ?_
      refine lv_iadd hx hb dX7_make_107 ?_
      obtain ⟨a14, ea14, hg⟩ := bd_s hf
      clear hf
      subst ea14
      have hf := hg
      clear hg
      obtain ⟨v15, hv15, hf⟩ := bd_s hf
      refine w_lald C hw hv15 dX7_make_108 ?_
      obtain ⟨a16, ea16, hg⟩ := bd_s hf
      clear hf
      subst ea16
      have hf := hg
      clear hg
      obtain ⟨d17, hd17, hf⟩ := bd_s hf
      refine w_last C hw hS hd17 dX7_make_109 (fun H locs hw hS => ?_)
      refine lv_iinc (v := (x10 + 1)) (lv' := [(10, .int (x10 + 1)), (0, .ref x0), (1, .int x1), (8, .int x8)]) hx hb dX7_make_110 hl (k := 3) rfl rfl (by decide) rfl (fun ls hl => ?_)
      refine lv_goto (tgt := 78) hx hb dX7_make_113 (by decide) ?_
      exact ih x0 x1 x8 (x10 + 1) d17 hf hw hS (lv_sub hl [1, 2, 3, 0] rfl)

set_option maxRecDepth 100000 in
set_option maxHeartbeats 4000000 in
theorem wX7_make_b0 (C : mx p s m args meth c yX7_make cX7_make 11 (some .int) A D cy st) {r : Int32} {d9 : Dt} : ∀ (x0 : Nat) (x1 : Int32) (x2 : Int32) (x3 : Int32) (x4 : Int32) (x5 : Int32) (x6 : Int64) (d : Dt), fX7_make_b0 sh x0 x1 x2 x3 x4 x5 x6 d = some (r, d9) → ∀ {H : Heap} {locs : List Loc} {ls : Array Slot}, HW A D cy sz sh d H → va_S A s.heap H locs → lv_has ls 11 [(0, .ref x0), (1, .int x1), (2, .int x2), (3, .int x3), (4, .int x4), (5, .int x5), (6, .long x6)] → GL p l e s m args below meth c 2 45 A D cy (some (.int r)) sz sh d9 H locs 0 ls [] := by
  have hx := C.1
  have hb := C.2.1
  intro x0 x1 x2 x3 x4 x5 x6 d hf H locs ls hw hS hl
  unfold fX7_make_b0 at hf
  refine lv_aload_n hx hb dX7_make_0 rfl (lv_at hl 0 rfl) ?_
  obtain ⟨v1, hv1, hf⟩ := bd_s hf
  refine gt_297 C hw hv1 kw_806 dX7_make_1 ?_
  refine lv_istore (lv' := [(8, .int v1), (0, .ref x0), (1, .int x1), (2, .int x2), (3, .int x3), (4, .int x4), (5, .int x5), (6, .long x6)]) hx hb dX7_make_4 hl (by decide) rfl (fun ls hl => ?_)
  refine lv_iconst (v := 1) hx hb dX7_make_6 (by decide) ?_
  refine lv_aload_n hx hb dX7_make_7 rfl (lv_at hl 1 rfl) ?_
  refine lv_iload_n hx hb dX7_make_8 rfl (lv_at hl 2 rfl) ?_
  obtain ⟨r3, h2, hf⟩ := bd_s hf
  refine cl_V0 C hw hS (tX7_greatestCount l A D cy st sz sh d x0 x1 h2) cvX7_greatestCount kw_948 (gI_s hv1).1 ⟨Nat.le_of_ble_eq_true rfl, Nat.le_of_ble_eq_true rfl⟩ hl.1 rfl (Nat.le_of_ble_eq_true rfl) dX7_make_9 ⟨Nat.zero_le _, Nat.zero_le _⟩ (fun H locs hw hS => ?_)
  refine lv_iadd hx hb dX7_make_12 ?_
  refine lv_istore (lv' := [(9, .int ((1 : Int32) + r3)), (8, .int v1), (0, .ref x0), (1, .int x1), (2, .int x2), (3, .int x3), (4, .int x4), (5, .int x5), (6, .long x6)]) hx hb dX7_make_13 hl (by decide) rfl (fun ls hl => ?_)
  refine lv_aload_n hx hb dX7_make_15 rfl (lv_at hl 2 rfl) ?_
  obtain ⟨v4, hv4, hf⟩ := bd_s hf
  refine gt_298 C hw hv4 kw_807 dX7_make_16 ?_
  refine lv_iload hx hb dX7_make_19 (lv_at hl 1 rfl) ?_
  refine lv_iload_n hx hb dX7_make_21 rfl (lv_at hl 3 rfl) ?_
  obtain ⟨a5, ea5, hg⟩ := bd_s hf
  clear hf
  subst ea5
  have hf := hg
  clear hg
  obtain ⟨d6, hd6, hf⟩ := bd_s hf
  refine w_iast C hw hS hd6 dX7_make_22 (fun H locs hw hS => ?_)
  refine lv_aload_n hx hb dX7_make_23 rfl (lv_at hl 2 rfl) ?_
  obtain ⟨v7, hv7, hf⟩ := bd_s hf
  refine gt_299 C hw hv7 kw_808 dX7_make_24 ?_
  refine lv_iload hx hb dX7_make_27 (lv_at hl 1 rfl) ?_
  refine lv_iload_n hx hb dX7_make_29 rfl (lv_at hl 4 rfl) ?_
  obtain ⟨a8, ea8, hg⟩ := bd_s hf
  clear hf
  subst ea8
  have hf := hg
  clear hg
  obtain ⟨d9, hd9, hf⟩ := bd_s hf
  refine w_iast C hw hS hd9 dX7_make_30 (fun H locs hw hS => ?_)
  refine lv_aload_n hx hb dX7_make_31 rfl (lv_at hl 2 rfl) ?_
  obtain ⟨v10, hv10, hf⟩ := bd_s hf
  refine gt_300 C hw hv10 kw_809 dX7_make_32 ?_
  refine lv_iload hx hb dX7_make_35 (lv_at hl 1 rfl) ?_
  refine lv_iload hx hb dX7_make_37 (lv_at hl 0 rfl) ?_
  obtain ⟨a11, ea11, hg⟩ := bd_s hf
  clear hf
  subst ea11
  have hf := hg
  clear hg
  obtain ⟨d12, hd12, hf⟩ := bd_s hf
  refine w_iast C hw hS hd12 dX7_make_39 (fun H locs hw hS => ?_)
  refine lv_aload_n hx hb dX7_make_40 rfl (lv_at hl 2 rfl) ?_
  obtain ⟨v13, hv13, hf⟩ := bd_s hf
  refine gt_301 C hw hv13 kw_810 dX7_make_41 ?_
  refine lv_iload hx hb dX7_make_44 (lv_at hl 1 rfl) ?_
  refine lv_iload_n hx hb dX7_make_46 rfl (lv_at hl 5 rfl) ?_
  obtain ⟨a14, ea14, hg⟩ := bd_s hf
  clear hf
  subst ea14
  have hf := hg
  clear hg
  obtain ⟨d15, hd15, hf⟩ := bd_s hf
  refine w_iast C hw hS hd15 dX7_make_47 (fun H locs hw hS => ?_)
  refine lv_aload_n hx hb dX7_make_48 rfl (lv_at hl 2 rfl) ?_
  obtain ⟨v16, hv16, hf⟩ := bd_s hf
  refine gt_302 C hw hv16 kw_811 dX7_make_49 ?_
  refine lv_iload hx hb dX7_make_52 (lv_at hl 1 rfl) ?_
  refine lv_iload hx hb dX7_make_54 (lv_at hl 6 rfl) ?_
  obtain ⟨a17, ea17, hg⟩ := bd_s hf
  clear hf
  subst ea17
  have hf := hg
  clear hg
  obtain ⟨d18, hd18, hf⟩ := bd_s hf
  refine w_iast C hw hS hd18 dX7_make_56 (fun H locs hw hS => ?_)
  refine lv_aload_n hx hb dX7_make_57 rfl (lv_at hl 2 rfl) ?_
  obtain ⟨v19, hv19, hf⟩ := bd_s hf
  refine gt_303 C hw hv19 kw_812 dX7_make_58 ?_
  refine lv_iload hx hb dX7_make_61 (lv_at hl 1 rfl) ?_
  refine lv_iload hx hb dX7_make_63 (lv_at hl 7 rfl) ?_
  obtain ⟨a20, ea20, hg⟩ := bd_s hf
  clear hf
  subst ea20
  have hf := hg
  clear hg
  obtain ⟨d21, hd21, hf⟩ := bd_s hf
  refine w_iast C hw hS hd21 dX7_make_65 (fun H locs hw hS => ?_)
  refine lv_aload_n hx hb dX7_make_66 rfl (lv_at hl 2 rfl) ?_
  obtain ⟨v22, hv22, hf⟩ := bd_s hf
  refine gt_304 C hw hv22 kw_813 dX7_make_67 ?_
  refine lv_iload hx hb dX7_make_70 (lv_at hl 1 rfl) ?_
  refine lv_lload hx hb dX7_make_72 (lv_at hl 8 rfl) ?_
  obtain ⟨a23, ea23, hg⟩ := bd_s hf
  clear hf
  subst ea23
  have hf := hg
  clear hg
  obtain ⟨d24, hd24, hf⟩ := bd_s hf
  refine w_last C hw hS hd24 dX7_make_74 (fun H locs hw hS => ?_)
  refine lv_iconst (v := 0) hx hb dX7_make_75 (by decide) ?_
  refine lv_istore (lv' := [(10, .int (0 : Int32)), (9, .int ((1 : Int32) + r3)), (8, .int v1), (0, .ref x0), (1, .int x1), (2, .int x2), (3, .int x3), (4, .int x4), (5, .int x5), (6, .long x6)]) hx hb dX7_make_76 hl (by decide) rfl (fun ls hl => ?_)
  exact wX7_make_b78 C fu x0 x1 v1 (0 : Int32) d24 hf hw hS (lv_sub hl [3, 4, 2, 0] rfl)

set_option maxRecDepth 100000 in
set_option maxHeartbeats 4000000 in
theorem tX7_make (l : Launch) (A : Nat → Prop) (D : va_G) (cy : Nat → ClassId) (st : Nat → Nat) (sz : Nat) (sh : Sh) (d : Dt) (x0 : Nat) (x1 : Int32) (x2 : Int32) (x3 : Int32) (x4 : Int32) (x5 : Int32) (x6 : Int64) {r : Int32} {d9 : Dt} (hf : fX7_make sh d x0 x1 x2 x3 x4 x5 x6 = some (r, d9)) : Ct l yX7_make cX7_make 11 (some .int) 2 45 0 0 A D cy st [.ref x0, .int x1, .int x2, .int x3, .int x4, .int x5, .long x6] sz sh d (some (.int r)) sz sh d9 := ct_of (by decide) (Nat.le_of_ble_eq_true rfl) (fun p e s m args below meth c C hw hS ls hl => wX7_make_b0 C x0 x1 x2 x3 x4 x5 x6 d hf hw hS hl)
theorem dX7_write_0 : decode cX7_write 0 = .ok (.aload_n 0, 1) := by decide +kernel
theorem dX7_write_1 : decode cX7_write 1 = .ok (.iconst 1, 1) := by decide +kernel
theorem dX7_write_2 : decode cX7_write 2 = .ok (.iload_n 1, 1) := by decide +kernel
theorem dX7_write_3 : decode cX7_write 3 = .ok (.iload_n 2, 1) := by decide +kernel
theorem dX7_write_4 : decode cX7_write 4 = .ok (.iconst 0, 1) := by decide +kernel
theorem dX7_write_5 : decode cX7_write 5 = .ok (.invokevirtual 130, 3) := by decide +kernel
theorem dX7_write_8 : decode cX7_write 8 = .ok (.istore 5, 2) := by decide +kernel
theorem dX7_write_10 : decode cX7_write 10 = .ok (.iload 5, 2) := by decide +kernel
theorem dX7_write_12 : decode cX7_write 12 = .ok (.ifCond .ge 8, 3) := by decide +kernel
theorem dX7_write_15 : decode cX7_write 15 = .ok (.iload 5, 2) := by decide +kernel
theorem dX7_write_17 : decode cX7_write 17 = .ok (.goto 13, 3) := by decide +kernel
theorem dX7_write_20 : decode cX7_write 20 = .ok (.aload_n 0, 1) := by decide +kernel
theorem dX7_write_21 : decode cX7_write 21 = .ok (.iload_n 1, 1) := by decide +kernel
theorem dX7_write_22 : decode cX7_write 22 = .ok (.iload_n 2, 1) := by decide +kernel
theorem dX7_write_23 : decode cX7_write 23 = .ok (.iconst 0, 1) := by decide +kernel
theorem dX7_write_24 : decode cX7_write 24 = .ok (.iconst 0, 1) := by decide +kernel
theorem dX7_write_25 : decode cX7_write 25 = .ok (.iconst 0, 1) := by decide +kernel
theorem dX7_write_26 : decode cX7_write 26 = .ok (.lload_n 3, 1) := by decide +kernel
theorem dX7_write_27 : decode cX7_write 27 = .ok (.invokevirtual 134, 3) := by decide +kernel
theorem dX7_write_30 : decode cX7_write 30 = .ok (.ireturn, 1) := by decide +kernel
theorem cvX7_write : CV yX7_write cX7_write 6 (some .int) 8 3 := ⟨kw_922, kw_923, kw_6, kw_924, ⟨_, _, rfl⟩, by decide, by decide +kernel, by decide +kernel, by decide +kernel⟩
def fX7_write_b0 (sh : Sh) (x0 : Nat) (x1 : Int32) (x2 : Int32) (x3 : Int64) (d : Dt) : Option (Int32 × Dt) := bd (kc sh 9 x0) fun _ => bd2 (fX7_needMake sh d x0 (1 : Int32) x1 x2 (0 : Int32)) fun r3 d4 => if 0 ≤ r3 then (bd2 (fX7_make sh d4 x0 x1 x2 (0 : Int32) (0 : Int32) (0 : Int32) x3) fun r7 d8 => some (r7, d8)) else (some (r3, d4))

def fX7_write (sh : Sh) (d : Dt) (x0 : Nat) (x1 : Int32) (x2 : Int32) (x3 : Int64) : Option (Int32 × Dt) := fX7_write_b0 sh x0 x1 x2 x3 d

set_option maxRecDepth 100000 in
set_option maxHeartbeats 4000000 in
theorem wX7_write_b0 (C : mx p s m args meth c yX7_write cX7_write 6 (some .int) A D cy st) {r : Int32} {d9 : Dt} : ∀ (x0 : Nat) (x1 : Int32) (x2 : Int32) (x3 : Int64) (d : Dt), fX7_write_b0 sh x0 x1 x2 x3 d = some (r, d9) → ∀ {H : Heap} {locs : List Loc} {ls : Array Slot}, HW A D cy sz sh d H → va_S A s.heap H locs → lv_has ls 6 [(0, .ref x0), (1, .int x1), (2, .int x2), (3, .long x3)] → GL p l e s m args below meth c 3 75 A D cy (some (.int r)) sz sh d9 H locs 0 ls [] := by
  have hx := C.1
  have hb := C.2.1
  intro x0 x1 x2 x3 d hf H locs ls hw hS hl
  unfold fX7_write_b0 at hf
  refine lv_aload_n hx hb dX7_write_0 rfl (lv_at hl 0 rfl) ?_
  refine lv_iconst (v := 1) hx hb dX7_write_1 (by decide) ?_
  refine lv_iload_n hx hb dX7_write_2 rfl (lv_at hl 1 rfl) ?_
  refine lv_iload_n hx hb dX7_write_3 rfl (lv_at hl 2 rfl) ?_
  refine lv_iconst (v := 0) hx hb dX7_write_4 (by decide) ?_
  obtain ⟨_, h1, hf⟩ := bd_s hf
  obtain ⟨r3, d4, h2, hf⟩ := bd2_s hf
  refine cl_V0 C hw hS (tX7_needMake l A D cy st sz sh d x0 (1 : Int32) x1 x2 (0 : Int32) h2) cvX7_needMake kw_925 (kc_k h1) ⟨Nat.le_of_ble_eq_true rfl, Nat.le_of_ble_eq_true rfl⟩ hl.1 rfl (Nat.le_of_ble_eq_true rfl) dX7_write_5 ⟨Nat.zero_le _, Nat.zero_le _⟩ (fun H locs hw hS => ?_)
  refine lv_istore (lv' := [(5, .int r3), (0, .ref x0), (1, .int x1), (2, .int x2), (3, .long x3)]) hx hb dX7_write_8 hl (by decide) rfl (fun ls hl => ?_)
  refine lv_iload hx hb dX7_write_10 (lv_at hl 0 rfl) ?_
  refine lv_if_ge (tgt := 20) hx hb dX7_write_12 (by decide) (fun c_5 => ?_) (fun c_5 => ?_)
  · have hf := if_t c_5 hf
    refine lv_aload_n hx hb dX7_write_20 rfl (lv_at hl 1 rfl) ?_
    refine lv_iload_n hx hb dX7_write_21 rfl (lv_at hl 2 rfl) ?_
    refine lv_iload_n hx hb dX7_write_22 rfl (lv_at hl 3 rfl) ?_
    refine lv_iconst (v := 0) hx hb dX7_write_23 (by decide) ?_
    refine lv_iconst (v := 0) hx hb dX7_write_24 (by decide) ?_
    refine lv_iconst (v := 0) hx hb dX7_write_25 (by decide) ?_
    refine lv_lload_n hx hb dX7_write_26 rfl (lv_at hl 4 rfl) ?_
    obtain ⟨r7, d8, h6, hf⟩ := bd2_s hf
    refine cl_V0 C hw hS (tX7_make l A D cy st sz sh d4 x0 x1 x2 (0 : Int32) (0 : Int32) (0 : Int32) x3 h6) cvX7_make kw_944 (kc_k h1) ⟨Nat.le_of_ble_eq_true rfl, Nat.le_of_ble_eq_true rfl⟩ hl.1 rfl (Nat.le_of_ble_eq_true rfl) dX7_write_27 ⟨Nat.zero_le _, Nat.zero_le _⟩ (fun H locs hw hS => ?_)
    cases hf
    exact rt_i C hw hS dX7_write_30
  · have hf := if_f c_5 hf
    refine lv_iload hx hb dX7_write_15 (lv_at hl 0 rfl) ?_
    refine lv_goto (tgt := 30) hx hb dX7_write_17 (by decide) ?_
    cases hf
    exact rt_i C hw hS dX7_write_30

set_option maxRecDepth 100000 in
set_option maxHeartbeats 4000000 in
theorem tX7_write (l : Launch) (A : Nat → Prop) (D : va_G) (cy : Nat → ClassId) (st : Nat → Nat) (sz : Nat) (sh : Sh) (d : Dt) (x0 : Nat) (x1 : Int32) (x2 : Int32) (x3 : Int64) {r : Int32} {d9 : Dt} (hf : fX7_write sh d x0 x1 x2 x3 = some (r, d9)) : Ct l yX7_write cX7_write 6 (some .int) 3 75 0 0 A D cy st [.ref x0, .int x1, .int x2, .long x3] sz sh d (some (.int r)) sz sh d9 := ct_of (by decide) (Nat.le_of_ble_eq_true rfl) (fun p e s m args below meth c C hw hS ls hl => wX7_write_b0 C x0 x1 x2 x3 d hf hw hS hl)
theorem dX7_isShare_0 : decode cX7_isShare 0 = .ok (.lload_n 0, 1) := by decide +kernel
theorem dX7_isShare_1 : decode cX7_isShare 1 = .ok (.lconst 0, 1) := by decide +kernel
theorem dX7_isShare_2 : decode cX7_isShare 2 = .ok (.lcmp, 1) := by decide +kernel
theorem dX7_isShare_3 : decode cX7_isShare 3 = .ok (.ifCond .lt 15, 3) := by decide +kernel
theorem dX7_isShare_6 : decode cX7_isShare 6 = .ok (.lload_n 0, 1) := by decide +kernel
theorem dX7_isShare_7 : decode cX7_isShare 7 = .ok (.ldc2_w 145, 3) := by decide +kernel
theorem dX7_isShare_10 : decode cX7_isShare 10 = .ok (.lcmp, 1) := by decide +kernel
theorem dX7_isShare_11 : decode cX7_isShare 11 = .ok (.ifCond .gt 7, 3) := by decide +kernel
theorem dX7_isShare_14 : decode cX7_isShare 14 = .ok (.iconst 1, 1) := by decide +kernel
theorem dX7_isShare_15 : decode cX7_isShare 15 = .ok (.goto 4, 3) := by decide +kernel
theorem dX7_isShare_18 : decode cX7_isShare 18 = .ok (.iconst 0, 1) := by decide +kernel
theorem dX7_isShare_19 : decode cX7_isShare 19 = .ok (.ireturn, 1) := by decide +kernel
theorem csX7_isShare : CS yX7_isShare cX7_isShare 2 (some .boolean) 1 := ⟨kw_960, kw_6, kw_961, by decide +kernel, by decide +kernel, by decide +kernel⟩
def fX7_isShare_b0 (sh : Sh) (d : Dt) (x0 : Int64) : Option (Bool) := if (lg_cmp x0 (0 : Int64)) < 0 then (some false) else (if 0 < (lg_cmp x0 (1000000000 : Int64)) then (some false) else (some true))

def fX7_isShare (sh : Sh) (d : Dt) (x0 : Int64) : Option (Bool) := fX7_isShare_b0 sh d x0

set_option maxRecDepth 100000 in
set_option maxHeartbeats 4000000 in
theorem wX7_isShare_b0 (C : mx p s m args meth c yX7_isShare cX7_isShare 2 (some .boolean) A D cy st) {r : Bool} {d : Dt} : ∀ (x0 : Int64), fX7_isShare_b0 sh d x0 = some r → ∀ {H : Heap} {locs : List Loc} {ls : Array Slot}, HW A D cy sz sh d H → va_S A s.heap H locs → lv_has ls 2 [(0, .long x0)] → GL p l e s m args below meth c 0 0 A D cy (some (.int (bI r))) sz sh d H locs 0 ls [] := by
  have hx := C.1
  have hb := C.2.1
  intro x0 hf H locs ls hw hS hl
  unfold fX7_isShare_b0 at hf
  refine lv_lload_n hx hb dX7_isShare_0 rfl (lv_at hl 0 rfl) ?_
  refine lv_lconst (v := 0) hx hb dX7_isShare_1 (by decide) ?_
  refine W.lcmp hx hb dX7_isShare_2 ?_
  refine lv_if_lt (tgt := 18) hx hb dX7_isShare_3 (by decide) (fun c_1 => ?_) (fun c_1 => ?_)
  · have hf := if_t c_1 hf
    refine lv_iconst (v := 0) hx hb dX7_isShare_18 (by decide) ?_
    cases hf
    exact rt_z C hw hS _ rfl dX7_isShare_19
  · have hf := if_f c_1 hf
    refine lv_lload_n hx hb dX7_isShare_6 rfl (lv_at hl 0 rfl) ?_
    refine lv_ldc2 (v := 1000000000) hx hb C.2.2.2.2.2.1 (C.2.2.2.2.1 _ kw_962) dX7_isShare_7 ?_
    refine W.lcmp hx hb dX7_isShare_10 ?_
    refine lv_if_gt (tgt := 18) hx hb dX7_isShare_11 (by decide) (fun c_2 => ?_) (fun c_2 => ?_)
    · have hf := if_t c_2 hf
      refine lv_iconst (v := 0) hx hb dX7_isShare_18 (by decide) ?_
      cases hf
      exact rt_z C hw hS _ rfl dX7_isShare_19
    · have hf := if_f c_2 hf
      refine lv_iconst (v := 1) hx hb dX7_isShare_14 (by decide) ?_
      refine lv_goto (tgt := 19) hx hb dX7_isShare_15 (by decide) ?_
      cases hf
      exact rt_z C hw hS _ rfl dX7_isShare_19

set_option maxRecDepth 100000 in
set_option maxHeartbeats 4000000 in
theorem tX7_isShare (l : Launch) (A : Nat → Prop) (D : va_G) (cy : Nat → ClassId) (st : Nat → Nat) (sz : Nat) (sh : Sh) (d : Dt) (x0 : Int64) {r : Bool} (hf : fX7_isShare sh d x0 = some r) : Ct l yX7_isShare cX7_isShare 2 (some .boolean) 0 0 0 0 A D cy st [.long x0] sz sh d (some (.int (bI r))) sz sh d := ct_of (by decide) (Nat.le_of_ble_eq_true rfl) (fun p e s m args below meth c C hw hS ls hl => wX7_isShare_b0 C x0 hf hw hS hl)
theorem dX7_add_0 : decode cX7_add 0 = .ok (.aload_n 0, 1) := by decide +kernel
theorem dX7_add_1 : decode cX7_add 1 = .ok (.iconst 1, 1) := by decide +kernel
theorem dX7_add_2 : decode cX7_add 2 = .ok (.iload_n 1, 1) := by decide +kernel
theorem dX7_add_3 : decode cX7_add 3 = .ok (.iload_n 2, 1) := by decide +kernel
theorem dX7_add_4 : decode cX7_add 4 = .ok (.iconst 2, 1) := by decide +kernel
theorem dX7_add_5 : decode cX7_add 5 = .ok (.invokevirtual 130, 3) := by decide +kernel
theorem dX7_add_8 : decode cX7_add 8 = .ok (.istore 5, 2) := by decide +kernel
theorem dX7_add_10 : decode cX7_add 10 = .ok (.iload 5, 2) := by decide +kernel
theorem dX7_add_12 : decode cX7_add 12 = .ok (.ifCond .ge 6, 3) := by decide +kernel
theorem dX7_add_15 : decode cX7_add 15 = .ok (.iload 5, 2) := by decide +kernel
theorem dX7_add_17 : decode cX7_add 17 = .ok (.ireturn, 1) := by decide +kernel
theorem dX7_add_18 : decode cX7_add 18 = .ok (.aload_n 0, 1) := by decide +kernel
theorem dX7_add_19 : decode cX7_add 19 = .ok (.getfield 27, 3) := by decide +kernel
theorem dX7_add_22 : decode cX7_add 22 = .ok (.iload_n 2, 1) := by decide +kernel
theorem dX7_add_23 : decode cX7_add 23 = .ok (.iaload, 1) := by decide +kernel
theorem dX7_add_24 : decode cX7_add 24 = .ok (.iconst 5, 1) := by decide +kernel
theorem dX7_add_25 : decode cX7_add 25 = .ok (.if_icmp .ne 18, 3) := by decide +kernel
theorem dX7_add_28 : decode cX7_add 28 = .ok (.lload_n 3, 1) := by decide +kernel
theorem dX7_add_29 : decode cX7_add 29 = .ok (.invokestatic 138, 3) := by decide +kernel
theorem dX7_add_32 : decode cX7_add 32 = .ok (.ifCond .ne 11, 3) := by decide +kernel
theorem dX7_add_35 : decode cX7_add 35 = .ok (.aload_n 0, 1) := by decide +kernel
theorem dX7_add_36 : decode cX7_add 36 = .ok (.iconst 2, 1) := by decide +kernel
theorem dX7_add_37 : decode cX7_add 37 = .ok (.invokevirtual 120, 3) := by decide +kernel
theorem dX7_add_40 : decode cX7_add 40 = .ok (.goto 13, 3) := by decide +kernel
theorem dX7_add_43 : decode cX7_add 43 = .ok (.aload_n 0, 1) := by decide +kernel
theorem dX7_add_44 : decode cX7_add 44 = .ok (.iload_n 1, 1) := by decide +kernel
theorem dX7_add_45 : decode cX7_add 45 = .ok (.iload_n 2, 1) := by decide +kernel
theorem dX7_add_46 : decode cX7_add 46 = .ok (.iconst 1, 1) := by decide +kernel
theorem dX7_add_47 : decode cX7_add 47 = .ok (.iconst 0, 1) := by decide +kernel
theorem dX7_add_48 : decode cX7_add 48 = .ok (.iconst 0, 1) := by decide +kernel
theorem dX7_add_49 : decode cX7_add 49 = .ok (.lload_n 3, 1) := by decide +kernel
theorem dX7_add_50 : decode cX7_add 50 = .ok (.invokevirtual 134, 3) := by decide +kernel
theorem dX7_add_53 : decode cX7_add 53 = .ok (.ireturn, 1) := by decide +kernel
theorem cvX7_add : CV yX7_add cX7_add 6 (some .int) 8 3 := ⟨kw_956, kw_957, kw_6, kw_958, ⟨_, _, rfl⟩, by decide, by decide +kernel, by decide +kernel, by decide +kernel⟩
def fX7_add_b43 (sh : Sh) (x0 : Nat) (x1 : Int32) (x2 : Int32) (x3 : Int64) (d : Dt) : Option (Int32 × Dt) := bd (kc sh 9 x0) fun _ => bd2 (fX7_make sh d x0 x1 x2 (1 : Int32) (0 : Int32) (0 : Int32) x3) fun r3 d4 => some (r3, d4)

def fX7_add_b0 (sh : Sh) (x0 : Nat) (x1 : Int32) (x2 : Int32) (x3 : Int64) (d : Dt) : Option (Int32 × Dt) := bd (kc sh 9 x0) fun _ => bd2 (fX7_needMake sh d x0 (1 : Int32) x1 x2 (2 : Int32)) fun r3 d4 => if 0 ≤ r3 then (bd (gR sh d4 9 296 x0) fun v6 => bd v6 fun a7 => bd (aI sh d4 20 a7 x2) fun v8 => if v8 = (5 : Int32) then (bd (fX7_isShare sh d4 x3) fun r11 => if (bI r11) = 0 then (bd2 (fX7_meets sh d4 x0 (2 : Int32)) fun r14 d15 => some (r14, d15)) else (fX7_add_b43 sh x0 x1 x2 x3 d4)) else (fX7_add_b43 sh x0 x1 x2 x3 d4)) else (some (r3, d4))

def fX7_add (sh : Sh) (d : Dt) (x0 : Nat) (x1 : Int32) (x2 : Int32) (x3 : Int64) : Option (Int32 × Dt) := fX7_add_b0 sh x0 x1 x2 x3 d

set_option maxRecDepth 100000 in
set_option maxHeartbeats 4000000 in
theorem wX7_add_b43 (C : mx p s m args meth c yX7_add cX7_add 6 (some .int) A D cy st) {r : Int32} {d9 : Dt} : ∀ (x0 : Nat) (x1 : Int32) (x2 : Int32) (x3 : Int64) (d : Dt), fX7_add_b43 sh x0 x1 x2 x3 d = some (r, d9) → ∀ {H : Heap} {locs : List Loc} {ls : Array Slot}, HW A D cy sz sh d H → va_S A s.heap H locs → lv_has ls 6 [(0, .ref x0), (1, .int x1), (2, .int x2), (3, .long x3)] → GL p l e s m args below meth c 3 75 A D cy (some (.int r)) sz sh d9 H locs 43 ls [] := by
  have hx := C.1
  have hb := C.2.1
  intro x0 x1 x2 x3 d hf H locs ls hw hS hl
  unfold fX7_add_b43 at hf
  refine lv_aload_n hx hb dX7_add_43 rfl (lv_at hl 0 rfl) ?_
  refine lv_iload_n hx hb dX7_add_44 rfl (lv_at hl 1 rfl) ?_
  refine lv_iload_n hx hb dX7_add_45 rfl (lv_at hl 2 rfl) ?_
  refine lv_iconst (v := 1) hx hb dX7_add_46 (by decide) ?_
  refine lv_iconst (v := 0) hx hb dX7_add_47 (by decide) ?_
  refine lv_iconst (v := 0) hx hb dX7_add_48 (by decide) ?_
  refine lv_lload_n hx hb dX7_add_49 rfl (lv_at hl 3 rfl) ?_
  obtain ⟨_, h1, hf⟩ := bd_s hf
  obtain ⟨r3, d4, h2, hf⟩ := bd2_s hf
  refine cl_V0 C hw hS (tX7_make l A D cy st sz sh d x0 x1 x2 (1 : Int32) (0 : Int32) (0 : Int32) x3 h2) cvX7_make kw_944 (kc_k h1) ⟨Nat.le_of_ble_eq_true rfl, Nat.le_of_ble_eq_true rfl⟩ hl.1 rfl (Nat.le_of_ble_eq_true rfl) dX7_add_50 ⟨Nat.zero_le _, Nat.zero_le _⟩ (fun H locs hw hS => ?_)
  cases hf
  exact rt_i C hw hS dX7_add_53

set_option maxRecDepth 100000 in
set_option maxHeartbeats 4000000 in
theorem wX7_add_b0 (C : mx p s m args meth c yX7_add cX7_add 6 (some .int) A D cy st) {r : Int32} {d9 : Dt} : ∀ (x0 : Nat) (x1 : Int32) (x2 : Int32) (x3 : Int64) (d : Dt), fX7_add_b0 sh x0 x1 x2 x3 d = some (r, d9) → ∀ {H : Heap} {locs : List Loc} {ls : Array Slot}, HW A D cy sz sh d H → va_S A s.heap H locs → lv_has ls 6 [(0, .ref x0), (1, .int x1), (2, .int x2), (3, .long x3)] → GL p l e s m args below meth c 3 75 A D cy (some (.int r)) sz sh d9 H locs 0 ls [] := by
  have hx := C.1
  have hb := C.2.1
  intro x0 x1 x2 x3 d hf H locs ls hw hS hl
  unfold fX7_add_b0 at hf
  refine lv_aload_n hx hb dX7_add_0 rfl (lv_at hl 0 rfl) ?_
  refine lv_iconst (v := 1) hx hb dX7_add_1 (by decide) ?_
  refine lv_iload_n hx hb dX7_add_2 rfl (lv_at hl 1 rfl) ?_
  refine lv_iload_n hx hb dX7_add_3 rfl (lv_at hl 2 rfl) ?_
  refine lv_iconst (v := 2) hx hb dX7_add_4 (by decide) ?_
  obtain ⟨_, h1, hf⟩ := bd_s hf
  obtain ⟨r3, d4, h2, hf⟩ := bd2_s hf
  refine cl_V0 C hw hS (tX7_needMake l A D cy st sz sh d x0 (1 : Int32) x1 x2 (2 : Int32) h2) cvX7_needMake kw_925 (kc_k h1) ⟨Nat.le_of_ble_eq_true rfl, Nat.le_of_ble_eq_true rfl⟩ hl.1 rfl (Nat.le_of_ble_eq_true rfl) dX7_add_5 ⟨Nat.zero_le _, Nat.zero_le _⟩ (fun H locs hw hS => ?_)
  refine lv_istore (lv' := [(5, .int r3), (0, .ref x0), (1, .int x1), (2, .int x2), (3, .long x3)]) hx hb dX7_add_8 hl (by decide) rfl (fun ls hl => ?_)
  refine lv_iload hx hb dX7_add_10 (lv_at hl 0 rfl) ?_
  refine lv_if_ge (tgt := 18) hx hb dX7_add_12 (by decide) (fun c_5 => ?_) (fun c_5 => ?_)
  · have hf := if_t c_5 hf
    refine lv_aload_n hx hb dX7_add_18 rfl (lv_at hl 1 rfl) ?_
    obtain ⟨v6, hv6, hf⟩ := bd_s hf
    refine gt_296 C hw hv6 kw_805 dX7_add_19 ?_
    refine lv_iload_n hx hb dX7_add_22 rfl (lv_at hl 3 rfl) ?_
    obtain ⟨a7, ea7, hg⟩ := bd_s hf
    clear hf
    subst ea7
    have hf := hg
    clear hg
    obtain ⟨v8, hv8, hf⟩ := bd_s hf
    refine w_iald C hw hv8 dX7_add_23 ?_
    refine lv_iconst (v := 5) hx hb dX7_add_24 (by decide) ?_
    refine lv_icmp_ne (tgt := 43) hx hb dX7_add_25 (by decide) (fun c_9 => ?_) (fun c_9 => ?_)
    · have hf := if_f c_9 hf
      exact wX7_add_b43 C x0 x1 x2 x3 d4 hf hw hS (lv_sub hl [1, 2, 3, 4] rfl)
    · have hf := if_t c_9 hf
      refine lv_lload_n hx hb dX7_add_28 rfl (lv_at hl 4 rfl) ?_
      obtain ⟨r11, h10, hf⟩ := bd_s hf
      refine cl_S0 C hw hS (tX7_isShare l A D cy st sz sh d4 x3 h10) csX7_isShare kw_959 ⟨Nat.le_of_ble_eq_true rfl, Nat.le_of_ble_eq_true rfl⟩ hl.1 rfl (Nat.le_of_ble_eq_true rfl) dX7_add_29 ⟨Nat.zero_le _, Nat.zero_le _⟩ (fun H locs hw hS => ?_)
      refine lv_if_ne (tgt := 43) hx hb dX7_add_32 (by decide) (fun c_12 => ?_) (fun c_12 => ?_)
      · have hf := if_f c_12 hf
        exact wX7_add_b43 C x0 x1 x2 x3 d4 hf hw hS (lv_sub hl [1, 2, 3, 4] rfl)
      · have hf := if_t c_12 hf
        refine lv_aload_n hx hb dX7_add_35 rfl (lv_at hl 1 rfl) ?_
        refine lv_iconst (v := 2) hx hb dX7_add_36 (by decide) ?_
        obtain ⟨r14, d15, h13, hf⟩ := bd2_s hf
        refine cl_V0 C hw hS (tX7_meets l A D cy st sz sh d4 x0 (2 : Int32) h13) cvX7_meets kw_940 (gR_s hv6).1 ⟨Nat.le_of_ble_eq_true rfl, Nat.le_of_ble_eq_true rfl⟩ hl.1 rfl (Nat.le_of_ble_eq_true rfl) dX7_add_37 ⟨Nat.zero_le _, Nat.zero_le _⟩ (fun H locs hw hS => ?_)
        refine lv_goto (tgt := 53) hx hb dX7_add_40 (by decide) ?_
        cases hf
        exact rt_i C hw hS dX7_add_53
  · have hf := if_f c_5 hf
    refine lv_iload hx hb dX7_add_15 (lv_at hl 0 rfl) ?_
    cases hf
    exact rt_i C hw hS dX7_add_17

set_option maxRecDepth 100000 in
set_option maxHeartbeats 4000000 in
theorem tX7_add (l : Launch) (A : Nat → Prop) (D : va_G) (cy : Nat → ClassId) (st : Nat → Nat) (sz : Nat) (sh : Sh) (d : Dt) (x0 : Nat) (x1 : Int32) (x2 : Int32) (x3 : Int64) {r : Int32} {d9 : Dt} (hf : fX7_add sh d x0 x1 x2 x3 = some (r, d9)) : Ct l yX7_add cX7_add 6 (some .int) 3 75 0 0 A D cy st [.ref x0, .int x1, .int x2, .long x3] sz sh d (some (.int r)) sz sh d9 := ct_of (by decide) (Nat.le_of_ble_eq_true rfl) (fun p e s m args below meth c C hw hS ls hl => wX7_add_b0 C x0 x1 x2 x3 d hf hw hS hl)
theorem dX7_put_0 : decode cX7_put 0 = .ok (.aload_n 0, 1) := by decide +kernel
theorem dX7_put_1 : decode cX7_put 1 = .ok (.iload_n 3, 1) := by decide +kernel
theorem dX7_put_2 : decode cX7_put 2 = .ok (.iconst 0, 1) := by decide +kernel
theorem dX7_put_3 : decode cX7_put 3 = .ok (.bipush 63, 2) := by decide +kernel
theorem dX7_put_5 : decode cX7_put 5 = .ok (.invokestatic 82, 3) := by decide +kernel
theorem dX7_put_8 : decode cX7_put 8 = .ok (.iload_n 1, 1) := by decide +kernel
theorem dX7_put_9 : decode cX7_put 9 = .ok (.iload_n 2, 1) := by decide +kernel
theorem dX7_put_10 : decode cX7_put 10 = .ok (.iconst 3, 1) := by decide +kernel
theorem dX7_put_11 : decode cX7_put 11 = .ok (.invokevirtual 130, 3) := by decide +kernel
theorem dX7_put_14 : decode cX7_put 14 = .ok (.istore 4, 2) := by decide +kernel
theorem dX7_put_16 : decode cX7_put 16 = .ok (.iload 4, 2) := by decide +kernel
theorem dX7_put_18 : decode cX7_put 18 = .ok (.ifCond .ge 8, 3) := by decide +kernel
theorem dX7_put_21 : decode cX7_put 21 = .ok (.iload 4, 2) := by decide +kernel
theorem dX7_put_23 : decode cX7_put 23 = .ok (.goto 13, 3) := by decide +kernel
theorem dX7_put_26 : decode cX7_put 26 = .ok (.aload_n 0, 1) := by decide +kernel
theorem dX7_put_27 : decode cX7_put 27 = .ok (.iload_n 1, 1) := by decide +kernel
theorem dX7_put_28 : decode cX7_put 28 = .ok (.iload_n 2, 1) := by decide +kernel
theorem dX7_put_29 : decode cX7_put 29 = .ok (.iconst 2, 1) := by decide +kernel
theorem dX7_put_30 : decode cX7_put 30 = .ok (.iload_n 3, 1) := by decide +kernel
theorem dX7_put_31 : decode cX7_put 31 = .ok (.iconst 0, 1) := by decide +kernel
theorem dX7_put_32 : decode cX7_put 32 = .ok (.lconst 0, 1) := by decide +kernel
theorem dX7_put_33 : decode cX7_put 33 = .ok (.invokevirtual 134, 3) := by decide +kernel
theorem dX7_put_36 : decode cX7_put 36 = .ok (.ireturn, 1) := by decide +kernel
theorem cvX7_put : CV yX7_put cX7_put 5 (some .int) 8 3 := ⟨kw_964, kw_965, kw_6, kw_966, ⟨_, _, rfl⟩, by decide, by decide +kernel, by decide +kernel, by decide +kernel⟩
def fX7_put_b0 (sh : Sh) (x0 : Nat) (x1 : Int32) (x2 : Int32) (x3 : Int32) (d : Dt) : Option (Int32 × Dt) := bd (fX7_in sh d x3 (0 : Int32) (63 : Int32)) fun r2 => bd (kc sh 9 x0) fun _ => bd2 (fX7_needMake sh d x0 (bI r2) x1 x2 (3 : Int32)) fun r5 d6 => if 0 ≤ r5 then (bd2 (fX7_make sh d6 x0 x1 x2 (2 : Int32) x3 (0 : Int32) (0 : Int64)) fun r9 d10 => some (r9, d10)) else (some (r5, d6))

def fX7_put (sh : Sh) (d : Dt) (x0 : Nat) (x1 : Int32) (x2 : Int32) (x3 : Int32) : Option (Int32 × Dt) := fX7_put_b0 sh x0 x1 x2 x3 d

set_option maxRecDepth 100000 in
set_option maxHeartbeats 4000000 in
theorem wX7_put_b0 (C : mx p s m args meth c yX7_put cX7_put 5 (some .int) A D cy st) {r : Int32} {d9 : Dt} : ∀ (x0 : Nat) (x1 : Int32) (x2 : Int32) (x3 : Int32) (d : Dt), fX7_put_b0 sh x0 x1 x2 x3 d = some (r, d9) → ∀ {H : Heap} {locs : List Loc} {ls : Array Slot}, HW A D cy sz sh d H → va_S A s.heap H locs → lv_has ls 5 [(0, .ref x0), (1, .int x1), (2, .int x2), (3, .int x3)] → GL p l e s m args below meth c 3 75 A D cy (some (.int r)) sz sh d9 H locs 0 ls [] := by
  have hx := C.1
  have hb := C.2.1
  intro x0 x1 x2 x3 d hf H locs ls hw hS hl
  unfold fX7_put_b0 at hf
  refine lv_aload_n hx hb dX7_put_0 rfl (lv_at hl 0 rfl) ?_
  refine lv_iload_n hx hb dX7_put_1 rfl (lv_at hl 3 rfl) ?_
  refine lv_iconst (v := 0) hx hb dX7_put_2 (by decide) ?_
  refine lv_bipush (v := 63) hx hb dX7_put_3 (by decide) ?_
  obtain ⟨r2, h1, hf⟩ := bd_s hf
  refine cl_S0 C hw hS (tX7_in l A D cy st sz sh d x3 (0 : Int32) (63 : Int32) h1) csX7_in kw_890 ⟨Nat.le_of_ble_eq_true rfl, Nat.le_of_ble_eq_true rfl⟩ hl.1 rfl (Nat.le_of_ble_eq_true rfl) dX7_put_5 ⟨Nat.zero_le _, Nat.zero_le _⟩ (fun H locs hw hS => ?_)
  refine lv_iload_n hx hb dX7_put_8 rfl (lv_at hl 1 rfl) ?_
  refine lv_iload_n hx hb dX7_put_9 rfl (lv_at hl 2 rfl) ?_
  refine lv_iconst (v := 3) hx hb dX7_put_10 (by decide) ?_
  obtain ⟨_, h3, hf⟩ := bd_s hf
  obtain ⟨r5, d6, h4, hf⟩ := bd2_s hf
  refine cl_V0 C hw hS (tX7_needMake l A D cy st sz sh d x0 (bI r2) x1 x2 (3 : Int32) h4) cvX7_needMake kw_925 (kc_k h3) ⟨Nat.le_of_ble_eq_true rfl, Nat.le_of_ble_eq_true rfl⟩ hl.1 rfl (Nat.le_of_ble_eq_true rfl) dX7_put_11 ⟨Nat.zero_le _, Nat.zero_le _⟩ (fun H locs hw hS => ?_)
  refine lv_istore (lv' := [(4, .int r5), (0, .ref x0), (1, .int x1), (2, .int x2), (3, .int x3)]) hx hb dX7_put_14 hl (by decide) rfl (fun ls hl => ?_)
  refine lv_iload hx hb dX7_put_16 (lv_at hl 0 rfl) ?_
  refine lv_if_ge (tgt := 26) hx hb dX7_put_18 (by decide) (fun c_7 => ?_) (fun c_7 => ?_)
  · have hf := if_t c_7 hf
    refine lv_aload_n hx hb dX7_put_26 rfl (lv_at hl 1 rfl) ?_
    refine lv_iload_n hx hb dX7_put_27 rfl (lv_at hl 2 rfl) ?_
    refine lv_iload_n hx hb dX7_put_28 rfl (lv_at hl 3 rfl) ?_
    refine lv_iconst (v := 2) hx hb dX7_put_29 (by decide) ?_
    refine lv_iload_n hx hb dX7_put_30 rfl (lv_at hl 4 rfl) ?_
    refine lv_iconst (v := 0) hx hb dX7_put_31 (by decide) ?_
    refine lv_lconst (v := 0) hx hb dX7_put_32 (by decide) ?_
    obtain ⟨r9, d10, h8, hf⟩ := bd2_s hf
    refine cl_V0 C hw hS (tX7_make l A D cy st sz sh d6 x0 x1 x2 (2 : Int32) x3 (0 : Int32) (0 : Int64) h8) cvX7_make kw_944 (kc_k h3) ⟨Nat.le_of_ble_eq_true rfl, Nat.le_of_ble_eq_true rfl⟩ hl.1 rfl (Nat.le_of_ble_eq_true rfl) dX7_put_33 ⟨Nat.zero_le _, Nat.zero_le _⟩ (fun H locs hw hS => ?_)
    cases hf
    exact rt_i C hw hS dX7_put_36
  · have hf := if_f c_7 hf
    refine lv_iload hx hb dX7_put_21 (lv_at hl 0 rfl) ?_
    refine lv_goto (tgt := 36) hx hb dX7_put_23 (by decide) ?_
    cases hf
    exact rt_i C hw hS dX7_put_36

set_option maxRecDepth 100000 in
set_option maxHeartbeats 4000000 in
theorem tX7_put (l : Launch) (A : Nat → Prop) (D : va_G) (cy : Nat → ClassId) (st : Nat → Nat) (sz : Nat) (sh : Sh) (d : Dt) (x0 : Nat) (x1 : Int32) (x2 : Int32) (x3 : Int32) {r : Int32} {d9 : Dt} (hf : fX7_put sh d x0 x1 x2 x3 = some (r, d9)) : Ct l yX7_put cX7_put 5 (some .int) 3 75 0 0 A D cy st [.ref x0, .int x1, .int x2, .int x3] sz sh d (some (.int r)) sz sh d9 := ct_of (by decide) (Nat.le_of_ble_eq_true rfl) (fun p e s m args below meth c C hw hS ls hl => wX7_put_b0 C x0 x1 x2 x3 d hf hw hS hl)
theorem dX7_isOn_0 : decode cX7_isOn 0 = .ok (.aload_n 0, 1) := by decide +kernel
theorem dX7_isOn_1 : decode cX7_isOn 1 = .ok (.getfield 33, 3) := by decide +kernel
theorem dX7_isOn_4 : decode cX7_isOn 4 = .ok (.iload_n 3, 1) := by decide +kernel
theorem dX7_isOn_5 : decode cX7_isOn 5 = .ok (.iaload, 1) := by decide +kernel
theorem dX7_isOn_6 : decode cX7_isOn 6 = .ok (.iload_n 2, 1) := by decide +kernel
theorem dX7_isOn_7 : decode cX7_isOn 7 = .ok (.if_icmp .ne 30, 3) := by decide +kernel
theorem dX7_isOn_10 : decode cX7_isOn 10 = .ok (.aload_n 0, 1) := by decide +kernel
theorem dX7_isOn_11 : decode cX7_isOn 11 = .ok (.getfield 39, 3) := by decide +kernel
theorem dX7_isOn_14 : decode cX7_isOn 14 = .ok (.iload_n 3, 1) := by decide +kernel
theorem dX7_isOn_15 : decode cX7_isOn 15 = .ok (.iaload, 1) := by decide +kernel
theorem dX7_isOn_16 : decode cX7_isOn 16 = .ok (.iload 4, 2) := by decide +kernel
theorem dX7_isOn_18 : decode cX7_isOn 18 = .ok (.if_icmp .ne 19, 3) := by decide +kernel
theorem dX7_isOn_21 : decode cX7_isOn 21 = .ok (.aload_n 0, 1) := by decide +kernel
theorem dX7_isOn_22 : decode cX7_isOn 22 = .ok (.getfield 13, 3) := by decide +kernel
theorem dX7_isOn_25 : decode cX7_isOn 25 = .ok (.iload_n 1, 1) := by decide +kernel
theorem dX7_isOn_26 : decode cX7_isOn 26 = .ok (.iload_n 3, 1) := by decide +kernel
theorem dX7_isOn_27 : decode cX7_isOn 27 = .ok (.invokestatic 91, 3) := by decide +kernel
theorem dX7_isOn_30 : decode cX7_isOn 30 = .ok (.ifCond .eq 7, 3) := by decide +kernel
theorem dX7_isOn_33 : decode cX7_isOn 33 = .ok (.iconst 1, 1) := by decide +kernel
theorem dX7_isOn_34 : decode cX7_isOn 34 = .ok (.goto 4, 3) := by decide +kernel
theorem dX7_isOn_37 : decode cX7_isOn 37 = .ok (.iconst 0, 1) := by decide +kernel
theorem dX7_isOn_38 : decode cX7_isOn 38 = .ok (.ireturn, 1) := by decide +kernel
theorem cvX7_isOn : CV yX7_isOn cX7_isOn 5 (some .boolean) 8 4 := ⟨kw_977, ks_32, kw_6, kw_978, ⟨_, _, rfl⟩, by decide, by decide +kernel, by decide +kernel, by decide +kernel⟩
def fX7_isOn_b0 (sh : Sh) (d : Dt) (x0 : Nat) (x1 : Int32) (x2 : Int32) (x3 : Int32) (x4 : Int32) : Option (Bool) := bd (gR sh d 9 299 x0) fun v1 => bd v1 fun a2 => bd (aI sh d 20 a2 x3) fun v3 => if v3 = x2 then (bd (gR sh d 9 301 x0) fun v5 => bd v5 fun a6 => bd (aI sh d 20 a6 x3) fun v7 => if v7 = x4 then (bd (gR sh d 9 291 x0) fun v9 => bd (fX7_isIn sh d v9 x1 x3) fun r11 => if (bI r11) = 0 then (some false) else (some true)) else (some false)) else (some false)

def fX7_isOn (sh : Sh) (d : Dt) (x0 : Nat) (x1 : Int32) (x2 : Int32) (x3 : Int32) (x4 : Int32) : Option (Bool) := fX7_isOn_b0 sh d x0 x1 x2 x3 x4

set_option maxRecDepth 100000 in
set_option maxHeartbeats 4000000 in
theorem wX7_isOn_b0 (C : mx p s m args meth c yX7_isOn cX7_isOn 5 (some .boolean) A D cy st) {r : Bool} {d : Dt} : ∀ (x0 : Nat) (x1 : Int32) (x2 : Int32) (x3 : Int32) (x4 : Int32), fX7_isOn_b0 sh d x0 x1 x2 x3 x4 = some r → ∀ {H : Heap} {locs : List Loc} {ls : Array Slot}, HW A D cy sz sh d H → va_S A s.heap H locs → lv_has ls 5 [(0, .ref x0), (1, .int x1), (2, .int x2), (3, .int x3), (4, .int x4)] → GL p l e s m args below meth c 1 22 A D cy (some (.int (bI r))) sz sh d H locs 0 ls [] := by
  have hx := C.1
  have hb := C.2.1
  intro x0 x1 x2 x3 x4 hf H locs ls hw hS hl
  unfold fX7_isOn_b0 at hf
  refine lv_aload_n hx hb dX7_isOn_0 rfl (lv_at hl 0 rfl) ?_
  obtain ⟨v1, hv1, hf⟩ := bd_s hf
  refine gt_299 C hw hv1 kw_808 dX7_isOn_1 ?_
  refine lv_iload_n hx hb dX7_isOn_4 rfl (lv_at hl 3 rfl) ?_
  obtain ⟨a2, ea2, hg⟩ := bd_s hf
  clear hf
  subst ea2
  have hf := hg
  clear hg
  obtain ⟨v3, hv3, hf⟩ := bd_s hf
  refine w_iald C hw hv3 dX7_isOn_5 ?_
  refine lv_iload_n hx hb dX7_isOn_6 rfl (lv_at hl 2 rfl) ?_
  refine lv_icmp_ne (tgt := 37) hx hb dX7_isOn_7 (by decide) (fun c_4 => ?_) (fun c_4 => ?_)
  · have hf := if_f c_4 hf
    refine lv_iconst (v := 0) hx hb dX7_isOn_37 (by decide) ?_
    cases hf
    exact rt_z C hw hS _ rfl dX7_isOn_38
  · have hf := if_t c_4 hf
    refine lv_aload_n hx hb dX7_isOn_10 rfl (lv_at hl 0 rfl) ?_
    obtain ⟨v5, hv5, hf⟩ := bd_s hf
    refine gt_301 C hw hv5 kw_810 dX7_isOn_11 ?_
    refine lv_iload_n hx hb dX7_isOn_14 rfl (lv_at hl 3 rfl) ?_
    obtain ⟨a6, ea6, hg⟩ := bd_s hf
    clear hf
    subst ea6
    have hf := hg
    clear hg
    obtain ⟨v7, hv7, hf⟩ := bd_s hf
    refine w_iald C hw hv7 dX7_isOn_15 ?_
    refine lv_iload hx hb dX7_isOn_16 (lv_at hl 4 rfl) ?_
    refine lv_icmp_ne (tgt := 37) hx hb dX7_isOn_18 (by decide) (fun c_8 => ?_) (fun c_8 => ?_)
    · have hf := if_f c_8 hf
      refine lv_iconst (v := 0) hx hb dX7_isOn_37 (by decide) ?_
      cases hf
      exact rt_z C hw hS _ rfl dX7_isOn_38
    · have hf := if_t c_8 hf
      refine lv_aload_n hx hb dX7_isOn_21 rfl (lv_at hl 0 rfl) ?_
      obtain ⟨v9, hv9, hf⟩ := bd_s hf
      refine gt_291 C hw hv9 kw_800 dX7_isOn_22 ?_
      refine lv_iload_n hx hb dX7_isOn_25 rfl (lv_at hl 1 rfl) ?_
      refine lv_iload_n hx hb dX7_isOn_26 rfl (lv_at hl 3 rfl) ?_
      obtain ⟨r11, h10, hf⟩ := bd_s hf
      refine cl_S0 C hw hS (tX7_isIn l A D cy st sz sh d v9 x1 x3 h10) csX7_isIn kw_933 ⟨Nat.le_of_ble_eq_true rfl, Nat.le_of_ble_eq_true rfl⟩ hl.1 rfl (Nat.le_of_ble_eq_true rfl) dX7_isOn_27 ⟨Nat.zero_le _, Nat.zero_le _⟩ (fun H locs hw hS => ?_)
      refine lv_if_eq (tgt := 37) hx hb dX7_isOn_30 (by decide) (fun c_12 => ?_) (fun c_12 => ?_)
      · have hf := if_t c_12 hf
        refine lv_iconst (v := 0) hx hb dX7_isOn_37 (by decide) ?_
        cases hf
        exact rt_z C hw hS _ rfl dX7_isOn_38
      · have hf := if_f c_12 hf
        refine lv_iconst (v := 1) hx hb dX7_isOn_33 (by decide) ?_
        refine lv_goto (tgt := 38) hx hb dX7_isOn_34 (by decide) ?_
        cases hf
        exact rt_z C hw hS _ rfl dX7_isOn_38

set_option maxRecDepth 100000 in
set_option maxHeartbeats 4000000 in
theorem tX7_isOn (l : Launch) (A : Nat → Prop) (D : va_G) (cy : Nat → ClassId) (st : Nat → Nat) (sz : Nat) (sh : Sh) (d : Dt) (x0 : Nat) (x1 : Int32) (x2 : Int32) (x3 : Int32) (x4 : Int32) {r : Bool} (hf : fX7_isOn sh d x0 x1 x2 x3 x4 = some r) : Ct l yX7_isOn cX7_isOn 5 (some .boolean) 1 22 0 0 A D cy st [.ref x0, .int x1, .int x2, .int x3, .int x4] sz sh d (some (.int (bI r))) sz sh d := ct_of (by decide) (Nat.le_of_ble_eq_true rfl) (fun p e s m args below meth c C hw hS ls hl => wX7_isOn_b0 C x0 x1 x2 x3 x4 hf hw hS hl)
theorem dX7_countIn_0 : decode cX7_countIn 0 = .ok (.iconst 0, 1) := by decide +kernel
theorem dX7_countIn_1 : decode cX7_countIn 1 = .ok (.istore 4, 2) := by decide +kernel
theorem dX7_countIn_3 : decode cX7_countIn 3 = .ok (.iconst 0, 1) := by decide +kernel
theorem dX7_countIn_4 : decode cX7_countIn 4 = .ok (.istore 5, 2) := by decide +kernel
theorem dX7_countIn_6 : decode cX7_countIn 6 = .ok (.iload 5, 2) := by decide +kernel
theorem dX7_countIn_8 : decode cX7_countIn 8 = .ok (.aload_n 0, 1) := by decide +kernel
theorem dX7_countIn_9 : decode cX7_countIn 9 = .ok (.getfield 88, 3) := by decide +kernel
theorem dX7_countIn_12 : decode cX7_countIn 12 = .ok (.if_icmp .ge 117, 3) := by decide +kernel
theorem dX7_countIn_15 : decode cX7_countIn 15 = .ok (.aload_n 0, 1) := by decide +kernel
theorem dX7_countIn_16 : decode cX7_countIn 16 = .ok (.iload_n 1, 1) := by decide +kernel
theorem dX7_countIn_17 : decode cX7_countIn 17 = .ok (.iload_n 2, 1) := by decide +kernel
theorem dX7_countIn_18 : decode cX7_countIn 18 = .ok (.iload 5, 2) := by decide +kernel
theorem dX7_countIn_20 : decode cX7_countIn 20 = .ok (.iconst 2, 1) := by decide +kernel
theorem dX7_countIn_21 : decode cX7_countIn 21 = .ok (.invokevirtual 185, 3) := by decide +kernel
theorem dX7_countIn_24 : decode cX7_countIn 24 = .ok (.ifCond .eq 99, 3) := by decide +kernel
theorem dX7_countIn_27 : decode cX7_countIn 27 = .ok (.aload_n 0, 1) := by decide +kernel
theorem dX7_countIn_28 : decode cX7_countIn 28 = .ok (.getfield 42, 3) := by decide +kernel
theorem dX7_countIn_31 : decode cX7_countIn 31 = .ok (.iload 5, 2) := by decide +kernel
theorem dX7_countIn_33 : decode cX7_countIn 33 = .ok (.iaload, 1) := by decide +kernel
theorem dX7_countIn_34 : decode cX7_countIn 34 = .ok (.iload_n 3, 1) := by decide +kernel
theorem dX7_countIn_35 : decode cX7_countIn 35 = .ok (.if_icmp .ne 88, 3) := by decide +kernel
theorem dX7_countIn_38 : decode cX7_countIn 38 = .ok (.iconst 0, 1) := by decide +kernel
theorem dX7_countIn_39 : decode cX7_countIn 39 = .ok (.istore 6, 2) := by decide +kernel
theorem dX7_countIn_41 : decode cX7_countIn 41 = .ok (.iconst 0, 1) := by decide +kernel
theorem dX7_countIn_42 : decode cX7_countIn 42 = .ok (.istore 7, 2) := by decide +kernel
theorem dX7_countIn_44 : decode cX7_countIn 44 = .ok (.iload 7, 2) := by decide +kernel
theorem dX7_countIn_46 : decode cX7_countIn 46 = .ok (.aload_n 0, 1) := by decide +kernel
theorem dX7_countIn_47 : decode cX7_countIn 47 = .ok (.getfield 88, 3) := by decide +kernel
theorem dX7_countIn_50 : decode cX7_countIn 50 = .ok (.if_icmp .ge 58, 3) := by decide +kernel
theorem dX7_countIn_53 : decode cX7_countIn 53 = .ok (.iload 6, 2) := by decide +kernel
theorem dX7_countIn_55 : decode cX7_countIn 55 = .ok (.ifCond .ne 53, 3) := by decide +kernel
theorem dX7_countIn_58 : decode cX7_countIn 58 = .ok (.aload_n 0, 1) := by decide +kernel
theorem dX7_countIn_59 : decode cX7_countIn 59 = .ok (.iload_n 1, 1) := by decide +kernel
theorem dX7_countIn_60 : decode cX7_countIn 60 = .ok (.iload_n 2, 1) := by decide +kernel
theorem dX7_countIn_61 : decode cX7_countIn 61 = .ok (.iload 7, 2) := by decide +kernel
theorem dX7_countIn_63 : decode cX7_countIn 63 = .ok (.iconst 3, 1) := by decide +kernel
theorem dX7_countIn_64 : decode cX7_countIn 64 = .ok (.invokevirtual 185, 3) := by decide +kernel
theorem dX7_countIn_67 : decode cX7_countIn 67 = .ok (.ifCond .eq 32, 3) := by decide +kernel
theorem dX7_countIn_70 : decode cX7_countIn 70 = .ok (.aload_n 0, 1) := by decide +kernel
theorem dX7_countIn_71 : decode cX7_countIn 71 = .ok (.getfield 42, 3) := by decide +kernel
theorem dX7_countIn_74 : decode cX7_countIn 74 = .ok (.iload 7, 2) := by decide +kernel
theorem dX7_countIn_76 : decode cX7_countIn 76 = .ok (.iaload, 1) := by decide +kernel
theorem dX7_countIn_77 : decode cX7_countIn 77 = .ok (.iload_n 3, 1) := by decide +kernel
theorem dX7_countIn_78 : decode cX7_countIn 78 = .ok (.if_icmp .ne 21, 3) := by decide +kernel
theorem dX7_countIn_81 : decode cX7_countIn 81 = .ok (.aload_n 0, 1) := by decide +kernel
theorem dX7_countIn_82 : decode cX7_countIn 82 = .ok (.getfield 51, 3) := by decide +kernel
theorem dX7_countIn_85 : decode cX7_countIn 85 = .ok (.iload 7, 2) := by decide +kernel
theorem dX7_countIn_87 : decode cX7_countIn 87 = .ok (.iload 5, 2) := by decide +kernel
theorem dX7_countIn_89 : decode cX7_countIn 89 = .ok (.invokestatic 91, 3) := by decide +kernel
theorem dX7_countIn_92 : decode cX7_countIn 92 = .ok (.ifCond .eq 7, 3) := by decide +kernel
theorem dX7_countIn_95 : decode cX7_countIn 95 = .ok (.iconst 1, 1) := by decide +kernel
theorem dX7_countIn_96 : decode cX7_countIn 96 = .ok (.goto 4, 3) := by decide +kernel
theorem dX7_countIn_99 : decode cX7_countIn 99 = .ok (.iconst 0, 1) := by decide +kernel
theorem dX7_countIn_100 : decode cX7_countIn 100 = .ok (.istore 6, 2) := by decide +kernel
theorem dX7_countIn_102 : decode cX7_countIn 102 = .ok (.iinc 7 1, 3) := by decide +kernel
theorem dX7_countIn_105 : decode cX7_countIn 105 = .ok (.goto (-61), 3) := by decide +kernel
theorem dX7_countIn_108 : decode cX7_countIn 108 = .ok (.iload 4, 2) := by decide +kernel
theorem dX7_countIn_110 : decode cX7_countIn 110 = .ok (.iload 6, 2) := by decide +kernel
theorem dX7_countIn_112 : decode cX7_countIn 112 = .ok (.ifCond .eq 7, 3) := by decide +kernel
theorem dX7_countIn_115 : decode cX7_countIn 115 = .ok (.iconst 0, 1) := by decide +kernel
theorem dX7_countIn_116 : decode cX7_countIn 116 = .ok (.goto 4, 3) := by decide +kernel
theorem dX7_countIn_119 : decode cX7_countIn 119 = .ok (.iconst 1, 1) := by decide +kernel
theorem dX7_countIn_120 : decode cX7_countIn 120 = .ok (.iadd, 1) := by decide +kernel
theorem dX7_countIn_121 : decode cX7_countIn 121 = .ok (.istore 4, 2) := by decide +kernel
theorem dX7_countIn_123 : decode cX7_countIn 123 = .ok (.iinc 5 1, 3) := by decide +kernel
theorem dX7_countIn_126 : decode cX7_countIn 126 = .ok (.goto (-120), 3) := by decide +kernel
theorem dX7_countIn_129 : decode cX7_countIn 129 = .ok (.iload 4, 2) := by decide +kernel
theorem dX7_countIn_131 : decode cX7_countIn 131 = .ok (.ireturn, 1) := by decide +kernel
theorem cvX7_countIn : CV yX7_countIn cX7_countIn 8 (some .int) 8 3 := ⟨kw_973, ks_31, kw_6, kw_974, ⟨_, _, rfl⟩, by decide, by decide +kernel, by decide +kernel, by decide +kernel⟩
def fX7_countIn_b108 (sh : Sh) (d : Dt) (k6 : Nat → Int32 → Int32 → Int32 → Int32 → Int32 → Option (Int32)) (x0 : Nat) (x1 : Int32) (x2 : Int32) (x3 : Int32) (x4 : Int32) (x5 : Int32) (x6 : Int32) : Option (Int32) := if x6 = 0 then (k6 x0 x1 x2 x3 (x4 + (1 : Int32)) (x5 + 1)) else (k6 x0 x1 x2 x3 (x4 + (0 : Int32)) (x5 + 1))

def fX7_countIn_b44 (sh : Sh) (d : Dt) (k6 : Nat → Int32 → Int32 → Int32 → Int32 → Int32 → Option (Int32)) : Nat → Nat → Int32 → Int32 → Int32 → Int32 → Int32 → Int32 → Int32 → Option (Int32)
  | 0, _, _, _, _, _, _, _, _ => none
  | n + 1, x0, x1, x2, x3, x4, x5, x6, x7 => bd (gI sh d 9 297 x0) fun v1 => if v1 ≤ x7 then (fX7_countIn_b108 sh d k6 x0 x1 x2 x3 x4 x5 x6) else (if x6 = 0 then (bd (fX7_isOn sh d x0 x1 x2 x7 (3 : Int32)) fun r5 => if (bI r5) = 0 then (fX7_countIn_b44 sh d k6 n x0 x1 x2 x3 x4 x5 (0 : Int32) (x7 + 1)) else (bd (gR sh d 9 302 x0) fun v7 => bd v7 fun a8 => bd (aI sh d 20 a8 x7) fun v9 => if v9 = x3 then (bd (gR sh d 9 305 x0) fun v11 => bd (fX7_isIn sh d v11 x7 x5) fun r13 => if (bI r13) = 0 then (fX7_countIn_b44 sh d k6 n x0 x1 x2 x3 x4 x5 (0 : Int32) (x7 + 1)) else (fX7_countIn_b44 sh d k6 n x0 x1 x2 x3 x4 x5 (1 : Int32) (x7 + 1))) else (fX7_countIn_b44 sh d k6 n x0 x1 x2 x3 x4 x5 (0 : Int32) (x7 + 1)))) else (fX7_countIn_b108 sh d k6 x0 x1 x2 x3 x4 x5 x6))

def fX7_countIn_b6 (sh : Sh) (d : Dt) : Nat → Nat → Int32 → Int32 → Int32 → Int32 → Int32 → Option (Int32)
  | 0, _, _, _, _, _, _ => none
  | n + 1, x0, x1, x2, x3, x4, x5 => bd (gI sh d 9 297 x0) fun v1 => if v1 ≤ x5 then (some x4) else (bd (fX7_isOn sh d x0 x1 x2 x5 (2 : Int32)) fun r4 => if (bI r4) = 0 then (fX7_countIn_b6 sh d n x0 x1 x2 x3 x4 (x5 + 1)) else (bd (gR sh d 9 302 x0) fun v6 => bd v6 fun a7 => bd (aI sh d 20 a7 x5) fun v8 => if v8 = x3 then (fX7_countIn_b44 sh d (fX7_countIn_b6 sh d n) fu x0 x1 x2 x3 x4 x5 (0 : Int32) (0 : Int32)) else (fX7_countIn_b6 sh d n x0 x1 x2 x3 x4 (x5 + 1))))

def fX7_countIn_b0 (sh : Sh) (d : Dt) (x0 : Nat) (x1 : Int32) (x2 : Int32) (x3 : Int32) : Option (Int32) := fX7_countIn_b6 sh d fu x0 x1 x2 x3 (0 : Int32) (0 : Int32)

def fX7_countIn (sh : Sh) (d : Dt) (x0 : Nat) (x1 : Int32) (x2 : Int32) (x3 : Int32) : Option (Int32) := fX7_countIn_b0 sh d x0 x1 x2 x3

set_option maxRecDepth 100000 in
set_option maxHeartbeats 4000000 in
theorem wX7_countIn_b108 (C : mx p s m args meth c yX7_countIn cX7_countIn 8 (some .int) A D cy st) {k6 : Nat → Int32 → Int32 → Int32 → Int32 → Int32 → Option (Int32)} {r : Int32} {d : Dt} (Hk6 : ∀ (x0 : Nat) (x1 : Int32) (x2 : Int32) (x3 : Int32) (x4 : Int32) (x5 : Int32), k6 x0 x1 x2 x3 x4 x5 = some r → ∀ {H : Heap} {locs : List Loc} {ls : Array Slot}, HW A D cy sz sh d H → va_S A s.heap H locs → lv_has ls 8 [(0, .ref x0), (1, .int x1), (2, .int x2), (3, .int x3), (4, .int x4), (5, .int x5)] → GL p l e s m args below meth c 2 46 A D cy (some (.int r)) sz sh d H locs 6 ls []) : ∀ (x0 : Nat) (x1 : Int32) (x2 : Int32) (x3 : Int32) (x4 : Int32) (x5 : Int32) (x6 : Int32), fX7_countIn_b108 sh d k6 x0 x1 x2 x3 x4 x5 x6 = some r → ∀ {H : Heap} {locs : List Loc} {ls : Array Slot}, HW A D cy sz sh d H → va_S A s.heap H locs → lv_has ls 8 [(0, .ref x0), (1, .int x1), (2, .int x2), (3, .int x3), (4, .int x4), (5, .int x5), (6, .int x6)] → GL p l e s m args below meth c 2 46 A D cy (some (.int r)) sz sh d H locs 108 ls [] := by
  have hx := C.1
  have hb := C.2.1
  intro x0 x1 x2 x3 x4 x5 x6 hf H locs ls hw hS hl
  unfold fX7_countIn_b108 at hf
  refine lv_iload hx hb dX7_countIn_108 (lv_at hl 4 rfl) ?_
  refine lv_iload hx hb dX7_countIn_110 (lv_at hl 6 rfl) ?_
  refine lv_if_eq (tgt := 119) hx hb dX7_countIn_112 (by decide) (fun c_1 => ?_) (fun c_1 => ?_)
  · have hf := if_t c_1 hf
    refine lv_iconst (v := 1) hx hb dX7_countIn_119 (by decide) ?_
    refine lv_iadd hx hb dX7_countIn_120 ?_
    refine lv_istore (lv' := [(4, .int (x4 + (1 : Int32))), (0, .ref x0), (1, .int x1), (2, .int x2), (3, .int x3), (5, .int x5), (6, .int x6)]) hx hb dX7_countIn_121 hl (by decide) rfl (fun ls hl => ?_)
    refine lv_iinc (v := (x5 + 1)) (lv' := [(5, .int (x5 + 1)), (4, .int (x4 + (1 : Int32))), (0, .ref x0), (1, .int x1), (2, .int x2), (3, .int x3), (6, .int x6)]) hx hb dX7_countIn_123 hl (k := 5) rfl rfl (by decide) rfl (fun ls hl => ?_)
    refine lv_goto (tgt := 6) hx hb dX7_countIn_126 (by decide) ?_
    exact Hk6 x0 x1 x2 x3 (x4 + (1 : Int32)) (x5 + 1) hf hw hS (lv_sub hl [2, 3, 4, 5, 1, 0] rfl)
  · have hf := if_f c_1 hf
    refine lv_iconst (v := 0) hx hb dX7_countIn_115 (by decide) ?_
    refine lv_goto (tgt := 120) hx hb dX7_countIn_116 (by decide) ?_
    refine lv_iadd hx hb dX7_countIn_120 ?_
    refine lv_istore (lv' := [(4, .int (x4 + (0 : Int32))), (0, .ref x0), (1, .int x1), (2, .int x2), (3, .int x3), (5, .int x5), (6, .int x6)]) hx hb dX7_countIn_121 hl (by decide) rfl (fun ls hl => ?_)
    refine lv_iinc (v := (x5 + 1)) (lv' := [(5, .int (x5 + 1)), (4, .int (x4 + (0 : Int32))), (0, .ref x0), (1, .int x1), (2, .int x2), (3, .int x3), (6, .int x6)]) hx hb dX7_countIn_123 hl (k := 5) rfl rfl (by decide) rfl (fun ls hl => ?_)
    refine lv_goto (tgt := 6) hx hb dX7_countIn_126 (by decide) ?_
    exact Hk6 x0 x1 x2 x3 (x4 + (0 : Int32)) (x5 + 1) hf hw hS (lv_sub hl [2, 3, 4, 5, 1, 0] rfl)

set_option maxRecDepth 100000 in
set_option maxHeartbeats 4000000 in
theorem wX7_countIn_b44 (C : mx p s m args meth c yX7_countIn cX7_countIn 8 (some .int) A D cy st) {k6 : Nat → Int32 → Int32 → Int32 → Int32 → Int32 → Option (Int32)} {r : Int32} {d : Dt} (Hk6 : ∀ (x0 : Nat) (x1 : Int32) (x2 : Int32) (x3 : Int32) (x4 : Int32) (x5 : Int32), k6 x0 x1 x2 x3 x4 x5 = some r → ∀ {H : Heap} {locs : List Loc} {ls : Array Slot}, HW A D cy sz sh d H → va_S A s.heap H locs → lv_has ls 8 [(0, .ref x0), (1, .int x1), (2, .int x2), (3, .int x3), (4, .int x4), (5, .int x5)] → GL p l e s m args below meth c 2 46 A D cy (some (.int r)) sz sh d H locs 6 ls []) : ∀ (n : Nat) (x0 : Nat) (x1 : Int32) (x2 : Int32) (x3 : Int32) (x4 : Int32) (x5 : Int32) (x6 : Int32) (x7 : Int32), fX7_countIn_b44 sh d k6 n x0 x1 x2 x3 x4 x5 x6 x7 = some r → ∀ {H : Heap} {locs : List Loc} {ls : Array Slot}, HW A D cy sz sh d H → va_S A s.heap H locs → lv_has ls 8 [(0, .ref x0), (1, .int x1), (2, .int x2), (3, .int x3), (4, .int x4), (5, .int x5), (6, .int x6), (7, .int x7)] → GL p l e s m args below meth c 2 46 A D cy (some (.int r)) sz sh d H locs 44 ls [] := by
  have hx := C.1
  have hb := C.2.1
  intro n
  induction n with
  | zero => intro x0 x1 x2 x3 x4 x5 x6 x7 hf; cases hf
  | succ n ih =>
    intro x0 x1 x2 x3 x4 x5 x6 x7 hf H locs ls hw hS hl
    rw [fX7_countIn_b44] at hf
    refine lv_iload hx hb dX7_countIn_44 (lv_at hl 7 rfl) ?_
    refine lv_aload_n hx hb dX7_countIn_46 rfl (lv_at hl 0 rfl) ?_
    obtain ⟨v1, hv1, hf⟩ := bd_s hf
    refine gt_297 C hw hv1 kw_806 dX7_countIn_47 ?_
    refine lv_icmp_ge (tgt := 108) hx hb dX7_countIn_50 (by decide) (fun c_2 => ?_) (fun c_2 => ?_)
    · have hf := if_t c_2 hf
      exact wX7_countIn_b108 C Hk6 x0 x1 x2 x3 x4 x5 x6 hf hw hS (lv_sub hl [0, 1, 2, 3, 4, 5, 6] rfl)
    · have hf := if_f c_2 hf
      refine lv_iload hx hb dX7_countIn_53 (lv_at hl 6 rfl) ?_
      refine lv_if_ne (tgt := 108) hx hb dX7_countIn_55 (by decide) (fun c_3 => ?_) (fun c_3 => ?_)
      · have hf := if_f c_3 hf
        exact wX7_countIn_b108 C Hk6 x0 x1 x2 x3 x4 x5 x6 hf hw hS (lv_sub hl [0, 1, 2, 3, 4, 5, 6] rfl)
      · have hf := if_t c_3 hf
        refine lv_aload_n hx hb dX7_countIn_58 rfl (lv_at hl 0 rfl) ?_
        refine lv_iload_n hx hb dX7_countIn_59 rfl (lv_at hl 1 rfl) ?_
        refine lv_iload_n hx hb dX7_countIn_60 rfl (lv_at hl 2 rfl) ?_
        refine lv_iload hx hb dX7_countIn_61 (lv_at hl 7 rfl) ?_
        refine lv_iconst (v := 3) hx hb dX7_countIn_63 (by decide) ?_
        obtain ⟨r5, h4, hf⟩ := bd_s hf
        refine cl_V0 C hw hS (tX7_isOn l A D cy st sz sh d x0 x1 x2 x7 (3 : Int32) h4) cvX7_isOn kw_975 (gI_s hv1).1 ⟨Nat.le_of_ble_eq_true rfl, Nat.le_of_ble_eq_true rfl⟩ hl.1 rfl (Nat.le_of_ble_eq_true rfl) dX7_countIn_64 ⟨Nat.zero_le _, Nat.zero_le _⟩ (fun H locs hw hS => ?_)
        refine lv_if_eq (tgt := 99) hx hb dX7_countIn_67 (by decide) (fun c_6 => ?_) (fun c_6 => ?_)
        · have hf := if_t c_6 hf
          refine lv_iconst (v := 0) hx hb dX7_countIn_99 (by decide) ?_
          refine lv_istore (lv' := [(6, .int (0 : Int32)), (0, .ref x0), (1, .int x1), (2, .int x2), (3, .int x3), (4, .int x4), (5, .int x5), (7, .int x7)]) hx hb dX7_countIn_100 hl (by decide) rfl (fun ls hl => ?_)
          refine lv_iinc (v := (x7 + 1)) (lv' := [(7, .int (x7 + 1)), (6, .int (0 : Int32)), (0, .ref x0), (1, .int x1), (2, .int x2), (3, .int x3), (4, .int x4), (5, .int x5)]) hx hb dX7_countIn_102 hl (k := 7) rfl rfl (by decide) rfl (fun ls hl => ?_)
          refine lv_goto (tgt := 44) hx hb dX7_countIn_105 (by decide) ?_
          exact ih x0 x1 x2 x3 x4 x5 (0 : Int32) (x7 + 1) hf hw hS (lv_sub hl [2, 3, 4, 5, 6, 7, 1, 0] rfl)
        · have hf := if_f c_6 hf
          refine lv_aload_n hx hb dX7_countIn_70 rfl (lv_at hl 0 rfl) ?_
          obtain ⟨v7, hv7, hf⟩ := bd_s hf
          refine gt_302 C hw hv7 kw_811 dX7_countIn_71 ?_
          refine lv_iload hx hb dX7_countIn_74 (lv_at hl 7 rfl) ?_
          obtain ⟨a8, ea8, hg⟩ := bd_s hf
          clear hf
          subst ea8
          have hf := hg
          clear hg
          obtain ⟨v9, hv9, hf⟩ := bd_s hf
          refine w_iald C hw hv9 dX7_countIn_76 ?_
          refine lv_iload_n hx hb dX7_countIn_77 rfl (lv_at hl 3 rfl) ?_
          refine lv_icmp_ne (tgt := 99) hx hb dX7_countIn_78 (by decide) (fun c_10 => ?_) (fun c_10 => ?_)
          · have hf := if_f c_10 hf
            refine lv_iconst (v := 0) hx hb dX7_countIn_99 (by decide) ?_
            refine lv_istore (lv' := [(6, .int (0 : Int32)), (0, .ref x0), (1, .int x1), (2, .int x2), (3, .int x3), (4, .int x4), (5, .int x5), (7, .int x7)]) hx hb dX7_countIn_100 hl (by decide) rfl (fun ls hl => ?_)
            refine lv_iinc (v := (x7 + 1)) (lv' := [(7, .int (x7 + 1)), (6, .int (0 : Int32)), (0, .ref x0), (1, .int x1), (2, .int x2), (3, .int x3), (4, .int x4), (5, .int x5)]) hx hb dX7_countIn_102 hl (k := 7) rfl rfl (by decide) rfl (fun ls hl => ?_)
            refine lv_goto (tgt := 44) hx hb dX7_countIn_105 (by decide) ?_
            exact ih x0 x1 x2 x3 x4 x5 (0 : Int32) (x7 + 1) hf hw hS (lv_sub hl [2, 3, 4, 5, 6, 7, 1, 0] rfl)
          · have hf := if_t c_10 hf
            refine lv_aload_n hx hb dX7_countIn_81 rfl (lv_at hl 0 rfl) ?_
            obtain ⟨v11, hv11, hf⟩ := bd_s hf
            refine gt_305 C hw hv11 kw_814 dX7_countIn_82 ?_
            refine lv_iload hx hb dX7_countIn_85 (lv_at hl 7 rfl) ?_
            refine lv_iload hx hb dX7_countIn_87 (lv_at hl 5 rfl) ?_
            obtain ⟨r13, h12, hf⟩ := bd_s hf
            refine cl_S0 C hw hS (tX7_isIn l A D cy st sz sh d v11 x7 x5 h12) csX7_isIn kw_933 ⟨Nat.le_of_ble_eq_true rfl, Nat.le_of_ble_eq_true rfl⟩ hl.1 rfl (Nat.le_of_ble_eq_true rfl) dX7_countIn_89 ⟨Nat.zero_le _, Nat.zero_le _⟩ (fun H locs hw hS => ?_)
            refine lv_if_eq (tgt := 99) hx hb dX7_countIn_92 (by decide) (fun c_14 => ?_) (fun c_14 => ?_)
            · have hf := if_t c_14 hf
              refine lv_iconst (v := 0) hx hb dX7_countIn_99 (by decide) ?_
              refine lv_istore (lv' := [(6, .int (0 : Int32)), (0, .ref x0), (1, .int x1), (2, .int x2), (3, .int x3), (4, .int x4), (5, .int x5), (7, .int x7)]) hx hb dX7_countIn_100 hl (by decide) rfl (fun ls hl => ?_)
              refine lv_iinc (v := (x7 + 1)) (lv' := [(7, .int (x7 + 1)), (6, .int (0 : Int32)), (0, .ref x0), (1, .int x1), (2, .int x2), (3, .int x3), (4, .int x4), (5, .int x5)]) hx hb dX7_countIn_102 hl (k := 7) rfl rfl (by decide) rfl (fun ls hl => ?_)
              refine lv_goto (tgt := 44) hx hb dX7_countIn_105 (by decide) ?_
              exact ih x0 x1 x2 x3 x4 x5 (0 : Int32) (x7 + 1) hf hw hS (lv_sub hl [2, 3, 4, 5, 6, 7, 1, 0] rfl)
            · have hf := if_f c_14 hf
              refine lv_iconst (v := 1) hx hb dX7_countIn_95 (by decide) ?_
              refine lv_goto (tgt := 100) hx hb dX7_countIn_96 (by decide) ?_
              refine lv_istore (lv' := [(6, .int (1 : Int32)), (0, .ref x0), (1, .int x1), (2, .int x2), (3, .int x3), (4, .int x4), (5, .int x5), (7, .int x7)]) hx hb dX7_countIn_100 hl (by decide) rfl (fun ls hl => ?_)
              refine lv_iinc (v := (x7 + 1)) (lv' := [(7, .int (x7 + 1)), (6, .int (1 : Int32)), (0, .ref x0), (1, .int x1), (2, .int x2), (3, .int x3), (4, .int x4), (5, .int x5)]) hx hb dX7_countIn_102 hl (k := 7) rfl rfl (by decide) rfl (fun ls hl => ?_)
              refine lv_goto (tgt := 44) hx hb dX7_countIn_105 (by decide) ?_
              exact ih x0 x1 x2 x3 x4 x5 (1 : Int32) (x7 + 1) hf hw hS (lv_sub hl [2, 3, 4, 5, 6, 7, 1, 0] rfl)

set_option maxRecDepth 100000 in
set_option maxHeartbeats 4000000 in
theorem wX7_countIn_b6 (C : mx p s m args meth c yX7_countIn cX7_countIn 8 (some .int) A D cy st) {r : Int32} {d : Dt} : ∀ (n : Nat) (x0 : Nat) (x1 : Int32) (x2 : Int32) (x3 : Int32) (x4 : Int32) (x5 : Int32), fX7_countIn_b6 sh d n x0 x1 x2 x3 x4 x5 = some r → ∀ {H : Heap} {locs : List Loc} {ls : Array Slot}, HW A D cy sz sh d H → va_S A s.heap H locs → lv_has ls 8 [(0, .ref x0), (1, .int x1), (2, .int x2), (3, .int x3), (4, .int x4), (5, .int x5)] → GL p l e s m args below meth c 2 46 A D cy (some (.int r)) sz sh d H locs 6 ls [] := by
  have hx := C.1
  have hb := C.2.1
  intro n
  induction n with
  | zero => intro x0 x1 x2 x3 x4 x5 hf; cases hf
  | succ n ih =>
    intro x0 x1 x2 x3 x4 x5 hf H locs ls hw hS hl
    rw [fX7_countIn_b6] at hf
    refine lv_iload hx hb dX7_countIn_6 (lv_at hl 5 rfl) ?_
    refine lv_aload_n hx hb dX7_countIn_8 rfl (lv_at hl 0 rfl) ?_
    obtain ⟨v1, hv1, hf⟩ := bd_s hf
    refine gt_297 C hw hv1 kw_806 dX7_countIn_9 ?_
    refine lv_icmp_ge (tgt := 129) hx hb dX7_countIn_12 (by decide) (fun c_2 => ?_) (fun c_2 => ?_)
    · have hf := if_t c_2 hf
      refine lv_iload hx hb dX7_countIn_129 (lv_at hl 4 rfl) ?_
      cases hf
      exact rt_i C hw hS dX7_countIn_131
    · have hf := if_f c_2 hf
      refine lv_aload_n hx hb dX7_countIn_15 rfl (lv_at hl 0 rfl) ?_
      refine lv_iload_n hx hb dX7_countIn_16 rfl (lv_at hl 1 rfl) ?_
      refine lv_iload_n hx hb dX7_countIn_17 rfl (lv_at hl 2 rfl) ?_
      refine lv_iload hx hb dX7_countIn_18 (lv_at hl 5 rfl) ?_
      refine lv_iconst (v := 2) hx hb dX7_countIn_20 (by decide) ?_
      obtain ⟨r4, h3, hf⟩ := bd_s hf
      refine cl_V0 C hw hS (tX7_isOn l A D cy st sz sh d x0 x1 x2 x5 (2 : Int32) h3) cvX7_isOn kw_975 (gI_s hv1).1 ⟨Nat.le_of_ble_eq_true rfl, Nat.le_of_ble_eq_true rfl⟩ hl.1 rfl (Nat.le_of_ble_eq_true rfl) dX7_countIn_21 ⟨Nat.zero_le _, Nat.zero_le _⟩ (fun H locs hw hS => ?_)
      refine lv_if_eq (tgt := 123) hx hb dX7_countIn_24 (by decide) (fun c_5 => ?_) (fun c_5 => ?_)
      · have hf := if_t c_5 hf
        refine lv_iinc (v := (x5 + 1)) (lv' := [(5, .int (x5 + 1)), (0, .ref x0), (1, .int x1), (2, .int x2), (3, .int x3), (4, .int x4)]) hx hb dX7_countIn_123 hl (k := 5) rfl rfl (by decide) rfl (fun ls hl => ?_)
        refine lv_goto (tgt := 6) hx hb dX7_countIn_126 (by decide) ?_
        exact ih x0 x1 x2 x3 x4 (x5 + 1) hf hw hS (lv_sub hl [1, 2, 3, 4, 5, 0] rfl)
      · have hf := if_f c_5 hf
        refine lv_aload_n hx hb dX7_countIn_27 rfl (lv_at hl 0 rfl) ?_
        obtain ⟨v6, hv6, hf⟩ := bd_s hf
        refine gt_302 C hw hv6 kw_811 dX7_countIn_28 ?_
        refine lv_iload hx hb dX7_countIn_31 (lv_at hl 5 rfl) ?_
        obtain ⟨a7, ea7, hg⟩ := bd_s hf
        clear hf
        subst ea7
        have hf := hg
        clear hg
        obtain ⟨v8, hv8, hf⟩ := bd_s hf
        refine w_iald C hw hv8 dX7_countIn_33 ?_
        refine lv_iload_n hx hb dX7_countIn_34 rfl (lv_at hl 3 rfl) ?_
        refine lv_icmp_ne (tgt := 123) hx hb dX7_countIn_35 (by decide) (fun c_9 => ?_) (fun c_9 => ?_)
        · have hf := if_f c_9 hf
          refine lv_iinc (v := (x5 + 1)) (lv' := [(5, .int (x5 + 1)), (0, .ref x0), (1, .int x1), (2, .int x2), (3, .int x3), (4, .int x4)]) hx hb dX7_countIn_123 hl (k := 5) rfl rfl (by decide) rfl (fun ls hl => ?_)
          refine lv_goto (tgt := 6) hx hb dX7_countIn_126 (by decide) ?_
          exact ih x0 x1 x2 x3 x4 (x5 + 1) hf hw hS (lv_sub hl [1, 2, 3, 4, 5, 0] rfl)
        · have hf := if_t c_9 hf
          refine lv_iconst (v := 0) hx hb dX7_countIn_38 (by decide) ?_
          refine lv_istore (lv' := [(6, .int (0 : Int32)), (0, .ref x0), (1, .int x1), (2, .int x2), (3, .int x3), (4, .int x4), (5, .int x5)]) hx hb dX7_countIn_39 hl (by decide) rfl (fun ls hl => ?_)
          refine lv_iconst (v := 0) hx hb dX7_countIn_41 (by decide) ?_
          refine lv_istore (lv' := [(7, .int (0 : Int32)), (6, .int (0 : Int32)), (0, .ref x0), (1, .int x1), (2, .int x2), (3, .int x3), (4, .int x4), (5, .int x5)]) hx hb dX7_countIn_42 hl (by decide) rfl (fun ls hl => ?_)
          exact wX7_countIn_b44 C ih fu x0 x1 x2 x3 x4 x5 (0 : Int32) (0 : Int32) hf hw hS (lv_sub hl [2, 3, 4, 5, 6, 7, 1, 0] rfl)

set_option maxRecDepth 100000 in
set_option maxHeartbeats 4000000 in
theorem wX7_countIn_b0 (C : mx p s m args meth c yX7_countIn cX7_countIn 8 (some .int) A D cy st) {r : Int32} {d : Dt} : ∀ (x0 : Nat) (x1 : Int32) (x2 : Int32) (x3 : Int32), fX7_countIn_b0 sh d x0 x1 x2 x3 = some r → ∀ {H : Heap} {locs : List Loc} {ls : Array Slot}, HW A D cy sz sh d H → va_S A s.heap H locs → lv_has ls 8 [(0, .ref x0), (1, .int x1), (2, .int x2), (3, .int x3)] → GL p l e s m args below meth c 2 46 A D cy (some (.int r)) sz sh d H locs 0 ls [] := by
  have hx := C.1
  have hb := C.2.1
  intro x0 x1 x2 x3 hf H locs ls hw hS hl
  unfold fX7_countIn_b0 at hf
  refine lv_iconst (v := 0) hx hb dX7_countIn_0 (by decide) ?_
  refine lv_istore (lv' := [(4, .int (0 : Int32)), (0, .ref x0), (1, .int x1), (2, .int x2), (3, .int x3)]) hx hb dX7_countIn_1 hl (by decide) rfl (fun ls hl => ?_)
  refine lv_iconst (v := 0) hx hb dX7_countIn_3 (by decide) ?_
  refine lv_istore (lv' := [(5, .int (0 : Int32)), (4, .int (0 : Int32)), (0, .ref x0), (1, .int x1), (2, .int x2), (3, .int x3)]) hx hb dX7_countIn_4 hl (by decide) rfl (fun ls hl => ?_)
  exact wX7_countIn_b6 C fu x0 x1 x2 x3 (0 : Int32) (0 : Int32) hf hw hS (lv_sub hl [2, 3, 4, 5, 1, 0] rfl)

set_option maxRecDepth 100000 in
set_option maxHeartbeats 4000000 in
theorem tX7_countIn (l : Launch) (A : Nat → Prop) (D : va_G) (cy : Nat → ClassId) (st : Nat → Nat) (sz : Nat) (sh : Sh) (d : Dt) (x0 : Nat) (x1 : Int32) (x2 : Int32) (x3 : Int32) {r : Int32} (hf : fX7_countIn sh d x0 x1 x2 x3 = some r) : Ct l yX7_countIn cX7_countIn 8 (some .int) 2 46 0 0 A D cy st [.ref x0, .int x1, .int x2, .int x3] sz sh d (some (.int r)) sz sh d := ct_of (by decide) (Nat.le_of_ble_eq_true rfl) (fun p e s m args below meth c C hw hS ls hl => wX7_countIn_b0 C x0 x1 x2 x3 hf hw hS hl)
theorem dX7_take_0 : decode cX7_take 0 = .ok (.aload_n 0, 1) := by decide +kernel
theorem dX7_take_1 : decode cX7_take 1 = .ok (.iload_n 3, 1) := by decide +kernel
theorem dX7_take_2 : decode cX7_take 2 = .ok (.iconst 0, 1) := by decide +kernel
theorem dX7_take_3 : decode cX7_take 3 = .ok (.bipush 63, 2) := by decide +kernel
theorem dX7_take_5 : decode cX7_take 5 = .ok (.invokestatic 82, 3) := by decide +kernel
theorem dX7_take_8 : decode cX7_take 8 = .ok (.iload_n 1, 1) := by decide +kernel
theorem dX7_take_9 : decode cX7_take 9 = .ok (.iload_n 2, 1) := by decide +kernel
theorem dX7_take_10 : decode cX7_take 10 = .ok (.iconst 3, 1) := by decide +kernel
theorem dX7_take_11 : decode cX7_take 11 = .ok (.invokevirtual 130, 3) := by decide +kernel
theorem dX7_take_14 : decode cX7_take 14 = .ok (.istore 4, 2) := by decide +kernel
theorem dX7_take_16 : decode cX7_take 16 = .ok (.iload 4, 2) := by decide +kernel
theorem dX7_take_18 : decode cX7_take 18 = .ok (.ifCond .ge 6, 3) := by decide +kernel
theorem dX7_take_21 : decode cX7_take 21 = .ok (.iload 4, 2) := by decide +kernel
theorem dX7_take_23 : decode cX7_take 23 = .ok (.ireturn, 1) := by decide +kernel
theorem dX7_take_24 : decode cX7_take 24 = .ok (.aload_n 0, 1) := by decide +kernel
theorem dX7_take_25 : decode cX7_take 25 = .ok (.iload_n 1, 1) := by decide +kernel
theorem dX7_take_26 : decode cX7_take 26 = .ok (.iload_n 2, 1) := by decide +kernel
theorem dX7_take_27 : decode cX7_take 27 = .ok (.iload_n 3, 1) := by decide +kernel
theorem dX7_take_28 : decode cX7_take 28 = .ok (.invokevirtual 142, 3) := by decide +kernel
theorem dX7_take_31 : decode cX7_take 31 = .ok (.ifCond .ne 11, 3) := by decide +kernel
theorem dX7_take_34 : decode cX7_take 34 = .ok (.aload_n 0, 1) := by decide +kernel
theorem dX7_take_35 : decode cX7_take 35 = .ok (.iconst 2, 1) := by decide +kernel
theorem dX7_take_36 : decode cX7_take 36 = .ok (.invokevirtual 120, 3) := by decide +kernel
theorem dX7_take_39 : decode cX7_take 39 = .ok (.goto 13, 3) := by decide +kernel
theorem dX7_take_42 : decode cX7_take 42 = .ok (.aload_n 0, 1) := by decide +kernel
theorem dX7_take_43 : decode cX7_take 43 = .ok (.iload_n 1, 1) := by decide +kernel
theorem dX7_take_44 : decode cX7_take 44 = .ok (.iload_n 2, 1) := by decide +kernel
theorem dX7_take_45 : decode cX7_take 45 = .ok (.iconst 3, 1) := by decide +kernel
theorem dX7_take_46 : decode cX7_take 46 = .ok (.iload_n 3, 1) := by decide +kernel
theorem dX7_take_47 : decode cX7_take 47 = .ok (.iconst 0, 1) := by decide +kernel
theorem dX7_take_48 : decode cX7_take 48 = .ok (.lconst 0, 1) := by decide +kernel
theorem dX7_take_49 : decode cX7_take 49 = .ok (.invokevirtual 134, 3) := by decide +kernel
theorem dX7_take_52 : decode cX7_take 52 = .ok (.ireturn, 1) := by decide +kernel
theorem cvX7_take : CV yX7_take cX7_take 5 (some .int) 8 3 := ⟨kw_968, kw_969, kw_6, kw_970, ⟨_, _, rfl⟩, by decide, by decide +kernel, by decide +kernel, by decide +kernel⟩
def fX7_take_b0 (sh : Sh) (x0 : Nat) (x1 : Int32) (x2 : Int32) (x3 : Int32) (d : Dt) : Option (Int32 × Dt) := bd (fX7_in sh d x3 (0 : Int32) (63 : Int32)) fun r2 => bd (kc sh 9 x0) fun _ => bd2 (fX7_needMake sh d x0 (bI r2) x1 x2 (3 : Int32)) fun r5 d6 => if 0 ≤ r5 then (bd (fX7_countIn sh d6 x0 x1 x2 x3) fun r9 => if r9 = 0 then (bd2 (fX7_meets sh d6 x0 (2 : Int32)) fun r15 d16 => some (r15, d16)) else (bd2 (fX7_make sh d6 x0 x1 x2 (3 : Int32) x3 (0 : Int32) (0 : Int64)) fun r12 d13 => some (r12, d13))) else (some (r5, d6))

def fX7_take (sh : Sh) (d : Dt) (x0 : Nat) (x1 : Int32) (x2 : Int32) (x3 : Int32) : Option (Int32 × Dt) := fX7_take_b0 sh x0 x1 x2 x3 d

set_option maxRecDepth 100000 in
set_option maxHeartbeats 4000000 in
theorem wX7_take_b0 (C : mx p s m args meth c yX7_take cX7_take 5 (some .int) A D cy st) {r : Int32} {d9 : Dt} : ∀ (x0 : Nat) (x1 : Int32) (x2 : Int32) (x3 : Int32) (d : Dt), fX7_take_b0 sh x0 x1 x2 x3 d = some (r, d9) → ∀ {H : Heap} {locs : List Loc} {ls : Array Slot}, HW A D cy sz sh d H → va_S A s.heap H locs → lv_has ls 5 [(0, .ref x0), (1, .int x1), (2, .int x2), (3, .int x3)] → GL p l e s m args below meth c 3 75 A D cy (some (.int r)) sz sh d9 H locs 0 ls [] := by
  have hx := C.1
  have hb := C.2.1
  intro x0 x1 x2 x3 d hf H locs ls hw hS hl
  unfold fX7_take_b0 at hf
  refine lv_aload_n hx hb dX7_take_0 rfl (lv_at hl 0 rfl) ?_
  refine lv_iload_n hx hb dX7_take_1 rfl (lv_at hl 3 rfl) ?_
  refine lv_iconst (v := 0) hx hb dX7_take_2 (by decide) ?_
  refine lv_bipush (v := 63) hx hb dX7_take_3 (by decide) ?_
  obtain ⟨r2, h1, hf⟩ := bd_s hf
  refine cl_S0 C hw hS (tX7_in l A D cy st sz sh d x3 (0 : Int32) (63 : Int32) h1) csX7_in kw_890 ⟨Nat.le_of_ble_eq_true rfl, Nat.le_of_ble_eq_true rfl⟩ hl.1 rfl (Nat.le_of_ble_eq_true rfl) dX7_take_5 ⟨Nat.zero_le _, Nat.zero_le _⟩ (fun H locs hw hS => ?_)
  refine lv_iload_n hx hb dX7_take_8 rfl (lv_at hl 1 rfl) ?_
  refine lv_iload_n hx hb dX7_take_9 rfl (lv_at hl 2 rfl) ?_
  refine lv_iconst (v := 3) hx hb dX7_take_10 (by decide) ?_
  obtain ⟨_, h3, hf⟩ := bd_s hf
  obtain ⟨r5, d6, h4, hf⟩ := bd2_s hf
  refine cl_V0 C hw hS (tX7_needMake l A D cy st sz sh d x0 (bI r2) x1 x2 (3 : Int32) h4) cvX7_needMake kw_925 (kc_k h3) ⟨Nat.le_of_ble_eq_true rfl, Nat.le_of_ble_eq_true rfl⟩ hl.1 rfl (Nat.le_of_ble_eq_true rfl) dX7_take_11 ⟨Nat.zero_le _, Nat.zero_le _⟩ (fun H locs hw hS => ?_)
  refine lv_istore (lv' := [(4, .int r5), (0, .ref x0), (1, .int x1), (2, .int x2), (3, .int x3)]) hx hb dX7_take_14 hl (by decide) rfl (fun ls hl => ?_)
  refine lv_iload hx hb dX7_take_16 (lv_at hl 0 rfl) ?_
  refine lv_if_ge (tgt := 24) hx hb dX7_take_18 (by decide) (fun c_7 => ?_) (fun c_7 => ?_)
  · have hf := if_t c_7 hf
    refine lv_aload_n hx hb dX7_take_24 rfl (lv_at hl 1 rfl) ?_
    refine lv_iload_n hx hb dX7_take_25 rfl (lv_at hl 2 rfl) ?_
    refine lv_iload_n hx hb dX7_take_26 rfl (lv_at hl 3 rfl) ?_
    refine lv_iload_n hx hb dX7_take_27 rfl (lv_at hl 4 rfl) ?_
    obtain ⟨r9, h8, hf⟩ := bd_s hf
    refine cl_V0 C hw hS (tX7_countIn l A D cy st sz sh d6 x0 x1 x2 x3 h8) cvX7_countIn kw_971 (kc_k h3) ⟨Nat.le_of_ble_eq_true rfl, Nat.le_of_ble_eq_true rfl⟩ hl.1 rfl (Nat.le_of_ble_eq_true rfl) dX7_take_28 ⟨Nat.zero_le _, Nat.zero_le _⟩ (fun H locs hw hS => ?_)
    refine lv_if_ne (tgt := 42) hx hb dX7_take_31 (by decide) (fun c_10 => ?_) (fun c_10 => ?_)
    · have hf := if_f c_10 hf
      refine lv_aload_n hx hb dX7_take_42 rfl (lv_at hl 1 rfl) ?_
      refine lv_iload_n hx hb dX7_take_43 rfl (lv_at hl 2 rfl) ?_
      refine lv_iload_n hx hb dX7_take_44 rfl (lv_at hl 3 rfl) ?_
      refine lv_iconst (v := 3) hx hb dX7_take_45 (by decide) ?_
      refine lv_iload_n hx hb dX7_take_46 rfl (lv_at hl 4 rfl) ?_
      refine lv_iconst (v := 0) hx hb dX7_take_47 (by decide) ?_
      refine lv_lconst (v := 0) hx hb dX7_take_48 (by decide) ?_
      obtain ⟨r12, d13, h11, hf⟩ := bd2_s hf
      refine cl_V0 C hw hS (tX7_make l A D cy st sz sh d6 x0 x1 x2 (3 : Int32) x3 (0 : Int32) (0 : Int64) h11) cvX7_make kw_944 (kc_k h3) ⟨Nat.le_of_ble_eq_true rfl, Nat.le_of_ble_eq_true rfl⟩ hl.1 rfl (Nat.le_of_ble_eq_true rfl) dX7_take_49 ⟨Nat.zero_le _, Nat.zero_le _⟩ (fun H locs hw hS => ?_)
      cases hf
      exact rt_i C hw hS dX7_take_52
    · have hf := if_t c_10 hf
      refine lv_aload_n hx hb dX7_take_34 rfl (lv_at hl 1 rfl) ?_
      refine lv_iconst (v := 2) hx hb dX7_take_35 (by decide) ?_
      obtain ⟨r15, d16, h14, hf⟩ := bd2_s hf
      refine cl_V0 C hw hS (tX7_meets l A D cy st sz sh d6 x0 (2 : Int32) h14) cvX7_meets kw_940 (kc_k h3) ⟨Nat.le_of_ble_eq_true rfl, Nat.le_of_ble_eq_true rfl⟩ hl.1 rfl (Nat.le_of_ble_eq_true rfl) dX7_take_36 ⟨Nat.zero_le _, Nat.zero_le _⟩ (fun H locs hw hS => ?_)
      refine lv_goto (tgt := 52) hx hb dX7_take_39 (by decide) ?_
      cases hf
      exact rt_i C hw hS dX7_take_52
  · have hf := if_f c_7 hf
    refine lv_iload hx hb dX7_take_21 (lv_at hl 0 rfl) ?_
    cases hf
    exact rt_i C hw hS dX7_take_23

set_option maxRecDepth 100000 in
set_option maxHeartbeats 4000000 in
theorem tX7_take (l : Launch) (A : Nat → Prop) (D : va_G) (cy : Nat → ClassId) (st : Nat → Nat) (sz : Nat) (sh : Sh) (d : Dt) (x0 : Nat) (x1 : Int32) (x2 : Int32) (x3 : Int32) {r : Int32} {d9 : Dt} (hf : fX7_take sh d x0 x1 x2 x3 = some (r, d9)) : Ct l yX7_take cX7_take 5 (some .int) 3 75 0 0 A D cy st [.ref x0, .int x1, .int x2, .int x3] sz sh d (some (.int r)) sz sh d9 := ct_of (by decide) (Nat.le_of_ble_eq_true rfl) (fun p e s m args below meth c C hw hS ls hl => wX7_take_b0 C x0 x1 x2 x3 d hf hw hS hl)
theorem dX7_rightsOf_0 : decode cX7_rightsOf 0 = .ok (.lconst 0, 1) := by decide +kernel
theorem dX7_rightsOf_1 : decode cX7_rightsOf 1 = .ok (.lstore 4, 2) := by decide +kernel
theorem dX7_rightsOf_3 : decode cX7_rightsOf 3 = .ok (.iconst 0, 1) := by decide +kernel
theorem dX7_rightsOf_4 : decode cX7_rightsOf 4 = .ok (.istore 6, 2) := by decide +kernel
theorem dX7_rightsOf_6 : decode cX7_rightsOf 6 = .ok (.iload 6, 2) := by decide +kernel
theorem dX7_rightsOf_8 : decode cX7_rightsOf 8 = .ok (.aload_n 0, 1) := by decide +kernel
theorem dX7_rightsOf_9 : decode cX7_rightsOf 9 = .ok (.getfield 88, 3) := by decide +kernel
theorem dX7_rightsOf_12 : decode cX7_rightsOf 12 = .ok (.if_icmp .ge 148, 3) := by decide +kernel
theorem dX7_rightsOf_15 : decode cX7_rightsOf 15 = .ok (.aload_n 0, 1) := by decide +kernel
theorem dX7_rightsOf_16 : decode cX7_rightsOf 16 = .ok (.getfield 33, 3) := by decide +kernel
theorem dX7_rightsOf_19 : decode cX7_rightsOf 19 = .ok (.iload 6, 2) := by decide +kernel
theorem dX7_rightsOf_21 : decode cX7_rightsOf 21 = .ok (.iaload, 1) := by decide +kernel
theorem dX7_rightsOf_22 : decode cX7_rightsOf 22 = .ok (.iload_n 2, 1) := by decide +kernel
theorem dX7_rightsOf_23 : decode cX7_rightsOf 23 = .ok (.if_icmp .ne 131, 3) := by decide +kernel
theorem dX7_rightsOf_26 : decode cX7_rightsOf 26 = .ok (.aload_n 0, 1) := by decide +kernel
theorem dX7_rightsOf_27 : decode cX7_rightsOf 27 = .ok (.getfield 13, 3) := by decide +kernel
theorem dX7_rightsOf_30 : decode cX7_rightsOf 30 = .ok (.iload_n 1, 1) := by decide +kernel
theorem dX7_rightsOf_31 : decode cX7_rightsOf 31 = .ok (.iload 6, 2) := by decide +kernel
theorem dX7_rightsOf_33 : decode cX7_rightsOf 33 = .ok (.invokestatic 91, 3) := by decide +kernel
theorem dX7_rightsOf_36 : decode cX7_rightsOf 36 = .ok (.ifCond .eq 118, 3) := by decide +kernel
theorem dX7_rightsOf_39 : decode cX7_rightsOf 39 = .ok (.aload_n 0, 1) := by decide +kernel
theorem dX7_rightsOf_40 : decode cX7_rightsOf 40 = .ok (.getfield 30, 3) := by decide +kernel
theorem dX7_rightsOf_43 : decode cX7_rightsOf 43 = .ok (.iload 6, 2) := by decide +kernel
theorem dX7_rightsOf_45 : decode cX7_rightsOf 45 = .ok (.iaload, 1) := by decide +kernel
theorem dX7_rightsOf_46 : decode cX7_rightsOf 46 = .ok (.iload_n 3, 1) := by decide +kernel
theorem dX7_rightsOf_47 : decode cX7_rightsOf 47 = .ok (.if_icmp .ne 7, 3) := by decide +kernel
theorem dX7_rightsOf_50 : decode cX7_rightsOf 50 = .ok (.iconst 1, 1) := by decide +kernel
theorem dX7_rightsOf_51 : decode cX7_rightsOf 51 = .ok (.goto 4, 3) := by decide +kernel
theorem dX7_rightsOf_54 : decode cX7_rightsOf 54 = .ok (.iconst 0, 1) := by decide +kernel
theorem dX7_rightsOf_55 : decode cX7_rightsOf 55 = .ok (.istore 7, 2) := by decide +kernel
theorem dX7_rightsOf_57 : decode cX7_rightsOf 57 = .ok (.lload 4, 2) := by decide +kernel
theorem dX7_rightsOf_59 : decode cX7_rightsOf 59 = .ok (.iload 7, 2) := by decide +kernel
theorem dX7_rightsOf_61 : decode cX7_rightsOf 61 = .ok (.ifCond .eq 14, 3) := by decide +kernel
theorem dX7_rightsOf_64 : decode cX7_rightsOf 64 = .ok (.aload_n 0, 1) := by decide +kernel
theorem dX7_rightsOf_65 : decode cX7_rightsOf 65 = .ok (.getfield 39, 3) := by decide +kernel
theorem dX7_rightsOf_68 : decode cX7_rightsOf 68 = .ok (.iload 6, 2) := by decide +kernel
theorem dX7_rightsOf_70 : decode cX7_rightsOf 70 = .ok (.iaload, 1) := by decide +kernel
theorem dX7_rightsOf_71 : decode cX7_rightsOf 71 = .ok (.iconst 1, 1) := by decide +kernel
theorem dX7_rightsOf_72 : decode cX7_rightsOf 72 = .ok (.if_icmp .eq 25, 3) := by decide +kernel
theorem dX7_rightsOf_75 : decode cX7_rightsOf 75 = .ok (.aload_n 0, 1) := by decide +kernel
theorem dX7_rightsOf_76 : decode cX7_rightsOf 76 = .ok (.getfield 39, 3) := by decide +kernel
theorem dX7_rightsOf_79 : decode cX7_rightsOf 79 = .ok (.iload 6, 2) := by decide +kernel
theorem dX7_rightsOf_81 : decode cX7_rightsOf 81 = .ok (.iaload, 1) := by decide +kernel
theorem dX7_rightsOf_82 : decode cX7_rightsOf 82 = .ok (.iconst 4, 1) := by decide +kernel
theorem dX7_rightsOf_83 : decode cX7_rightsOf 83 = .ok (.if_icmp .ne 24, 3) := by decide +kernel
theorem dX7_rightsOf_86 : decode cX7_rightsOf 86 = .ok (.aload_n 0, 1) := by decide +kernel
theorem dX7_rightsOf_87 : decode cX7_rightsOf 87 = .ok (.getfield 42, 3) := by decide +kernel
theorem dX7_rightsOf_90 : decode cX7_rightsOf 90 = .ok (.iload 6, 2) := by decide +kernel
theorem dX7_rightsOf_92 : decode cX7_rightsOf 92 = .ok (.iaload, 1) := by decide +kernel
theorem dX7_rightsOf_93 : decode cX7_rightsOf 93 = .ok (.iload_n 3, 1) := by decide +kernel
theorem dX7_rightsOf_94 : decode cX7_rightsOf 94 = .ok (.if_icmp .ne 13, 3) := by decide +kernel
theorem dX7_rightsOf_97 : decode cX7_rightsOf 97 = .ok (.aload_n 0, 1) := by decide +kernel
theorem dX7_rightsOf_98 : decode cX7_rightsOf 98 = .ok (.getfield 48, 3) := by decide +kernel
theorem dX7_rightsOf_101 : decode cX7_rightsOf 101 = .ok (.iload 6, 2) := by decide +kernel
theorem dX7_rightsOf_103 : decode cX7_rightsOf 103 = .ok (.laload, 1) := by decide +kernel
theorem dX7_rightsOf_104 : decode cX7_rightsOf 104 = .ok (.goto 4, 3) := by decide +kernel
theorem dX7_rightsOf_107 : decode cX7_rightsOf 107 = .ok (.lconst 0, 1) := by decide +kernel
theorem dX7_rightsOf_108 : decode cX7_rightsOf 108 = .ok (.ladd, 1) := by decide +kernel
theorem dX7_rightsOf_109 : decode cX7_rightsOf 109 = .ok (.lstore 4, 2) := by decide +kernel
theorem dX7_rightsOf_111 : decode cX7_rightsOf 111 = .ok (.lload 4, 2) := by decide +kernel
theorem dX7_rightsOf_113 : decode cX7_rightsOf 113 = .ok (.iload 7, 2) := by decide +kernel
theorem dX7_rightsOf_115 : decode cX7_rightsOf 115 = .ok (.ifCond .eq 35, 3) := by decide +kernel
theorem dX7_rightsOf_118 : decode cX7_rightsOf 118 = .ok (.aload_n 0, 1) := by decide +kernel
theorem dX7_rightsOf_119 : decode cX7_rightsOf 119 = .ok (.getfield 39, 3) := by decide +kernel
theorem dX7_rightsOf_122 : decode cX7_rightsOf 122 = .ok (.iload 6, 2) := by decide +kernel
theorem dX7_rightsOf_124 : decode cX7_rightsOf 124 = .ok (.iaload, 1) := by decide +kernel
theorem dX7_rightsOf_125 : decode cX7_rightsOf 125 = .ok (.iconst 4, 1) := by decide +kernel
theorem dX7_rightsOf_126 : decode cX7_rightsOf 126 = .ok (.if_icmp .eq 14, 3) := by decide +kernel
theorem dX7_rightsOf_129 : decode cX7_rightsOf 129 = .ok (.aload_n 0, 1) := by decide +kernel
theorem dX7_rightsOf_130 : decode cX7_rightsOf 130 = .ok (.getfield 39, 3) := by decide +kernel
theorem dX7_rightsOf_133 : decode cX7_rightsOf 133 = .ok (.iload 6, 2) := by decide +kernel
theorem dX7_rightsOf_135 : decode cX7_rightsOf 135 = .ok (.iaload, 1) := by decide +kernel
theorem dX7_rightsOf_136 : decode cX7_rightsOf 136 = .ok (.iconst 5, 1) := by decide +kernel
theorem dX7_rightsOf_137 : decode cX7_rightsOf 137 = .ok (.if_icmp .ne 13, 3) := by decide +kernel
theorem dX7_rightsOf_140 : decode cX7_rightsOf 140 = .ok (.aload_n 0, 1) := by decide +kernel
theorem dX7_rightsOf_141 : decode cX7_rightsOf 141 = .ok (.getfield 48, 3) := by decide +kernel
theorem dX7_rightsOf_144 : decode cX7_rightsOf 144 = .ok (.iload 6, 2) := by decide +kernel
theorem dX7_rightsOf_146 : decode cX7_rightsOf 146 = .ok (.laload, 1) := by decide +kernel
theorem dX7_rightsOf_147 : decode cX7_rightsOf 147 = .ok (.goto 4, 3) := by decide +kernel
theorem dX7_rightsOf_150 : decode cX7_rightsOf 150 = .ok (.lconst 0, 1) := by decide +kernel
theorem dX7_rightsOf_151 : decode cX7_rightsOf 151 = .ok (.lsub, 1) := by decide +kernel
theorem dX7_rightsOf_152 : decode cX7_rightsOf 152 = .ok (.lstore 4, 2) := by decide +kernel
theorem dX7_rightsOf_154 : decode cX7_rightsOf 154 = .ok (.iinc 6 1, 3) := by decide +kernel
theorem dX7_rightsOf_157 : decode cX7_rightsOf 157 = .ok (.goto (-151), 3) := by decide +kernel
theorem dX7_rightsOf_160 : decode cX7_rightsOf 160 = .ok (.lload 4, 2) := by decide +kernel
theorem dX7_rightsOf_162 : decode cX7_rightsOf 162 = .ok (.lreturn, 1) := by decide +kernel
theorem cvX7_rightsOf : CV yX7_rightsOf cX7_rightsOf 8 (some .long) 8 3 := ⟨kw_985, ks_33, kw_6, kw_986, ⟨_, _, rfl⟩, by decide, by decide +kernel, by decide +kernel, by decide +kernel⟩
def fX7_rightsOf_b140 (sh : Sh) (d : Dt) (k6 : Nat → Int32 → Int32 → Int32 → Int64 → Int32 → Option (Int64)) (x0 : Nat) (x1 : Int32) (x2 : Int32) (x3 : Int32) (x6 : Int32) (t0 : Int64) : Option (Int64) := bd (gR sh d 9 304 x0) fun v1 => bd v1 fun a2 => bd (aL sh d 21 a2 x6) fun v3 => k6 x0 x1 x2 x3 (t0 - v3) (x6 + 1)

def fX7_rightsOf_b108 (sh : Sh) (d : Dt) (k6 : Nat → Int32 → Int32 → Int32 → Int64 → Int32 → Option (Int64)) (x0 : Nat) (x1 : Int32) (x2 : Int32) (x3 : Int32) (x6 : Int32) (x7 : Int32) (t0 : Int64) (t1 : Int64) : Option (Int64) := if x7 = 0 then (k6 x0 x1 x2 x3 ((t0 + t1) - (0 : Int64)) (x6 + 1)) else (bd (gR sh d 9 301 x0) fun v2 => bd v2 fun a3 => bd (aI sh d 20 a3 x6) fun v4 => if v4 = (4 : Int32) then (fX7_rightsOf_b140 sh d k6 x0 x1 x2 x3 x6 (t0 + t1)) else (bd (gR sh d 9 301 x0) fun v6 => bd v6 fun a7 => bd (aI sh d 20 a7 x6) fun v8 => if v8 = (5 : Int32) then (fX7_rightsOf_b140 sh d k6 x0 x1 x2 x3 x6 (t0 + t1)) else (k6 x0 x1 x2 x3 ((t0 + t1) - (0 : Int64)) (x6 + 1))))

def fX7_rightsOf_b97 (sh : Sh) (d : Dt) (k6 : Nat → Int32 → Int32 → Int32 → Int64 → Int32 → Option (Int64)) (x0 : Nat) (x1 : Int32) (x2 : Int32) (x3 : Int32) (x6 : Int32) (x7 : Int32) (t0 : Int64) : Option (Int64) := bd (gR sh d 9 304 x0) fun v1 => bd v1 fun a2 => bd (aL sh d 21 a2 x6) fun v3 => fX7_rightsOf_b108 sh d k6 x0 x1 x2 x3 x6 x7 t0 v3

def fX7_rightsOf_b75 (sh : Sh) (d : Dt) (k6 : Nat → Int32 → Int32 → Int32 → Int64 → Int32 → Option (Int64)) (x0 : Nat) (x1 : Int32) (x2 : Int32) (x3 : Int32) (x6 : Int32) (x7 : Int32) (t0 : Int64) : Option (Int64) := bd (gR sh d 9 301 x0) fun v1 => bd v1 fun a2 => bd (aI sh d 20 a2 x6) fun v3 => if v3 = (4 : Int32) then (bd (gR sh d 9 302 x0) fun v5 => bd v5 fun a6 => bd (aI sh d 20 a6 x6) fun v7 => if v7 = x3 then (fX7_rightsOf_b97 sh d k6 x0 x1 x2 x3 x6 x7 t0) else (fX7_rightsOf_b108 sh d k6 x0 x1 x2 x3 x6 x7 t0 (0 : Int64))) else (fX7_rightsOf_b108 sh d k6 x0 x1 x2 x3 x6 x7 t0 (0 : Int64))

def fX7_rightsOf_b55 (sh : Sh) (d : Dt) (k6 : Nat → Int32 → Int32 → Int32 → Int64 → Int32 → Option (Int64)) (x0 : Nat) (x1 : Int32) (x2 : Int32) (x3 : Int32) (x4 : Int64) (x6 : Int32) (t0 : Int32) : Option (Int64) := if t0 = 0 then (fX7_rightsOf_b75 sh d k6 x0 x1 x2 x3 x6 t0 x4) else (bd (gR sh d 9 301 x0) fun v2 => bd v2 fun a3 => bd (aI sh d 20 a3 x6) fun v4 => if v4 = (1 : Int32) then (fX7_rightsOf_b97 sh d k6 x0 x1 x2 x3 x6 t0 x4) else (fX7_rightsOf_b75 sh d k6 x0 x1 x2 x3 x6 t0 x4))

def fX7_rightsOf_b6 (sh : Sh) (d : Dt) : Nat → Nat → Int32 → Int32 → Int32 → Int64 → Int32 → Option (Int64)
  | 0, _, _, _, _, _, _ => none
  | n + 1, x0, x1, x2, x3, x4, x6 => bd (gI sh d 9 297 x0) fun v1 => if v1 ≤ x6 then (some x4) else (bd (gR sh d 9 299 x0) fun v3 => bd v3 fun a4 => bd (aI sh d 20 a4 x6) fun v5 => if v5 = x2 then (bd (gR sh d 9 291 x0) fun v7 => bd (fX7_isIn sh d v7 x1 x6) fun r9 => if (bI r9) = 0 then (fX7_rightsOf_b6 sh d n x0 x1 x2 x3 x4 (x6 + 1)) else (bd (gR sh d 9 298 x0) fun v11 => bd v11 fun a12 => bd (aI sh d 20 a12 x6) fun v13 => if v13 = x3 then (fX7_rightsOf_b55 sh d (fX7_rightsOf_b6 sh d n) x0 x1 x2 x3 x4 x6 (1 : Int32)) else (fX7_rightsOf_b55 sh d (fX7_rightsOf_b6 sh d n) x0 x1 x2 x3 x4 x6 (0 : Int32)))) else (fX7_rightsOf_b6 sh d n x0 x1 x2 x3 x4 (x6 + 1)))

def fX7_rightsOf_b0 (sh : Sh) (d : Dt) (x0 : Nat) (x1 : Int32) (x2 : Int32) (x3 : Int32) : Option (Int64) := fX7_rightsOf_b6 sh d fu x0 x1 x2 x3 (0 : Int64) (0 : Int32)

def fX7_rightsOf (sh : Sh) (d : Dt) (x0 : Nat) (x1 : Int32) (x2 : Int32) (x3 : Int32) : Option (Int64) := fX7_rightsOf_b0 sh d x0 x1 x2 x3

set_option maxRecDepth 100000 in
set_option maxHeartbeats 4000000 in
theorem wX7_rightsOf_b140 (C : mx p s m args meth c yX7_rightsOf cX7_rightsOf 8 (some .long) A D cy st) {k6 : Nat → Int32 → Int32 → Int32 → Int64 → Int32 → Option (Int64)} {r : Int64} {d : Dt} (Hk6 : ∀ (x0 : Nat) (x1 : Int32) (x2 : Int32) (x3 : Int32) (x4 : Int64) (x6 : Int32), k6 x0 x1 x2 x3 x4 x6 = some r → ∀ {H : Heap} {locs : List Loc} {ls : Array Slot}, HW A D cy sz sh d H → va_S A s.heap H locs → lv_has ls 8 [(0, .ref x0), (1, .int x1), (2, .int x2), (3, .int x3), (4, .long x4), (6, .int x6)] → GL p l e s m args below meth c 1 22 A D cy (some (.long r)) sz sh d H locs 6 ls []) : ∀ (x0 : Nat) (x1 : Int32) (x2 : Int32) (x3 : Int32) (x6 : Int32) (t0 : Int64), fX7_rightsOf_b140 sh d k6 x0 x1 x2 x3 x6 t0 = some r → ∀ {H : Heap} {locs : List Loc} {ls : Array Slot}, HW A D cy sz sh d H → va_S A s.heap H locs → lv_has ls 8 [(0, .ref x0), (1, .int x1), (2, .int x2), (3, .int x3), (6, .int x6)] → GL p l e s m args below meth c 1 22 A D cy (some (.long r)) sz sh d H locs 140 ls [.long t0] := by
  have hx := C.1
  have hb := C.2.1
  intro x0 x1 x2 x3 x6 t0 hf H locs ls hw hS hl
  unfold fX7_rightsOf_b140 at hf
  refine lv_aload_n hx hb dX7_rightsOf_140 rfl (lv_at hl 0 rfl) ?_
  obtain ⟨v1, hv1, hf⟩ := bd_s hf
  refine gt_304 C hw hv1 kw_813 dX7_rightsOf_141 ?_
  refine lv_iload hx hb dX7_rightsOf_144 (lv_at hl 4 rfl) ?_
  obtain ⟨a2, ea2, hg⟩ := bd_s hf
  clear hf
  subst ea2
  have hf := hg
  clear hg
  obtain ⟨v3, hv3, hf⟩ := bd_s hf
  refine w_lald C hw hv3 dX7_rightsOf_146 ?_
  refine lv_goto (tgt := 151) hx hb dX7_rightsOf_147 (by decide) ?_
  refine lv_lsub hx hb dX7_rightsOf_151 ?_
  refine lv_lstore (lv' := [(4, .long (t0 - v3)), (0, .ref x0), (1, .int x1), (2, .int x2), (3, .int x3), (6, .int x6)]) hx hb dX7_rightsOf_152 hl (by decide) rfl (fun ls hl => ?_)
  refine lv_iinc (v := (x6 + 1)) (lv' := [(6, .int (x6 + 1)), (4, .long (t0 - v3)), (0, .ref x0), (1, .int x1), (2, .int x2), (3, .int x3)]) hx hb dX7_rightsOf_154 hl (k := 5) rfl rfl (by decide) rfl (fun ls hl => ?_)
  refine lv_goto (tgt := 6) hx hb dX7_rightsOf_157 (by decide) ?_
  exact Hk6 x0 x1 x2 x3 (t0 - v3) (x6 + 1) hf hw hS (lv_sub hl [2, 3, 4, 5, 1, 0] rfl)

set_option maxRecDepth 100000 in
set_option maxHeartbeats 4000000 in
theorem wX7_rightsOf_b108 (C : mx p s m args meth c yX7_rightsOf cX7_rightsOf 8 (some .long) A D cy st) {k6 : Nat → Int32 → Int32 → Int32 → Int64 → Int32 → Option (Int64)} {r : Int64} {d : Dt} (Hk6 : ∀ (x0 : Nat) (x1 : Int32) (x2 : Int32) (x3 : Int32) (x4 : Int64) (x6 : Int32), k6 x0 x1 x2 x3 x4 x6 = some r → ∀ {H : Heap} {locs : List Loc} {ls : Array Slot}, HW A D cy sz sh d H → va_S A s.heap H locs → lv_has ls 8 [(0, .ref x0), (1, .int x1), (2, .int x2), (3, .int x3), (4, .long x4), (6, .int x6)] → GL p l e s m args below meth c 1 22 A D cy (some (.long r)) sz sh d H locs 6 ls []) : ∀ (x0 : Nat) (x1 : Int32) (x2 : Int32) (x3 : Int32) (x6 : Int32) (x7 : Int32) (t0 : Int64) (t1 : Int64), fX7_rightsOf_b108 sh d k6 x0 x1 x2 x3 x6 x7 t0 t1 = some r → ∀ {H : Heap} {locs : List Loc} {ls : Array Slot}, HW A D cy sz sh d H → va_S A s.heap H locs → lv_has ls 8 [(0, .ref x0), (1, .int x1), (2, .int x2), (3, .int x3), (6, .int x6), (7, .int x7)] → GL p l e s m args below meth c 1 22 A D cy (some (.long r)) sz sh d H locs 108 ls [.long t1, .long t0] := by
  have hx := C.1
  have hb := C.2.1
  intro x0 x1 x2 x3 x6 x7 t0 t1 hf H locs ls hw hS hl
  unfold fX7_rightsOf_b108 at hf
  refine lv_ladd hx hb dX7_rightsOf_108 ?_
  refine lv_lstore (lv' := [(4, .long (t0 + t1)), (0, .ref x0), (1, .int x1), (2, .int x2), (3, .int x3), (6, .int x6), (7, .int x7)]) hx hb dX7_rightsOf_109 hl (by decide) rfl (fun ls hl => ?_)
  refine lv_lload hx hb dX7_rightsOf_111 (lv_at hl 0 rfl) ?_
  refine lv_iload hx hb dX7_rightsOf_113 (lv_at hl 6 rfl) ?_
  refine lv_if_eq (tgt := 150) hx hb dX7_rightsOf_115 (by decide) (fun c_1 => ?_) (fun c_1 => ?_)
  · have hf := if_t c_1 hf
    refine lv_lconst (v := 0) hx hb dX7_rightsOf_150 (by decide) ?_
    refine lv_lsub hx hb dX7_rightsOf_151 ?_
    refine lv_lstore (lv' := [(4, .long ((t0 + t1) - (0 : Int64))), (0, .ref x0), (1, .int x1), (2, .int x2), (3, .int x3), (6, .int x6), (7, .int x7)]) hx hb dX7_rightsOf_152 hl (by decide) rfl (fun ls hl => ?_)
    refine lv_iinc (v := (x6 + 1)) (lv' := [(6, .int (x6 + 1)), (4, .long ((t0 + t1) - (0 : Int64))), (0, .ref x0), (1, .int x1), (2, .int x2), (3, .int x3), (7, .int x7)]) hx hb dX7_rightsOf_154 hl (k := 5) rfl rfl (by decide) rfl (fun ls hl => ?_)
    refine lv_goto (tgt := 6) hx hb dX7_rightsOf_157 (by decide) ?_
    exact Hk6 x0 x1 x2 x3 ((t0 + t1) - (0 : Int64)) (x6 + 1) hf hw hS (lv_sub hl [2, 3, 4, 5, 1, 0] rfl)
  · have hf := if_f c_1 hf
    refine lv_aload_n hx hb dX7_rightsOf_118 rfl (lv_at hl 1 rfl) ?_
    obtain ⟨v2, hv2, hf⟩ := bd_s hf
    refine gt_301 C hw hv2 kw_810 dX7_rightsOf_119 ?_
    refine lv_iload hx hb dX7_rightsOf_122 (lv_at hl 5 rfl) ?_
    obtain ⟨a3, ea3, hg⟩ := bd_s hf
    clear hf
    subst ea3
    have hf := hg
    clear hg
    obtain ⟨v4, hv4, hf⟩ := bd_s hf
    refine w_iald C hw hv4 dX7_rightsOf_124 ?_
    refine lv_iconst (v := 4) hx hb dX7_rightsOf_125 (by decide) ?_
    refine lv_icmp_eq (tgt := 140) hx hb dX7_rightsOf_126 (by decide) (fun c_5 => ?_) (fun c_5 => ?_)
    · have hf := if_t c_5 hf
      exact wX7_rightsOf_b140 C Hk6 x0 x1 x2 x3 x6 (t0 + t1) hf hw hS (lv_sub hl [1, 2, 3, 4, 5] rfl)
    · have hf := if_f c_5 hf
      refine lv_aload_n hx hb dX7_rightsOf_129 rfl (lv_at hl 1 rfl) ?_
      obtain ⟨v6, hv6, hf⟩ := bd_s hf
      refine gt_301 C hw hv6 kw_810 dX7_rightsOf_130 ?_
      refine lv_iload hx hb dX7_rightsOf_133 (lv_at hl 5 rfl) ?_
      obtain ⟨a7, ea7, hg⟩ := bd_s hf
      clear hf
      subst ea7
      have hf := hg
      clear hg
      obtain ⟨v8, hv8, hf⟩ := bd_s hf
      refine w_iald C hw hv8 dX7_rightsOf_135 ?_
      refine lv_iconst (v := 5) hx hb dX7_rightsOf_136 (by decide) ?_
      refine lv_icmp_ne (tgt := 150) hx hb dX7_rightsOf_137 (by decide) (fun c_9 => ?_) (fun c_9 => ?_)
      · have hf := if_f c_9 hf
        refine lv_lconst (v := 0) hx hb dX7_rightsOf_150 (by decide) ?_
        refine lv_lsub hx hb dX7_rightsOf_151 ?_
        refine lv_lstore (lv' := [(4, .long ((t0 + t1) - (0 : Int64))), (0, .ref x0), (1, .int x1), (2, .int x2), (3, .int x3), (6, .int x6), (7, .int x7)]) hx hb dX7_rightsOf_152 hl (by decide) rfl (fun ls hl => ?_)
        refine lv_iinc (v := (x6 + 1)) (lv' := [(6, .int (x6 + 1)), (4, .long ((t0 + t1) - (0 : Int64))), (0, .ref x0), (1, .int x1), (2, .int x2), (3, .int x3), (7, .int x7)]) hx hb dX7_rightsOf_154 hl (k := 5) rfl rfl (by decide) rfl (fun ls hl => ?_)
        refine lv_goto (tgt := 6) hx hb dX7_rightsOf_157 (by decide) ?_
        exact Hk6 x0 x1 x2 x3 ((t0 + t1) - (0 : Int64)) (x6 + 1) hf hw hS (lv_sub hl [2, 3, 4, 5, 1, 0] rfl)
      · have hf := if_t c_9 hf
        exact wX7_rightsOf_b140 C Hk6 x0 x1 x2 x3 x6 (t0 + t1) hf hw hS (lv_sub hl [1, 2, 3, 4, 5] rfl)

set_option maxRecDepth 100000 in
set_option maxHeartbeats 4000000 in
theorem wX7_rightsOf_b97 (C : mx p s m args meth c yX7_rightsOf cX7_rightsOf 8 (some .long) A D cy st) {k6 : Nat → Int32 → Int32 → Int32 → Int64 → Int32 → Option (Int64)} {r : Int64} {d : Dt} (Hk6 : ∀ (x0 : Nat) (x1 : Int32) (x2 : Int32) (x3 : Int32) (x4 : Int64) (x6 : Int32), k6 x0 x1 x2 x3 x4 x6 = some r → ∀ {H : Heap} {locs : List Loc} {ls : Array Slot}, HW A D cy sz sh d H → va_S A s.heap H locs → lv_has ls 8 [(0, .ref x0), (1, .int x1), (2, .int x2), (3, .int x3), (4, .long x4), (6, .int x6)] → GL p l e s m args below meth c 1 22 A D cy (some (.long r)) sz sh d H locs 6 ls []) : ∀ (x0 : Nat) (x1 : Int32) (x2 : Int32) (x3 : Int32) (x6 : Int32) (x7 : Int32) (t0 : Int64), fX7_rightsOf_b97 sh d k6 x0 x1 x2 x3 x6 x7 t0 = some r → ∀ {H : Heap} {locs : List Loc} {ls : Array Slot}, HW A D cy sz sh d H → va_S A s.heap H locs → lv_has ls 8 [(0, .ref x0), (1, .int x1), (2, .int x2), (3, .int x3), (6, .int x6), (7, .int x7)] → GL p l e s m args below meth c 1 22 A D cy (some (.long r)) sz sh d H locs 97 ls [.long t0] := by
  have hx := C.1
  have hb := C.2.1
  intro x0 x1 x2 x3 x6 x7 t0 hf H locs ls hw hS hl
  unfold fX7_rightsOf_b97 at hf
  refine lv_aload_n hx hb dX7_rightsOf_97 rfl (lv_at hl 0 rfl) ?_
  obtain ⟨v1, hv1, hf⟩ := bd_s hf
  refine gt_304 C hw hv1 kw_813 dX7_rightsOf_98 ?_
  refine lv_iload hx hb dX7_rightsOf_101 (lv_at hl 4 rfl) ?_
  obtain ⟨a2, ea2, hg⟩ := bd_s hf
  clear hf
  subst ea2
  have hf := hg
  clear hg
  obtain ⟨v3, hv3, hf⟩ := bd_s hf
  refine w_lald C hw hv3 dX7_rightsOf_103 ?_
  refine lv_goto (tgt := 108) hx hb dX7_rightsOf_104 (by decide) ?_
  exact wX7_rightsOf_b108 C Hk6 x0 x1 x2 x3 x6 x7 t0 v3 hf hw hS (lv_sub hl [0, 1, 2, 3, 4, 5] rfl)

set_option maxRecDepth 100000 in
set_option maxHeartbeats 4000000 in
theorem wX7_rightsOf_b75 (C : mx p s m args meth c yX7_rightsOf cX7_rightsOf 8 (some .long) A D cy st) {k6 : Nat → Int32 → Int32 → Int32 → Int64 → Int32 → Option (Int64)} {r : Int64} {d : Dt} (Hk6 : ∀ (x0 : Nat) (x1 : Int32) (x2 : Int32) (x3 : Int32) (x4 : Int64) (x6 : Int32), k6 x0 x1 x2 x3 x4 x6 = some r → ∀ {H : Heap} {locs : List Loc} {ls : Array Slot}, HW A D cy sz sh d H → va_S A s.heap H locs → lv_has ls 8 [(0, .ref x0), (1, .int x1), (2, .int x2), (3, .int x3), (4, .long x4), (6, .int x6)] → GL p l e s m args below meth c 1 22 A D cy (some (.long r)) sz sh d H locs 6 ls []) : ∀ (x0 : Nat) (x1 : Int32) (x2 : Int32) (x3 : Int32) (x6 : Int32) (x7 : Int32) (t0 : Int64), fX7_rightsOf_b75 sh d k6 x0 x1 x2 x3 x6 x7 t0 = some r → ∀ {H : Heap} {locs : List Loc} {ls : Array Slot}, HW A D cy sz sh d H → va_S A s.heap H locs → lv_has ls 8 [(0, .ref x0), (1, .int x1), (2, .int x2), (3, .int x3), (6, .int x6), (7, .int x7)] → GL p l e s m args below meth c 1 22 A D cy (some (.long r)) sz sh d H locs 75 ls [.long t0] := by
  have hx := C.1
  have hb := C.2.1
  intro x0 x1 x2 x3 x6 x7 t0 hf H locs ls hw hS hl
  unfold fX7_rightsOf_b75 at hf
  refine lv_aload_n hx hb dX7_rightsOf_75 rfl (lv_at hl 0 rfl) ?_
  obtain ⟨v1, hv1, hf⟩ := bd_s hf
  refine gt_301 C hw hv1 kw_810 dX7_rightsOf_76 ?_
  refine lv_iload hx hb dX7_rightsOf_79 (lv_at hl 4 rfl) ?_
  obtain ⟨a2, ea2, hg⟩ := bd_s hf
  clear hf
  subst ea2
  have hf := hg
  clear hg
  obtain ⟨v3, hv3, hf⟩ := bd_s hf
  refine w_iald C hw hv3 dX7_rightsOf_81 ?_
  refine lv_iconst (v := 4) hx hb dX7_rightsOf_82 (by decide) ?_
  refine lv_icmp_ne (tgt := 107) hx hb dX7_rightsOf_83 (by decide) (fun c_4 => ?_) (fun c_4 => ?_)
  · have hf := if_f c_4 hf
    refine lv_lconst (v := 0) hx hb dX7_rightsOf_107 (by decide) ?_
    exact wX7_rightsOf_b108 C Hk6 x0 x1 x2 x3 x6 x7 t0 (0 : Int64) hf hw hS (lv_sub hl [0, 1, 2, 3, 4, 5] rfl)
  · have hf := if_t c_4 hf
    refine lv_aload_n hx hb dX7_rightsOf_86 rfl (lv_at hl 0 rfl) ?_
    obtain ⟨v5, hv5, hf⟩ := bd_s hf
    refine gt_302 C hw hv5 kw_811 dX7_rightsOf_87 ?_
    refine lv_iload hx hb dX7_rightsOf_90 (lv_at hl 4 rfl) ?_
    obtain ⟨a6, ea6, hg⟩ := bd_s hf
    clear hf
    subst ea6
    have hf := hg
    clear hg
    obtain ⟨v7, hv7, hf⟩ := bd_s hf
    refine w_iald C hw hv7 dX7_rightsOf_92 ?_
    refine lv_iload_n hx hb dX7_rightsOf_93 rfl (lv_at hl 3 rfl) ?_
    refine lv_icmp_ne (tgt := 107) hx hb dX7_rightsOf_94 (by decide) (fun c_8 => ?_) (fun c_8 => ?_)
    · have hf := if_f c_8 hf
      refine lv_lconst (v := 0) hx hb dX7_rightsOf_107 (by decide) ?_
      exact wX7_rightsOf_b108 C Hk6 x0 x1 x2 x3 x6 x7 t0 (0 : Int64) hf hw hS (lv_sub hl [0, 1, 2, 3, 4, 5] rfl)
    · have hf := if_t c_8 hf
      exact wX7_rightsOf_b97 C Hk6 x0 x1 x2 x3 x6 x7 t0 hf hw hS (lv_sub hl [0, 1, 2, 3, 4, 5] rfl)

set_option maxRecDepth 100000 in
set_option maxHeartbeats 4000000 in
theorem wX7_rightsOf_b55 (C : mx p s m args meth c yX7_rightsOf cX7_rightsOf 8 (some .long) A D cy st) {k6 : Nat → Int32 → Int32 → Int32 → Int64 → Int32 → Option (Int64)} {r : Int64} {d : Dt} (Hk6 : ∀ (x0 : Nat) (x1 : Int32) (x2 : Int32) (x3 : Int32) (x4 : Int64) (x6 : Int32), k6 x0 x1 x2 x3 x4 x6 = some r → ∀ {H : Heap} {locs : List Loc} {ls : Array Slot}, HW A D cy sz sh d H → va_S A s.heap H locs → lv_has ls 8 [(0, .ref x0), (1, .int x1), (2, .int x2), (3, .int x3), (4, .long x4), (6, .int x6)] → GL p l e s m args below meth c 1 22 A D cy (some (.long r)) sz sh d H locs 6 ls []) : ∀ (x0 : Nat) (x1 : Int32) (x2 : Int32) (x3 : Int32) (x4 : Int64) (x6 : Int32) (t0 : Int32), fX7_rightsOf_b55 sh d k6 x0 x1 x2 x3 x4 x6 t0 = some r → ∀ {H : Heap} {locs : List Loc} {ls : Array Slot}, HW A D cy sz sh d H → va_S A s.heap H locs → lv_has ls 8 [(0, .ref x0), (1, .int x1), (2, .int x2), (3, .int x3), (4, .long x4), (6, .int x6)] → GL p l e s m args below meth c 1 22 A D cy (some (.long r)) sz sh d H locs 55 ls [.int t0] := by
  have hx := C.1
  have hb := C.2.1
  intro x0 x1 x2 x3 x4 x6 t0 hf H locs ls hw hS hl
  unfold fX7_rightsOf_b55 at hf
  refine lv_istore (lv' := [(7, .int t0), (0, .ref x0), (1, .int x1), (2, .int x2), (3, .int x3), (4, .long x4), (6, .int x6)]) hx hb dX7_rightsOf_55 hl (by decide) rfl (fun ls hl => ?_)
  refine lv_lload hx hb dX7_rightsOf_57 (lv_at hl 5 rfl) ?_
  refine lv_iload hx hb dX7_rightsOf_59 (lv_at hl 0 rfl) ?_
  refine lv_if_eq (tgt := 75) hx hb dX7_rightsOf_61 (by decide) (fun c_1 => ?_) (fun c_1 => ?_)
  · have hf := if_t c_1 hf
    exact wX7_rightsOf_b75 C Hk6 x0 x1 x2 x3 x6 t0 x4 hf hw hS (lv_sub hl [1, 2, 3, 4, 6, 0] rfl)
  · have hf := if_f c_1 hf
    refine lv_aload_n hx hb dX7_rightsOf_64 rfl (lv_at hl 1 rfl) ?_
    obtain ⟨v2, hv2, hf⟩ := bd_s hf
    refine gt_301 C hw hv2 kw_810 dX7_rightsOf_65 ?_
    refine lv_iload hx hb dX7_rightsOf_68 (lv_at hl 6 rfl) ?_
    obtain ⟨a3, ea3, hg⟩ := bd_s hf
    clear hf
    subst ea3
    have hf := hg
    clear hg
    obtain ⟨v4, hv4, hf⟩ := bd_s hf
    refine w_iald C hw hv4 dX7_rightsOf_70 ?_
    refine lv_iconst (v := 1) hx hb dX7_rightsOf_71 (by decide) ?_
    refine lv_icmp_eq (tgt := 97) hx hb dX7_rightsOf_72 (by decide) (fun c_5 => ?_) (fun c_5 => ?_)
    · have hf := if_t c_5 hf
      exact wX7_rightsOf_b97 C Hk6 x0 x1 x2 x3 x6 t0 x4 hf hw hS (lv_sub hl [1, 2, 3, 4, 6, 0] rfl)
    · have hf := if_f c_5 hf
      exact wX7_rightsOf_b75 C Hk6 x0 x1 x2 x3 x6 t0 x4 hf hw hS (lv_sub hl [1, 2, 3, 4, 6, 0] rfl)

set_option maxRecDepth 100000 in
set_option maxHeartbeats 4000000 in
theorem wX7_rightsOf_b6 (C : mx p s m args meth c yX7_rightsOf cX7_rightsOf 8 (some .long) A D cy st) {r : Int64} {d : Dt} : ∀ (n : Nat) (x0 : Nat) (x1 : Int32) (x2 : Int32) (x3 : Int32) (x4 : Int64) (x6 : Int32), fX7_rightsOf_b6 sh d n x0 x1 x2 x3 x4 x6 = some r → ∀ {H : Heap} {locs : List Loc} {ls : Array Slot}, HW A D cy sz sh d H → va_S A s.heap H locs → lv_has ls 8 [(0, .ref x0), (1, .int x1), (2, .int x2), (3, .int x3), (4, .long x4), (6, .int x6)] → GL p l e s m args below meth c 1 22 A D cy (some (.long r)) sz sh d H locs 6 ls [] := by
  have hx := C.1
  have hb := C.2.1
  intro n
  induction n with
  | zero => intro x0 x1 x2 x3 x4 x6 hf; cases hf
  | succ n ih =>
    intro x0 x1 x2 x3 x4 x6 hf H locs ls hw hS hl
    rw [fX7_rightsOf_b6] at hf
    refine lv_iload hx hb dX7_rightsOf_6 (lv_at hl 5 rfl) ?_
    refine lv_aload_n hx hb dX7_rightsOf_8 rfl (lv_at hl 0 rfl) ?_
    obtain ⟨v1, hv1, hf⟩ := bd_s hf
    refine gt_297 C hw hv1 kw_806 dX7_rightsOf_9 ?_
    refine lv_icmp_ge (tgt := 160) hx hb dX7_rightsOf_12 (by decide) (fun c_2 => ?_) (fun c_2 => ?_)
    · have hf := if_t c_2 hf
      refine lv_lload hx hb dX7_rightsOf_160 (lv_at hl 4 rfl) ?_
      cases hf
      exact rt_l C hw hS dX7_rightsOf_162
    · have hf := if_f c_2 hf
      refine lv_aload_n hx hb dX7_rightsOf_15 rfl (lv_at hl 0 rfl) ?_
      obtain ⟨v3, hv3, hf⟩ := bd_s hf
      refine gt_299 C hw hv3 kw_808 dX7_rightsOf_16 ?_
      refine lv_iload hx hb dX7_rightsOf_19 (lv_at hl 5 rfl) ?_
      obtain ⟨a4, ea4, hg⟩ := bd_s hf
      clear hf
      subst ea4
      have hf := hg
      clear hg
      obtain ⟨v5, hv5, hf⟩ := bd_s hf
      refine w_iald C hw hv5 dX7_rightsOf_21 ?_
      refine lv_iload_n hx hb dX7_rightsOf_22 rfl (lv_at hl 2 rfl) ?_
      refine lv_icmp_ne (tgt := 154) hx hb dX7_rightsOf_23 (by decide) (fun c_6 => ?_) (fun c_6 => ?_)
      · have hf := if_f c_6 hf
        refine lv_iinc (v := (x6 + 1)) (lv' := [(6, .int (x6 + 1)), (0, .ref x0), (1, .int x1), (2, .int x2), (3, .int x3), (4, .long x4)]) hx hb dX7_rightsOf_154 hl (k := 5) rfl rfl (by decide) rfl (fun ls hl => ?_)
        refine lv_goto (tgt := 6) hx hb dX7_rightsOf_157 (by decide) ?_
        exact ih x0 x1 x2 x3 x4 (x6 + 1) hf hw hS (lv_sub hl [1, 2, 3, 4, 5, 0] rfl)
      · have hf := if_t c_6 hf
        refine lv_aload_n hx hb dX7_rightsOf_26 rfl (lv_at hl 0 rfl) ?_
        obtain ⟨v7, hv7, hf⟩ := bd_s hf
        refine gt_291 C hw hv7 kw_800 dX7_rightsOf_27 ?_
        refine lv_iload_n hx hb dX7_rightsOf_30 rfl (lv_at hl 1 rfl) ?_
        refine lv_iload hx hb dX7_rightsOf_31 (lv_at hl 5 rfl) ?_
        obtain ⟨r9, h8, hf⟩ := bd_s hf
        refine cl_S0 C hw hS (tX7_isIn l A D cy st sz sh d v7 x1 x6 h8) csX7_isIn kw_933 ⟨Nat.le_of_ble_eq_true rfl, Nat.le_of_ble_eq_true rfl⟩ hl.1 rfl (Nat.le_of_ble_eq_true rfl) dX7_rightsOf_33 ⟨Nat.zero_le _, Nat.zero_le _⟩ (fun H locs hw hS => ?_)
        refine lv_if_eq (tgt := 154) hx hb dX7_rightsOf_36 (by decide) (fun c_10 => ?_) (fun c_10 => ?_)
        · have hf := if_t c_10 hf
          refine lv_iinc (v := (x6 + 1)) (lv' := [(6, .int (x6 + 1)), (0, .ref x0), (1, .int x1), (2, .int x2), (3, .int x3), (4, .long x4)]) hx hb dX7_rightsOf_154 hl (k := 5) rfl rfl (by decide) rfl (fun ls hl => ?_)
          refine lv_goto (tgt := 6) hx hb dX7_rightsOf_157 (by decide) ?_
          exact ih x0 x1 x2 x3 x4 (x6 + 1) hf hw hS (lv_sub hl [1, 2, 3, 4, 5, 0] rfl)
        · have hf := if_f c_10 hf
          refine lv_aload_n hx hb dX7_rightsOf_39 rfl (lv_at hl 0 rfl) ?_
          obtain ⟨v11, hv11, hf⟩ := bd_s hf
          refine gt_298 C hw hv11 kw_807 dX7_rightsOf_40 ?_
          refine lv_iload hx hb dX7_rightsOf_43 (lv_at hl 5 rfl) ?_
          obtain ⟨a12, ea12, hg⟩ := bd_s hf
          clear hf
          subst ea12
          have hf := hg
          clear hg
          obtain ⟨v13, hv13, hf⟩ := bd_s hf
          refine w_iald C hw hv13 dX7_rightsOf_45 ?_
          refine lv_iload_n hx hb dX7_rightsOf_46 rfl (lv_at hl 3 rfl) ?_
          refine lv_icmp_ne (tgt := 54) hx hb dX7_rightsOf_47 (by decide) (fun c_14 => ?_) (fun c_14 => ?_)
          · have hf := if_f c_14 hf
            refine lv_iconst (v := 0) hx hb dX7_rightsOf_54 (by decide) ?_
            exact wX7_rightsOf_b55 C ih x0 x1 x2 x3 x4 x6 (0 : Int32) hf hw hS (lv_sub hl [0, 1, 2, 3, 4, 5] rfl)
          · have hf := if_t c_14 hf
            refine lv_iconst (v := 1) hx hb dX7_rightsOf_50 (by decide) ?_
            refine lv_goto (tgt := 55) hx hb dX7_rightsOf_51 (by decide) ?_
            exact wX7_rightsOf_b55 C ih x0 x1 x2 x3 x4 x6 (1 : Int32) hf hw hS (lv_sub hl [0, 1, 2, 3, 4, 5] rfl)

set_option maxRecDepth 100000 in
set_option maxHeartbeats 4000000 in
theorem wX7_rightsOf_b0 (C : mx p s m args meth c yX7_rightsOf cX7_rightsOf 8 (some .long) A D cy st) {r : Int64} {d : Dt} : ∀ (x0 : Nat) (x1 : Int32) (x2 : Int32) (x3 : Int32), fX7_rightsOf_b0 sh d x0 x1 x2 x3 = some r → ∀ {H : Heap} {locs : List Loc} {ls : Array Slot}, HW A D cy sz sh d H → va_S A s.heap H locs → lv_has ls 8 [(0, .ref x0), (1, .int x1), (2, .int x2), (3, .int x3)] → GL p l e s m args below meth c 1 22 A D cy (some (.long r)) sz sh d H locs 0 ls [] := by
  have hx := C.1
  have hb := C.2.1
  intro x0 x1 x2 x3 hf H locs ls hw hS hl
  unfold fX7_rightsOf_b0 at hf
  refine lv_lconst (v := 0) hx hb dX7_rightsOf_0 (by decide) ?_
  refine lv_lstore (lv' := [(4, .long (0 : Int64)), (0, .ref x0), (1, .int x1), (2, .int x2), (3, .int x3)]) hx hb dX7_rightsOf_1 hl (by decide) rfl (fun ls hl => ?_)
  refine lv_iconst (v := 0) hx hb dX7_rightsOf_3 (by decide) ?_
  refine lv_istore (lv' := [(6, .int (0 : Int32)), (4, .long (0 : Int64)), (0, .ref x0), (1, .int x1), (2, .int x2), (3, .int x3)]) hx hb dX7_rightsOf_4 hl (by decide) rfl (fun ls hl => ?_)
  exact wX7_rightsOf_b6 C fu x0 x1 x2 x3 (0 : Int64) (0 : Int32) hf hw hS (lv_sub hl [2, 3, 4, 5, 1, 0] rfl)

set_option maxRecDepth 100000 in
set_option maxHeartbeats 4000000 in
theorem tX7_rightsOf (l : Launch) (A : Nat → Prop) (D : va_G) (cy : Nat → ClassId) (st : Nat → Nat) (sz : Nat) (sh : Sh) (d : Dt) (x0 : Nat) (x1 : Int32) (x2 : Int32) (x3 : Int32) {r : Int64} (hf : fX7_rightsOf sh d x0 x1 x2 x3 = some r) : Ct l yX7_rightsOf cX7_rightsOf 8 (some .long) 1 22 0 0 A D cy st [.ref x0, .int x1, .int x2, .int x3] sz sh d (some (.long r)) sz sh d := ct_of (by decide) (Nat.le_of_ble_eq_true rfl) (fun p e s m args below meth c C hw hS ls hl => wX7_rightsOf_b0 C x0 x1 x2 x3 hf hw hS hl)
theorem dX7_give_0 : decode cX7_give 0 = .ok (.aload_n 0, 1) := by decide +kernel
theorem dX7_give_1 : decode cX7_give 1 = .ok (.aload_n 0, 1) := by decide +kernel
theorem dX7_give_2 : decode cX7_give 2 = .ok (.iload_n 3, 1) := by decide +kernel
theorem dX7_give_3 : decode cX7_give 3 = .ok (.invokevirtual 109, 3) := by decide +kernel
theorem dX7_give_6 : decode cX7_give 6 = .ok (.ifCond .eq 20, 3) := by decide +kernel
theorem dX7_give_9 : decode cX7_give 9 = .ok (.iload_n 3, 1) := by decide +kernel
theorem dX7_give_10 : decode cX7_give 10 = .ok (.iload_n 1, 1) := by decide +kernel
theorem dX7_give_11 : decode cX7_give 11 = .ok (.if_icmp .eq 15, 3) := by decide +kernel
theorem dX7_give_14 : decode cX7_give 14 = .ok (.lload 4, 2) := by decide +kernel
theorem dX7_give_16 : decode cX7_give 16 = .ok (.invokestatic 138, 3) := by decide +kernel
theorem dX7_give_19 : decode cX7_give 19 = .ok (.ifCond .eq 7, 3) := by decide +kernel
theorem dX7_give_22 : decode cX7_give 22 = .ok (.iconst 1, 1) := by decide +kernel
theorem dX7_give_23 : decode cX7_give 23 = .ok (.goto 4, 3) := by decide +kernel
theorem dX7_give_26 : decode cX7_give 26 = .ok (.iconst 0, 1) := by decide +kernel
theorem dX7_give_27 : decode cX7_give 27 = .ok (.iload_n 1, 1) := by decide +kernel
theorem dX7_give_28 : decode cX7_give 28 = .ok (.iload_n 2, 1) := by decide +kernel
theorem dX7_give_29 : decode cX7_give 29 = .ok (.iconst 5, 1) := by decide +kernel
theorem dX7_give_30 : decode cX7_give 30 = .ok (.invokevirtual 130, 3) := by decide +kernel
theorem dX7_give_33 : decode cX7_give 33 = .ok (.istore 6, 2) := by decide +kernel
theorem dX7_give_35 : decode cX7_give 35 = .ok (.iload 6, 2) := by decide +kernel
theorem dX7_give_37 : decode cX7_give 37 = .ok (.ifCond .ge 6, 3) := by decide +kernel
theorem dX7_give_40 : decode cX7_give 40 = .ok (.iload 6, 2) := by decide +kernel
theorem dX7_give_42 : decode cX7_give 42 = .ok (.ireturn, 1) := by decide +kernel
theorem dX7_give_43 : decode cX7_give 43 = .ok (.aload_n 0, 1) := by decide +kernel
theorem dX7_give_44 : decode cX7_give 44 = .ok (.iload_n 1, 1) := by decide +kernel
theorem dX7_give_45 : decode cX7_give 45 = .ok (.iload_n 2, 1) := by decide +kernel
theorem dX7_give_46 : decode cX7_give 46 = .ok (.iload_n 1, 1) := by decide +kernel
theorem dX7_give_47 : decode cX7_give 47 = .ok (.invokevirtual 147, 3) := by decide +kernel
theorem dX7_give_50 : decode cX7_give 50 = .ok (.lload 4, 2) := by decide +kernel
theorem dX7_give_52 : decode cX7_give 52 = .ok (.lcmp, 1) := by decide +kernel
theorem dX7_give_53 : decode cX7_give 53 = .ok (.ifCond .ge 11, 3) := by decide +kernel
theorem dX7_give_56 : decode cX7_give 56 = .ok (.aload_n 0, 1) := by decide +kernel
theorem dX7_give_57 : decode cX7_give 57 = .ok (.iconst 2, 1) := by decide +kernel
theorem dX7_give_58 : decode cX7_give 58 = .ok (.invokevirtual 120, 3) := by decide +kernel
theorem dX7_give_61 : decode cX7_give 61 = .ok (.goto 14, 3) := by decide +kernel
theorem dX7_give_64 : decode cX7_give 64 = .ok (.aload_n 0, 1) := by decide +kernel
theorem dX7_give_65 : decode cX7_give 65 = .ok (.iload_n 1, 1) := by decide +kernel
theorem dX7_give_66 : decode cX7_give 66 = .ok (.iload_n 2, 1) := by decide +kernel
theorem dX7_give_67 : decode cX7_give 67 = .ok (.iconst 4, 1) := by decide +kernel
theorem dX7_give_68 : decode cX7_give 68 = .ok (.iload_n 3, 1) := by decide +kernel
theorem dX7_give_69 : decode cX7_give 69 = .ok (.iconst 0, 1) := by decide +kernel
theorem dX7_give_70 : decode cX7_give 70 = .ok (.lload 4, 2) := by decide +kernel
theorem dX7_give_72 : decode cX7_give 72 = .ok (.invokevirtual 134, 3) := by decide +kernel
theorem dX7_give_75 : decode cX7_give 75 = .ok (.ireturn, 1) := by decide +kernel
theorem cvX7_give : CV yX7_give cX7_give 7 (some .int) 8 4 := ⟨kw_980, kw_981, kw_6, kw_982, ⟨_, _, rfl⟩, by decide, by decide +kernel, by decide +kernel, by decide +kernel⟩
def fX7_give_b27 (sh : Sh) (x0 : Nat) (x1 : Int32) (x2 : Int32) (x3 : Int32) (x4 : Int64) (t0 : Nat) (t1 : Int32) (d : Dt) : Option (Int32 × Dt) := bd (kc sh 9 t0) fun _ => bd2 (fX7_needMake sh d t0 t1 x1 x2 (5 : Int32)) fun r3 d4 => if 0 ≤ r3 then (bd (kc sh 9 x0) fun _ => bd (fX7_rightsOf sh d4 x0 x1 x2 x1) fun r8 => if 0 ≤ (lg_cmp r8 x4) then (bd2 (fX7_make sh d4 x0 x1 x2 (4 : Int32) x3 (0 : Int32) x4) fun r11 d12 => some (r11, d12)) else (bd2 (fX7_meets sh d4 x0 (2 : Int32)) fun r14 d15 => some (r14, d15))) else (some (r3, d4))

def fX7_give_b0 (sh : Sh) (x0 : Nat) (x1 : Int32) (x2 : Int32) (x3 : Int32) (x4 : Int64) (d : Dt) : Option (Int32 × Dt) := bd (kc sh 9 x0) fun _ => bd (fX7_isHand sh d x0 x3) fun r3 => if (bI r3) = 0 then (fX7_give_b27 sh x0 x1 x2 x3 x4 x0 (0 : Int32) d) else (if x3 = x1 then (fX7_give_b27 sh x0 x1 x2 x3 x4 x0 (0 : Int32) d) else (bd (fX7_isShare sh d x4) fun r7 => if (bI r7) = 0 then (fX7_give_b27 sh x0 x1 x2 x3 x4 x0 (0 : Int32) d) else (fX7_give_b27 sh x0 x1 x2 x3 x4 x0 (1 : Int32) d)))

def fX7_give (sh : Sh) (d : Dt) (x0 : Nat) (x1 : Int32) (x2 : Int32) (x3 : Int32) (x4 : Int64) : Option (Int32 × Dt) := fX7_give_b0 sh x0 x1 x2 x3 x4 d

set_option maxRecDepth 100000 in
set_option maxHeartbeats 4000000 in
theorem wX7_give_b27 (C : mx p s m args meth c yX7_give cX7_give 7 (some .int) A D cy st) {r : Int32} {d9 : Dt} : ∀ (x0 : Nat) (x1 : Int32) (x2 : Int32) (x3 : Int32) (x4 : Int64) (t0 : Nat) (t1 : Int32) (d : Dt), fX7_give_b27 sh x0 x1 x2 x3 x4 t0 t1 d = some (r, d9) → ∀ {H : Heap} {locs : List Loc} {ls : Array Slot}, HW A D cy sz sh d H → va_S A s.heap H locs → lv_has ls 7 [(0, .ref x0), (1, .int x1), (2, .int x2), (3, .int x3), (4, .long x4)] → GL p l e s m args below meth c 3 75 A D cy (some (.int r)) sz sh d9 H locs 27 ls [.int t1, .ref t0] := by
  have hx := C.1
  have hb := C.2.1
  intro x0 x1 x2 x3 x4 t0 t1 d hf H locs ls hw hS hl
  unfold fX7_give_b27 at hf
  refine lv_iload_n hx hb dX7_give_27 rfl (lv_at hl 1 rfl) ?_
  refine lv_iload_n hx hb dX7_give_28 rfl (lv_at hl 2 rfl) ?_
  refine lv_iconst (v := 5) hx hb dX7_give_29 (by decide) ?_
  obtain ⟨_, h1, hf⟩ := bd_s hf
  obtain ⟨r3, d4, h2, hf⟩ := bd2_s hf
  refine cl_V0 C hw hS (tX7_needMake l A D cy st sz sh d t0 t1 x1 x2 (5 : Int32) h2) cvX7_needMake kw_925 (kc_k h1) ⟨Nat.le_of_ble_eq_true rfl, Nat.le_of_ble_eq_true rfl⟩ hl.1 rfl (Nat.le_of_ble_eq_true rfl) dX7_give_30 ⟨Nat.zero_le _, Nat.zero_le _⟩ (fun H locs hw hS => ?_)
  refine lv_istore (lv' := [(6, .int r3), (0, .ref x0), (1, .int x1), (2, .int x2), (3, .int x3), (4, .long x4)]) hx hb dX7_give_33 hl (by decide) rfl (fun ls hl => ?_)
  refine lv_iload hx hb dX7_give_35 (lv_at hl 0 rfl) ?_
  refine lv_if_ge (tgt := 43) hx hb dX7_give_37 (by decide) (fun c_5 => ?_) (fun c_5 => ?_)
  · have hf := if_t c_5 hf
    refine lv_aload_n hx hb dX7_give_43 rfl (lv_at hl 1 rfl) ?_
    refine lv_iload_n hx hb dX7_give_44 rfl (lv_at hl 2 rfl) ?_
    refine lv_iload_n hx hb dX7_give_45 rfl (lv_at hl 3 rfl) ?_
    refine lv_iload_n hx hb dX7_give_46 rfl (lv_at hl 2 rfl) ?_
    obtain ⟨_, h6, hf⟩ := bd_s hf
    obtain ⟨r8, h7, hf⟩ := bd_s hf
    refine cl_V0 C hw hS (tX7_rightsOf l A D cy st sz sh d4 x0 x1 x2 x1 h7) cvX7_rightsOf kw_983 (kc_k h6) ⟨Nat.le_of_ble_eq_true rfl, Nat.le_of_ble_eq_true rfl⟩ hl.1 rfl (Nat.le_of_ble_eq_true rfl) dX7_give_47 ⟨Nat.zero_le _, Nat.zero_le _⟩ (fun H locs hw hS => ?_)
    refine lv_lload hx hb dX7_give_50 (lv_at hl 5 rfl) ?_
    refine W.lcmp hx hb dX7_give_52 ?_
    refine lv_if_ge (tgt := 64) hx hb dX7_give_53 (by decide) (fun c_9 => ?_) (fun c_9 => ?_)
    · have hf := if_t c_9 hf
      refine lv_aload_n hx hb dX7_give_64 rfl (lv_at hl 1 rfl) ?_
      refine lv_iload_n hx hb dX7_give_65 rfl (lv_at hl 2 rfl) ?_
      refine lv_iload_n hx hb dX7_give_66 rfl (lv_at hl 3 rfl) ?_
      refine lv_iconst (v := 4) hx hb dX7_give_67 (by decide) ?_
      refine lv_iload_n hx hb dX7_give_68 rfl (lv_at hl 4 rfl) ?_
      refine lv_iconst (v := 0) hx hb dX7_give_69 (by decide) ?_
      refine lv_lload hx hb dX7_give_70 (lv_at hl 5 rfl) ?_
      obtain ⟨r11, d12, h10, hf⟩ := bd2_s hf
      refine cl_V0 C hw hS (tX7_make l A D cy st sz sh d4 x0 x1 x2 (4 : Int32) x3 (0 : Int32) x4 h10) cvX7_make kw_944 (kc_k h6) ⟨Nat.le_of_ble_eq_true rfl, Nat.le_of_ble_eq_true rfl⟩ hl.1 rfl (Nat.le_of_ble_eq_true rfl) dX7_give_72 ⟨Nat.zero_le _, Nat.zero_le _⟩ (fun H locs hw hS => ?_)
      cases hf
      exact rt_i C hw hS dX7_give_75
    · have hf := if_f c_9 hf
      refine lv_aload_n hx hb dX7_give_56 rfl (lv_at hl 1 rfl) ?_
      refine lv_iconst (v := 2) hx hb dX7_give_57 (by decide) ?_
      obtain ⟨r14, d15, h13, hf⟩ := bd2_s hf
      refine cl_V0 C hw hS (tX7_meets l A D cy st sz sh d4 x0 (2 : Int32) h13) cvX7_meets kw_940 (kc_k h6) ⟨Nat.le_of_ble_eq_true rfl, Nat.le_of_ble_eq_true rfl⟩ hl.1 rfl (Nat.le_of_ble_eq_true rfl) dX7_give_58 ⟨Nat.zero_le _, Nat.zero_le _⟩ (fun H locs hw hS => ?_)
      refine lv_goto (tgt := 75) hx hb dX7_give_61 (by decide) ?_
      cases hf
      exact rt_i C hw hS dX7_give_75
  · have hf := if_f c_5 hf
    refine lv_iload hx hb dX7_give_40 (lv_at hl 0 rfl) ?_
    cases hf
    exact rt_i C hw hS dX7_give_42

set_option maxRecDepth 100000 in
set_option maxHeartbeats 4000000 in
theorem wX7_give_b0 (C : mx p s m args meth c yX7_give cX7_give 7 (some .int) A D cy st) {r : Int32} {d9 : Dt} : ∀ (x0 : Nat) (x1 : Int32) (x2 : Int32) (x3 : Int32) (x4 : Int64) (d : Dt), fX7_give_b0 sh x0 x1 x2 x3 x4 d = some (r, d9) → ∀ {H : Heap} {locs : List Loc} {ls : Array Slot}, HW A D cy sz sh d H → va_S A s.heap H locs → lv_has ls 7 [(0, .ref x0), (1, .int x1), (2, .int x2), (3, .int x3), (4, .long x4)] → GL p l e s m args below meth c 3 75 A D cy (some (.int r)) sz sh d9 H locs 0 ls [] := by
  have hx := C.1
  have hb := C.2.1
  intro x0 x1 x2 x3 x4 d hf H locs ls hw hS hl
  unfold fX7_give_b0 at hf
  refine lv_aload_n hx hb dX7_give_0 rfl (lv_at hl 0 rfl) ?_
  refine lv_aload_n hx hb dX7_give_1 rfl (lv_at hl 0 rfl) ?_
  refine lv_iload_n hx hb dX7_give_2 rfl (lv_at hl 3 rfl) ?_
  obtain ⟨_, h1, hf⟩ := bd_s hf
  obtain ⟨r3, h2, hf⟩ := bd_s hf
  refine cl_V0 C hw hS (tX7_isHand l A D cy st sz sh d x0 x3 h2) cvX7_isHand kw_917 (kc_k h1) ⟨Nat.le_of_ble_eq_true rfl, Nat.le_of_ble_eq_true rfl⟩ hl.1 rfl (Nat.le_of_ble_eq_true rfl) dX7_give_3 ⟨Nat.zero_le _, Nat.zero_le _⟩ (fun H locs hw hS => ?_)
  refine lv_if_eq (tgt := 26) hx hb dX7_give_6 (by decide) (fun c_4 => ?_) (fun c_4 => ?_)
  · have hf := if_t c_4 hf
    refine lv_iconst (v := 0) hx hb dX7_give_26 (by decide) ?_
    exact wX7_give_b27 C x0 x1 x2 x3 x4 x0 (0 : Int32) d hf hw hS (lv_sub hl [0, 1, 2, 3, 4] rfl)
  · have hf := if_f c_4 hf
    refine lv_iload_n hx hb dX7_give_9 rfl (lv_at hl 3 rfl) ?_
    refine lv_iload_n hx hb dX7_give_10 rfl (lv_at hl 1 rfl) ?_
    refine lv_icmp_eq (tgt := 26) hx hb dX7_give_11 (by decide) (fun c_5 => ?_) (fun c_5 => ?_)
    · have hf := if_t c_5 hf
      refine lv_iconst (v := 0) hx hb dX7_give_26 (by decide) ?_
      exact wX7_give_b27 C x0 x1 x2 x3 x4 x0 (0 : Int32) d hf hw hS (lv_sub hl [0, 1, 2, 3, 4] rfl)
    · have hf := if_f c_5 hf
      refine lv_lload hx hb dX7_give_14 (lv_at hl 4 rfl) ?_
      obtain ⟨r7, h6, hf⟩ := bd_s hf
      refine cl_S0 C hw hS (tX7_isShare l A D cy st sz sh d x4 h6) csX7_isShare kw_959 ⟨Nat.le_of_ble_eq_true rfl, Nat.le_of_ble_eq_true rfl⟩ hl.1 rfl (Nat.le_of_ble_eq_true rfl) dX7_give_16 ⟨Nat.zero_le _, Nat.zero_le _⟩ (fun H locs hw hS => ?_)
      refine lv_if_eq (tgt := 26) hx hb dX7_give_19 (by decide) (fun c_8 => ?_) (fun c_8 => ?_)
      · have hf := if_t c_8 hf
        refine lv_iconst (v := 0) hx hb dX7_give_26 (by decide) ?_
        exact wX7_give_b27 C x0 x1 x2 x3 x4 x0 (0 : Int32) d hf hw hS (lv_sub hl [0, 1, 2, 3, 4] rfl)
      · have hf := if_f c_8 hf
        refine lv_iconst (v := 1) hx hb dX7_give_22 (by decide) ?_
        refine lv_goto (tgt := 27) hx hb dX7_give_23 (by decide) ?_
        exact wX7_give_b27 C x0 x1 x2 x3 x4 x0 (1 : Int32) d hf hw hS (lv_sub hl [0, 1, 2, 3, 4] rfl)

set_option maxRecDepth 100000 in
set_option maxHeartbeats 4000000 in
theorem tX7_give (l : Launch) (A : Nat → Prop) (D : va_G) (cy : Nat → ClassId) (st : Nat → Nat) (sz : Nat) (sh : Sh) (d : Dt) (x0 : Nat) (x1 : Int32) (x2 : Int32) (x3 : Int32) (x4 : Int64) {r : Int32} {d9 : Dt} (hf : fX7_give sh d x0 x1 x2 x3 x4 = some (r, d9)) : Ct l yX7_give cX7_give 7 (some .int) 3 75 0 0 A D cy st [.ref x0, .int x1, .int x2, .int x3, .long x4] sz sh d (some (.int r)) sz sh d9 := ct_of (by decide) (Nat.le_of_ble_eq_true rfl) (fun p e s m args below meth c C hw hS ls hl => wX7_give_b0 C x0 x1 x2 x3 x4 d hf hw hS hl)
theorem dX7_spend_0 : decode cX7_spend 0 = .ok (.aload_n 0, 1) := by decide +kernel
theorem dX7_spend_1 : decode cX7_spend 1 = .ok (.lload_n 3, 1) := by decide +kernel
theorem dX7_spend_2 : decode cX7_spend 2 = .ok (.invokestatic 138, 3) := by decide +kernel
theorem dX7_spend_5 : decode cX7_spend 5 = .ok (.iload_n 1, 1) := by decide +kernel
theorem dX7_spend_6 : decode cX7_spend 6 = .ok (.iload_n 2, 1) := by decide +kernel
theorem dX7_spend_7 : decode cX7_spend 7 = .ok (.iconst 5, 1) := by decide +kernel
theorem dX7_spend_8 : decode cX7_spend 8 = .ok (.invokevirtual 130, 3) := by decide +kernel
theorem dX7_spend_11 : decode cX7_spend 11 = .ok (.istore 5, 2) := by decide +kernel
theorem dX7_spend_13 : decode cX7_spend 13 = .ok (.iload 5, 2) := by decide +kernel
theorem dX7_spend_15 : decode cX7_spend 15 = .ok (.ifCond .ge 6, 3) := by decide +kernel
theorem dX7_spend_18 : decode cX7_spend 18 = .ok (.iload 5, 2) := by decide +kernel
theorem dX7_spend_20 : decode cX7_spend 20 = .ok (.ireturn, 1) := by decide +kernel
theorem dX7_spend_21 : decode cX7_spend 21 = .ok (.aload_n 0, 1) := by decide +kernel
theorem dX7_spend_22 : decode cX7_spend 22 = .ok (.iload_n 1, 1) := by decide +kernel
theorem dX7_spend_23 : decode cX7_spend 23 = .ok (.iload_n 2, 1) := by decide +kernel
theorem dX7_spend_24 : decode cX7_spend 24 = .ok (.iload_n 1, 1) := by decide +kernel
theorem dX7_spend_25 : decode cX7_spend 25 = .ok (.invokevirtual 147, 3) := by decide +kernel
theorem dX7_spend_28 : decode cX7_spend 28 = .ok (.lload_n 3, 1) := by decide +kernel
theorem dX7_spend_29 : decode cX7_spend 29 = .ok (.lcmp, 1) := by decide +kernel
theorem dX7_spend_30 : decode cX7_spend 30 = .ok (.ifCond .ge 11, 3) := by decide +kernel
theorem dX7_spend_33 : decode cX7_spend 33 = .ok (.aload_n 0, 1) := by decide +kernel
theorem dX7_spend_34 : decode cX7_spend 34 = .ok (.iconst 2, 1) := by decide +kernel
theorem dX7_spend_35 : decode cX7_spend 35 = .ok (.invokevirtual 120, 3) := by decide +kernel
theorem dX7_spend_38 : decode cX7_spend 38 = .ok (.goto 13, 3) := by decide +kernel
theorem dX7_spend_41 : decode cX7_spend 41 = .ok (.aload_n 0, 1) := by decide +kernel
theorem dX7_spend_42 : decode cX7_spend 42 = .ok (.iload_n 1, 1) := by decide +kernel
theorem dX7_spend_43 : decode cX7_spend 43 = .ok (.iload_n 2, 1) := by decide +kernel
theorem dX7_spend_44 : decode cX7_spend 44 = .ok (.iconst 5, 1) := by decide +kernel
theorem dX7_spend_45 : decode cX7_spend 45 = .ok (.iconst 0, 1) := by decide +kernel
theorem dX7_spend_46 : decode cX7_spend 46 = .ok (.iconst 0, 1) := by decide +kernel
theorem dX7_spend_47 : decode cX7_spend 47 = .ok (.lload_n 3, 1) := by decide +kernel
theorem dX7_spend_48 : decode cX7_spend 48 = .ok (.invokevirtual 134, 3) := by decide +kernel
theorem dX7_spend_51 : decode cX7_spend 51 = .ok (.ireturn, 1) := by decide +kernel
theorem cvX7_spend : CV yX7_spend cX7_spend 6 (some .int) 8 3 := ⟨kw_988, kw_989, kw_6, kw_990, ⟨_, _, rfl⟩, by decide, by decide +kernel, by decide +kernel, by decide +kernel⟩
def fX7_spend_b0 (sh : Sh) (x0 : Nat) (x1 : Int32) (x2 : Int32) (x3 : Int64) (d : Dt) : Option (Int32 × Dt) := bd (fX7_isShare sh d x3) fun r2 => bd (kc sh 9 x0) fun _ => bd2 (fX7_needMake sh d x0 (bI r2) x1 x2 (5 : Int32)) fun r5 d6 => if 0 ≤ r5 then (bd (fX7_rightsOf sh d6 x0 x1 x2 x1) fun r9 => if 0 ≤ (lg_cmp r9 x3) then (bd2 (fX7_make sh d6 x0 x1 x2 (5 : Int32) (0 : Int32) (0 : Int32) x3) fun r12 d13 => some (r12, d13)) else (bd2 (fX7_meets sh d6 x0 (2 : Int32)) fun r15 d16 => some (r15, d16))) else (some (r5, d6))

def fX7_spend (sh : Sh) (d : Dt) (x0 : Nat) (x1 : Int32) (x2 : Int32) (x3 : Int64) : Option (Int32 × Dt) := fX7_spend_b0 sh x0 x1 x2 x3 d

set_option maxRecDepth 100000 in
set_option maxHeartbeats 4000000 in
theorem wX7_spend_b0 (C : mx p s m args meth c yX7_spend cX7_spend 6 (some .int) A D cy st) {r : Int32} {d9 : Dt} : ∀ (x0 : Nat) (x1 : Int32) (x2 : Int32) (x3 : Int64) (d : Dt), fX7_spend_b0 sh x0 x1 x2 x3 d = some (r, d9) → ∀ {H : Heap} {locs : List Loc} {ls : Array Slot}, HW A D cy sz sh d H → va_S A s.heap H locs → lv_has ls 6 [(0, .ref x0), (1, .int x1), (2, .int x2), (3, .long x3)] → GL p l e s m args below meth c 3 75 A D cy (some (.int r)) sz sh d9 H locs 0 ls [] := by
  have hx := C.1
  have hb := C.2.1
  intro x0 x1 x2 x3 d hf H locs ls hw hS hl
  unfold fX7_spend_b0 at hf
  refine lv_aload_n hx hb dX7_spend_0 rfl (lv_at hl 0 rfl) ?_
  refine lv_lload_n hx hb dX7_spend_1 rfl (lv_at hl 3 rfl) ?_
  obtain ⟨r2, h1, hf⟩ := bd_s hf
  refine cl_S0 C hw hS (tX7_isShare l A D cy st sz sh d x3 h1) csX7_isShare kw_959 ⟨Nat.le_of_ble_eq_true rfl, Nat.le_of_ble_eq_true rfl⟩ hl.1 rfl (Nat.le_of_ble_eq_true rfl) dX7_spend_2 ⟨Nat.zero_le _, Nat.zero_le _⟩ (fun H locs hw hS => ?_)
  refine lv_iload_n hx hb dX7_spend_5 rfl (lv_at hl 1 rfl) ?_
  refine lv_iload_n hx hb dX7_spend_6 rfl (lv_at hl 2 rfl) ?_
  refine lv_iconst (v := 5) hx hb dX7_spend_7 (by decide) ?_
  obtain ⟨_, h3, hf⟩ := bd_s hf
  obtain ⟨r5, d6, h4, hf⟩ := bd2_s hf
  refine cl_V0 C hw hS (tX7_needMake l A D cy st sz sh d x0 (bI r2) x1 x2 (5 : Int32) h4) cvX7_needMake kw_925 (kc_k h3) ⟨Nat.le_of_ble_eq_true rfl, Nat.le_of_ble_eq_true rfl⟩ hl.1 rfl (Nat.le_of_ble_eq_true rfl) dX7_spend_8 ⟨Nat.zero_le _, Nat.zero_le _⟩ (fun H locs hw hS => ?_)
  refine lv_istore (lv' := [(5, .int r5), (0, .ref x0), (1, .int x1), (2, .int x2), (3, .long x3)]) hx hb dX7_spend_11 hl (by decide) rfl (fun ls hl => ?_)
  refine lv_iload hx hb dX7_spend_13 (lv_at hl 0 rfl) ?_
  refine lv_if_ge (tgt := 21) hx hb dX7_spend_15 (by decide) (fun c_7 => ?_) (fun c_7 => ?_)
  · have hf := if_t c_7 hf
    refine lv_aload_n hx hb dX7_spend_21 rfl (lv_at hl 1 rfl) ?_
    refine lv_iload_n hx hb dX7_spend_22 rfl (lv_at hl 2 rfl) ?_
    refine lv_iload_n hx hb dX7_spend_23 rfl (lv_at hl 3 rfl) ?_
    refine lv_iload_n hx hb dX7_spend_24 rfl (lv_at hl 2 rfl) ?_
    obtain ⟨r9, h8, hf⟩ := bd_s hf
    refine cl_V0 C hw hS (tX7_rightsOf l A D cy st sz sh d6 x0 x1 x2 x1 h8) cvX7_rightsOf kw_983 (kc_k h3) ⟨Nat.le_of_ble_eq_true rfl, Nat.le_of_ble_eq_true rfl⟩ hl.1 rfl (Nat.le_of_ble_eq_true rfl) dX7_spend_25 ⟨Nat.zero_le _, Nat.zero_le _⟩ (fun H locs hw hS => ?_)
    refine lv_lload_n hx hb dX7_spend_28 rfl (lv_at hl 4 rfl) ?_
    refine W.lcmp hx hb dX7_spend_29 ?_
    refine lv_if_ge (tgt := 41) hx hb dX7_spend_30 (by decide) (fun c_10 => ?_) (fun c_10 => ?_)
    · have hf := if_t c_10 hf
      refine lv_aload_n hx hb dX7_spend_41 rfl (lv_at hl 1 rfl) ?_
      refine lv_iload_n hx hb dX7_spend_42 rfl (lv_at hl 2 rfl) ?_
      refine lv_iload_n hx hb dX7_spend_43 rfl (lv_at hl 3 rfl) ?_
      refine lv_iconst (v := 5) hx hb dX7_spend_44 (by decide) ?_
      refine lv_iconst (v := 0) hx hb dX7_spend_45 (by decide) ?_
      refine lv_iconst (v := 0) hx hb dX7_spend_46 (by decide) ?_
      refine lv_lload_n hx hb dX7_spend_47 rfl (lv_at hl 4 rfl) ?_
      obtain ⟨r12, d13, h11, hf⟩ := bd2_s hf
      refine cl_V0 C hw hS (tX7_make l A D cy st sz sh d6 x0 x1 x2 (5 : Int32) (0 : Int32) (0 : Int32) x3 h11) cvX7_make kw_944 (kc_k h3) ⟨Nat.le_of_ble_eq_true rfl, Nat.le_of_ble_eq_true rfl⟩ hl.1 rfl (Nat.le_of_ble_eq_true rfl) dX7_spend_48 ⟨Nat.zero_le _, Nat.zero_le _⟩ (fun H locs hw hS => ?_)
      cases hf
      exact rt_i C hw hS dX7_spend_51
    · have hf := if_f c_10 hf
      refine lv_aload_n hx hb dX7_spend_33 rfl (lv_at hl 1 rfl) ?_
      refine lv_iconst (v := 2) hx hb dX7_spend_34 (by decide) ?_
      obtain ⟨r15, d16, h14, hf⟩ := bd2_s hf
      refine cl_V0 C hw hS (tX7_meets l A D cy st sz sh d6 x0 (2 : Int32) h14) cvX7_meets kw_940 (kc_k h3) ⟨Nat.le_of_ble_eq_true rfl, Nat.le_of_ble_eq_true rfl⟩ hl.1 rfl (Nat.le_of_ble_eq_true rfl) dX7_spend_35 ⟨Nat.zero_le _, Nat.zero_le _⟩ (fun H locs hw hS => ?_)
      refine lv_goto (tgt := 51) hx hb dX7_spend_38 (by decide) ?_
      cases hf
      exact rt_i C hw hS dX7_spend_51
  · have hf := if_f c_7 hf
    refine lv_iload hx hb dX7_spend_18 (lv_at hl 0 rfl) ?_
    cases hf
    exact rt_i C hw hS dX7_spend_20

set_option maxRecDepth 100000 in
set_option maxHeartbeats 4000000 in
theorem tX7_spend (l : Launch) (A : Nat → Prop) (D : va_G) (cy : Nat → ClassId) (st : Nat → Nat) (sz : Nat) (sh : Sh) (d : Dt) (x0 : Nat) (x1 : Int32) (x2 : Int32) (x3 : Int64) {r : Int32} {d9 : Dt} (hf : fX7_spend sh d x0 x1 x2 x3 = some (r, d9)) : Ct l yX7_spend cX7_spend 6 (some .int) 3 75 0 0 A D cy st [.ref x0, .int x1, .int x2, .long x3] sz sh d (some (.int r)) sz sh d9 := ct_of (by decide) (Nat.le_of_ble_eq_true rfl) (fun p e s m args below meth c C hw hS ls hl => wX7_spend_b0 C x0 x1 x2 x3 d hf hw hS hl)
theorem dX7_raise_0 : decode cX7_raise 0 = .ok (.aload_n 0, 1) := by decide +kernel
theorem dX7_raise_1 : decode cX7_raise 1 = .ok (.iconst 1, 1) := by decide +kernel
theorem dX7_raise_2 : decode cX7_raise 2 = .ok (.iload_n 1, 1) := by decide +kernel
theorem dX7_raise_3 : decode cX7_raise 3 = .ok (.iload_n 2, 1) := by decide +kernel
theorem dX7_raise_4 : decode cX7_raise 4 = .ok (.bipush 6, 2) := by decide +kernel
theorem dX7_raise_6 : decode cX7_raise 6 = .ok (.invokevirtual 130, 3) := by decide +kernel
theorem dX7_raise_9 : decode cX7_raise 9 = .ok (.istore 4, 2) := by decide +kernel
theorem dX7_raise_11 : decode cX7_raise 11 = .ok (.iload 4, 2) := by decide +kernel
theorem dX7_raise_13 : decode cX7_raise 13 = .ok (.ifCond .ge 8, 3) := by decide +kernel
theorem dX7_raise_16 : decode cX7_raise 16 = .ok (.iload 4, 2) := by decide +kernel
theorem dX7_raise_18 : decode cX7_raise 18 = .ok (.goto 23, 3) := by decide +kernel
theorem dX7_raise_21 : decode cX7_raise 21 = .ok (.aload_n 0, 1) := by decide +kernel
theorem dX7_raise_22 : decode cX7_raise 22 = .ok (.iload_n 1, 1) := by decide +kernel
theorem dX7_raise_23 : decode cX7_raise 23 = .ok (.iload_n 2, 1) := by decide +kernel
theorem dX7_raise_24 : decode cX7_raise 24 = .ok (.iload_n 3, 1) := by decide +kernel
theorem dX7_raise_25 : decode cX7_raise 25 = .ok (.ifCond .eq 8, 3) := by decide +kernel
theorem dX7_raise_28 : decode cX7_raise 28 = .ok (.bipush 6, 2) := by decide +kernel
theorem dX7_raise_30 : decode cX7_raise 30 = .ok (.goto 5, 3) := by decide +kernel
theorem dX7_raise_33 : decode cX7_raise 33 = .ok (.bipush 7, 2) := by decide +kernel
theorem dX7_raise_35 : decode cX7_raise 35 = .ok (.iconst 0, 1) := by decide +kernel
theorem dX7_raise_36 : decode cX7_raise 36 = .ok (.iconst 0, 1) := by decide +kernel
theorem dX7_raise_37 : decode cX7_raise 37 = .ok (.lconst 0, 1) := by decide +kernel
theorem dX7_raise_38 : decode cX7_raise 38 = .ok (.invokevirtual 134, 3) := by decide +kernel
theorem dX7_raise_41 : decode cX7_raise 41 = .ok (.ireturn, 1) := by decide +kernel
theorem cvX7_raise : CV yX7_raise cX7_raise 5 (some .int) 8 3 := ⟨kw_992, kw_993, kw_6, kw_994, ⟨_, _, rfl⟩, by decide, by decide +kernel, by decide +kernel, by decide +kernel⟩
def fX7_raise_b35 (sh : Sh) (t0 : Nat) (t1 : Int32) (t2 : Int32) (t3 : Int32) (d : Dt) : Option (Int32 × Dt) := bd (kc sh 9 t0) fun _ => bd2 (fX7_make sh d t0 t1 t2 t3 (0 : Int32) (0 : Int32) (0 : Int64)) fun r3 d4 => some (r3, d4)

def fX7_raise_b0 (sh : Sh) (x0 : Nat) (x1 : Int32) (x2 : Int32) (x3 : Int32) (d : Dt) : Option (Int32 × Dt) := bd (kc sh 9 x0) fun _ => bd2 (fX7_needMake sh d x0 (1 : Int32) x1 x2 (6 : Int32)) fun r3 d4 => if 0 ≤ r3 then (if x3 = 0 then (fX7_raise_b35 sh x0 x1 x2 (7 : Int32) d4) else (fX7_raise_b35 sh x0 x1 x2 (6 : Int32) d4)) else (some (r3, d4))

def fX7_raise (sh : Sh) (d : Dt) (x0 : Nat) (x1 : Int32) (x2 : Int32) (x3 : Int32) : Option (Int32 × Dt) := fX7_raise_b0 sh x0 x1 x2 x3 d

set_option maxRecDepth 100000 in
set_option maxHeartbeats 4000000 in
theorem wX7_raise_b35 (C : mx p s m args meth c yX7_raise cX7_raise 5 (some .int) A D cy st) {r : Int32} {d9 : Dt} : ∀ (t0 : Nat) (t1 : Int32) (t2 : Int32) (t3 : Int32) (d : Dt), fX7_raise_b35 sh t0 t1 t2 t3 d = some (r, d9) → ∀ {H : Heap} {locs : List Loc} {ls : Array Slot}, HW A D cy sz sh d H → va_S A s.heap H locs → lv_has ls 5 [] → GL p l e s m args below meth c 3 75 A D cy (some (.int r)) sz sh d9 H locs 35 ls [.int t3, .int t2, .int t1, .ref t0] := by
  have hx := C.1
  have hb := C.2.1
  intro t0 t1 t2 t3 d hf H locs ls hw hS hl
  unfold fX7_raise_b35 at hf
  refine lv_iconst (v := 0) hx hb dX7_raise_35 (by decide) ?_
  refine lv_iconst (v := 0) hx hb dX7_raise_36 (by decide) ?_
  refine lv_lconst (v := 0) hx hb dX7_raise_37 (by decide) ?_
  obtain ⟨_, h1, hf⟩ := bd_s hf
  obtain ⟨r3, d4, h2, hf⟩ := bd2_s hf
  refine cl_V0 C hw hS (tX7_make l A D cy st sz sh d t0 t1 t2 t3 (0 : Int32) (0 : Int32) (0 : Int64) h2) cvX7_make kw_944 (kc_k h1) ⟨Nat.le_of_ble_eq_true rfl, Nat.le_of_ble_eq_true rfl⟩ hl.1 rfl (Nat.le_of_ble_eq_true rfl) dX7_raise_38 ⟨Nat.zero_le _, Nat.zero_le _⟩ (fun H locs hw hS => ?_)
  cases hf
  exact rt_i C hw hS dX7_raise_41

set_option maxRecDepth 100000 in
set_option maxHeartbeats 4000000 in
theorem wX7_raise_b0 (C : mx p s m args meth c yX7_raise cX7_raise 5 (some .int) A D cy st) {r : Int32} {d9 : Dt} : ∀ (x0 : Nat) (x1 : Int32) (x2 : Int32) (x3 : Int32) (d : Dt), fX7_raise_b0 sh x0 x1 x2 x3 d = some (r, d9) → ∀ {H : Heap} {locs : List Loc} {ls : Array Slot}, HW A D cy sz sh d H → va_S A s.heap H locs → lv_has ls 5 [(0, .ref x0), (1, .int x1), (2, .int x2), (3, .int x3)] → GL p l e s m args below meth c 3 75 A D cy (some (.int r)) sz sh d9 H locs 0 ls [] := by
  have hx := C.1
  have hb := C.2.1
  intro x0 x1 x2 x3 d hf H locs ls hw hS hl
  unfold fX7_raise_b0 at hf
  refine lv_aload_n hx hb dX7_raise_0 rfl (lv_at hl 0 rfl) ?_
  refine lv_iconst (v := 1) hx hb dX7_raise_1 (by decide) ?_
  refine lv_iload_n hx hb dX7_raise_2 rfl (lv_at hl 1 rfl) ?_
  refine lv_iload_n hx hb dX7_raise_3 rfl (lv_at hl 2 rfl) ?_
  refine lv_bipush (v := 6) hx hb dX7_raise_4 (by decide) ?_
  obtain ⟨_, h1, hf⟩ := bd_s hf
  obtain ⟨r3, d4, h2, hf⟩ := bd2_s hf
  refine cl_V0 C hw hS (tX7_needMake l A D cy st sz sh d x0 (1 : Int32) x1 x2 (6 : Int32) h2) cvX7_needMake kw_925 (kc_k h1) ⟨Nat.le_of_ble_eq_true rfl, Nat.le_of_ble_eq_true rfl⟩ hl.1 rfl (Nat.le_of_ble_eq_true rfl) dX7_raise_6 ⟨Nat.zero_le _, Nat.zero_le _⟩ (fun H locs hw hS => ?_)
  refine lv_istore (lv' := [(4, .int r3), (0, .ref x0), (1, .int x1), (2, .int x2), (3, .int x3)]) hx hb dX7_raise_9 hl (by decide) rfl (fun ls hl => ?_)
  refine lv_iload hx hb dX7_raise_11 (lv_at hl 0 rfl) ?_
  refine lv_if_ge (tgt := 21) hx hb dX7_raise_13 (by decide) (fun c_5 => ?_) (fun c_5 => ?_)
  · have hf := if_t c_5 hf
    refine lv_aload_n hx hb dX7_raise_21 rfl (lv_at hl 1 rfl) ?_
    refine lv_iload_n hx hb dX7_raise_22 rfl (lv_at hl 2 rfl) ?_
    refine lv_iload_n hx hb dX7_raise_23 rfl (lv_at hl 3 rfl) ?_
    refine lv_iload_n hx hb dX7_raise_24 rfl (lv_at hl 4 rfl) ?_
    refine lv_if_eq (tgt := 33) hx hb dX7_raise_25 (by decide) (fun c_6 => ?_) (fun c_6 => ?_)
    · have hf := if_t c_6 hf
      refine lv_bipush (v := 7) hx hb dX7_raise_33 (by decide) ?_
      exact wX7_raise_b35 C x0 x1 x2 (7 : Int32) d4 hf hw hS (lv_sub hl [] rfl)
    · have hf := if_f c_6 hf
      refine lv_bipush (v := 6) hx hb dX7_raise_28 (by decide) ?_
      refine lv_goto (tgt := 35) hx hb dX7_raise_30 (by decide) ?_
      exact wX7_raise_b35 C x0 x1 x2 (6 : Int32) d4 hf hw hS (lv_sub hl [] rfl)
  · have hf := if_f c_5 hf
    refine lv_iload hx hb dX7_raise_16 (lv_at hl 0 rfl) ?_
    refine lv_goto (tgt := 41) hx hb dX7_raise_18 (by decide) ?_
    cases hf
    exact rt_i C hw hS dX7_raise_41

set_option maxRecDepth 100000 in
set_option maxHeartbeats 4000000 in
theorem tX7_raise (l : Launch) (A : Nat → Prop) (D : va_G) (cy : Nat → ClassId) (st : Nat → Nat) (sz : Nat) (sh : Sh) (d : Dt) (x0 : Nat) (x1 : Int32) (x2 : Int32) (x3 : Int32) {r : Int32} {d9 : Dt} (hf : fX7_raise sh d x0 x1 x2 x3 = some (r, d9)) : Ct l yX7_raise cX7_raise 5 (some .int) 3 75 0 0 A D cy st [.ref x0, .int x1, .int x2, .int x3] sz sh d (some (.int r)) sz sh d9 := ct_of (by decide) (Nat.le_of_ble_eq_true rfl) (fun p e s m args below meth c C hw hS ls hl => wX7_raise_b0 C x0 x1 x2 x3 d hf hw hS hl)
theorem dX7_change_0 : decode cX7_change 0 = .ok (.aload_n 0, 1) := by decide +kernel
theorem dX7_change_1 : decode cX7_change 1 = .ok (.iload_n 1, 1) := by decide +kernel
theorem dX7_change_2 : decode cX7_change 2 = .ok (.invokevirtual 151, 3) := by decide +kernel
theorem dX7_change_5 : decode cX7_change 5 = .ok (.ifCond .eq 12, 3) := by decide +kernel
theorem dX7_change_8 : decode cX7_change 8 = .ok (.iload_n 2, 1) := by decide +kernel
theorem dX7_change_9 : decode cX7_change 9 = .ok (.iconst 0, 1) := by decide +kernel
theorem dX7_change_10 : decode cX7_change 10 = .ok (.iconst 4, 1) := by decide +kernel
theorem dX7_change_11 : decode cX7_change 11 = .ok (.invokestatic 82, 3) := by decide +kernel
theorem dX7_change_14 : decode cX7_change 14 = .ok (.ifCond .ne 5, 3) := by decide +kernel
theorem dX7_change_17 : decode cX7_change 17 = .ok (.iconst (-1), 1) := by decide +kernel
theorem dX7_change_18 : decode cX7_change 18 = .ok (.ireturn, 1) := by decide +kernel
theorem dX7_change_19 : decode cX7_change 19 = .ok (.iload_n 2, 1) := by decide +kernel
theorem dX7_change_20 : decode cX7_change 20 = .ok (.tableswitch 63 0 3 #[32, 39, 46, 53], 32) := by decide +kernel
theorem dX7_change_52 : decode cX7_change 52 = .ok (.aload_n 0, 1) := by decide +kernel
theorem dX7_change_53 : decode cX7_change 53 = .ok (.getfield 30, 3) := by decide +kernel
theorem dX7_change_56 : decode cX7_change 56 = .ok (.iload_n 1, 1) := by decide +kernel
theorem dX7_change_57 : decode cX7_change 57 = .ok (.iaload, 1) := by decide +kernel
theorem dX7_change_58 : decode cX7_change 58 = .ok (.ireturn, 1) := by decide +kernel
theorem dX7_change_59 : decode cX7_change 59 = .ok (.aload_n 0, 1) := by decide +kernel
theorem dX7_change_60 : decode cX7_change 60 = .ok (.getfield 33, 3) := by decide +kernel
theorem dX7_change_63 : decode cX7_change 63 = .ok (.iload_n 1, 1) := by decide +kernel
theorem dX7_change_64 : decode cX7_change 64 = .ok (.iaload, 1) := by decide +kernel
theorem dX7_change_65 : decode cX7_change 65 = .ok (.ireturn, 1) := by decide +kernel
theorem dX7_change_66 : decode cX7_change 66 = .ok (.aload_n 0, 1) := by decide +kernel
theorem dX7_change_67 : decode cX7_change 67 = .ok (.getfield 36, 3) := by decide +kernel
theorem dX7_change_70 : decode cX7_change 70 = .ok (.iload_n 1, 1) := by decide +kernel
theorem dX7_change_71 : decode cX7_change 71 = .ok (.iaload, 1) := by decide +kernel
theorem dX7_change_72 : decode cX7_change 72 = .ok (.ireturn, 1) := by decide +kernel
theorem dX7_change_73 : decode cX7_change 73 = .ok (.aload_n 0, 1) := by decide +kernel
theorem dX7_change_74 : decode cX7_change 74 = .ok (.aload_n 0, 1) := by decide +kernel
theorem dX7_change_75 : decode cX7_change 75 = .ok (.getfield 51, 3) := by decide +kernel
theorem dX7_change_78 : decode cX7_change 78 = .ok (.iload_n 1, 1) := by decide +kernel
theorem dX7_change_79 : decode cX7_change 79 = .ok (.invokevirtual 154, 3) := by decide +kernel
theorem dX7_change_82 : decode cX7_change 82 = .ok (.ireturn, 1) := by decide +kernel
theorem dX7_change_83 : decode cX7_change 83 = .ok (.iconst 1, 1) := by decide +kernel
theorem dX7_change_84 : decode cX7_change 84 = .ok (.istore_n 3, 1) := by decide +kernel
theorem dX7_change_85 : decode cX7_change 85 = .ok (.iconst 0, 1) := by decide +kernel
theorem dX7_change_86 : decode cX7_change 86 = .ok (.istore 4, 2) := by decide +kernel
theorem dX7_change_88 : decode cX7_change 88 = .ok (.iload 4, 2) := by decide +kernel
theorem dX7_change_90 : decode cX7_change 90 = .ok (.aload_n 0, 1) := by decide +kernel
theorem dX7_change_91 : decode cX7_change 91 = .ok (.getfield 95, 3) := by decide +kernel
theorem dX7_change_94 : decode cX7_change 94 = .ok (.if_icmp .ge 32, 3) := by decide +kernel
theorem dX7_change_97 : decode cX7_change 97 = .ok (.iload_n 3, 1) := by decide +kernel
theorem dX7_change_98 : decode cX7_change 98 = .ok (.ifCond .eq 20, 3) := by decide +kernel
theorem dX7_change_101 : decode cX7_change 101 = .ok (.aload_n 0, 1) := by decide +kernel
theorem dX7_change_102 : decode cX7_change 102 = .ok (.getfield 13, 3) := by decide +kernel
theorem dX7_change_105 : decode cX7_change 105 = .ok (.iload 4, 2) := by decide +kernel
theorem dX7_change_107 : decode cX7_change 107 = .ok (.iload_n 1, 1) := by decide +kernel
theorem dX7_change_108 : decode cX7_change 108 = .ok (.invokestatic 91, 3) := by decide +kernel
theorem dX7_change_111 : decode cX7_change 111 = .ok (.ifCond .eq 7, 3) := by decide +kernel
theorem dX7_change_114 : decode cX7_change 114 = .ok (.iconst 1, 1) := by decide +kernel
theorem dX7_change_115 : decode cX7_change 115 = .ok (.goto 4, 3) := by decide +kernel
theorem dX7_change_118 : decode cX7_change 118 = .ok (.iconst 0, 1) := by decide +kernel
theorem dX7_change_119 : decode cX7_change 119 = .ok (.istore_n 3, 1) := by decide +kernel
theorem dX7_change_120 : decode cX7_change 120 = .ok (.iinc 4 1, 3) := by decide +kernel
theorem dX7_change_123 : decode cX7_change 123 = .ok (.goto (-35), 3) := by decide +kernel
theorem dX7_change_126 : decode cX7_change 126 = .ok (.iload_n 3, 1) := by decide +kernel
theorem dX7_change_127 : decode cX7_change 127 = .ok (.ifCond .eq 7, 3) := by decide +kernel
theorem dX7_change_130 : decode cX7_change 130 = .ok (.iconst 1, 1) := by decide +kernel
theorem dX7_change_131 : decode cX7_change 131 = .ok (.goto 4, 3) := by decide +kernel
theorem dX7_change_134 : decode cX7_change 134 = .ok (.iconst 0, 1) := by decide +kernel
theorem dX7_change_135 : decode cX7_change 135 = .ok (.ireturn, 1) := by decide +kernel
theorem cvX7_change : CV yX7_change cX7_change 5 (some .int) 8 2 := ⟨kw_996, kw_997, kw_6, kw_998, ⟨_, _, rfl⟩, by decide, by decide +kernel, by decide +kernel, by decide +kernel⟩
def fX7_change_b88 (sh : Sh) (d : Dt) : Nat → Nat → Int32 → Int32 → Int32 → Option (Int32)
  | 0, _, _, _, _ => none
  | n + 1, x0, x1, x3, x4 => bd (gI sh d 9 290 x0) fun v1 => if v1 ≤ x4 then (if x3 = 0 then (some (0 : Int32)) else (some (1 : Int32))) else (if x3 = 0 then (fX7_change_b88 sh d n x0 x1 (0 : Int32) (x4 + 1)) else (bd (gR sh d 9 291 x0) fun v5 => bd (fX7_isIn sh d v5 x4 x1) fun r7 => if (bI r7) = 0 then (fX7_change_b88 sh d n x0 x1 (0 : Int32) (x4 + 1)) else (fX7_change_b88 sh d n x0 x1 (1 : Int32) (x4 + 1))))

def fX7_change_b0 (sh : Sh) (d : Dt) (x0 : Nat) (x1 : Int32) (x2 : Int32) : Option (Int32) := bd (kc sh 9 x0) fun _ => bd (fX7_isChange sh d x0 x1) fun r3 => if (bI r3) = 0 then (some (-1 : Int32)) else (bd (fX7_in sh d x2 (0 : Int32) (4 : Int32)) fun r6 => if (bI r6) = 0 then (some (-1 : Int32)) else (if x2 = 0 then (bd (gR sh d 9 298 x0) fun v9 => bd v9 fun a10 => bd (aI sh d 20 a10 x1) fun v11 => some v11) else if x2 = 1 then (bd (gR sh d 9 299 x0) fun v13 => bd v13 fun a14 => bd (aI sh d 20 a14 x1) fun v15 => some v15) else if x2 = 2 then (bd (gR sh d 9 300 x0) fun v17 => bd v17 fun a18 => bd (aI sh d 20 a18 x1) fun v19 => some v19) else if x2 = 3 then (bd (gR sh d 9 305 x0) fun v21 => bd (fX7_size sh d x0 v21 x1) fun r23 => some r23) else (fX7_change_b88 sh d fu x0 x1 (1 : Int32) (0 : Int32))))

def fX7_change (sh : Sh) (d : Dt) (x0 : Nat) (x1 : Int32) (x2 : Int32) : Option (Int32) := fX7_change_b0 sh d x0 x1 x2

set_option maxRecDepth 100000 in
set_option maxHeartbeats 4000000 in
theorem wX7_change_b88 (C : mx p s m args meth c yX7_change cX7_change 5 (some .int) A D cy st) {r : Int32} {d : Dt} : ∀ (n : Nat) (x0 : Nat) (x1 : Int32) (x3 : Int32) (x4 : Int32), fX7_change_b88 sh d n x0 x1 x3 x4 = some r → ∀ {H : Heap} {locs : List Loc} {ls : Array Slot}, HW A D cy sz sh d H → va_S A s.heap H locs → lv_has ls 5 [(0, .ref x0), (1, .int x1), (3, .int x3), (4, .int x4)] → GL p l e s m args below meth c 2 46 A D cy (some (.int r)) sz sh d H locs 88 ls [] := by
  have hx := C.1
  have hb := C.2.1
  intro n
  induction n with
  | zero => intro x0 x1 x3 x4 hf; cases hf
  | succ n ih =>
    intro x0 x1 x3 x4 hf H locs ls hw hS hl
    rw [fX7_change_b88] at hf
    refine lv_iload hx hb dX7_change_88 (lv_at hl 3 rfl) ?_
    refine lv_aload_n hx hb dX7_change_90 rfl (lv_at hl 0 rfl) ?_
    obtain ⟨v1, hv1, hf⟩ := bd_s hf
    refine gt_290 C hw hv1 kw_799 dX7_change_91 ?_
    refine lv_icmp_ge (tgt := 126) hx hb dX7_change_94 (by decide) (fun c_2 => ?_) (fun c_2 => ?_)
    · have hf := if_t c_2 hf
      refine lv_iload_n hx hb dX7_change_126 rfl (lv_at hl 2 rfl) ?_
      refine lv_if_eq (tgt := 134) hx hb dX7_change_127 (by decide) (fun c_3 => ?_) (fun c_3 => ?_)
      · have hf := if_t c_3 hf
        refine lv_iconst (v := 0) hx hb dX7_change_134 (by decide) ?_
        cases hf
        exact rt_i C hw hS dX7_change_135
      · have hf := if_f c_3 hf
        refine lv_iconst (v := 1) hx hb dX7_change_130 (by decide) ?_
        refine lv_goto (tgt := 135) hx hb dX7_change_131 (by decide) ?_
        cases hf
        exact rt_i C hw hS dX7_change_135
    · have hf := if_f c_2 hf
      refine lv_iload_n hx hb dX7_change_97 rfl (lv_at hl 2 rfl) ?_
      refine lv_if_eq (tgt := 118) hx hb dX7_change_98 (by decide) (fun c_4 => ?_) (fun c_4 => ?_)
      · have hf := if_t c_4 hf
        refine lv_iconst (v := 0) hx hb dX7_change_118 (by decide) ?_
        refine lv_istore_n (lv' := [(3, .int (0 : Int32)), (0, .ref x0), (1, .int x1), (4, .int x4)]) hx hb dX7_change_119 rfl hl (by decide) rfl (fun ls hl => ?_)
        refine lv_iinc (v := (x4 + 1)) (lv' := [(4, .int (x4 + 1)), (3, .int (0 : Int32)), (0, .ref x0), (1, .int x1)]) hx hb dX7_change_120 hl (k := 3) rfl rfl (by decide) rfl (fun ls hl => ?_)
        refine lv_goto (tgt := 88) hx hb dX7_change_123 (by decide) ?_
        exact ih x0 x1 (0 : Int32) (x4 + 1) hf hw hS (lv_sub hl [2, 3, 1, 0] rfl)
      · have hf := if_f c_4 hf
        refine lv_aload_n hx hb dX7_change_101 rfl (lv_at hl 0 rfl) ?_
        obtain ⟨v5, hv5, hf⟩ := bd_s hf
        refine gt_291 C hw hv5 kw_800 dX7_change_102 ?_
        refine lv_iload hx hb dX7_change_105 (lv_at hl 3 rfl) ?_
        refine lv_iload_n hx hb dX7_change_107 rfl (lv_at hl 1 rfl) ?_
        obtain ⟨r7, h6, hf⟩ := bd_s hf
        refine cl_S0 C hw hS (tX7_isIn l A D cy st sz sh d v5 x4 x1 h6) csX7_isIn kw_933 ⟨Nat.le_of_ble_eq_true rfl, Nat.le_of_ble_eq_true rfl⟩ hl.1 rfl (Nat.le_of_ble_eq_true rfl) dX7_change_108 ⟨Nat.zero_le _, Nat.zero_le _⟩ (fun H locs hw hS => ?_)
        refine lv_if_eq (tgt := 118) hx hb dX7_change_111 (by decide) (fun c_8 => ?_) (fun c_8 => ?_)
        · have hf := if_t c_8 hf
          refine lv_iconst (v := 0) hx hb dX7_change_118 (by decide) ?_
          refine lv_istore_n (lv' := [(3, .int (0 : Int32)), (0, .ref x0), (1, .int x1), (4, .int x4)]) hx hb dX7_change_119 rfl hl (by decide) rfl (fun ls hl => ?_)
          refine lv_iinc (v := (x4 + 1)) (lv' := [(4, .int (x4 + 1)), (3, .int (0 : Int32)), (0, .ref x0), (1, .int x1)]) hx hb dX7_change_120 hl (k := 3) rfl rfl (by decide) rfl (fun ls hl => ?_)
          refine lv_goto (tgt := 88) hx hb dX7_change_123 (by decide) ?_
          exact ih x0 x1 (0 : Int32) (x4 + 1) hf hw hS (lv_sub hl [2, 3, 1, 0] rfl)
        · have hf := if_f c_8 hf
          refine lv_iconst (v := 1) hx hb dX7_change_114 (by decide) ?_
          refine lv_goto (tgt := 119) hx hb dX7_change_115 (by decide) ?_
          refine lv_istore_n (lv' := [(3, .int (1 : Int32)), (0, .ref x0), (1, .int x1), (4, .int x4)]) hx hb dX7_change_119 rfl hl (by decide) rfl (fun ls hl => ?_)
          refine lv_iinc (v := (x4 + 1)) (lv' := [(4, .int (x4 + 1)), (3, .int (1 : Int32)), (0, .ref x0), (1, .int x1)]) hx hb dX7_change_120 hl (k := 3) rfl rfl (by decide) rfl (fun ls hl => ?_)
          refine lv_goto (tgt := 88) hx hb dX7_change_123 (by decide) ?_
          exact ih x0 x1 (1 : Int32) (x4 + 1) hf hw hS (lv_sub hl [2, 3, 1, 0] rfl)

set_option maxRecDepth 100000 in
set_option maxHeartbeats 4000000 in
theorem wX7_change_b0 (C : mx p s m args meth c yX7_change cX7_change 5 (some .int) A D cy st) {r : Int32} {d : Dt} : ∀ (x0 : Nat) (x1 : Int32) (x2 : Int32), fX7_change_b0 sh d x0 x1 x2 = some r → ∀ {H : Heap} {locs : List Loc} {ls : Array Slot}, HW A D cy sz sh d H → va_S A s.heap H locs → lv_has ls 5 [(0, .ref x0), (1, .int x1), (2, .int x2)] → GL p l e s m args below meth c 2 46 A D cy (some (.int r)) sz sh d H locs 0 ls [] := by
  have hx := C.1
  have hb := C.2.1
  intro x0 x1 x2 hf H locs ls hw hS hl
  unfold fX7_change_b0 at hf
  refine lv_aload_n hx hb dX7_change_0 rfl (lv_at hl 0 rfl) ?_
  refine lv_iload_n hx hb dX7_change_1 rfl (lv_at hl 1 rfl) ?_
  obtain ⟨_, h1, hf⟩ := bd_s hf
  obtain ⟨r3, h2, hf⟩ := bd_s hf
  refine cl_V0 C hw hS (tX7_isChange l A D cy st sz sh d x0 x1 h2) cvX7_isChange kw_999 (kc_k h1) ⟨Nat.le_of_ble_eq_true rfl, Nat.le_of_ble_eq_true rfl⟩ hl.1 rfl (Nat.le_of_ble_eq_true rfl) dX7_change_2 ⟨Nat.zero_le _, Nat.zero_le _⟩ (fun H locs hw hS => ?_)
  refine lv_if_eq (tgt := 17) hx hb dX7_change_5 (by decide) (fun c_4 => ?_) (fun c_4 => ?_)
  · have hf := if_t c_4 hf
    refine lv_iconst (v := -1) hx hb dX7_change_17 (by decide) ?_
    cases hf
    exact rt_i C hw hS dX7_change_18
  · have hf := if_f c_4 hf
    refine lv_iload_n hx hb dX7_change_8 rfl (lv_at hl 2 rfl) ?_
    refine lv_iconst (v := 0) hx hb dX7_change_9 (by decide) ?_
    refine lv_iconst (v := 4) hx hb dX7_change_10 (by decide) ?_
    obtain ⟨r6, h5, hf⟩ := bd_s hf
    refine cl_S0 C hw hS (tX7_in l A D cy st sz sh d x2 (0 : Int32) (4 : Int32) h5) csX7_in kw_890 ⟨Nat.le_of_ble_eq_true rfl, Nat.le_of_ble_eq_true rfl⟩ hl.1 rfl (Nat.le_of_ble_eq_true rfl) dX7_change_11 ⟨Nat.zero_le _, Nat.zero_le _⟩ (fun H locs hw hS => ?_)
    refine lv_if_ne (tgt := 19) hx hb dX7_change_14 (by decide) (fun c_7 => ?_) (fun c_7 => ?_)
    · have hf := if_f c_7 hf
      refine lv_iload_n hx hb dX7_change_19 rfl (lv_at hl 2 rfl) ?_
      by_cases c_8 : x2 = 0
      · have hf := if_t c_8 hf
        refine lv_tableIn (tgt := 52) hx hb dX7_change_20 (by rw [c_8]; decide) (by rw [c_8]; decide) (by rw [c_8]; rfl) (by decide) ?_
        refine lv_aload_n hx hb dX7_change_52 rfl (lv_at hl 0 rfl) ?_
        obtain ⟨v9, hv9, hf⟩ := bd_s hf
        refine gt_298 C hw hv9 kw_807 dX7_change_53 ?_
        refine lv_iload_n hx hb dX7_change_56 rfl (lv_at hl 1 rfl) ?_
        obtain ⟨a10, ea10, hg⟩ := bd_s hf
        clear hf
        subst ea10
        have hf := hg
        clear hg
        obtain ⟨v11, hv11, hf⟩ := bd_s hf
        refine w_iald C hw hv11 dX7_change_57 ?_
        cases hf
        exact rt_i C hw hS dX7_change_58
      have hf := if_f c_8 hf
      by_cases c_12 : x2 = 1
      · have hf := if_t c_12 hf
        refine lv_tableIn (tgt := 59) hx hb dX7_change_20 (by rw [c_12]; decide) (by rw [c_12]; decide) (by rw [c_12]; rfl) (by decide) ?_
        refine lv_aload_n hx hb dX7_change_59 rfl (lv_at hl 0 rfl) ?_
        obtain ⟨v13, hv13, hf⟩ := bd_s hf
        refine gt_299 C hw hv13 kw_808 dX7_change_60 ?_
        refine lv_iload_n hx hb dX7_change_63 rfl (lv_at hl 1 rfl) ?_
        obtain ⟨a14, ea14, hg⟩ := bd_s hf
        clear hf
        subst ea14
        have hf := hg
        clear hg
        obtain ⟨v15, hv15, hf⟩ := bd_s hf
        refine w_iald C hw hv15 dX7_change_64 ?_
        cases hf
        exact rt_i C hw hS dX7_change_65
      have hf := if_f c_12 hf
      by_cases c_16 : x2 = 2
      · have hf := if_t c_16 hf
        refine lv_tableIn (tgt := 66) hx hb dX7_change_20 (by rw [c_16]; decide) (by rw [c_16]; decide) (by rw [c_16]; rfl) (by decide) ?_
        refine lv_aload_n hx hb dX7_change_66 rfl (lv_at hl 0 rfl) ?_
        obtain ⟨v17, hv17, hf⟩ := bd_s hf
        refine gt_300 C hw hv17 kw_809 dX7_change_67 ?_
        refine lv_iload_n hx hb dX7_change_70 rfl (lv_at hl 1 rfl) ?_
        obtain ⟨a18, ea18, hg⟩ := bd_s hf
        clear hf
        subst ea18
        have hf := hg
        clear hg
        obtain ⟨v19, hv19, hf⟩ := bd_s hf
        refine w_iald C hw hv19 dX7_change_71 ?_
        cases hf
        exact rt_i C hw hS dX7_change_72
      have hf := if_f c_16 hf
      by_cases c_20 : x2 = 3
      · have hf := if_t c_20 hf
        refine lv_tableIn (tgt := 73) hx hb dX7_change_20 (by rw [c_20]; decide) (by rw [c_20]; decide) (by rw [c_20]; rfl) (by decide) ?_
        refine lv_aload_n hx hb dX7_change_73 rfl (lv_at hl 0 rfl) ?_
        refine lv_aload_n hx hb dX7_change_74 rfl (lv_at hl 0 rfl) ?_
        obtain ⟨v21, hv21, hf⟩ := bd_s hf
        refine gt_305 C hw hv21 kw_814 dX7_change_75 ?_
        refine lv_iload_n hx hb dX7_change_78 rfl (lv_at hl 1 rfl) ?_
        obtain ⟨r23, h22, hf⟩ := bd_s hf
        refine cl_V0 C hw hS (tX7_size l A D cy st sz sh d x0 v21 x1 h22) cvX7_size kw_1003 (gR_s hv21).1 ⟨Nat.le_of_ble_eq_true rfl, Nat.le_of_ble_eq_true rfl⟩ hl.1 rfl (Nat.le_of_ble_eq_true rfl) dX7_change_79 ⟨Nat.zero_le _, Nat.zero_le _⟩ (fun H locs hw hS => ?_)
        cases hf
        exact rt_i C hw hS dX7_change_82
      have hf := if_f c_20 hf
      refine lv_tableOut (tgt := 83) hx hb dX7_change_20 (by have z0 := lv_neT (a := 0) c_8 (by decide); have z1 := lv_neT (a := 1) c_12 (by decide); have z2 := lv_neT (a := 2) c_16 (by decide); have z3 := lv_neT (a := 3) c_20 (by decide); omega) (by decide) ?_
      refine lv_iconst (v := 1) hx hb dX7_change_83 (by decide) ?_
      refine lv_istore_n (lv' := [(3, .int (1 : Int32)), (0, .ref x0), (1, .int x1), (2, .int x2)]) hx hb dX7_change_84 rfl hl (by decide) rfl (fun ls hl => ?_)
      refine lv_iconst (v := 0) hx hb dX7_change_85 (by decide) ?_
      refine lv_istore (lv' := [(4, .int (0 : Int32)), (3, .int (1 : Int32)), (0, .ref x0), (1, .int x1), (2, .int x2)]) hx hb dX7_change_86 hl (by decide) rfl (fun ls hl => ?_)
      exact wX7_change_b88 C fu x0 x1 (1 : Int32) (0 : Int32) hf hw hS (lv_sub hl [2, 3, 1, 0] rfl)
    · have hf := if_t c_7 hf
      refine lv_iconst (v := -1) hx hb dX7_change_17 (by decide) ?_
      cases hf
      exact rt_i C hw hS dX7_change_18

set_option maxRecDepth 100000 in
set_option maxHeartbeats 4000000 in
theorem tX7_change (l : Launch) (A : Nat → Prop) (D : va_G) (cy : Nat → ClassId) (st : Nat → Nat) (sz : Nat) (sh : Sh) (d : Dt) (x0 : Nat) (x1 : Int32) (x2 : Int32) {r : Int32} (hf : fX7_change sh d x0 x1 x2 = some r) : Ct l yX7_change cX7_change 5 (some .int) 2 46 0 0 A D cy st [.ref x0, .int x1, .int x2] sz sh d (some (.int r)) sz sh d := ct_of (by decide) (Nat.le_of_ble_eq_true rfl) (fun p e s m args below meth c C hw hS ls hl => wX7_change_b0 C x0 x1 x2 hf hw hS hl)
theorem dX7_knows_0 : decode cX7_knows 0 = .ok (.aload_n 0, 1) := by decide +kernel
theorem dX7_knows_1 : decode cX7_knows 1 = .ok (.iload_n 1, 1) := by decide +kernel
theorem dX7_knows_2 : decode cX7_knows 2 = .ok (.invokevirtual 151, 3) := by decide +kernel
theorem dX7_knows_5 : decode cX7_knows 5 = .ok (.ifCond .eq 11, 3) := by decide +kernel
theorem dX7_knows_8 : decode cX7_knows 8 = .ok (.aload_n 0, 1) := by decide +kernel
theorem dX7_knows_9 : decode cX7_knows 9 = .ok (.iload_n 2, 1) := by decide +kernel
theorem dX7_knows_10 : decode cX7_knows 10 = .ok (.invokevirtual 151, 3) := by decide +kernel
theorem dX7_knows_13 : decode cX7_knows 13 = .ok (.ifCond .ne 7, 3) := by decide +kernel
theorem dX7_knows_16 : decode cX7_knows 16 = .ok (.iconst (-1), 1) := by decide +kernel
theorem dX7_knows_17 : decode cX7_knows 17 = .ok (.goto 20, 3) := by decide +kernel
theorem dX7_knows_20 : decode cX7_knows 20 = .ok (.aload_n 0, 1) := by decide +kernel
theorem dX7_knows_21 : decode cX7_knows 21 = .ok (.getfield 51, 3) := by decide +kernel
theorem dX7_knows_24 : decode cX7_knows 24 = .ok (.iload_n 1, 1) := by decide +kernel
theorem dX7_knows_25 : decode cX7_knows 25 = .ok (.iload_n 2, 1) := by decide +kernel
theorem dX7_knows_26 : decode cX7_knows 26 = .ok (.invokestatic 91, 3) := by decide +kernel
theorem dX7_knows_29 : decode cX7_knows 29 = .ok (.ifCond .eq 7, 3) := by decide +kernel
theorem dX7_knows_32 : decode cX7_knows 32 = .ok (.iconst 1, 1) := by decide +kernel
theorem dX7_knows_33 : decode cX7_knows 33 = .ok (.goto 4, 3) := by decide +kernel
theorem dX7_knows_36 : decode cX7_knows 36 = .ok (.iconst 0, 1) := by decide +kernel
theorem dX7_knows_37 : decode cX7_knows 37 = .ok (.ireturn, 1) := by decide +kernel
theorem cvX7_knows : CV yX7_knows cX7_knows 3 (some .int) 8 2 := ⟨kw_1008, kw_1009, kw_6, kw_1010, ⟨_, _, rfl⟩, by decide, by decide +kernel, by decide +kernel, by decide +kernel⟩
def fX7_knows_b0 (sh : Sh) (d : Dt) (x0 : Nat) (x1 : Int32) (x2 : Int32) : Option (Int32) := bd (kc sh 9 x0) fun _ => bd (fX7_isChange sh d x0 x1) fun r3 => if (bI r3) = 0 then (some (-1 : Int32)) else (bd (fX7_isChange sh d x0 x2) fun r6 => if (bI r6) = 0 then (some (-1 : Int32)) else (bd (gR sh d 9 305 x0) fun v8 => bd (fX7_isIn sh d v8 x1 x2) fun r10 => if (bI r10) = 0 then (some (0 : Int32)) else (some (1 : Int32))))

def fX7_knows (sh : Sh) (d : Dt) (x0 : Nat) (x1 : Int32) (x2 : Int32) : Option (Int32) := fX7_knows_b0 sh d x0 x1 x2

set_option maxRecDepth 100000 in
set_option maxHeartbeats 4000000 in
theorem wX7_knows_b0 (C : mx p s m args meth c yX7_knows cX7_knows 3 (some .int) A D cy st) {r : Int32} {d : Dt} : ∀ (x0 : Nat) (x1 : Int32) (x2 : Int32), fX7_knows_b0 sh d x0 x1 x2 = some r → ∀ {H : Heap} {locs : List Loc} {ls : Array Slot}, HW A D cy sz sh d H → va_S A s.heap H locs → lv_has ls 3 [(0, .ref x0), (1, .int x1), (2, .int x2)] → GL p l e s m args below meth c 2 43 A D cy (some (.int r)) sz sh d H locs 0 ls [] := by
  have hx := C.1
  have hb := C.2.1
  intro x0 x1 x2 hf H locs ls hw hS hl
  unfold fX7_knows_b0 at hf
  refine lv_aload_n hx hb dX7_knows_0 rfl (lv_at hl 0 rfl) ?_
  refine lv_iload_n hx hb dX7_knows_1 rfl (lv_at hl 1 rfl) ?_
  obtain ⟨_, h1, hf⟩ := bd_s hf
  obtain ⟨r3, h2, hf⟩ := bd_s hf
  refine cl_V0 C hw hS (tX7_isChange l A D cy st sz sh d x0 x1 h2) cvX7_isChange kw_999 (kc_k h1) ⟨Nat.le_of_ble_eq_true rfl, Nat.le_of_ble_eq_true rfl⟩ hl.1 rfl (Nat.le_of_ble_eq_true rfl) dX7_knows_2 ⟨Nat.zero_le _, Nat.zero_le _⟩ (fun H locs hw hS => ?_)
  refine lv_if_eq (tgt := 16) hx hb dX7_knows_5 (by decide) (fun c_4 => ?_) (fun c_4 => ?_)
  · have hf := if_t c_4 hf
    refine lv_iconst (v := -1) hx hb dX7_knows_16 (by decide) ?_
    refine lv_goto (tgt := 37) hx hb dX7_knows_17 (by decide) ?_
    cases hf
    exact rt_i C hw hS dX7_knows_37
  · have hf := if_f c_4 hf
    refine lv_aload_n hx hb dX7_knows_8 rfl (lv_at hl 0 rfl) ?_
    refine lv_iload_n hx hb dX7_knows_9 rfl (lv_at hl 2 rfl) ?_
    obtain ⟨r6, h5, hf⟩ := bd_s hf
    refine cl_V0 C hw hS (tX7_isChange l A D cy st sz sh d x0 x2 h5) cvX7_isChange kw_999 (kc_k h1) ⟨Nat.le_of_ble_eq_true rfl, Nat.le_of_ble_eq_true rfl⟩ hl.1 rfl (Nat.le_of_ble_eq_true rfl) dX7_knows_10 ⟨Nat.zero_le _, Nat.zero_le _⟩ (fun H locs hw hS => ?_)
    refine lv_if_ne (tgt := 20) hx hb dX7_knows_13 (by decide) (fun c_7 => ?_) (fun c_7 => ?_)
    · have hf := if_f c_7 hf
      refine lv_aload_n hx hb dX7_knows_20 rfl (lv_at hl 0 rfl) ?_
      obtain ⟨v8, hv8, hf⟩ := bd_s hf
      refine gt_305 C hw hv8 kw_814 dX7_knows_21 ?_
      refine lv_iload_n hx hb dX7_knows_24 rfl (lv_at hl 1 rfl) ?_
      refine lv_iload_n hx hb dX7_knows_25 rfl (lv_at hl 2 rfl) ?_
      obtain ⟨r10, h9, hf⟩ := bd_s hf
      refine cl_S0 C hw hS (tX7_isIn l A D cy st sz sh d v8 x1 x2 h9) csX7_isIn kw_933 ⟨Nat.le_of_ble_eq_true rfl, Nat.le_of_ble_eq_true rfl⟩ hl.1 rfl (Nat.le_of_ble_eq_true rfl) dX7_knows_26 ⟨Nat.zero_le _, Nat.zero_le _⟩ (fun H locs hw hS => ?_)
      refine lv_if_eq (tgt := 36) hx hb dX7_knows_29 (by decide) (fun c_11 => ?_) (fun c_11 => ?_)
      · have hf := if_t c_11 hf
        refine lv_iconst (v := 0) hx hb dX7_knows_36 (by decide) ?_
        cases hf
        exact rt_i C hw hS dX7_knows_37
      · have hf := if_f c_11 hf
        refine lv_iconst (v := 1) hx hb dX7_knows_32 (by decide) ?_
        refine lv_goto (tgt := 37) hx hb dX7_knows_33 (by decide) ?_
        cases hf
        exact rt_i C hw hS dX7_knows_37
    · have hf := if_t c_7 hf
      refine lv_iconst (v := -1) hx hb dX7_knows_16 (by decide) ?_
      refine lv_goto (tgt := 37) hx hb dX7_knows_17 (by decide) ?_
      cases hf
      exact rt_i C hw hS dX7_knows_37

set_option maxRecDepth 100000 in
set_option maxHeartbeats 4000000 in
theorem tX7_knows (l : Launch) (A : Nat → Prop) (D : va_G) (cy : Nat → ClassId) (st : Nat → Nat) (sz : Nat) (sh : Sh) (d : Dt) (x0 : Nat) (x1 : Int32) (x2 : Int32) {r : Int32} (hf : fX7_knows sh d x0 x1 x2 = some r) : Ct l yX7_knows cX7_knows 3 (some .int) 2 43 0 0 A D cy st [.ref x0, .int x1, .int x2] sz sh d (some (.int r)) sz sh d := ct_of (by decide) (Nat.le_of_ble_eq_true rfl) (fun p e s m args below meth c C hw hS ls hl => wX7_knows_b0 C x0 x1 x2 hf hw hS hl)
theorem dX7_isReady_0 : decode cX7_isReady 0 = .ok (.aload_n 0, 1) := by decide +kernel
theorem dX7_isReady_1 : decode cX7_isReady 1 = .ok (.getfield 51, 3) := by decide +kernel
theorem dX7_isReady_4 : decode cX7_isReady 4 = .ok (.iload_n 2, 1) := by decide +kernel
theorem dX7_isReady_5 : decode cX7_isReady 5 = .ok (.aload_n 0, 1) := by decide +kernel
theorem dX7_isReady_6 : decode cX7_isReady 6 = .ok (.getfield 13, 3) := by decide +kernel
theorem dX7_isReady_9 : decode cX7_isReady 9 = .ok (.iload_n 1, 1) := by decide +kernel
theorem dX7_isReady_10 : decode cX7_isReady 10 = .ok (.invokestatic 158, 3) := by decide +kernel
theorem dX7_isReady_13 : decode cX7_isReady 13 = .ok (.ireturn, 1) := by decide +kernel
theorem cvX7_isReady : CV yX7_isReady cX7_isReady 3 (some .boolean) 8 2 := ⟨kw_1017, ks_36, kw_6, kw_1018, ⟨_, _, rfl⟩, by decide, by decide +kernel, by decide +kernel, by decide +kernel⟩
def fX7_isReady_b0 (sh : Sh) (d : Dt) (x0 : Nat) (x1 : Int32) (x2 : Int32) : Option (Bool) := bd (gR sh d 9 305 x0) fun v1 => bd (gR sh d 9 291 x0) fun v2 => bd (fX7_isWithin sh d v1 x2 v2 x1) fun r4 => some r4

def fX7_isReady (sh : Sh) (d : Dt) (x0 : Nat) (x1 : Int32) (x2 : Int32) : Option (Bool) := fX7_isReady_b0 sh d x0 x1 x2

set_option maxRecDepth 100000 in
set_option maxHeartbeats 4000000 in
theorem wX7_isReady_b0 (C : mx p s m args meth c yX7_isReady cX7_isReady 3 (some .boolean) A D cy st) {r : Bool} {d : Dt} : ∀ (x0 : Nat) (x1 : Int32) (x2 : Int32), fX7_isReady_b0 sh d x0 x1 x2 = some r → ∀ {H : Heap} {locs : List Loc} {ls : Array Slot}, HW A D cy sz sh d H → va_S A s.heap H locs → lv_has ls 3 [(0, .ref x0), (1, .int x1), (2, .int x2)] → GL p l e s m args below meth c 1 25 A D cy (some (.int (bI r))) sz sh d H locs 0 ls [] := by
  have hx := C.1
  have hb := C.2.1
  intro x0 x1 x2 hf H locs ls hw hS hl
  unfold fX7_isReady_b0 at hf
  refine lv_aload_n hx hb dX7_isReady_0 rfl (lv_at hl 0 rfl) ?_
  obtain ⟨v1, hv1, hf⟩ := bd_s hf
  refine gt_305 C hw hv1 kw_814 dX7_isReady_1 ?_
  refine lv_iload_n hx hb dX7_isReady_4 rfl (lv_at hl 2 rfl) ?_
  refine lv_aload_n hx hb dX7_isReady_5 rfl (lv_at hl 0 rfl) ?_
  obtain ⟨v2, hv2, hf⟩ := bd_s hf
  refine gt_291 C hw hv2 kw_800 dX7_isReady_6 ?_
  refine lv_iload_n hx hb dX7_isReady_9 rfl (lv_at hl 1 rfl) ?_
  obtain ⟨r4, h3, hf⟩ := bd_s hf
  refine cl_S0 C hw hS (tX7_isWithin l A D cy st sz sh d v1 x2 v2 x1 h3) csX7_isWithin kw_1019 ⟨Nat.le_of_ble_eq_true rfl, Nat.le_of_ble_eq_true rfl⟩ hl.1 rfl (Nat.le_of_ble_eq_true rfl) dX7_isReady_10 ⟨Nat.zero_le _, Nat.zero_le _⟩ (fun H locs hw hS => ?_)
  cases hf
  exact rt_z C hw hS _ rfl dX7_isReady_13

set_option maxRecDepth 100000 in
set_option maxHeartbeats 4000000 in
theorem tX7_isReady (l : Launch) (A : Nat → Prop) (D : va_G) (cy : Nat → ClassId) (st : Nat → Nat) (sz : Nat) (sh : Sh) (d : Dt) (x0 : Nat) (x1 : Int32) (x2 : Int32) {r : Bool} (hf : fX7_isReady sh d x0 x1 x2 = some r) : Ct l yX7_isReady cX7_isReady 3 (some .boolean) 1 25 0 0 A D cy st [.ref x0, .int x1, .int x2] sz sh d (some (.int (bI r))) sz sh d := ct_of (by decide) (Nat.le_of_ble_eq_true rfl) (fun p e s m args below meth c C hw hS ls hl => wX7_isReady_b0 C x0 x1 x2 hf hw hS hl)
theorem dX7_nextReady_0 : decode cX7_nextReady 0 = .ok (.bipush (-9), 2) := by decide +kernel
theorem dX7_nextReady_2 : decode cX7_nextReady 2 = .ok (.istore_n 2, 1) := by decide +kernel
theorem dX7_nextReady_3 : decode cX7_nextReady 3 = .ok (.iconst 0, 1) := by decide +kernel
theorem dX7_nextReady_4 : decode cX7_nextReady 4 = .ok (.istore_n 3, 1) := by decide +kernel
theorem dX7_nextReady_5 : decode cX7_nextReady 5 = .ok (.iload_n 3, 1) := by decide +kernel
theorem dX7_nextReady_6 : decode cX7_nextReady 6 = .ok (.aload_n 0, 1) := by decide +kernel
theorem dX7_nextReady_7 : decode cX7_nextReady 7 = .ok (.getfield 88, 3) := by decide +kernel
theorem dX7_nextReady_10 : decode cX7_nextReady 10 = .ok (.if_icmp .ge 63, 3) := by decide +kernel
theorem dX7_nextReady_13 : decode cX7_nextReady 13 = .ok (.aload_n 0, 1) := by decide +kernel
theorem dX7_nextReady_14 : decode cX7_nextReady 14 = .ok (.getfield 17, 3) := by decide +kernel
theorem dX7_nextReady_17 : decode cX7_nextReady 17 = .ok (.iload_n 1, 1) := by decide +kernel
theorem dX7_nextReady_18 : decode cX7_nextReady 18 = .ok (.iload_n 3, 1) := by decide +kernel
theorem dX7_nextReady_19 : decode cX7_nextReady 19 = .ok (.invokestatic 91, 3) := by decide +kernel
theorem dX7_nextReady_22 : decode cX7_nextReady 22 = .ok (.ifCond .eq 16, 3) := by decide +kernel
theorem dX7_nextReady_25 : decode cX7_nextReady 25 = .ok (.aload_n 0, 1) := by decide +kernel
theorem dX7_nextReady_26 : decode cX7_nextReady 26 = .ok (.iload_n 1, 1) := by decide +kernel
theorem dX7_nextReady_27 : decode cX7_nextReady 27 = .ok (.iload_n 3, 1) := by decide +kernel
theorem dX7_nextReady_28 : decode cX7_nextReady 28 = .ok (.invokevirtual 162, 3) := by decide +kernel
theorem dX7_nextReady_31 : decode cX7_nextReady 31 = .ok (.ifCond .eq 7, 3) := by decide +kernel
theorem dX7_nextReady_34 : decode cX7_nextReady 34 = .ok (.iconst 1, 1) := by decide +kernel
theorem dX7_nextReady_35 : decode cX7_nextReady 35 = .ok (.goto 4, 3) := by decide +kernel
theorem dX7_nextReady_38 : decode cX7_nextReady 38 = .ok (.iconst 0, 1) := by decide +kernel
theorem dX7_nextReady_39 : decode cX7_nextReady 39 = .ok (.istore 4, 2) := by decide +kernel
theorem dX7_nextReady_41 : decode cX7_nextReady 41 = .ok (.iload 4, 2) := by decide +kernel
theorem dX7_nextReady_43 : decode cX7_nextReady 43 = .ok (.ifCond .eq 22, 3) := by decide +kernel
theorem dX7_nextReady_46 : decode cX7_nextReady 46 = .ok (.iload_n 2, 1) := by decide +kernel
theorem dX7_nextReady_47 : decode cX7_nextReady 47 = .ok (.bipush (-9), 2) := by decide +kernel
theorem dX7_nextReady_49 : decode cX7_nextReady 49 = .ok (.if_icmp .eq 12, 3) := by decide +kernel
theorem dX7_nextReady_52 : decode cX7_nextReady 52 = .ok (.aload_n 0, 1) := by decide +kernel
theorem dX7_nextReady_53 : decode cX7_nextReady 53 = .ok (.iload_n 2, 1) := by decide +kernel
theorem dX7_nextReady_54 : decode cX7_nextReady 54 = .ok (.iload_n 3, 1) := by decide +kernel
theorem dX7_nextReady_55 : decode cX7_nextReady 55 = .ok (.invokevirtual 165, 3) := by decide +kernel
theorem dX7_nextReady_58 : decode cX7_nextReady 58 = .ok (.ifCond .eq 7, 3) := by decide +kernel
theorem dX7_nextReady_61 : decode cX7_nextReady 61 = .ok (.iload_n 3, 1) := by decide +kernel
theorem dX7_nextReady_62 : decode cX7_nextReady 62 = .ok (.goto 4, 3) := by decide +kernel
theorem dX7_nextReady_65 : decode cX7_nextReady 65 = .ok (.iload_n 2, 1) := by decide +kernel
theorem dX7_nextReady_66 : decode cX7_nextReady 66 = .ok (.istore_n 2, 1) := by decide +kernel
theorem dX7_nextReady_67 : decode cX7_nextReady 67 = .ok (.iinc 3 1, 3) := by decide +kernel
theorem dX7_nextReady_70 : decode cX7_nextReady 70 = .ok (.goto (-65), 3) := by decide +kernel
theorem dX7_nextReady_73 : decode cX7_nextReady 73 = .ok (.iload_n 2, 1) := by decide +kernel
theorem dX7_nextReady_74 : decode cX7_nextReady 74 = .ok (.ireturn, 1) := by decide +kernel
theorem cvX7_nextReady : CV yX7_nextReady cX7_nextReady 5 (some .int) 8 1 := ⟨kw_1032, ks_38, kw_6, kw_1033, ⟨_, _, rfl⟩, by decide, by decide +kernel, by decide +kernel, by decide +kernel⟩
def fX7_nextReady_b39 (sh : Sh) (d : Dt) (k5 : Nat → Int32 → Int32 → Int32 → Option (Int32)) (x0 : Nat) (x1 : Int32) (x2 : Int32) (x3 : Int32) (t0 : Int32) : Option (Int32) := if t0 = 0 then (k5 x0 x1 x2 (x3 + 1)) else (if x2 = (-9 : Int32) then (k5 x0 x1 x3 (x3 + 1)) else (bd (kc sh 9 x0) fun _ => bd (fX7_isAfter sh d x0 x2 x3) fun r5 => if (bI r5) = 0 then (k5 x0 x1 x2 (x3 + 1)) else (k5 x0 x1 x3 (x3 + 1))))

def fX7_nextReady_b5 (sh : Sh) (d : Dt) : Nat → Nat → Int32 → Int32 → Int32 → Option (Int32)
  | 0, _, _, _, _ => none
  | n + 1, x0, x1, x2, x3 => bd (gI sh d 9 297 x0) fun v1 => if v1 ≤ x3 then (some x2) else (bd (gR sh d 9 292 x0) fun v3 => bd (fX7_isIn sh d v3 x1 x3) fun r5 => if (bI r5) = 0 then (fX7_nextReady_b39 sh d (fX7_nextReady_b5 sh d n) x0 x1 x2 x3 (0 : Int32)) else (bd (fX7_isReady sh d x0 x1 x3) fun r8 => if (bI r8) = 0 then (fX7_nextReady_b39 sh d (fX7_nextReady_b5 sh d n) x0 x1 x2 x3 (0 : Int32)) else (fX7_nextReady_b39 sh d (fX7_nextReady_b5 sh d n) x0 x1 x2 x3 (1 : Int32))))

def fX7_nextReady_b0 (sh : Sh) (d : Dt) (x0 : Nat) (x1 : Int32) : Option (Int32) := fX7_nextReady_b5 sh d fu x0 x1 (-9 : Int32) (0 : Int32)

def fX7_nextReady (sh : Sh) (d : Dt) (x0 : Nat) (x1 : Int32) : Option (Int32) := fX7_nextReady_b0 sh d x0 x1

set_option maxRecDepth 100000 in
set_option maxHeartbeats 4000000 in
theorem wX7_nextReady_b39 (C : mx p s m args meth c yX7_nextReady cX7_nextReady 5 (some .int) A D cy st) {k5 : Nat → Int32 → Int32 → Int32 → Option (Int32)} {r : Int32} {d : Dt} (Hk5 : ∀ (x0 : Nat) (x1 : Int32) (x2 : Int32) (x3 : Int32), k5 x0 x1 x2 x3 = some r → ∀ {H : Heap} {locs : List Loc} {ls : Array Slot}, HW A D cy sz sh d H → va_S A s.heap H locs → lv_has ls 5 [(0, .ref x0), (1, .int x1), (2, .int x2), (3, .int x3)] → GL p l e s m args below meth c 2 47 A D cy (some (.int r)) sz sh d H locs 5 ls []) : ∀ (x0 : Nat) (x1 : Int32) (x2 : Int32) (x3 : Int32) (t0 : Int32), fX7_nextReady_b39 sh d k5 x0 x1 x2 x3 t0 = some r → ∀ {H : Heap} {locs : List Loc} {ls : Array Slot}, HW A D cy sz sh d H → va_S A s.heap H locs → lv_has ls 5 [(0, .ref x0), (1, .int x1), (2, .int x2), (3, .int x3)] → GL p l e s m args below meth c 2 47 A D cy (some (.int r)) sz sh d H locs 39 ls [.int t0] := by
  have hx := C.1
  have hb := C.2.1
  intro x0 x1 x2 x3 t0 hf H locs ls hw hS hl
  unfold fX7_nextReady_b39 at hf
  refine lv_istore (lv' := [(4, .int t0), (0, .ref x0), (1, .int x1), (2, .int x2), (3, .int x3)]) hx hb dX7_nextReady_39 hl (by decide) rfl (fun ls hl => ?_)
  refine lv_iload hx hb dX7_nextReady_41 (lv_at hl 0 rfl) ?_
  refine lv_if_eq (tgt := 65) hx hb dX7_nextReady_43 (by decide) (fun c_1 => ?_) (fun c_1 => ?_)
  · have hf := if_t c_1 hf
    refine lv_iload_n hx hb dX7_nextReady_65 rfl (lv_at hl 3 rfl) ?_
    refine lv_istore_n (lv' := [(2, .int x2), (4, .int t0), (0, .ref x0), (1, .int x1), (3, .int x3)]) hx hb dX7_nextReady_66 rfl hl (by decide) rfl (fun ls hl => ?_)
    refine lv_iinc (v := (x3 + 1)) (lv' := [(3, .int (x3 + 1)), (2, .int x2), (4, .int t0), (0, .ref x0), (1, .int x1)]) hx hb dX7_nextReady_67 hl (k := 4) rfl rfl (by decide) rfl (fun ls hl => ?_)
    refine lv_goto (tgt := 5) hx hb dX7_nextReady_70 (by decide) ?_
    exact Hk5 x0 x1 x2 (x3 + 1) hf hw hS (lv_sub hl [3, 4, 1, 0] rfl)
  · have hf := if_f c_1 hf
    refine lv_iload_n hx hb dX7_nextReady_46 rfl (lv_at hl 3 rfl) ?_
    refine lv_bipush (v := -9) hx hb dX7_nextReady_47 (by decide) ?_
    refine lv_icmp_eq (tgt := 61) hx hb dX7_nextReady_49 (by decide) (fun c_2 => ?_) (fun c_2 => ?_)
    · have hf := if_t c_2 hf
      refine lv_iload_n hx hb dX7_nextReady_61 rfl (lv_at hl 4 rfl) ?_
      refine lv_goto (tgt := 66) hx hb dX7_nextReady_62 (by decide) ?_
      refine lv_istore_n (lv' := [(2, .int x3), (4, .int t0), (0, .ref x0), (1, .int x1), (3, .int x3)]) hx hb dX7_nextReady_66 rfl hl (by decide) rfl (fun ls hl => ?_)
      refine lv_iinc (v := (x3 + 1)) (lv' := [(3, .int (x3 + 1)), (2, .int x3), (4, .int t0), (0, .ref x0), (1, .int x1)]) hx hb dX7_nextReady_67 hl (k := 4) rfl rfl (by decide) rfl (fun ls hl => ?_)
      refine lv_goto (tgt := 5) hx hb dX7_nextReady_70 (by decide) ?_
      exact Hk5 x0 x1 x3 (x3 + 1) hf hw hS (lv_sub hl [3, 4, 1, 0] rfl)
    · have hf := if_f c_2 hf
      refine lv_aload_n hx hb dX7_nextReady_52 rfl (lv_at hl 1 rfl) ?_
      refine lv_iload_n hx hb dX7_nextReady_53 rfl (lv_at hl 3 rfl) ?_
      refine lv_iload_n hx hb dX7_nextReady_54 rfl (lv_at hl 4 rfl) ?_
      obtain ⟨_, h3, hf⟩ := bd_s hf
      obtain ⟨r5, h4, hf⟩ := bd_s hf
      refine cl_V0 C hw hS (tX7_isAfter l A D cy st sz sh d x0 x2 x3 h4) cvX7_isAfter kw_1034 (kc_k h3) ⟨Nat.le_of_ble_eq_true rfl, Nat.le_of_ble_eq_true rfl⟩ hl.1 rfl (Nat.le_of_ble_eq_true rfl) dX7_nextReady_55 ⟨Nat.zero_le _, Nat.zero_le _⟩ (fun H locs hw hS => ?_)
      refine lv_if_eq (tgt := 65) hx hb dX7_nextReady_58 (by decide) (fun c_6 => ?_) (fun c_6 => ?_)
      · have hf := if_t c_6 hf
        refine lv_iload_n hx hb dX7_nextReady_65 rfl (lv_at hl 3 rfl) ?_
        refine lv_istore_n (lv' := [(2, .int x2), (4, .int t0), (0, .ref x0), (1, .int x1), (3, .int x3)]) hx hb dX7_nextReady_66 rfl hl (by decide) rfl (fun ls hl => ?_)
        refine lv_iinc (v := (x3 + 1)) (lv' := [(3, .int (x3 + 1)), (2, .int x2), (4, .int t0), (0, .ref x0), (1, .int x1)]) hx hb dX7_nextReady_67 hl (k := 4) rfl rfl (by decide) rfl (fun ls hl => ?_)
        refine lv_goto (tgt := 5) hx hb dX7_nextReady_70 (by decide) ?_
        exact Hk5 x0 x1 x2 (x3 + 1) hf hw hS (lv_sub hl [3, 4, 1, 0] rfl)
      · have hf := if_f c_6 hf
        refine lv_iload_n hx hb dX7_nextReady_61 rfl (lv_at hl 4 rfl) ?_
        refine lv_goto (tgt := 66) hx hb dX7_nextReady_62 (by decide) ?_
        refine lv_istore_n (lv' := [(2, .int x3), (4, .int t0), (0, .ref x0), (1, .int x1), (3, .int x3)]) hx hb dX7_nextReady_66 rfl hl (by decide) rfl (fun ls hl => ?_)
        refine lv_iinc (v := (x3 + 1)) (lv' := [(3, .int (x3 + 1)), (2, .int x3), (4, .int t0), (0, .ref x0), (1, .int x1)]) hx hb dX7_nextReady_67 hl (k := 4) rfl rfl (by decide) rfl (fun ls hl => ?_)
        refine lv_goto (tgt := 5) hx hb dX7_nextReady_70 (by decide) ?_
        exact Hk5 x0 x1 x3 (x3 + 1) hf hw hS (lv_sub hl [3, 4, 1, 0] rfl)

set_option maxRecDepth 100000 in
set_option maxHeartbeats 4000000 in
theorem wX7_nextReady_b5 (C : mx p s m args meth c yX7_nextReady cX7_nextReady 5 (some .int) A D cy st) {r : Int32} {d : Dt} : ∀ (n : Nat) (x0 : Nat) (x1 : Int32) (x2 : Int32) (x3 : Int32), fX7_nextReady_b5 sh d n x0 x1 x2 x3 = some r → ∀ {H : Heap} {locs : List Loc} {ls : Array Slot}, HW A D cy sz sh d H → va_S A s.heap H locs → lv_has ls 5 [(0, .ref x0), (1, .int x1), (2, .int x2), (3, .int x3)] → GL p l e s m args below meth c 2 47 A D cy (some (.int r)) sz sh d H locs 5 ls [] := by
  have hx := C.1
  have hb := C.2.1
  intro n
  induction n with
  | zero => intro x0 x1 x2 x3 hf; cases hf
  | succ n ih =>
    intro x0 x1 x2 x3 hf H locs ls hw hS hl
    rw [fX7_nextReady_b5] at hf
    refine lv_iload_n hx hb dX7_nextReady_5 rfl (lv_at hl 3 rfl) ?_
    refine lv_aload_n hx hb dX7_nextReady_6 rfl (lv_at hl 0 rfl) ?_
    obtain ⟨v1, hv1, hf⟩ := bd_s hf
    refine gt_297 C hw hv1 kw_806 dX7_nextReady_7 ?_
    refine lv_icmp_ge (tgt := 73) hx hb dX7_nextReady_10 (by decide) (fun c_2 => ?_) (fun c_2 => ?_)
    · have hf := if_t c_2 hf
      refine lv_iload_n hx hb dX7_nextReady_73 rfl (lv_at hl 2 rfl) ?_
      cases hf
      exact rt_i C hw hS dX7_nextReady_74
    · have hf := if_f c_2 hf
      refine lv_aload_n hx hb dX7_nextReady_13 rfl (lv_at hl 0 rfl) ?_
      obtain ⟨v3, hv3, hf⟩ := bd_s hf
      refine gt_292 C hw hv3 kw_801 dX7_nextReady_14 ?_
      refine lv_iload_n hx hb dX7_nextReady_17 rfl (lv_at hl 1 rfl) ?_
      refine lv_iload_n hx hb dX7_nextReady_18 rfl (lv_at hl 3 rfl) ?_
      obtain ⟨r5, h4, hf⟩ := bd_s hf
      refine cl_S0 C hw hS (tX7_isIn l A D cy st sz sh d v3 x1 x3 h4) csX7_isIn kw_933 ⟨Nat.le_of_ble_eq_true rfl, Nat.le_of_ble_eq_true rfl⟩ hl.1 rfl (Nat.le_of_ble_eq_true rfl) dX7_nextReady_19 ⟨Nat.zero_le _, Nat.zero_le _⟩ (fun H locs hw hS => ?_)
      refine lv_if_eq (tgt := 38) hx hb dX7_nextReady_22 (by decide) (fun c_6 => ?_) (fun c_6 => ?_)
      · have hf := if_t c_6 hf
        refine lv_iconst (v := 0) hx hb dX7_nextReady_38 (by decide) ?_
        exact wX7_nextReady_b39 C ih x0 x1 x2 x3 (0 : Int32) hf hw hS (lv_sub hl [0, 1, 2, 3] rfl)
      · have hf := if_f c_6 hf
        refine lv_aload_n hx hb dX7_nextReady_25 rfl (lv_at hl 0 rfl) ?_
        refine lv_iload_n hx hb dX7_nextReady_26 rfl (lv_at hl 1 rfl) ?_
        refine lv_iload_n hx hb dX7_nextReady_27 rfl (lv_at hl 3 rfl) ?_
        obtain ⟨r8, h7, hf⟩ := bd_s hf
        refine cl_V0 C hw hS (tX7_isReady l A D cy st sz sh d x0 x1 x3 h7) cvX7_isReady kw_1015 (gR_s hv3).1 ⟨Nat.le_of_ble_eq_true rfl, Nat.le_of_ble_eq_true rfl⟩ hl.1 rfl (Nat.le_of_ble_eq_true rfl) dX7_nextReady_28 ⟨Nat.zero_le _, Nat.zero_le _⟩ (fun H locs hw hS => ?_)
        refine lv_if_eq (tgt := 38) hx hb dX7_nextReady_31 (by decide) (fun c_9 => ?_) (fun c_9 => ?_)
        · have hf := if_t c_9 hf
          refine lv_iconst (v := 0) hx hb dX7_nextReady_38 (by decide) ?_
          exact wX7_nextReady_b39 C ih x0 x1 x2 x3 (0 : Int32) hf hw hS (lv_sub hl [0, 1, 2, 3] rfl)
        · have hf := if_f c_9 hf
          refine lv_iconst (v := 1) hx hb dX7_nextReady_34 (by decide) ?_
          refine lv_goto (tgt := 39) hx hb dX7_nextReady_35 (by decide) ?_
          exact wX7_nextReady_b39 C ih x0 x1 x2 x3 (1 : Int32) hf hw hS (lv_sub hl [0, 1, 2, 3] rfl)

set_option maxRecDepth 100000 in
set_option maxHeartbeats 4000000 in
theorem wX7_nextReady_b0 (C : mx p s m args meth c yX7_nextReady cX7_nextReady 5 (some .int) A D cy st) {r : Int32} {d : Dt} : ∀ (x0 : Nat) (x1 : Int32), fX7_nextReady_b0 sh d x0 x1 = some r → ∀ {H : Heap} {locs : List Loc} {ls : Array Slot}, HW A D cy sz sh d H → va_S A s.heap H locs → lv_has ls 5 [(0, .ref x0), (1, .int x1)] → GL p l e s m args below meth c 2 47 A D cy (some (.int r)) sz sh d H locs 0 ls [] := by
  have hx := C.1
  have hb := C.2.1
  intro x0 x1 hf H locs ls hw hS hl
  unfold fX7_nextReady_b0 at hf
  refine lv_bipush (v := -9) hx hb dX7_nextReady_0 (by decide) ?_
  refine lv_istore_n (lv' := [(2, .int (-9 : Int32)), (0, .ref x0), (1, .int x1)]) hx hb dX7_nextReady_2 rfl hl (by decide) rfl (fun ls hl => ?_)
  refine lv_iconst (v := 0) hx hb dX7_nextReady_3 (by decide) ?_
  refine lv_istore_n (lv' := [(3, .int (0 : Int32)), (2, .int (-9 : Int32)), (0, .ref x0), (1, .int x1)]) hx hb dX7_nextReady_4 rfl hl (by decide) rfl (fun ls hl => ?_)
  exact wX7_nextReady_b5 C fu x0 x1 (-9 : Int32) (0 : Int32) hf hw hS (lv_sub hl [2, 3, 1, 0] rfl)

set_option maxRecDepth 100000 in
set_option maxHeartbeats 4000000 in
theorem tX7_nextReady (l : Launch) (A : Nat → Prop) (D : va_G) (cy : Nat → ClassId) (st : Nat → Nat) (sz : Nat) (sh : Sh) (d : Dt) (x0 : Nat) (x1 : Int32) {r : Int32} (hf : fX7_nextReady sh d x0 x1 = some r) : Ct l yX7_nextReady cX7_nextReady 5 (some .int) 2 47 0 0 A D cy st [.ref x0, .int x1] sz sh d (some (.int r)) sz sh d := ct_of (by decide) (Nat.le_of_ble_eq_true rfl) (fun p e s m args below meth c C hw hS ls hl => wX7_nextReady_b0 C x0 x1 hf hw hS hl)
theorem dX7_takes_0 : decode cX7_takes 0 = .ok (.iconst 0, 1) := by decide +kernel
theorem dX7_takes_1 : decode cX7_takes 1 = .ok (.istore_n 3, 1) := by decide +kernel
theorem dX7_takes_2 : decode cX7_takes 2 = .ok (.iload_n 2, 1) := by decide +kernel
theorem dX7_takes_3 : decode cX7_takes 3 = .ok (.istore 4, 2) := by decide +kernel
theorem dX7_takes_5 : decode cX7_takes 5 = .ok (.iload 4, 2) := by decide +kernel
theorem dX7_takes_7 : decode cX7_takes 7 = .ok (.bipush (-9), 2) := by decide +kernel
theorem dX7_takes_9 : decode cX7_takes 9 = .ok (.if_icmp .eq 36, 3) := by decide +kernel
theorem dX7_takes_12 : decode cX7_takes 12 = .ok (.aload_n 0, 1) := by decide +kernel
theorem dX7_takes_13 : decode cX7_takes 13 = .ok (.getfield 13, 3) := by decide +kernel
theorem dX7_takes_16 : decode cX7_takes 16 = .ok (.iload_n 1, 1) := by decide +kernel
theorem dX7_takes_17 : decode cX7_takes 17 = .ok (.iload 4, 2) := by decide +kernel
theorem dX7_takes_19 : decode cX7_takes 19 = .ok (.invokestatic 126, 3) := by decide +kernel
theorem dX7_takes_22 : decode cX7_takes 22 = .ok (.aload_n 0, 1) := by decide +kernel
theorem dX7_takes_23 : decode cX7_takes 23 = .ok (.getfield 17, 3) := by decide +kernel
theorem dX7_takes_26 : decode cX7_takes 26 = .ok (.iload_n 1, 1) := by decide +kernel
theorem dX7_takes_27 : decode cX7_takes 27 = .ok (.iload 4, 2) := by decide +kernel
theorem dX7_takes_29 : decode cX7_takes 29 = .ok (.invokestatic 168, 3) := by decide +kernel
theorem dX7_takes_32 : decode cX7_takes 32 = .ok (.iinc 3 1, 3) := by decide +kernel
theorem dX7_takes_35 : decode cX7_takes 35 = .ok (.aload_n 0, 1) := by decide +kernel
theorem dX7_takes_36 : decode cX7_takes 36 = .ok (.iload_n 1, 1) := by decide +kernel
theorem dX7_takes_37 : decode cX7_takes 37 = .ok (.invokevirtual 171, 3) := by decide +kernel
theorem dX7_takes_40 : decode cX7_takes 40 = .ok (.istore 4, 2) := by decide +kernel
theorem dX7_takes_42 : decode cX7_takes 42 = .ok (.goto (-37), 3) := by decide +kernel
theorem dX7_takes_45 : decode cX7_takes 45 = .ok (.iload_n 3, 1) := by decide +kernel
theorem dX7_takes_46 : decode cX7_takes 46 = .ok (.ireturn, 1) := by decide +kernel
theorem cvX7_takes : CV yX7_takes cX7_takes 5 (some .int) 8 2 := ⟨kw_1025, ks_37, kw_6, kw_1026, ⟨_, _, rfl⟩, by decide, by decide +kernel, by decide +kernel, by decide +kernel⟩
def fX7_takes_b5 (sh : Sh) : Nat → Nat → Int32 → Int32 → Int32 → Dt → Option (Int32 × Dt)
  | 0, _, _, _, _, _ => none
  | n + 1, x0, x1, x3, x4, d => if x4 = (-9 : Int32) then (some (x3, d)) else (bd (gR sh d 9 291 x0) fun v2 => bd (fX7_enter sh d v2 x1 x4) fun d5 => bd (gR sh d5 9 292 x0) fun v6 => bd (fX7_leave sh d5 v6 x1 x4) fun d9 => bd (fX7_nextReady sh d9 x0 x1) fun r11 => fX7_takes_b5 sh n x0 x1 (x3 + 1) r11 d9)

def fX7_takes_b0 (sh : Sh) (x0 : Nat) (x1 : Int32) (x2 : Int32) (d : Dt) : Option (Int32 × Dt) := fX7_takes_b5 sh fu x0 x1 (0 : Int32) x2 d

def fX7_takes (sh : Sh) (d : Dt) (x0 : Nat) (x1 : Int32) (x2 : Int32) : Option (Int32 × Dt) := fX7_takes_b0 sh x0 x1 x2 d

set_option maxRecDepth 100000 in
set_option maxHeartbeats 4000000 in
theorem wX7_takes_b5 (C : mx p s m args meth c yX7_takes cX7_takes 5 (some .int) A D cy st) {r : Int32} {d9 : Dt} : ∀ (n : Nat) (x0 : Nat) (x1 : Int32) (x3 : Int32) (x4 : Int32) (d : Dt), fX7_takes_b5 sh n x0 x1 x3 x4 d = some (r, d9) → ∀ {H : Heap} {locs : List Loc} {ls : Array Slot}, HW A D cy sz sh d H → va_S A s.heap H locs → lv_has ls 5 [(0, .ref x0), (1, .int x1), (3, .int x3), (4, .int x4)] → GL p l e s m args below meth c 3 71 A D cy (some (.int r)) sz sh d9 H locs 5 ls [] := by
  have hx := C.1
  have hb := C.2.1
  intro n
  induction n with
  | zero => intro x0 x1 x3 x4 d hf; cases hf
  | succ n ih =>
    intro x0 x1 x3 x4 d hf H locs ls hw hS hl
    rw [fX7_takes_b5] at hf
    refine lv_iload hx hb dX7_takes_5 (lv_at hl 3 rfl) ?_
    refine lv_bipush (v := -9) hx hb dX7_takes_7 (by decide) ?_
    refine lv_icmp_eq (tgt := 45) hx hb dX7_takes_9 (by decide) (fun c_1 => ?_) (fun c_1 => ?_)
    · have hf := if_t c_1 hf
      refine lv_iload_n hx hb dX7_takes_45 rfl (lv_at hl 2 rfl) ?_
      cases hf
      exact rt_i C hw hS dX7_takes_46
    · have hf := if_f c_1 hf
      refine lv_aload_n hx hb dX7_takes_12 rfl (lv_at hl 0 rfl) ?_
      obtain ⟨v2, hv2, hf⟩ := bd_s hf
      refine gt_291 C hw hv2 kw_800 dX7_takes_13 ?_
      refine lv_iload_n hx hb dX7_takes_16 rfl (lv_at hl 1 rfl) ?_
      refine lv_iload hx hb dX7_takes_17 (lv_at hl 3 rfl) ?_
      obtain ⟨d5, h3, hf⟩ := bd_s hf
      refine cl_S0 C hw hS (tX7_enter l A D cy st sz sh d v2 x1 x4 h3) csX7_enter kw_952 ⟨Nat.le_of_ble_eq_true rfl, Nat.le_of_ble_eq_true rfl⟩ hl.1 rfl (Nat.le_of_ble_eq_true rfl) dX7_takes_19 ⟨Nat.zero_le _, Nat.zero_le _⟩ (fun H locs hw hS => ?_)
      refine lv_aload_n hx hb dX7_takes_22 rfl (lv_at hl 0 rfl) ?_
      obtain ⟨v6, hv6, hf⟩ := bd_s hf
      refine gt_292 C hw hv6 kw_801 dX7_takes_23 ?_
      refine lv_iload_n hx hb dX7_takes_26 rfl (lv_at hl 1 rfl) ?_
      refine lv_iload hx hb dX7_takes_27 (lv_at hl 3 rfl) ?_
      obtain ⟨d9, h7, hf⟩ := bd_s hf
      refine cl_S0 C hw hS (tX7_leave l A D cy st sz sh d5 v6 x1 x4 h7) csX7_leave kw_1027 ⟨Nat.le_of_ble_eq_true rfl, Nat.le_of_ble_eq_true rfl⟩ hl.1 rfl (Nat.le_of_ble_eq_true rfl) dX7_takes_29 ⟨Nat.zero_le _, Nat.zero_le _⟩ (fun H locs hw hS => ?_)
      refine lv_iinc (v := (x3 + 1)) (lv' := [(3, .int (x3 + 1)), (0, .ref x0), (1, .int x1), (4, .int x4)]) hx hb dX7_takes_32 hl (k := 2) rfl rfl (by decide) rfl (fun ls hl => ?_)
      refine lv_aload_n hx hb dX7_takes_35 rfl (lv_at hl 1 rfl) ?_
      refine lv_iload_n hx hb dX7_takes_36 rfl (lv_at hl 2 rfl) ?_
      obtain ⟨r11, h10, hf⟩ := bd_s hf
      refine cl_V0 C hw hS (tX7_nextReady l A D cy st sz sh d9 x0 x1 h10) cvX7_nextReady kw_1030 (gR_s hv6).1 ⟨Nat.le_of_ble_eq_true rfl, Nat.le_of_ble_eq_true rfl⟩ hl.1 rfl (Nat.le_of_ble_eq_true rfl) dX7_takes_37 ⟨Nat.zero_le _, Nat.zero_le _⟩ (fun H locs hw hS => ?_)
      refine lv_istore (lv' := [(4, .int r11), (3, .int (x3 + 1)), (0, .ref x0), (1, .int x1)]) hx hb dX7_takes_40 hl (by decide) rfl (fun ls hl => ?_)
      refine lv_goto (tgt := 5) hx hb dX7_takes_42 (by decide) ?_
      exact ih x0 x1 (x3 + 1) r11 d9 hf hw hS (lv_sub hl [2, 3, 1, 0] rfl)

set_option maxRecDepth 100000 in
set_option maxHeartbeats 4000000 in
theorem wX7_takes_b0 (C : mx p s m args meth c yX7_takes cX7_takes 5 (some .int) A D cy st) {r : Int32} {d9 : Dt} : ∀ (x0 : Nat) (x1 : Int32) (x2 : Int32) (d : Dt), fX7_takes_b0 sh x0 x1 x2 d = some (r, d9) → ∀ {H : Heap} {locs : List Loc} {ls : Array Slot}, HW A D cy sz sh d H → va_S A s.heap H locs → lv_has ls 5 [(0, .ref x0), (1, .int x1), (2, .int x2)] → GL p l e s m args below meth c 3 71 A D cy (some (.int r)) sz sh d9 H locs 0 ls [] := by
  have hx := C.1
  have hb := C.2.1
  intro x0 x1 x2 d hf H locs ls hw hS hl
  unfold fX7_takes_b0 at hf
  refine lv_iconst (v := 0) hx hb dX7_takes_0 (by decide) ?_
  refine lv_istore_n (lv' := [(3, .int (0 : Int32)), (0, .ref x0), (1, .int x1), (2, .int x2)]) hx hb dX7_takes_1 rfl hl (by decide) rfl (fun ls hl => ?_)
  refine lv_iload_n hx hb dX7_takes_2 rfl (lv_at hl 3 rfl) ?_
  refine lv_istore (lv' := [(4, .int x2), (3, .int (0 : Int32)), (0, .ref x0), (1, .int x1), (2, .int x2)]) hx hb dX7_takes_3 hl (by decide) rfl (fun ls hl => ?_)
  exact wX7_takes_b5 C fu x0 x1 (0 : Int32) x2 d hf hw hS (lv_sub hl [2, 3, 1, 0] rfl)

set_option maxRecDepth 100000 in
set_option maxHeartbeats 4000000 in
theorem tX7_takes (l : Launch) (A : Nat → Prop) (D : va_G) (cy : Nat → ClassId) (st : Nat → Nat) (sz : Nat) (sh : Sh) (d : Dt) (x0 : Nat) (x1 : Int32) (x2 : Int32) {r : Int32} {d9 : Dt} (hf : fX7_takes sh d x0 x1 x2 = some (r, d9)) : Ct l yX7_takes cX7_takes 5 (some .int) 3 71 0 0 A D cy st [.ref x0, .int x1, .int x2] sz sh d (some (.int r)) sz sh d9 := ct_of (by decide) (Nat.le_of_ble_eq_true rfl) (fun p e s m args below meth c C hw hS ls hl => wX7_takes_b0 C x0 x1 x2 d hf hw hS hl)
theorem dX7_come_0 : decode cX7_come 0 = .ok (.aload_n 0, 1) := by decide +kernel
theorem dX7_come_1 : decode cX7_come 1 = .ok (.iload_n 1, 1) := by decide +kernel
theorem dX7_come_2 : decode cX7_come 2 = .ok (.invokevirtual 109, 3) := by decide +kernel
theorem dX7_come_5 : decode cX7_come 5 = .ok (.ifCond .eq 11, 3) := by decide +kernel
theorem dX7_come_8 : decode cX7_come 8 = .ok (.aload_n 0, 1) := by decide +kernel
theorem dX7_come_9 : decode cX7_come 9 = .ok (.iload_n 2, 1) := by decide +kernel
theorem dX7_come_10 : decode cX7_come 10 = .ok (.invokevirtual 151, 3) := by decide +kernel
theorem dX7_come_13 : decode cX7_come 13 = .ok (.ifCond .ne 5, 3) := by decide +kernel
theorem dX7_come_16 : decode cX7_come 16 = .ok (.iconst (-1), 1) := by decide +kernel
theorem dX7_come_17 : decode cX7_come 17 = .ok (.ireturn, 1) := by decide +kernel
theorem dX7_come_18 : decode cX7_come 18 = .ok (.aload_n 0, 1) := by decide +kernel
theorem dX7_come_19 : decode cX7_come 19 = .ok (.getfield 13, 3) := by decide +kernel
theorem dX7_come_22 : decode cX7_come 22 = .ok (.iload_n 1, 1) := by decide +kernel
theorem dX7_come_23 : decode cX7_come 23 = .ok (.iload_n 2, 1) := by decide +kernel
theorem dX7_come_24 : decode cX7_come 24 = .ok (.invokestatic 91, 3) := by decide +kernel
theorem dX7_come_27 : decode cX7_come 27 = .ok (.ifCond .eq 5, 3) := by decide +kernel
theorem dX7_come_30 : decode cX7_come 30 = .ok (.iconst 2, 1) := by decide +kernel
theorem dX7_come_31 : decode cX7_come 31 = .ok (.ireturn, 1) := by decide +kernel
theorem dX7_come_32 : decode cX7_come 32 = .ok (.aload_n 0, 1) := by decide +kernel
theorem dX7_come_33 : decode cX7_come 33 = .ok (.iload_n 1, 1) := by decide +kernel
theorem dX7_come_34 : decode cX7_come 34 = .ok (.iload_n 2, 1) := by decide +kernel
theorem dX7_come_35 : decode cX7_come 35 = .ok (.invokevirtual 162, 3) := by decide +kernel
theorem dX7_come_38 : decode cX7_come 38 = .ok (.ifCond .eq 13, 3) := by decide +kernel
theorem dX7_come_41 : decode cX7_come 41 = .ok (.bipush 10, 2) := by decide +kernel
theorem dX7_come_43 : decode cX7_come 43 = .ok (.aload_n 0, 1) := by decide +kernel
theorem dX7_come_44 : decode cX7_come 44 = .ok (.iload_n 1, 1) := by decide +kernel
theorem dX7_come_45 : decode cX7_come 45 = .ok (.iload_n 2, 1) := by decide +kernel
theorem dX7_come_46 : decode cX7_come 46 = .ok (.invokevirtual 174, 3) := by decide +kernel
theorem dX7_come_49 : decode cX7_come 49 = .ok (.iadd, 1) := by decide +kernel
theorem dX7_come_50 : decode cX7_come 50 = .ok (.ireturn, 1) := by decide +kernel
theorem dX7_come_51 : decode cX7_come 51 = .ok (.aload_n 0, 1) := by decide +kernel
theorem dX7_come_52 : decode cX7_come 52 = .ok (.getfield 17, 3) := by decide +kernel
theorem dX7_come_55 : decode cX7_come 55 = .ok (.iload_n 1, 1) := by decide +kernel
theorem dX7_come_56 : decode cX7_come 56 = .ok (.iload_n 2, 1) := by decide +kernel
theorem dX7_come_57 : decode cX7_come 57 = .ok (.invokestatic 126, 3) := by decide +kernel
theorem dX7_come_60 : decode cX7_come 60 = .ok (.bipush 10, 2) := by decide +kernel
theorem dX7_come_62 : decode cX7_come 62 = .ok (.ireturn, 1) := by decide +kernel
theorem cvX7_come : CV yX7_come cX7_come 3 (some .int) 8 2 := ⟨kw_1012, kw_1013, kw_6, kw_1014, ⟨_, _, rfl⟩, by decide, by decide +kernel, by decide +kernel, by decide +kernel⟩
def fX7_come_b0 (sh : Sh) (x0 : Nat) (x1 : Int32) (x2 : Int32) (d : Dt) : Option (Int32 × Dt) := bd (kc sh 9 x0) fun _ => bd (fX7_isHand sh d x0 x1) fun r3 => if (bI r3) = 0 then (some ((-1 : Int32), d)) else (bd (fX7_isChange sh d x0 x2) fun r6 => if (bI r6) = 0 then (some ((-1 : Int32), d)) else (bd (gR sh d 9 291 x0) fun v8 => bd (fX7_isIn sh d v8 x1 x2) fun r10 => if (bI r10) = 0 then (bd (fX7_isReady sh d x0 x1 x2) fun r13 => if (bI r13) = 0 then (bd (gR sh d 9 292 x0) fun v15 => bd (fX7_enter sh d v15 x1 x2) fun d18 => some ((10 : Int32), d18)) else (bd2 (fX7_takes sh d x0 x1 x2) fun r20 d21 => some (((10 : Int32) + r20), d21))) else (some ((2 : Int32), d))))

def fX7_come (sh : Sh) (d : Dt) (x0 : Nat) (x1 : Int32) (x2 : Int32) : Option (Int32 × Dt) := fX7_come_b0 sh x0 x1 x2 d

set_option maxRecDepth 100000 in
set_option maxHeartbeats 4000000 in
theorem wX7_come_b0 (C : mx p s m args meth c yX7_come cX7_come 3 (some .int) A D cy st) {r : Int32} {d9 : Dt} : ∀ (x0 : Nat) (x1 : Int32) (x2 : Int32) (d : Dt), fX7_come_b0 sh x0 x1 x2 d = some (r, d9) → ∀ {H : Heap} {locs : List Loc} {ls : Array Slot}, HW A D cy sz sh d H → va_S A s.heap H locs → lv_has ls 3 [(0, .ref x0), (1, .int x1), (2, .int x2)] → GL p l e s m args below meth c 4 95 A D cy (some (.int r)) sz sh d9 H locs 0 ls [] := by
  have hx := C.1
  have hb := C.2.1
  intro x0 x1 x2 d hf H locs ls hw hS hl
  unfold fX7_come_b0 at hf
  refine lv_aload_n hx hb dX7_come_0 rfl (lv_at hl 0 rfl) ?_
  refine lv_iload_n hx hb dX7_come_1 rfl (lv_at hl 1 rfl) ?_
  obtain ⟨_, h1, hf⟩ := bd_s hf
  obtain ⟨r3, h2, hf⟩ := bd_s hf
  refine cl_V0 C hw hS (tX7_isHand l A D cy st sz sh d x0 x1 h2) cvX7_isHand kw_917 (kc_k h1) ⟨Nat.le_of_ble_eq_true rfl, Nat.le_of_ble_eq_true rfl⟩ hl.1 rfl (Nat.le_of_ble_eq_true rfl) dX7_come_2 ⟨Nat.zero_le _, Nat.zero_le _⟩ (fun H locs hw hS => ?_)
  refine lv_if_eq (tgt := 16) hx hb dX7_come_5 (by decide) (fun c_4 => ?_) (fun c_4 => ?_)
  · have hf := if_t c_4 hf
    refine lv_iconst (v := -1) hx hb dX7_come_16 (by decide) ?_
    cases hf
    exact rt_i C hw hS dX7_come_17
  · have hf := if_f c_4 hf
    refine lv_aload_n hx hb dX7_come_8 rfl (lv_at hl 0 rfl) ?_
    refine lv_iload_n hx hb dX7_come_9 rfl (lv_at hl 2 rfl) ?_
    obtain ⟨r6, h5, hf⟩ := bd_s hf
    refine cl_V0 C hw hS (tX7_isChange l A D cy st sz sh d x0 x2 h5) cvX7_isChange kw_999 (kc_k h1) ⟨Nat.le_of_ble_eq_true rfl, Nat.le_of_ble_eq_true rfl⟩ hl.1 rfl (Nat.le_of_ble_eq_true rfl) dX7_come_10 ⟨Nat.zero_le _, Nat.zero_le _⟩ (fun H locs hw hS => ?_)
    refine lv_if_ne (tgt := 18) hx hb dX7_come_13 (by decide) (fun c_7 => ?_) (fun c_7 => ?_)
    · have hf := if_f c_7 hf
      refine lv_aload_n hx hb dX7_come_18 rfl (lv_at hl 0 rfl) ?_
      obtain ⟨v8, hv8, hf⟩ := bd_s hf
      refine gt_291 C hw hv8 kw_800 dX7_come_19 ?_
      refine lv_iload_n hx hb dX7_come_22 rfl (lv_at hl 1 rfl) ?_
      refine lv_iload_n hx hb dX7_come_23 rfl (lv_at hl 2 rfl) ?_
      obtain ⟨r10, h9, hf⟩ := bd_s hf
      refine cl_S0 C hw hS (tX7_isIn l A D cy st sz sh d v8 x1 x2 h9) csX7_isIn kw_933 ⟨Nat.le_of_ble_eq_true rfl, Nat.le_of_ble_eq_true rfl⟩ hl.1 rfl (Nat.le_of_ble_eq_true rfl) dX7_come_24 ⟨Nat.zero_le _, Nat.zero_le _⟩ (fun H locs hw hS => ?_)
      refine lv_if_eq (tgt := 32) hx hb dX7_come_27 (by decide) (fun c_11 => ?_) (fun c_11 => ?_)
      · have hf := if_t c_11 hf
        refine lv_aload_n hx hb dX7_come_32 rfl (lv_at hl 0 rfl) ?_
        refine lv_iload_n hx hb dX7_come_33 rfl (lv_at hl 1 rfl) ?_
        refine lv_iload_n hx hb dX7_come_34 rfl (lv_at hl 2 rfl) ?_
        obtain ⟨r13, h12, hf⟩ := bd_s hf
        refine cl_V0 C hw hS (tX7_isReady l A D cy st sz sh d x0 x1 x2 h12) cvX7_isReady kw_1015 (gR_s hv8).1 ⟨Nat.le_of_ble_eq_true rfl, Nat.le_of_ble_eq_true rfl⟩ hl.1 rfl (Nat.le_of_ble_eq_true rfl) dX7_come_35 ⟨Nat.zero_le _, Nat.zero_le _⟩ (fun H locs hw hS => ?_)
        refine lv_if_eq (tgt := 51) hx hb dX7_come_38 (by decide) (fun c_14 => ?_) (fun c_14 => ?_)
        · have hf := if_t c_14 hf
          refine lv_aload_n hx hb dX7_come_51 rfl (lv_at hl 0 rfl) ?_
          obtain ⟨v15, hv15, hf⟩ := bd_s hf
          refine gt_292 C hw hv15 kw_801 dX7_come_52 ?_
          refine lv_iload_n hx hb dX7_come_55 rfl (lv_at hl 1 rfl) ?_
          refine lv_iload_n hx hb dX7_come_56 rfl (lv_at hl 2 rfl) ?_
          obtain ⟨d18, h16, hf⟩ := bd_s hf
          refine cl_S0 C hw hS (tX7_enter l A D cy st sz sh d v15 x1 x2 h16) csX7_enter kw_952 ⟨Nat.le_of_ble_eq_true rfl, Nat.le_of_ble_eq_true rfl⟩ hl.1 rfl (Nat.le_of_ble_eq_true rfl) dX7_come_57 ⟨Nat.zero_le _, Nat.zero_le _⟩ (fun H locs hw hS => ?_)
          refine lv_bipush (v := 10) hx hb dX7_come_60 (by decide) ?_
          cases hf
          exact rt_i C hw hS dX7_come_62
        · have hf := if_f c_14 hf
          refine lv_bipush (v := 10) hx hb dX7_come_41 (by decide) ?_
          refine lv_aload_n hx hb dX7_come_43 rfl (lv_at hl 0 rfl) ?_
          refine lv_iload_n hx hb dX7_come_44 rfl (lv_at hl 1 rfl) ?_
          refine lv_iload_n hx hb dX7_come_45 rfl (lv_at hl 2 rfl) ?_
          obtain ⟨r20, d21, h19, hf⟩ := bd2_s hf
          refine cl_V0 C hw hS (tX7_takes l A D cy st sz sh d x0 x1 x2 h19) cvX7_takes kw_1023 (gR_s hv8).1 ⟨Nat.le_of_ble_eq_true rfl, Nat.le_of_ble_eq_true rfl⟩ hl.1 rfl (Nat.le_of_ble_eq_true rfl) dX7_come_46 ⟨Nat.zero_le _, Nat.zero_le _⟩ (fun H locs hw hS => ?_)
          refine lv_iadd hx hb dX7_come_49 ?_
          cases hf
          exact rt_i C hw hS dX7_come_50
      · have hf := if_f c_11 hf
        refine lv_iconst (v := 2) hx hb dX7_come_30 (by decide) ?_
        cases hf
        exact rt_i C hw hS dX7_come_31
    · have hf := if_t c_7 hf
      refine lv_iconst (v := -1) hx hb dX7_come_16 (by decide) ?_
      cases hf
      exact rt_i C hw hS dX7_come_17

set_option maxRecDepth 100000 in
set_option maxHeartbeats 4000000 in
theorem tX7_come (l : Launch) (A : Nat → Prop) (D : va_G) (cy : Nat → ClassId) (st : Nat → Nat) (sz : Nat) (sh : Sh) (d : Dt) (x0 : Nat) (x1 : Int32) (x2 : Int32) {r : Int32} {d9 : Dt} (hf : fX7_come sh d x0 x1 x2 = some (r, d9)) : Ct l yX7_come cX7_come 3 (some .int) 4 95 0 0 A D cy st [.ref x0, .int x1, .int x2] sz sh d (some (.int r)) sz sh d9 := ct_of (by decide) (Nat.le_of_ble_eq_true rfl) (fun p e s m args below meth c C hw hS ls hl => wX7_come_b0 C x0 x1 x2 d hf hw hS hl)
theorem dX7_meet_0 : decode cX7_meet 0 = .ok (.aload_n 0, 1) := by decide +kernel
theorem dX7_meet_1 : decode cX7_meet 1 = .ok (.iload_n 1, 1) := by decide +kernel
theorem dX7_meet_2 : decode cX7_meet 2 = .ok (.invokevirtual 109, 3) := by decide +kernel
theorem dX7_meet_5 : decode cX7_meet 5 = .ok (.ifCond .eq 20, 3) := by decide +kernel
theorem dX7_meet_8 : decode cX7_meet 8 = .ok (.aload_n 0, 1) := by decide +kernel
theorem dX7_meet_9 : decode cX7_meet 9 = .ok (.iload_n 2, 1) := by decide +kernel
theorem dX7_meet_10 : decode cX7_meet 10 = .ok (.invokevirtual 109, 3) := by decide +kernel
theorem dX7_meet_13 : decode cX7_meet 13 = .ok (.ifCond .eq 12, 3) := by decide +kernel
theorem dX7_meet_16 : decode cX7_meet 16 = .ok (.iload_n 1, 1) := by decide +kernel
theorem dX7_meet_17 : decode cX7_meet 17 = .ok (.iload_n 2, 1) := by decide +kernel
theorem dX7_meet_18 : decode cX7_meet 18 = .ok (.if_icmp .eq 7, 3) := by decide +kernel
theorem dX7_meet_21 : decode cX7_meet 21 = .ok (.iload_n 3, 1) := by decide +kernel
theorem dX7_meet_22 : decode cX7_meet 22 = .ok (.ifCond .ge 5, 3) := by decide +kernel
theorem dX7_meet_25 : decode cX7_meet 25 = .ok (.iconst (-1), 1) := by decide +kernel
theorem dX7_meet_26 : decode cX7_meet 26 = .ok (.ireturn, 1) := by decide +kernel
theorem dX7_meet_27 : decode cX7_meet 27 = .ok (.iconst 0, 1) := by decide +kernel
theorem dX7_meet_28 : decode cX7_meet 28 = .ok (.istore 4, 2) := by decide +kernel
theorem dX7_meet_30 : decode cX7_meet 30 = .ok (.iconst 1, 1) := by decide +kernel
theorem dX7_meet_31 : decode cX7_meet 31 = .ok (.istore 5, 2) := by decide +kernel
theorem dX7_meet_33 : decode cX7_meet 33 = .ok (.iload 5, 2) := by decide +kernel
theorem dX7_meet_35 : decode cX7_meet 35 = .ok (.ifCond .eq 130, 3) := by decide +kernel
theorem dX7_meet_38 : decode cX7_meet 38 = .ok (.iload 4, 2) := by decide +kernel
theorem dX7_meet_40 : decode cX7_meet 40 = .ok (.iload_n 3, 1) := by decide +kernel
theorem dX7_meet_41 : decode cX7_meet 41 = .ok (.if_icmp .ge 124, 3) := by decide +kernel
theorem dX7_meet_44 : decode cX7_meet 44 = .ok (.bipush (-9), 2) := by decide +kernel
theorem dX7_meet_46 : decode cX7_meet 46 = .ok (.istore 6, 2) := by decide +kernel
theorem dX7_meet_48 : decode cX7_meet 48 = .ok (.iconst 0, 1) := by decide +kernel
theorem dX7_meet_49 : decode cX7_meet 49 = .ok (.istore 7, 2) := by decide +kernel
theorem dX7_meet_51 : decode cX7_meet 51 = .ok (.iload 7, 2) := by decide +kernel
theorem dX7_meet_53 : decode cX7_meet 53 = .ok (.aload_n 0, 1) := by decide +kernel
theorem dX7_meet_54 : decode cX7_meet 54 = .ok (.getfield 88, 3) := by decide +kernel
theorem dX7_meet_57 : decode cX7_meet 57 = .ok (.if_icmp .ge 74, 3) := by decide +kernel
theorem dX7_meet_60 : decode cX7_meet 60 = .ok (.aload_n 0, 1) := by decide +kernel
theorem dX7_meet_61 : decode cX7_meet 61 = .ok (.getfield 13, 3) := by decide +kernel
theorem dX7_meet_64 : decode cX7_meet 64 = .ok (.iload_n 1, 1) := by decide +kernel
theorem dX7_meet_65 : decode cX7_meet 65 = .ok (.iload 7, 2) := by decide +kernel
theorem dX7_meet_67 : decode cX7_meet 67 = .ok (.invokestatic 91, 3) := by decide +kernel
theorem dX7_meet_70 : decode cX7_meet 70 = .ok (.ifCond .eq 20, 3) := by decide +kernel
theorem dX7_meet_73 : decode cX7_meet 73 = .ok (.aload_n 0, 1) := by decide +kernel
theorem dX7_meet_74 : decode cX7_meet 74 = .ok (.getfield 13, 3) := by decide +kernel
theorem dX7_meet_77 : decode cX7_meet 77 = .ok (.iload_n 2, 1) := by decide +kernel
theorem dX7_meet_78 : decode cX7_meet 78 = .ok (.iload 7, 2) := by decide +kernel
theorem dX7_meet_80 : decode cX7_meet 80 = .ok (.invokestatic 91, 3) := by decide +kernel
theorem dX7_meet_83 : decode cX7_meet 83 = .ok (.ifCond .ne 7, 3) := by decide +kernel
theorem dX7_meet_86 : decode cX7_meet 86 = .ok (.iconst 1, 1) := by decide +kernel
theorem dX7_meet_87 : decode cX7_meet 87 = .ok (.goto 4, 3) := by decide +kernel
theorem dX7_meet_90 : decode cX7_meet 90 = .ok (.iconst 0, 1) := by decide +kernel
theorem dX7_meet_91 : decode cX7_meet 91 = .ok (.istore 8, 2) := by decide +kernel
theorem dX7_meet_93 : decode cX7_meet 93 = .ok (.iload 8, 2) := by decide +kernel
theorem dX7_meet_95 : decode cX7_meet 95 = .ok (.ifCond .eq 26, 3) := by decide +kernel
theorem dX7_meet_98 : decode cX7_meet 98 = .ok (.iload 6, 2) := by decide +kernel
theorem dX7_meet_100 : decode cX7_meet 100 = .ok (.bipush (-9), 2) := by decide +kernel
theorem dX7_meet_102 : decode cX7_meet 102 = .ok (.if_icmp .eq 14, 3) := by decide +kernel
theorem dX7_meet_105 : decode cX7_meet 105 = .ok (.aload_n 0, 1) := by decide +kernel
theorem dX7_meet_106 : decode cX7_meet 106 = .ok (.iload 6, 2) := by decide +kernel
theorem dX7_meet_108 : decode cX7_meet 108 = .ok (.iload 7, 2) := by decide +kernel
theorem dX7_meet_110 : decode cX7_meet 110 = .ok (.invokevirtual 165, 3) := by decide +kernel
theorem dX7_meet_113 : decode cX7_meet 113 = .ok (.ifCond .eq 8, 3) := by decide +kernel
theorem dX7_meet_116 : decode cX7_meet 116 = .ok (.iload 7, 2) := by decide +kernel
theorem dX7_meet_118 : decode cX7_meet 118 = .ok (.goto 5, 3) := by decide +kernel
theorem dX7_meet_121 : decode cX7_meet 121 = .ok (.iload 6, 2) := by decide +kernel
theorem dX7_meet_123 : decode cX7_meet 123 = .ok (.istore 6, 2) := by decide +kernel
theorem dX7_meet_125 : decode cX7_meet 125 = .ok (.iinc 7 1, 3) := by decide +kernel
theorem dX7_meet_128 : decode cX7_meet 128 = .ok (.goto (-77), 3) := by decide +kernel
theorem dX7_meet_131 : decode cX7_meet 131 = .ok (.iload 6, 2) := by decide +kernel
theorem dX7_meet_133 : decode cX7_meet 133 = .ok (.bipush (-9), 2) := by decide +kernel
theorem dX7_meet_135 : decode cX7_meet 135 = .ok (.if_icmp .eq 7, 3) := by decide +kernel
theorem dX7_meet_138 : decode cX7_meet 138 = .ok (.iconst 1, 1) := by decide +kernel
theorem dX7_meet_139 : decode cX7_meet 139 = .ok (.goto 4, 3) := by decide +kernel
theorem dX7_meet_142 : decode cX7_meet 142 = .ok (.iconst 0, 1) := by decide +kernel
theorem dX7_meet_143 : decode cX7_meet 143 = .ok (.istore 5, 2) := by decide +kernel
theorem dX7_meet_145 : decode cX7_meet 145 = .ok (.iload 5, 2) := by decide +kernel
theorem dX7_meet_147 : decode cX7_meet 147 = .ok (.ifCond .eq 15, 3) := by decide +kernel
theorem dX7_meet_150 : decode cX7_meet 150 = .ok (.aload_n 0, 1) := by decide +kernel
theorem dX7_meet_151 : decode cX7_meet 151 = .ok (.iload_n 2, 1) := by decide +kernel
theorem dX7_meet_152 : decode cX7_meet 152 = .ok (.iload 6, 2) := by decide +kernel
theorem dX7_meet_154 : decode cX7_meet 154 = .ok (.invokevirtual 178, 3) := by decide +kernel
theorem dX7_meet_157 : decode cX7_meet 157 = .ok (.istore 7, 2) := by decide +kernel
theorem dX7_meet_159 : decode cX7_meet 159 = .ok (.iinc 4 1, 3) := by decide +kernel
theorem dX7_meet_162 : decode cX7_meet 162 = .ok (.goto (-129), 3) := by decide +kernel
theorem dX7_meet_165 : decode cX7_meet 165 = .ok (.iload 4, 2) := by decide +kernel
theorem dX7_meet_167 : decode cX7_meet 167 = .ok (.ireturn, 1) := by decide +kernel
theorem cvX7_meet : CV yX7_meet cX7_meet 9 (some .int) 8 3 := ⟨kw_1039, kw_1040, kw_6, kw_1041, ⟨_, _, rfl⟩, by decide, by decide +kernel, by decide +kernel, by decide +kernel⟩
def fX7_meet_b91 (sh : Sh) (k33 : Nat → Int32 → Int32 → Int32 → Int32 → Int32 → Dt → Option (Int32 × Dt)) (k51 : Nat → Int32 → Int32 → Int32 → Int32 → Int32 → Int32 → Dt → Option (Int32 × Dt)) (x0 : Nat) (x1 : Int32) (x2 : Int32) (x3 : Int32) (x4 : Int32) (x6 : Int32) (x7 : Int32) (t0 : Int32) (d : Dt) : Option (Int32 × Dt) := if t0 = 0 then (k51 x0 x1 x2 x3 x4 x6 (x7 + 1) d) else (if x6 = (-9 : Int32) then (k51 x0 x1 x2 x3 x4 x7 (x7 + 1) d) else (bd (kc sh 9 x0) fun _ => bd (fX7_isAfter sh d x0 x6 x7) fun r5 => if (bI r5) = 0 then (k51 x0 x1 x2 x3 x4 x6 (x7 + 1) d) else (k51 x0 x1 x2 x3 x4 x7 (x7 + 1) d)))

def fX7_meet_b143 (sh : Sh) (k33 : Nat → Int32 → Int32 → Int32 → Int32 → Int32 → Dt → Option (Int32 × Dt)) (x0 : Nat) (x1 : Int32) (x2 : Int32) (x3 : Int32) (x4 : Int32) (x6 : Int32) (t0 : Int32) (d : Dt) : Option (Int32 × Dt) := if t0 = 0 then (k33 x0 x1 x2 x3 x4 t0 d) else (bd (kc sh 9 x0) fun _ => bd2 (fX7_come sh d x0 x2 x6) fun r4 d5 => k33 x0 x1 x2 x3 (x4 + 1) t0 d5)

def fX7_meet_b51 (sh : Sh) (k33 : Nat → Int32 → Int32 → Int32 → Int32 → Int32 → Dt → Option (Int32 × Dt)) : Nat → Nat → Int32 → Int32 → Int32 → Int32 → Int32 → Int32 → Dt → Option (Int32 × Dt)
  | 0, _, _, _, _, _, _, _, _ => none
  | n + 1, x0, x1, x2, x3, x4, x6, x7, d => bd (gI sh d 9 297 x0) fun v1 => if v1 ≤ x7 then (if x6 = (-9 : Int32) then (fX7_meet_b143 sh k33 x0 x1 x2 x3 x4 x6 (0 : Int32) d) else (fX7_meet_b143 sh k33 x0 x1 x2 x3 x4 x6 (1 : Int32) d)) else (bd (gR sh d 9 291 x0) fun v4 => bd (fX7_isIn sh d v4 x1 x7) fun r6 => if (bI r6) = 0 then (fX7_meet_b91 sh k33 (fX7_meet_b51 sh k33 n) x0 x1 x2 x3 x4 x6 x7 (0 : Int32) d) else (bd (gR sh d 9 291 x0) fun v8 => bd (fX7_isIn sh d v8 x2 x7) fun r10 => if (bI r10) = 0 then (fX7_meet_b91 sh k33 (fX7_meet_b51 sh k33 n) x0 x1 x2 x3 x4 x6 x7 (1 : Int32) d) else (fX7_meet_b91 sh k33 (fX7_meet_b51 sh k33 n) x0 x1 x2 x3 x4 x6 x7 (0 : Int32) d)))

def fX7_meet_b33 (sh : Sh) : Nat → Nat → Int32 → Int32 → Int32 → Int32 → Int32 → Dt → Option (Int32 × Dt)
  | 0, _, _, _, _, _, _, _ => none
  | n + 1, x0, x1, x2, x3, x4, x5, d => if x5 = 0 then (some (x4, d)) else (if x3 ≤ x4 then (some (x4, d)) else (fX7_meet_b51 sh (fX7_meet_b33 sh n) fu x0 x1 x2 x3 x4 (-9 : Int32) (0 : Int32) d))

def fX7_meet_b0 (sh : Sh) (x0 : Nat) (x1 : Int32) (x2 : Int32) (x3 : Int32) (d : Dt) : Option (Int32 × Dt) := bd (kc sh 9 x0) fun _ => bd (fX7_isHand sh d x0 x1) fun r3 => if (bI r3) = 0 then (some ((-1 : Int32), d)) else (bd (fX7_isHand sh d x0 x2) fun r6 => if (bI r6) = 0 then (some ((-1 : Int32), d)) else (if x1 = x2 then (some ((-1 : Int32), d)) else (if 0 ≤ x3 then (fX7_meet_b33 sh fu x0 x1 x2 x3 (0 : Int32) (1 : Int32) d) else (some ((-1 : Int32), d)))))

def fX7_meet (sh : Sh) (d : Dt) (x0 : Nat) (x1 : Int32) (x2 : Int32) (x3 : Int32) : Option (Int32 × Dt) := fX7_meet_b0 sh x0 x1 x2 x3 d

set_option maxRecDepth 100000 in
set_option maxHeartbeats 4000000 in
theorem wX7_meet_b91 (C : mx p s m args meth c yX7_meet cX7_meet 9 (some .int) A D cy st) {k33 : Nat → Int32 → Int32 → Int32 → Int32 → Int32 → Dt → Option (Int32 × Dt)} {k51 : Nat → Int32 → Int32 → Int32 → Int32 → Int32 → Int32 → Dt → Option (Int32 × Dt)} {r : Int32} {d9 : Dt} (Hk33 : ∀ (x0 : Nat) (x1 : Int32) (x2 : Int32) (x3 : Int32) (x4 : Int32) (x5 : Int32) (d : Dt), k33 x0 x1 x2 x3 x4 x5 d = some (r, d9) → ∀ {H : Heap} {locs : List Loc} {ls : Array Slot}, HW A D cy sz sh d H → va_S A s.heap H locs → lv_has ls 9 [(0, .ref x0), (1, .int x1), (2, .int x2), (3, .int x3), (4, .int x4), (5, .int x5)] → GL p l e s m args below meth c 5 117 A D cy (some (.int r)) sz sh d9 H locs 33 ls []) (Hk51 : ∀ (x0 : Nat) (x1 : Int32) (x2 : Int32) (x3 : Int32) (x4 : Int32) (x6 : Int32) (x7 : Int32) (d : Dt), k51 x0 x1 x2 x3 x4 x6 x7 d = some (r, d9) → ∀ {H : Heap} {locs : List Loc} {ls : Array Slot}, HW A D cy sz sh d H → va_S A s.heap H locs → lv_has ls 9 [(0, .ref x0), (1, .int x1), (2, .int x2), (3, .int x3), (4, .int x4), (6, .int x6), (7, .int x7)] → GL p l e s m args below meth c 5 117 A D cy (some (.int r)) sz sh d9 H locs 51 ls []) : ∀ (x0 : Nat) (x1 : Int32) (x2 : Int32) (x3 : Int32) (x4 : Int32) (x6 : Int32) (x7 : Int32) (t0 : Int32) (d : Dt), fX7_meet_b91 sh k33 k51 x0 x1 x2 x3 x4 x6 x7 t0 d = some (r, d9) → ∀ {H : Heap} {locs : List Loc} {ls : Array Slot}, HW A D cy sz sh d H → va_S A s.heap H locs → lv_has ls 9 [(0, .ref x0), (1, .int x1), (2, .int x2), (3, .int x3), (4, .int x4), (6, .int x6), (7, .int x7)] → GL p l e s m args below meth c 5 117 A D cy (some (.int r)) sz sh d9 H locs 91 ls [.int t0] := by
  have hx := C.1
  have hb := C.2.1
  intro x0 x1 x2 x3 x4 x6 x7 t0 d hf H locs ls hw hS hl
  unfold fX7_meet_b91 at hf
  refine lv_istore (lv' := [(8, .int t0), (0, .ref x0), (1, .int x1), (2, .int x2), (3, .int x3), (4, .int x4), (6, .int x6), (7, .int x7)]) hx hb dX7_meet_91 hl (by decide) rfl (fun ls hl => ?_)
  refine lv_iload hx hb dX7_meet_93 (lv_at hl 0 rfl) ?_
  refine lv_if_eq (tgt := 121) hx hb dX7_meet_95 (by decide) (fun c_1 => ?_) (fun c_1 => ?_)
  · have hf := if_t c_1 hf
    refine lv_iload hx hb dX7_meet_121 (lv_at hl 6 rfl) ?_
    refine lv_istore (lv' := [(6, .int x6), (8, .int t0), (0, .ref x0), (1, .int x1), (2, .int x2), (3, .int x3), (4, .int x4), (7, .int x7)]) hx hb dX7_meet_123 hl (by decide) rfl (fun ls hl => ?_)
    refine lv_iinc (v := (x7 + 1)) (lv' := [(7, .int (x7 + 1)), (6, .int x6), (8, .int t0), (0, .ref x0), (1, .int x1), (2, .int x2), (3, .int x3), (4, .int x4)]) hx hb dX7_meet_125 hl (k := 7) rfl rfl (by decide) rfl (fun ls hl => ?_)
    refine lv_goto (tgt := 51) hx hb dX7_meet_128 (by decide) ?_
    exact Hk51 x0 x1 x2 x3 x4 x6 (x7 + 1) d hf hw hS (lv_sub hl [3, 4, 5, 6, 7, 1, 0] rfl)
  · have hf := if_f c_1 hf
    refine lv_iload hx hb dX7_meet_98 (lv_at hl 6 rfl) ?_
    refine lv_bipush (v := -9) hx hb dX7_meet_100 (by decide) ?_
    refine lv_icmp_eq (tgt := 116) hx hb dX7_meet_102 (by decide) (fun c_2 => ?_) (fun c_2 => ?_)
    · have hf := if_t c_2 hf
      refine lv_iload hx hb dX7_meet_116 (lv_at hl 7 rfl) ?_
      refine lv_goto (tgt := 123) hx hb dX7_meet_118 (by decide) ?_
      refine lv_istore (lv' := [(6, .int x7), (8, .int t0), (0, .ref x0), (1, .int x1), (2, .int x2), (3, .int x3), (4, .int x4), (7, .int x7)]) hx hb dX7_meet_123 hl (by decide) rfl (fun ls hl => ?_)
      refine lv_iinc (v := (x7 + 1)) (lv' := [(7, .int (x7 + 1)), (6, .int x7), (8, .int t0), (0, .ref x0), (1, .int x1), (2, .int x2), (3, .int x3), (4, .int x4)]) hx hb dX7_meet_125 hl (k := 7) rfl rfl (by decide) rfl (fun ls hl => ?_)
      refine lv_goto (tgt := 51) hx hb dX7_meet_128 (by decide) ?_
      exact Hk51 x0 x1 x2 x3 x4 x7 (x7 + 1) d hf hw hS (lv_sub hl [3, 4, 5, 6, 7, 1, 0] rfl)
    · have hf := if_f c_2 hf
      refine lv_aload_n hx hb dX7_meet_105 rfl (lv_at hl 1 rfl) ?_
      refine lv_iload hx hb dX7_meet_106 (lv_at hl 6 rfl) ?_
      refine lv_iload hx hb dX7_meet_108 (lv_at hl 7 rfl) ?_
      obtain ⟨_, h3, hf⟩ := bd_s hf
      obtain ⟨r5, h4, hf⟩ := bd_s hf
      refine cl_V0 C hw hS (tX7_isAfter l A D cy st sz sh d x0 x6 x7 h4) cvX7_isAfter kw_1034 (kc_k h3) ⟨Nat.le_of_ble_eq_true rfl, Nat.le_of_ble_eq_true rfl⟩ hl.1 rfl (Nat.le_of_ble_eq_true rfl) dX7_meet_110 ⟨Nat.zero_le _, Nat.zero_le _⟩ (fun H locs hw hS => ?_)
      refine lv_if_eq (tgt := 121) hx hb dX7_meet_113 (by decide) (fun c_6 => ?_) (fun c_6 => ?_)
      · have hf := if_t c_6 hf
        refine lv_iload hx hb dX7_meet_121 (lv_at hl 6 rfl) ?_
        refine lv_istore (lv' := [(6, .int x6), (8, .int t0), (0, .ref x0), (1, .int x1), (2, .int x2), (3, .int x3), (4, .int x4), (7, .int x7)]) hx hb dX7_meet_123 hl (by decide) rfl (fun ls hl => ?_)
        refine lv_iinc (v := (x7 + 1)) (lv' := [(7, .int (x7 + 1)), (6, .int x6), (8, .int t0), (0, .ref x0), (1, .int x1), (2, .int x2), (3, .int x3), (4, .int x4)]) hx hb dX7_meet_125 hl (k := 7) rfl rfl (by decide) rfl (fun ls hl => ?_)
        refine lv_goto (tgt := 51) hx hb dX7_meet_128 (by decide) ?_
        exact Hk51 x0 x1 x2 x3 x4 x6 (x7 + 1) d hf hw hS (lv_sub hl [3, 4, 5, 6, 7, 1, 0] rfl)
      · have hf := if_f c_6 hf
        refine lv_iload hx hb dX7_meet_116 (lv_at hl 7 rfl) ?_
        refine lv_goto (tgt := 123) hx hb dX7_meet_118 (by decide) ?_
        refine lv_istore (lv' := [(6, .int x7), (8, .int t0), (0, .ref x0), (1, .int x1), (2, .int x2), (3, .int x3), (4, .int x4), (7, .int x7)]) hx hb dX7_meet_123 hl (by decide) rfl (fun ls hl => ?_)
        refine lv_iinc (v := (x7 + 1)) (lv' := [(7, .int (x7 + 1)), (6, .int x7), (8, .int t0), (0, .ref x0), (1, .int x1), (2, .int x2), (3, .int x3), (4, .int x4)]) hx hb dX7_meet_125 hl (k := 7) rfl rfl (by decide) rfl (fun ls hl => ?_)
        refine lv_goto (tgt := 51) hx hb dX7_meet_128 (by decide) ?_
        exact Hk51 x0 x1 x2 x3 x4 x7 (x7 + 1) d hf hw hS (lv_sub hl [3, 4, 5, 6, 7, 1, 0] rfl)

set_option maxRecDepth 100000 in
set_option maxHeartbeats 4000000 in
theorem wX7_meet_b143 (C : mx p s m args meth c yX7_meet cX7_meet 9 (some .int) A D cy st) {k33 : Nat → Int32 → Int32 → Int32 → Int32 → Int32 → Dt → Option (Int32 × Dt)} {r : Int32} {d9 : Dt} (Hk33 : ∀ (x0 : Nat) (x1 : Int32) (x2 : Int32) (x3 : Int32) (x4 : Int32) (x5 : Int32) (d : Dt), k33 x0 x1 x2 x3 x4 x5 d = some (r, d9) → ∀ {H : Heap} {locs : List Loc} {ls : Array Slot}, HW A D cy sz sh d H → va_S A s.heap H locs → lv_has ls 9 [(0, .ref x0), (1, .int x1), (2, .int x2), (3, .int x3), (4, .int x4), (5, .int x5)] → GL p l e s m args below meth c 5 117 A D cy (some (.int r)) sz sh d9 H locs 33 ls []) : ∀ (x0 : Nat) (x1 : Int32) (x2 : Int32) (x3 : Int32) (x4 : Int32) (x6 : Int32) (t0 : Int32) (d : Dt), fX7_meet_b143 sh k33 x0 x1 x2 x3 x4 x6 t0 d = some (r, d9) → ∀ {H : Heap} {locs : List Loc} {ls : Array Slot}, HW A D cy sz sh d H → va_S A s.heap H locs → lv_has ls 9 [(0, .ref x0), (1, .int x1), (2, .int x2), (3, .int x3), (4, .int x4), (6, .int x6)] → GL p l e s m args below meth c 5 117 A D cy (some (.int r)) sz sh d9 H locs 143 ls [.int t0] := by
  have hx := C.1
  have hb := C.2.1
  intro x0 x1 x2 x3 x4 x6 t0 d hf H locs ls hw hS hl
  unfold fX7_meet_b143 at hf
  refine lv_istore (lv' := [(5, .int t0), (0, .ref x0), (1, .int x1), (2, .int x2), (3, .int x3), (4, .int x4), (6, .int x6)]) hx hb dX7_meet_143 hl (by decide) rfl (fun ls hl => ?_)
  refine lv_iload hx hb dX7_meet_145 (lv_at hl 0 rfl) ?_
  refine lv_if_eq (tgt := 162) hx hb dX7_meet_147 (by decide) (fun c_1 => ?_) (fun c_1 => ?_)
  · have hf := if_t c_1 hf
    refine lv_goto (tgt := 33) hx hb dX7_meet_162 (by decide) ?_
    exact Hk33 x0 x1 x2 x3 x4 t0 d hf hw hS (lv_sub hl [1, 2, 3, 4, 5, 0] rfl)
  · have hf := if_f c_1 hf
    refine lv_aload_n hx hb dX7_meet_150 rfl (lv_at hl 1 rfl) ?_
    refine lv_iload_n hx hb dX7_meet_151 rfl (lv_at hl 3 rfl) ?_
    refine lv_iload hx hb dX7_meet_152 (lv_at hl 6 rfl) ?_
    obtain ⟨_, h2, hf⟩ := bd_s hf
    obtain ⟨r4, d5, h3, hf⟩ := bd2_s hf
    refine cl_V0 C hw hS (tX7_come l A D cy st sz sh d x0 x2 x6 h3) cvX7_come kw_1042 (kc_k h2) ⟨Nat.le_of_ble_eq_true rfl, Nat.le_of_ble_eq_true rfl⟩ hl.1 rfl (Nat.le_of_ble_eq_true rfl) dX7_meet_154 ⟨Nat.zero_le _, Nat.zero_le _⟩ (fun H locs hw hS => ?_)
    refine lv_istore (lv' := [(7, .int r4), (5, .int t0), (0, .ref x0), (1, .int x1), (2, .int x2), (3, .int x3), (4, .int x4), (6, .int x6)]) hx hb dX7_meet_157 hl (by decide) rfl (fun ls hl => ?_)
    refine lv_iinc (v := (x4 + 1)) (lv' := [(4, .int (x4 + 1)), (7, .int r4), (5, .int t0), (0, .ref x0), (1, .int x1), (2, .int x2), (3, .int x3), (6, .int x6)]) hx hb dX7_meet_159 hl (k := 6) rfl rfl (by decide) rfl (fun ls hl => ?_)
    refine lv_goto (tgt := 33) hx hb dX7_meet_162 (by decide) ?_
    exact Hk33 x0 x1 x2 x3 (x4 + 1) t0 d5 hf hw hS (lv_sub hl [3, 4, 5, 6, 0, 2] rfl)

set_option maxRecDepth 100000 in
set_option maxHeartbeats 4000000 in
theorem wX7_meet_b51 (C : mx p s m args meth c yX7_meet cX7_meet 9 (some .int) A D cy st) {k33 : Nat → Int32 → Int32 → Int32 → Int32 → Int32 → Dt → Option (Int32 × Dt)} {r : Int32} {d9 : Dt} (Hk33 : ∀ (x0 : Nat) (x1 : Int32) (x2 : Int32) (x3 : Int32) (x4 : Int32) (x5 : Int32) (d : Dt), k33 x0 x1 x2 x3 x4 x5 d = some (r, d9) → ∀ {H : Heap} {locs : List Loc} {ls : Array Slot}, HW A D cy sz sh d H → va_S A s.heap H locs → lv_has ls 9 [(0, .ref x0), (1, .int x1), (2, .int x2), (3, .int x3), (4, .int x4), (5, .int x5)] → GL p l e s m args below meth c 5 117 A D cy (some (.int r)) sz sh d9 H locs 33 ls []) : ∀ (n : Nat) (x0 : Nat) (x1 : Int32) (x2 : Int32) (x3 : Int32) (x4 : Int32) (x6 : Int32) (x7 : Int32) (d : Dt), fX7_meet_b51 sh k33 n x0 x1 x2 x3 x4 x6 x7 d = some (r, d9) → ∀ {H : Heap} {locs : List Loc} {ls : Array Slot}, HW A D cy sz sh d H → va_S A s.heap H locs → lv_has ls 9 [(0, .ref x0), (1, .int x1), (2, .int x2), (3, .int x3), (4, .int x4), (6, .int x6), (7, .int x7)] → GL p l e s m args below meth c 5 117 A D cy (some (.int r)) sz sh d9 H locs 51 ls [] := by
  have hx := C.1
  have hb := C.2.1
  intro n
  induction n with
  | zero => intro x0 x1 x2 x3 x4 x6 x7 d hf; cases hf
  | succ n ih =>
    intro x0 x1 x2 x3 x4 x6 x7 d hf H locs ls hw hS hl
    rw [fX7_meet_b51] at hf
    refine lv_iload hx hb dX7_meet_51 (lv_at hl 6 rfl) ?_
    refine lv_aload_n hx hb dX7_meet_53 rfl (lv_at hl 0 rfl) ?_
    obtain ⟨v1, hv1, hf⟩ := bd_s hf
    refine gt_297 C hw hv1 kw_806 dX7_meet_54 ?_
    refine lv_icmp_ge (tgt := 131) hx hb dX7_meet_57 (by decide) (fun c_2 => ?_) (fun c_2 => ?_)
    · have hf := if_t c_2 hf
      refine lv_iload hx hb dX7_meet_131 (lv_at hl 5 rfl) ?_
      refine lv_bipush (v := -9) hx hb dX7_meet_133 (by decide) ?_
      refine lv_icmp_eq (tgt := 142) hx hb dX7_meet_135 (by decide) (fun c_3 => ?_) (fun c_3 => ?_)
      · have hf := if_t c_3 hf
        refine lv_iconst (v := 0) hx hb dX7_meet_142 (by decide) ?_
        exact wX7_meet_b143 C Hk33 x0 x1 x2 x3 x4 x6 (0 : Int32) d hf hw hS (lv_sub hl [0, 1, 2, 3, 4, 5] rfl)
      · have hf := if_f c_3 hf
        refine lv_iconst (v := 1) hx hb dX7_meet_138 (by decide) ?_
        refine lv_goto (tgt := 143) hx hb dX7_meet_139 (by decide) ?_
        exact wX7_meet_b143 C Hk33 x0 x1 x2 x3 x4 x6 (1 : Int32) d hf hw hS (lv_sub hl [0, 1, 2, 3, 4, 5] rfl)
    · have hf := if_f c_2 hf
      refine lv_aload_n hx hb dX7_meet_60 rfl (lv_at hl 0 rfl) ?_
      obtain ⟨v4, hv4, hf⟩ := bd_s hf
      refine gt_291 C hw hv4 kw_800 dX7_meet_61 ?_
      refine lv_iload_n hx hb dX7_meet_64 rfl (lv_at hl 1 rfl) ?_
      refine lv_iload hx hb dX7_meet_65 (lv_at hl 6 rfl) ?_
      obtain ⟨r6, h5, hf⟩ := bd_s hf
      refine cl_S0 C hw hS (tX7_isIn l A D cy st sz sh d v4 x1 x7 h5) csX7_isIn kw_933 ⟨Nat.le_of_ble_eq_true rfl, Nat.le_of_ble_eq_true rfl⟩ hl.1 rfl (Nat.le_of_ble_eq_true rfl) dX7_meet_67 ⟨Nat.zero_le _, Nat.zero_le _⟩ (fun H locs hw hS => ?_)
      refine lv_if_eq (tgt := 90) hx hb dX7_meet_70 (by decide) (fun c_7 => ?_) (fun c_7 => ?_)
      · have hf := if_t c_7 hf
        refine lv_iconst (v := 0) hx hb dX7_meet_90 (by decide) ?_
        exact wX7_meet_b91 C Hk33 ih x0 x1 x2 x3 x4 x6 x7 (0 : Int32) d hf hw hS (lv_sub hl [0, 1, 2, 3, 4, 5, 6] rfl)
      · have hf := if_f c_7 hf
        refine lv_aload_n hx hb dX7_meet_73 rfl (lv_at hl 0 rfl) ?_
        obtain ⟨v8, hv8, hf⟩ := bd_s hf
        refine gt_291 C hw hv8 kw_800 dX7_meet_74 ?_
        refine lv_iload_n hx hb dX7_meet_77 rfl (lv_at hl 2 rfl) ?_
        refine lv_iload hx hb dX7_meet_78 (lv_at hl 6 rfl) ?_
        obtain ⟨r10, h9, hf⟩ := bd_s hf
        refine cl_S0 C hw hS (tX7_isIn l A D cy st sz sh d v8 x2 x7 h9) csX7_isIn kw_933 ⟨Nat.le_of_ble_eq_true rfl, Nat.le_of_ble_eq_true rfl⟩ hl.1 rfl (Nat.le_of_ble_eq_true rfl) dX7_meet_80 ⟨Nat.zero_le _, Nat.zero_le _⟩ (fun H locs hw hS => ?_)
        refine lv_if_ne (tgt := 90) hx hb dX7_meet_83 (by decide) (fun c_11 => ?_) (fun c_11 => ?_)
        · have hf := if_f c_11 hf
          refine lv_iconst (v := 0) hx hb dX7_meet_90 (by decide) ?_
          exact wX7_meet_b91 C Hk33 ih x0 x1 x2 x3 x4 x6 x7 (0 : Int32) d hf hw hS (lv_sub hl [0, 1, 2, 3, 4, 5, 6] rfl)
        · have hf := if_t c_11 hf
          refine lv_iconst (v := 1) hx hb dX7_meet_86 (by decide) ?_
          refine lv_goto (tgt := 91) hx hb dX7_meet_87 (by decide) ?_
          exact wX7_meet_b91 C Hk33 ih x0 x1 x2 x3 x4 x6 x7 (1 : Int32) d hf hw hS (lv_sub hl [0, 1, 2, 3, 4, 5, 6] rfl)

set_option maxRecDepth 100000 in
set_option maxHeartbeats 4000000 in
theorem wX7_meet_b33 (C : mx p s m args meth c yX7_meet cX7_meet 9 (some .int) A D cy st) {r : Int32} {d9 : Dt} : ∀ (n : Nat) (x0 : Nat) (x1 : Int32) (x2 : Int32) (x3 : Int32) (x4 : Int32) (x5 : Int32) (d : Dt), fX7_meet_b33 sh n x0 x1 x2 x3 x4 x5 d = some (r, d9) → ∀ {H : Heap} {locs : List Loc} {ls : Array Slot}, HW A D cy sz sh d H → va_S A s.heap H locs → lv_has ls 9 [(0, .ref x0), (1, .int x1), (2, .int x2), (3, .int x3), (4, .int x4), (5, .int x5)] → GL p l e s m args below meth c 5 117 A D cy (some (.int r)) sz sh d9 H locs 33 ls [] := by
  have hx := C.1
  have hb := C.2.1
  intro n
  induction n with
  | zero => intro x0 x1 x2 x3 x4 x5 d hf; cases hf
  | succ n ih =>
    intro x0 x1 x2 x3 x4 x5 d hf H locs ls hw hS hl
    rw [fX7_meet_b33] at hf
    refine lv_iload hx hb dX7_meet_33 (lv_at hl 5 rfl) ?_
    refine lv_if_eq (tgt := 165) hx hb dX7_meet_35 (by decide) (fun c_1 => ?_) (fun c_1 => ?_)
    · have hf := if_t c_1 hf
      refine lv_iload hx hb dX7_meet_165 (lv_at hl 4 rfl) ?_
      cases hf
      exact rt_i C hw hS dX7_meet_167
    · have hf := if_f c_1 hf
      refine lv_iload hx hb dX7_meet_38 (lv_at hl 4 rfl) ?_
      refine lv_iload_n hx hb dX7_meet_40 rfl (lv_at hl 3 rfl) ?_
      refine lv_icmp_ge (tgt := 165) hx hb dX7_meet_41 (by decide) (fun c_2 => ?_) (fun c_2 => ?_)
      · have hf := if_t c_2 hf
        refine lv_iload hx hb dX7_meet_165 (lv_at hl 4 rfl) ?_
        cases hf
        exact rt_i C hw hS dX7_meet_167
      · have hf := if_f c_2 hf
        refine lv_bipush (v := -9) hx hb dX7_meet_44 (by decide) ?_
        refine lv_istore (lv' := [(6, .int (-9 : Int32)), (0, .ref x0), (1, .int x1), (2, .int x2), (3, .int x3), (4, .int x4), (5, .int x5)]) hx hb dX7_meet_46 hl (by decide) rfl (fun ls hl => ?_)
        refine lv_iconst (v := 0) hx hb dX7_meet_48 (by decide) ?_
        refine lv_istore (lv' := [(7, .int (0 : Int32)), (6, .int (-9 : Int32)), (0, .ref x0), (1, .int x1), (2, .int x2), (3, .int x3), (4, .int x4), (5, .int x5)]) hx hb dX7_meet_49 hl (by decide) rfl (fun ls hl => ?_)
        exact wX7_meet_b51 C ih fu x0 x1 x2 x3 x4 (-9 : Int32) (0 : Int32) d hf hw hS (lv_sub hl [2, 3, 4, 5, 6, 1, 0] rfl)

set_option maxRecDepth 100000 in
set_option maxHeartbeats 4000000 in
theorem wX7_meet_b0 (C : mx p s m args meth c yX7_meet cX7_meet 9 (some .int) A D cy st) {r : Int32} {d9 : Dt} : ∀ (x0 : Nat) (x1 : Int32) (x2 : Int32) (x3 : Int32) (d : Dt), fX7_meet_b0 sh x0 x1 x2 x3 d = some (r, d9) → ∀ {H : Heap} {locs : List Loc} {ls : Array Slot}, HW A D cy sz sh d H → va_S A s.heap H locs → lv_has ls 9 [(0, .ref x0), (1, .int x1), (2, .int x2), (3, .int x3)] → GL p l e s m args below meth c 5 117 A D cy (some (.int r)) sz sh d9 H locs 0 ls [] := by
  have hx := C.1
  have hb := C.2.1
  intro x0 x1 x2 x3 d hf H locs ls hw hS hl
  unfold fX7_meet_b0 at hf
  refine lv_aload_n hx hb dX7_meet_0 rfl (lv_at hl 0 rfl) ?_
  refine lv_iload_n hx hb dX7_meet_1 rfl (lv_at hl 1 rfl) ?_
  obtain ⟨_, h1, hf⟩ := bd_s hf
  obtain ⟨r3, h2, hf⟩ := bd_s hf
  refine cl_V0 C hw hS (tX7_isHand l A D cy st sz sh d x0 x1 h2) cvX7_isHand kw_917 (kc_k h1) ⟨Nat.le_of_ble_eq_true rfl, Nat.le_of_ble_eq_true rfl⟩ hl.1 rfl (Nat.le_of_ble_eq_true rfl) dX7_meet_2 ⟨Nat.zero_le _, Nat.zero_le _⟩ (fun H locs hw hS => ?_)
  refine lv_if_eq (tgt := 25) hx hb dX7_meet_5 (by decide) (fun c_4 => ?_) (fun c_4 => ?_)
  · have hf := if_t c_4 hf
    refine lv_iconst (v := -1) hx hb dX7_meet_25 (by decide) ?_
    cases hf
    exact rt_i C hw hS dX7_meet_26
  · have hf := if_f c_4 hf
    refine lv_aload_n hx hb dX7_meet_8 rfl (lv_at hl 0 rfl) ?_
    refine lv_iload_n hx hb dX7_meet_9 rfl (lv_at hl 2 rfl) ?_
    obtain ⟨r6, h5, hf⟩ := bd_s hf
    refine cl_V0 C hw hS (tX7_isHand l A D cy st sz sh d x0 x2 h5) cvX7_isHand kw_917 (kc_k h1) ⟨Nat.le_of_ble_eq_true rfl, Nat.le_of_ble_eq_true rfl⟩ hl.1 rfl (Nat.le_of_ble_eq_true rfl) dX7_meet_10 ⟨Nat.zero_le _, Nat.zero_le _⟩ (fun H locs hw hS => ?_)
    refine lv_if_eq (tgt := 25) hx hb dX7_meet_13 (by decide) (fun c_7 => ?_) (fun c_7 => ?_)
    · have hf := if_t c_7 hf
      refine lv_iconst (v := -1) hx hb dX7_meet_25 (by decide) ?_
      cases hf
      exact rt_i C hw hS dX7_meet_26
    · have hf := if_f c_7 hf
      refine lv_iload_n hx hb dX7_meet_16 rfl (lv_at hl 1 rfl) ?_
      refine lv_iload_n hx hb dX7_meet_17 rfl (lv_at hl 2 rfl) ?_
      refine lv_icmp_eq (tgt := 25) hx hb dX7_meet_18 (by decide) (fun c_8 => ?_) (fun c_8 => ?_)
      · have hf := if_t c_8 hf
        refine lv_iconst (v := -1) hx hb dX7_meet_25 (by decide) ?_
        cases hf
        exact rt_i C hw hS dX7_meet_26
      · have hf := if_f c_8 hf
        refine lv_iload_n hx hb dX7_meet_21 rfl (lv_at hl 3 rfl) ?_
        refine lv_if_ge (tgt := 27) hx hb dX7_meet_22 (by decide) (fun c_9 => ?_) (fun c_9 => ?_)
        · have hf := if_t c_9 hf
          refine lv_iconst (v := 0) hx hb dX7_meet_27 (by decide) ?_
          refine lv_istore (lv' := [(4, .int (0 : Int32)), (0, .ref x0), (1, .int x1), (2, .int x2), (3, .int x3)]) hx hb dX7_meet_28 hl (by decide) rfl (fun ls hl => ?_)
          refine lv_iconst (v := 1) hx hb dX7_meet_30 (by decide) ?_
          refine lv_istore (lv' := [(5, .int (1 : Int32)), (4, .int (0 : Int32)), (0, .ref x0), (1, .int x1), (2, .int x2), (3, .int x3)]) hx hb dX7_meet_31 hl (by decide) rfl (fun ls hl => ?_)
          exact wX7_meet_b33 C fu x0 x1 x2 x3 (0 : Int32) (1 : Int32) d hf hw hS (lv_sub hl [2, 3, 4, 5, 1, 0] rfl)
        · have hf := if_f c_9 hf
          refine lv_iconst (v := -1) hx hb dX7_meet_25 (by decide) ?_
          cases hf
          exact rt_i C hw hS dX7_meet_26

set_option maxRecDepth 100000 in
set_option maxHeartbeats 4000000 in
theorem tX7_meet (l : Launch) (A : Nat → Prop) (D : va_G) (cy : Nat → ClassId) (st : Nat → Nat) (sz : Nat) (sh : Sh) (d : Dt) (x0 : Nat) (x1 : Int32) (x2 : Int32) (x3 : Int32) {r : Int32} {d9 : Dt} (hf : fX7_meet sh d x0 x1 x2 x3 = some (r, d9)) : Ct l yX7_meet cX7_meet 9 (some .int) 5 117 0 0 A D cy st [.ref x0, .int x1, .int x2, .int x3] sz sh d (some (.int r)) sz sh d9 := ct_of (by decide) (Nat.le_of_ble_eq_true rfl) (fun p e s m args below meth c C hw hS ls hl => wX7_meet_b0 C x0 x1 x2 x3 d hf hw hS hl)
theorem dX7_lose_0 : decode cX7_lose 0 = .ok (.aload_n 0, 1) := by decide +kernel
theorem dX7_lose_1 : decode cX7_lose 1 = .ok (.iload_n 1, 1) := by decide +kernel
theorem dX7_lose_2 : decode cX7_lose 2 = .ok (.invokevirtual 109, 3) := by decide +kernel
theorem dX7_lose_5 : decode cX7_lose 5 = .ok (.ifCond .ne 5, 3) := by decide +kernel
theorem dX7_lose_8 : decode cX7_lose 8 = .ok (.iconst (-1), 1) := by decide +kernel
theorem dX7_lose_9 : decode cX7_lose 9 = .ok (.ireturn, 1) := by decide +kernel
theorem dX7_lose_10 : decode cX7_lose 10 = .ok (.aload_n 0, 1) := by decide +kernel
theorem dX7_lose_11 : decode cX7_lose 11 = .ok (.aload_n 0, 1) := by decide +kernel
theorem dX7_lose_12 : decode cX7_lose 12 = .ok (.getfield 13, 3) := by decide +kernel
theorem dX7_lose_15 : decode cX7_lose 15 = .ok (.iload_n 1, 1) := by decide +kernel
theorem dX7_lose_16 : decode cX7_lose 16 = .ok (.invokevirtual 154, 3) := by decide +kernel
theorem dX7_lose_19 : decode cX7_lose 19 = .ok (.istore_n 2, 1) := by decide +kernel
theorem dX7_lose_20 : decode cX7_lose 20 = .ok (.aload_n 0, 1) := by decide +kernel
theorem dX7_lose_21 : decode cX7_lose 21 = .ok (.getfield 13, 3) := by decide +kernel
theorem dX7_lose_24 : decode cX7_lose 24 = .ok (.iload_n 1, 1) := by decide +kernel
theorem dX7_lose_25 : decode cX7_lose 25 = .ok (.invokestatic 181, 3) := by decide +kernel
theorem dX7_lose_28 : decode cX7_lose 28 = .ok (.aload_n 0, 1) := by decide +kernel
theorem dX7_lose_29 : decode cX7_lose 29 = .ok (.getfield 17, 3) := by decide +kernel
theorem dX7_lose_32 : decode cX7_lose 32 = .ok (.iload_n 1, 1) := by decide +kernel
theorem dX7_lose_33 : decode cX7_lose 33 = .ok (.invokestatic 181, 3) := by decide +kernel
theorem dX7_lose_36 : decode cX7_lose 36 = .ok (.iconst 0, 1) := by decide +kernel
theorem dX7_lose_37 : decode cX7_lose 37 = .ok (.istore_n 3, 1) := by decide +kernel
theorem dX7_lose_38 : decode cX7_lose 38 = .ok (.iload_n 3, 1) := by decide +kernel
theorem dX7_lose_39 : decode cX7_lose 39 = .ok (.bipush 10, 2) := by decide +kernel
theorem dX7_lose_41 : decode cX7_lose 41 = .ok (.if_icmp .ge 21, 3) := by decide +kernel
theorem dX7_lose_44 : decode cX7_lose 44 = .ok (.aload_n 0, 1) := by decide +kernel
theorem dX7_lose_45 : decode cX7_lose 45 = .ok (.getfield 20, 3) := by decide +kernel
theorem dX7_lose_48 : decode cX7_lose 48 = .ok (.bipush 10, 2) := by decide +kernel
theorem dX7_lose_50 : decode cX7_lose 50 = .ok (.iload_n 1, 1) := by decide +kernel
theorem dX7_lose_51 : decode cX7_lose 51 = .ok (.imul, 1) := by decide +kernel
theorem dX7_lose_52 : decode cX7_lose 52 = .ok (.iload_n 3, 1) := by decide +kernel
theorem dX7_lose_53 : decode cX7_lose 53 = .ok (.iadd, 1) := by decide +kernel
theorem dX7_lose_54 : decode cX7_lose 54 = .ok (.iconst 0, 1) := by decide +kernel
theorem dX7_lose_55 : decode cX7_lose 55 = .ok (.bastore, 1) := by decide +kernel
theorem dX7_lose_56 : decode cX7_lose 56 = .ok (.iinc 3 1, 3) := by decide +kernel
theorem dX7_lose_59 : decode cX7_lose 59 = .ok (.goto (-21), 3) := by decide +kernel
theorem dX7_lose_62 : decode cX7_lose 62 = .ok (.iload_n 2, 1) := by decide +kernel
theorem dX7_lose_63 : decode cX7_lose 63 = .ok (.ireturn, 1) := by decide +kernel
theorem cvX7_lose : CV yX7_lose cX7_lose 4 (some .int) 8 1 := ⟨kw_1044, kw_1045, kw_6, kw_1046, ⟨_, _, rfl⟩, by decide, by decide +kernel, by decide +kernel, by decide +kernel⟩
def fX7_lose_b38 (sh : Sh) : Nat → Nat → Int32 → Int32 → Int32 → Dt → Option (Int32 × Dt)
  | 0, _, _, _, _, _ => none
  | n + 1, x0, x1, x2, x3, d => if (10 : Int32) ≤ x3 then (some (x2, d)) else (bd (gR sh d 9 293 x0) fun v2 => bd v2 fun a3 => bd (sZ sh d 22 a3 (((10 : Int32) * x1) + x3) (0 : Int32)) fun d4 => fX7_lose_b38 sh n x0 x1 x2 (x3 + 1) d4)

def fX7_lose_b0 (sh : Sh) (x0 : Nat) (x1 : Int32) (d : Dt) : Option (Int32 × Dt) := bd (kc sh 9 x0) fun _ => bd (fX7_isHand sh d x0 x1) fun r3 => if (bI r3) = 0 then (some ((-1 : Int32), d)) else (bd (gR sh d 9 291 x0) fun v5 => bd (fX7_size sh d x0 v5 x1) fun r7 => bd (gR sh d 9 291 x0) fun v8 => bd (fX7_clear sh d v8 x1) fun d11 => bd (gR sh d11 9 292 x0) fun v12 => bd (fX7_clear sh d11 v12 x1) fun d15 => fX7_lose_b38 sh fu x0 x1 r7 (0 : Int32) d15)

def fX7_lose (sh : Sh) (d : Dt) (x0 : Nat) (x1 : Int32) : Option (Int32 × Dt) := fX7_lose_b0 sh x0 x1 d

set_option maxRecDepth 100000 in
set_option maxHeartbeats 4000000 in
theorem wX7_lose_b38 (C : mx p s m args meth c yX7_lose cX7_lose 4 (some .int) A D cy st) {r : Int32} {d9 : Dt} : ∀ (n : Nat) (x0 : Nat) (x1 : Int32) (x2 : Int32) (x3 : Int32) (d : Dt), fX7_lose_b38 sh n x0 x1 x2 x3 d = some (r, d9) → ∀ {H : Heap} {locs : List Loc} {ls : Array Slot}, HW A D cy sz sh d H → va_S A s.heap H locs → lv_has ls 4 [(0, .ref x0), (1, .int x1), (2, .int x2), (3, .int x3)] → GL p l e s m args below meth c 2 46 A D cy (some (.int r)) sz sh d9 H locs 38 ls [] := by
  have hx := C.1
  have hb := C.2.1
  intro n
  induction n with
  | zero => intro x0 x1 x2 x3 d hf; cases hf
  | succ n ih =>
    intro x0 x1 x2 x3 d hf H locs ls hw hS hl
    rw [fX7_lose_b38] at hf
    refine lv_iload_n hx hb dX7_lose_38 rfl (lv_at hl 3 rfl) ?_
    refine lv_bipush (v := 10) hx hb dX7_lose_39 (by decide) ?_
    refine lv_icmp_ge (tgt := 62) hx hb dX7_lose_41 (by decide) (fun c_1 => ?_) (fun c_1 => ?_)
    · have hf := if_t c_1 hf
      refine lv_iload_n hx hb dX7_lose_62 rfl (lv_at hl 2 rfl) ?_
      cases hf
      exact rt_i C hw hS dX7_lose_63
    · have hf := if_f c_1 hf
      refine lv_aload_n hx hb dX7_lose_44 rfl (lv_at hl 0 rfl) ?_
      obtain ⟨v2, hv2, hf⟩ := bd_s hf
      refine gt_293 C hw hv2 kw_802 dX7_lose_45 ?_
      refine lv_bipush (v := 10) hx hb dX7_lose_48 (by decide) ?_
      refine lv_iload_n hx hb dX7_lose_50 rfl (lv_at hl 1 rfl) ?_
      refine lv_imul hx hb dX7_lose_51 ?_
      refine lv_iload_n hx hb dX7_lose_52 rfl (lv_at hl 3 rfl) ?_
      refine lv_iadd hx hb dX7_lose_53 ?_
      refine lv_iconst (v := 0) hx hb dX7_lose_54 (by decide) ?_
      obtain ⟨a3, ea3, hg⟩ := bd_s hf
      clear hf
      subst ea3
      have hf := hg
      clear hg
      obtain ⟨d4, hd4, hf⟩ := bd_s hf
      refine w_zast C hw hS hd4 dX7_lose_55 (fun H locs hw hS => ?_)
      refine lv_iinc (v := (x3 + 1)) (lv' := [(3, .int (x3 + 1)), (0, .ref x0), (1, .int x1), (2, .int x2)]) hx hb dX7_lose_56 hl (k := 3) rfl rfl (by decide) rfl (fun ls hl => ?_)
      refine lv_goto (tgt := 38) hx hb dX7_lose_59 (by decide) ?_
      exact ih x0 x1 x2 (x3 + 1) d4 hf hw hS (lv_sub hl [1, 2, 3, 0] rfl)

set_option maxRecDepth 100000 in
set_option maxHeartbeats 4000000 in
theorem wX7_lose_b0 (C : mx p s m args meth c yX7_lose cX7_lose 4 (some .int) A D cy st) {r : Int32} {d9 : Dt} : ∀ (x0 : Nat) (x1 : Int32) (d : Dt), fX7_lose_b0 sh x0 x1 d = some (r, d9) → ∀ {H : Heap} {locs : List Loc} {ls : Array Slot}, HW A D cy sz sh d H → va_S A s.heap H locs → lv_has ls 4 [(0, .ref x0), (1, .int x1)] → GL p l e s m args below meth c 2 46 A D cy (some (.int r)) sz sh d9 H locs 0 ls [] := by
  have hx := C.1
  have hb := C.2.1
  intro x0 x1 d hf H locs ls hw hS hl
  unfold fX7_lose_b0 at hf
  refine lv_aload_n hx hb dX7_lose_0 rfl (lv_at hl 0 rfl) ?_
  refine lv_iload_n hx hb dX7_lose_1 rfl (lv_at hl 1 rfl) ?_
  obtain ⟨_, h1, hf⟩ := bd_s hf
  obtain ⟨r3, h2, hf⟩ := bd_s hf
  refine cl_V0 C hw hS (tX7_isHand l A D cy st sz sh d x0 x1 h2) cvX7_isHand kw_917 (kc_k h1) ⟨Nat.le_of_ble_eq_true rfl, Nat.le_of_ble_eq_true rfl⟩ hl.1 rfl (Nat.le_of_ble_eq_true rfl) dX7_lose_2 ⟨Nat.zero_le _, Nat.zero_le _⟩ (fun H locs hw hS => ?_)
  refine lv_if_ne (tgt := 10) hx hb dX7_lose_5 (by decide) (fun c_4 => ?_) (fun c_4 => ?_)
  · have hf := if_f c_4 hf
    refine lv_aload_n hx hb dX7_lose_10 rfl (lv_at hl 0 rfl) ?_
    refine lv_aload_n hx hb dX7_lose_11 rfl (lv_at hl 0 rfl) ?_
    obtain ⟨v5, hv5, hf⟩ := bd_s hf
    refine gt_291 C hw hv5 kw_800 dX7_lose_12 ?_
    refine lv_iload_n hx hb dX7_lose_15 rfl (lv_at hl 1 rfl) ?_
    obtain ⟨r7, h6, hf⟩ := bd_s hf
    refine cl_V0 C hw hS (tX7_size l A D cy st sz sh d x0 v5 x1 h6) cvX7_size kw_1003 (gR_s hv5).1 ⟨Nat.le_of_ble_eq_true rfl, Nat.le_of_ble_eq_true rfl⟩ hl.1 rfl (Nat.le_of_ble_eq_true rfl) dX7_lose_16 ⟨Nat.zero_le _, Nat.zero_le _⟩ (fun H locs hw hS => ?_)
    refine lv_istore_n (lv' := [(2, .int r7), (0, .ref x0), (1, .int x1)]) hx hb dX7_lose_19 rfl hl (by decide) rfl (fun ls hl => ?_)
    refine lv_aload_n hx hb dX7_lose_20 rfl (lv_at hl 1 rfl) ?_
    obtain ⟨v8, hv8, hf⟩ := bd_s hf
    refine gt_291 C hw hv8 kw_800 dX7_lose_21 ?_
    refine lv_iload_n hx hb dX7_lose_24 rfl (lv_at hl 2 rfl) ?_
    obtain ⟨d11, h9, hf⟩ := bd_s hf
    refine cl_S0 C hw hS (tX7_clear l A D cy st sz sh d v8 x1 h9) csX7_clear kw_1047 ⟨Nat.le_of_ble_eq_true rfl, Nat.le_of_ble_eq_true rfl⟩ hl.1 rfl (Nat.le_of_ble_eq_true rfl) dX7_lose_25 ⟨Nat.zero_le _, Nat.zero_le _⟩ (fun H locs hw hS => ?_)
    refine lv_aload_n hx hb dX7_lose_28 rfl (lv_at hl 1 rfl) ?_
    obtain ⟨v12, hv12, hf⟩ := bd_s hf
    refine gt_292 C hw hv12 kw_801 dX7_lose_29 ?_
    refine lv_iload_n hx hb dX7_lose_32 rfl (lv_at hl 2 rfl) ?_
    obtain ⟨d15, h13, hf⟩ := bd_s hf
    refine cl_S0 C hw hS (tX7_clear l A D cy st sz sh d11 v12 x1 h13) csX7_clear kw_1047 ⟨Nat.le_of_ble_eq_true rfl, Nat.le_of_ble_eq_true rfl⟩ hl.1 rfl (Nat.le_of_ble_eq_true rfl) dX7_lose_33 ⟨Nat.zero_le _, Nat.zero_le _⟩ (fun H locs hw hS => ?_)
    refine lv_iconst (v := 0) hx hb dX7_lose_36 (by decide) ?_
    refine lv_istore_n (lv' := [(3, .int (0 : Int32)), (2, .int r7), (0, .ref x0), (1, .int x1)]) hx hb dX7_lose_37 rfl hl (by decide) rfl (fun ls hl => ?_)
    exact wX7_lose_b38 C fu x0 x1 r7 (0 : Int32) d15 hf hw hS (lv_sub hl [2, 3, 1, 0] rfl)
  · have hf := if_t c_4 hf
    refine lv_iconst (v := -1) hx hb dX7_lose_8 (by decide) ?_
    cases hf
    exact rt_i C hw hS dX7_lose_9

set_option maxRecDepth 100000 in
set_option maxHeartbeats 4000000 in
theorem tX7_lose (l : Launch) (A : Nat → Prop) (D : va_G) (cy : Nat → ClassId) (st : Nat → Nat) (sz : Nat) (sh : Sh) (d : Dt) (x0 : Nat) (x1 : Int32) {r : Int32} {d9 : Dt} (hf : fX7_lose sh d x0 x1 = some (r, d9)) : Ct l yX7_lose cX7_lose 4 (some .int) 2 46 0 0 A D cy st [.ref x0, .int x1] sz sh d (some (.int r)) sz sh d9 := ct_of (by decide) (Nat.le_of_ble_eq_true rfl) (fun p e s m args below meth c C hw hS ls hl => wX7_lose_b0 C x0 x1 d hf hw hS hl)
theorem dX7_told_0 : decode cX7_told 0 = .ok (.aload_n 0, 1) := by decide +kernel
theorem dX7_told_1 : decode cX7_told 1 = .ok (.iload_n 1, 1) := by decide +kernel
theorem dX7_told_2 : decode cX7_told 2 = .ok (.invokevirtual 109, 3) := by decide +kernel
theorem dX7_told_5 : decode cX7_told 5 = .ok (.ifCond .ne 5, 3) := by decide +kernel
theorem dX7_told_8 : decode cX7_told 8 = .ok (.iconst (-1), 1) := by decide +kernel
theorem dX7_told_9 : decode cX7_told 9 = .ok (.ireturn, 1) := by decide +kernel
theorem dX7_told_10 : decode cX7_told 10 = .ok (.iload_n 2, 1) := by decide +kernel
theorem dX7_told_11 : decode cX7_told 11 = .ok (.tableswitch 72 0 4 #[33, 43, 53, 59, 65], 33) := by decide +kernel
theorem dX7_told_44 : decode cX7_told 44 = .ok (.aload_n 0, 1) := by decide +kernel
theorem dX7_told_45 : decode cX7_told 45 = .ok (.aload_n 0, 1) := by decide +kernel
theorem dX7_told_46 : decode cX7_told 46 = .ok (.getfield 13, 3) := by decide +kernel
theorem dX7_told_49 : decode cX7_told 49 = .ok (.iload_n 1, 1) := by decide +kernel
theorem dX7_told_50 : decode cX7_told 50 = .ok (.invokevirtual 154, 3) := by decide +kernel
theorem dX7_told_53 : decode cX7_told 53 = .ok (.ireturn, 1) := by decide +kernel
theorem dX7_told_54 : decode cX7_told 54 = .ok (.aload_n 0, 1) := by decide +kernel
theorem dX7_told_55 : decode cX7_told 55 = .ok (.aload_n 0, 1) := by decide +kernel
theorem dX7_told_56 : decode cX7_told 56 = .ok (.getfield 17, 3) := by decide +kernel
theorem dX7_told_59 : decode cX7_told 59 = .ok (.iload_n 1, 1) := by decide +kernel
theorem dX7_told_60 : decode cX7_told 60 = .ok (.invokevirtual 154, 3) := by decide +kernel
theorem dX7_told_63 : decode cX7_told 63 = .ok (.ireturn, 1) := by decide +kernel
theorem dX7_told_64 : decode cX7_told 64 = .ok (.aload_n 0, 1) := by decide +kernel
theorem dX7_told_65 : decode cX7_told 65 = .ok (.iload_n 1, 1) := by decide +kernel
theorem dX7_told_66 : decode cX7_told 66 = .ok (.invokevirtual 123, 3) := by decide +kernel
theorem dX7_told_69 : decode cX7_told 69 = .ok (.ireturn, 1) := by decide +kernel
theorem dX7_told_70 : decode cX7_told 70 = .ok (.aload_n 0, 1) := by decide +kernel
theorem dX7_told_71 : decode cX7_told 71 = .ok (.iload_n 1, 1) := by decide +kernel
theorem dX7_told_72 : decode cX7_told 72 = .ok (.invokevirtual 112, 3) := by decide +kernel
theorem dX7_told_75 : decode cX7_told 75 = .ok (.ireturn, 1) := by decide +kernel
theorem dX7_told_76 : decode cX7_told 76 = .ok (.aload_n 0, 1) := by decide +kernel
theorem dX7_told_77 : decode cX7_told 77 = .ok (.getfield 24, 3) := by decide +kernel
theorem dX7_told_80 : decode cX7_told 80 = .ok (.iload_n 1, 1) := by decide +kernel
theorem dX7_told_81 : decode cX7_told 81 = .ok (.iaload, 1) := by decide +kernel
theorem dX7_told_82 : decode cX7_told 82 = .ok (.ireturn, 1) := by decide +kernel
theorem dX7_told_83 : decode cX7_told 83 = .ok (.iconst (-1), 1) := by decide +kernel
theorem dX7_told_84 : decode cX7_told 84 = .ok (.ireturn, 1) := by decide +kernel
theorem cvX7_told : CV yX7_told cX7_told 3 (some .int) 8 2 := ⟨kw_1051, kw_1052, kw_6, kw_1053, ⟨_, _, rfl⟩, by decide, by decide +kernel, by decide +kernel, by decide +kernel⟩
def fX7_told_b0 (sh : Sh) (d : Dt) (x0 : Nat) (x1 : Int32) (x2 : Int32) : Option (Int32) := bd (kc sh 9 x0) fun _ => bd (fX7_isHand sh d x0 x1) fun r3 => if (bI r3) = 0 then (some (-1 : Int32)) else (if x2 = 0 then (bd (gR sh d 9 291 x0) fun v6 => bd (fX7_size sh d x0 v6 x1) fun r8 => some r8) else if x2 = 1 then (bd (gR sh d 9 292 x0) fun v10 => bd (fX7_size sh d x0 v10 x1) fun r12 => some r12) else if x2 = 2 then (bd (fX7_greatestCount sh d x0 x1) fun r15 => some r15) else if x2 = 3 then (bd (fX7_ownOf sh d x0 x1) fun r18 => some r18) else if x2 = 4 then (bd (gR sh d 9 294 x0) fun v20 => bd v20 fun a21 => bd (aI sh d 20 a21 x1) fun v22 => some v22) else (some (-1 : Int32)))

def fX7_told (sh : Sh) (d : Dt) (x0 : Nat) (x1 : Int32) (x2 : Int32) : Option (Int32) := fX7_told_b0 sh d x0 x1 x2

set_option maxRecDepth 100000 in
set_option maxHeartbeats 4000000 in
theorem wX7_told_b0 (C : mx p s m args meth c yX7_told cX7_told 3 (some .int) A D cy st) {r : Int32} {d : Dt} : ∀ (x0 : Nat) (x1 : Int32) (x2 : Int32), fX7_told_b0 sh d x0 x1 x2 = some r → ∀ {H : Heap} {locs : List Loc} {ls : Array Slot}, HW A D cy sz sh d H → va_S A s.heap H locs → lv_has ls 3 [(0, .ref x0), (1, .int x1), (2, .int x2)] → GL p l e s m args below meth c 2 46 A D cy (some (.int r)) sz sh d H locs 0 ls [] := by
  have hx := C.1
  have hb := C.2.1
  intro x0 x1 x2 hf H locs ls hw hS hl
  unfold fX7_told_b0 at hf
  refine lv_aload_n hx hb dX7_told_0 rfl (lv_at hl 0 rfl) ?_
  refine lv_iload_n hx hb dX7_told_1 rfl (lv_at hl 1 rfl) ?_
  obtain ⟨_, h1, hf⟩ := bd_s hf
  obtain ⟨r3, h2, hf⟩ := bd_s hf
  refine cl_V0 C hw hS (tX7_isHand l A D cy st sz sh d x0 x1 h2) cvX7_isHand kw_917 (kc_k h1) ⟨Nat.le_of_ble_eq_true rfl, Nat.le_of_ble_eq_true rfl⟩ hl.1 rfl (Nat.le_of_ble_eq_true rfl) dX7_told_2 ⟨Nat.zero_le _, Nat.zero_le _⟩ (fun H locs hw hS => ?_)
  refine lv_if_ne (tgt := 10) hx hb dX7_told_5 (by decide) (fun c_4 => ?_) (fun c_4 => ?_)
  · have hf := if_f c_4 hf
    refine lv_iload_n hx hb dX7_told_10 rfl (lv_at hl 2 rfl) ?_
    by_cases c_5 : x2 = 0
    · have hf := if_t c_5 hf
      refine lv_tableIn (tgt := 44) hx hb dX7_told_11 (by rw [c_5]; decide) (by rw [c_5]; decide) (by rw [c_5]; rfl) (by decide) ?_
      refine lv_aload_n hx hb dX7_told_44 rfl (lv_at hl 0 rfl) ?_
      refine lv_aload_n hx hb dX7_told_45 rfl (lv_at hl 0 rfl) ?_
      obtain ⟨v6, hv6, hf⟩ := bd_s hf
      refine gt_291 C hw hv6 kw_800 dX7_told_46 ?_
      refine lv_iload_n hx hb dX7_told_49 rfl (lv_at hl 1 rfl) ?_
      obtain ⟨r8, h7, hf⟩ := bd_s hf
      refine cl_V0 C hw hS (tX7_size l A D cy st sz sh d x0 v6 x1 h7) cvX7_size kw_1003 (gR_s hv6).1 ⟨Nat.le_of_ble_eq_true rfl, Nat.le_of_ble_eq_true rfl⟩ hl.1 rfl (Nat.le_of_ble_eq_true rfl) dX7_told_50 ⟨Nat.zero_le _, Nat.zero_le _⟩ (fun H locs hw hS => ?_)
      cases hf
      exact rt_i C hw hS dX7_told_53
    have hf := if_f c_5 hf
    by_cases c_9 : x2 = 1
    · have hf := if_t c_9 hf
      refine lv_tableIn (tgt := 54) hx hb dX7_told_11 (by rw [c_9]; decide) (by rw [c_9]; decide) (by rw [c_9]; rfl) (by decide) ?_
      refine lv_aload_n hx hb dX7_told_54 rfl (lv_at hl 0 rfl) ?_
      refine lv_aload_n hx hb dX7_told_55 rfl (lv_at hl 0 rfl) ?_
      obtain ⟨v10, hv10, hf⟩ := bd_s hf
      refine gt_292 C hw hv10 kw_801 dX7_told_56 ?_
      refine lv_iload_n hx hb dX7_told_59 rfl (lv_at hl 1 rfl) ?_
      obtain ⟨r12, h11, hf⟩ := bd_s hf
      refine cl_V0 C hw hS (tX7_size l A D cy st sz sh d x0 v10 x1 h11) cvX7_size kw_1003 (gR_s hv10).1 ⟨Nat.le_of_ble_eq_true rfl, Nat.le_of_ble_eq_true rfl⟩ hl.1 rfl (Nat.le_of_ble_eq_true rfl) dX7_told_60 ⟨Nat.zero_le _, Nat.zero_le _⟩ (fun H locs hw hS => ?_)
      cases hf
      exact rt_i C hw hS dX7_told_63
    have hf := if_f c_9 hf
    by_cases c_13 : x2 = 2
    · have hf := if_t c_13 hf
      refine lv_tableIn (tgt := 64) hx hb dX7_told_11 (by rw [c_13]; decide) (by rw [c_13]; decide) (by rw [c_13]; rfl) (by decide) ?_
      refine lv_aload_n hx hb dX7_told_64 rfl (lv_at hl 0 rfl) ?_
      refine lv_iload_n hx hb dX7_told_65 rfl (lv_at hl 1 rfl) ?_
      obtain ⟨r15, h14, hf⟩ := bd_s hf
      refine cl_V0 C hw hS (tX7_greatestCount l A D cy st sz sh d x0 x1 h14) cvX7_greatestCount kw_948 (kc_k h1) ⟨Nat.le_of_ble_eq_true rfl, Nat.le_of_ble_eq_true rfl⟩ hl.1 rfl (Nat.le_of_ble_eq_true rfl) dX7_told_66 ⟨Nat.zero_le _, Nat.zero_le _⟩ (fun H locs hw hS => ?_)
      cases hf
      exact rt_i C hw hS dX7_told_69
    have hf := if_f c_13 hf
    by_cases c_16 : x2 = 3
    · have hf := if_t c_16 hf
      refine lv_tableIn (tgt := 70) hx hb dX7_told_11 (by rw [c_16]; decide) (by rw [c_16]; decide) (by rw [c_16]; rfl) (by decide) ?_
      refine lv_aload_n hx hb dX7_told_70 rfl (lv_at hl 0 rfl) ?_
      refine lv_iload_n hx hb dX7_told_71 rfl (lv_at hl 1 rfl) ?_
      obtain ⟨r18, h17, hf⟩ := bd_s hf
      refine cl_V0 C hw hS (tX7_ownOf l A D cy st sz sh d x0 x1 h17) cvX7_ownOf kw_929 (kc_k h1) ⟨Nat.le_of_ble_eq_true rfl, Nat.le_of_ble_eq_true rfl⟩ hl.1 rfl (Nat.le_of_ble_eq_true rfl) dX7_told_72 ⟨Nat.zero_le _, Nat.zero_le _⟩ (fun H locs hw hS => ?_)
      cases hf
      exact rt_i C hw hS dX7_told_75
    have hf := if_f c_16 hf
    by_cases c_19 : x2 = 4
    · have hf := if_t c_19 hf
      refine lv_tableIn (tgt := 76) hx hb dX7_told_11 (by rw [c_19]; decide) (by rw [c_19]; decide) (by rw [c_19]; rfl) (by decide) ?_
      refine lv_aload_n hx hb dX7_told_76 rfl (lv_at hl 0 rfl) ?_
      obtain ⟨v20, hv20, hf⟩ := bd_s hf
      refine gt_294 C hw hv20 kw_803 dX7_told_77 ?_
      refine lv_iload_n hx hb dX7_told_80 rfl (lv_at hl 1 rfl) ?_
      obtain ⟨a21, ea21, hg⟩ := bd_s hf
      clear hf
      subst ea21
      have hf := hg
      clear hg
      obtain ⟨v22, hv22, hf⟩ := bd_s hf
      refine w_iald C hw hv22 dX7_told_81 ?_
      cases hf
      exact rt_i C hw hS dX7_told_82
    have hf := if_f c_19 hf
    refine lv_tableOut (tgt := 83) hx hb dX7_told_11 (by have z0 := lv_neT (a := 0) c_5 (by decide); have z1 := lv_neT (a := 1) c_9 (by decide); have z2 := lv_neT (a := 2) c_13 (by decide); have z3 := lv_neT (a := 3) c_16 (by decide); have z4 := lv_neT (a := 4) c_19 (by decide); omega) (by decide) ?_
    refine lv_iconst (v := -1) hx hb dX7_told_83 (by decide) ?_
    cases hf
    exact rt_i C hw hS dX7_told_84
  · have hf := if_t c_4 hf
    refine lv_iconst (v := -1) hx hb dX7_told_8 (by decide) ?_
    cases hf
    exact rt_i C hw hS dX7_told_9

set_option maxRecDepth 100000 in
set_option maxHeartbeats 4000000 in
theorem tX7_told (l : Launch) (A : Nat → Prop) (D : va_G) (cy : Nat → ClassId) (st : Nat → Nat) (sz : Nat) (sh : Sh) (d : Dt) (x0 : Nat) (x1 : Int32) (x2 : Int32) {r : Int32} (hf : fX7_told sh d x0 x1 x2 = some r) : Ct l yX7_told cX7_told 3 (some .int) 2 46 0 0 A D cy st [.ref x0, .int x1, .int x2] sz sh d (some (.int r)) sz sh d := ct_of (by decide) (Nat.le_of_ble_eq_true rfl) (fun p e s m args below meth c C hw hS ls hl => wX7_told_b0 C x0 x1 x2 hf hw hS hl)
theorem dX7_has_0 : decode cX7_has 0 = .ok (.aload_n 0, 1) := by decide +kernel
theorem dX7_has_1 : decode cX7_has 1 = .ok (.iload_n 1, 1) := by decide +kernel
theorem dX7_has_2 : decode cX7_has 2 = .ok (.invokevirtual 109, 3) := by decide +kernel
theorem dX7_has_5 : decode cX7_has 5 = .ok (.ifCond .eq 11, 3) := by decide +kernel
theorem dX7_has_8 : decode cX7_has 8 = .ok (.aload_n 0, 1) := by decide +kernel
theorem dX7_has_9 : decode cX7_has 9 = .ok (.iload_n 2, 1) := by decide +kernel
theorem dX7_has_10 : decode cX7_has 10 = .ok (.invokevirtual 151, 3) := by decide +kernel
theorem dX7_has_13 : decode cX7_has 13 = .ok (.ifCond .ne 7, 3) := by decide +kernel
theorem dX7_has_16 : decode cX7_has 16 = .ok (.iconst (-1), 1) := by decide +kernel
theorem dX7_has_17 : decode cX7_has 17 = .ok (.goto 36, 3) := by decide +kernel
theorem dX7_has_20 : decode cX7_has 20 = .ok (.aload_n 0, 1) := by decide +kernel
theorem dX7_has_21 : decode cX7_has 21 = .ok (.getfield 13, 3) := by decide +kernel
theorem dX7_has_24 : decode cX7_has 24 = .ok (.iload_n 1, 1) := by decide +kernel
theorem dX7_has_25 : decode cX7_has 25 = .ok (.iload_n 2, 1) := by decide +kernel
theorem dX7_has_26 : decode cX7_has 26 = .ok (.invokestatic 91, 3) := by decide +kernel
theorem dX7_has_29 : decode cX7_has 29 = .ok (.ifCond .eq 7, 3) := by decide +kernel
theorem dX7_has_32 : decode cX7_has 32 = .ok (.iconst 2, 1) := by decide +kernel
theorem dX7_has_33 : decode cX7_has 33 = .ok (.goto 20, 3) := by decide +kernel
theorem dX7_has_36 : decode cX7_has 36 = .ok (.aload_n 0, 1) := by decide +kernel
theorem dX7_has_37 : decode cX7_has 37 = .ok (.getfield 17, 3) := by decide +kernel
theorem dX7_has_40 : decode cX7_has 40 = .ok (.iload_n 1, 1) := by decide +kernel
theorem dX7_has_41 : decode cX7_has 41 = .ok (.iload_n 2, 1) := by decide +kernel
theorem dX7_has_42 : decode cX7_has 42 = .ok (.invokestatic 91, 3) := by decide +kernel
theorem dX7_has_45 : decode cX7_has 45 = .ok (.ifCond .eq 7, 3) := by decide +kernel
theorem dX7_has_48 : decode cX7_has 48 = .ok (.iconst 1, 1) := by decide +kernel
theorem dX7_has_49 : decode cX7_has 49 = .ok (.goto 4, 3) := by decide +kernel
theorem dX7_has_52 : decode cX7_has 52 = .ok (.iconst 0, 1) := by decide +kernel
theorem dX7_has_53 : decode cX7_has 53 = .ok (.ireturn, 1) := by decide +kernel
theorem cvX7_has : CV yX7_has cX7_has 3 (some .int) 8 2 := ⟨kw_1055, kw_1056, kw_6, kw_1057, ⟨_, _, rfl⟩, by decide, by decide +kernel, by decide +kernel, by decide +kernel⟩
def fX7_has_b0 (sh : Sh) (d : Dt) (x0 : Nat) (x1 : Int32) (x2 : Int32) : Option (Int32) := bd (kc sh 9 x0) fun _ => bd (fX7_isHand sh d x0 x1) fun r3 => if (bI r3) = 0 then (some (-1 : Int32)) else (bd (fX7_isChange sh d x0 x2) fun r6 => if (bI r6) = 0 then (some (-1 : Int32)) else (bd (gR sh d 9 291 x0) fun v8 => bd (fX7_isIn sh d v8 x1 x2) fun r10 => if (bI r10) = 0 then (bd (gR sh d 9 292 x0) fun v12 => bd (fX7_isIn sh d v12 x1 x2) fun r14 => if (bI r14) = 0 then (some (0 : Int32)) else (some (1 : Int32))) else (some (2 : Int32))))

def fX7_has (sh : Sh) (d : Dt) (x0 : Nat) (x1 : Int32) (x2 : Int32) : Option (Int32) := fX7_has_b0 sh d x0 x1 x2

set_option maxRecDepth 100000 in
set_option maxHeartbeats 4000000 in
theorem wX7_has_b0 (C : mx p s m args meth c yX7_has cX7_has 3 (some .int) A D cy st) {r : Int32} {d : Dt} : ∀ (x0 : Nat) (x1 : Int32) (x2 : Int32), fX7_has_b0 sh d x0 x1 x2 = some r → ∀ {H : Heap} {locs : List Loc} {ls : Array Slot}, HW A D cy sz sh d H → va_S A s.heap H locs → lv_has ls 3 [(0, .ref x0), (1, .int x1), (2, .int x2)] → GL p l e s m args below meth c 2 43 A D cy (some (.int r)) sz sh d H locs 0 ls [] := by
  have hx := C.1
  have hb := C.2.1
  intro x0 x1 x2 hf H locs ls hw hS hl
  unfold fX7_has_b0 at hf
  refine lv_aload_n hx hb dX7_has_0 rfl (lv_at hl 0 rfl) ?_
  refine lv_iload_n hx hb dX7_has_1 rfl (lv_at hl 1 rfl) ?_
  obtain ⟨_, h1, hf⟩ := bd_s hf
  obtain ⟨r3, h2, hf⟩ := bd_s hf
  refine cl_V0 C hw hS (tX7_isHand l A D cy st sz sh d x0 x1 h2) cvX7_isHand kw_917 (kc_k h1) ⟨Nat.le_of_ble_eq_true rfl, Nat.le_of_ble_eq_true rfl⟩ hl.1 rfl (Nat.le_of_ble_eq_true rfl) dX7_has_2 ⟨Nat.zero_le _, Nat.zero_le _⟩ (fun H locs hw hS => ?_)
  refine lv_if_eq (tgt := 16) hx hb dX7_has_5 (by decide) (fun c_4 => ?_) (fun c_4 => ?_)
  · have hf := if_t c_4 hf
    refine lv_iconst (v := -1) hx hb dX7_has_16 (by decide) ?_
    refine lv_goto (tgt := 53) hx hb dX7_has_17 (by decide) ?_
    cases hf
    exact rt_i C hw hS dX7_has_53
  · have hf := if_f c_4 hf
    refine lv_aload_n hx hb dX7_has_8 rfl (lv_at hl 0 rfl) ?_
    refine lv_iload_n hx hb dX7_has_9 rfl (lv_at hl 2 rfl) ?_
    obtain ⟨r6, h5, hf⟩ := bd_s hf
    refine cl_V0 C hw hS (tX7_isChange l A D cy st sz sh d x0 x2 h5) cvX7_isChange kw_999 (kc_k h1) ⟨Nat.le_of_ble_eq_true rfl, Nat.le_of_ble_eq_true rfl⟩ hl.1 rfl (Nat.le_of_ble_eq_true rfl) dX7_has_10 ⟨Nat.zero_le _, Nat.zero_le _⟩ (fun H locs hw hS => ?_)
    refine lv_if_ne (tgt := 20) hx hb dX7_has_13 (by decide) (fun c_7 => ?_) (fun c_7 => ?_)
    · have hf := if_f c_7 hf
      refine lv_aload_n hx hb dX7_has_20 rfl (lv_at hl 0 rfl) ?_
      obtain ⟨v8, hv8, hf⟩ := bd_s hf
      refine gt_291 C hw hv8 kw_800 dX7_has_21 ?_
      refine lv_iload_n hx hb dX7_has_24 rfl (lv_at hl 1 rfl) ?_
      refine lv_iload_n hx hb dX7_has_25 rfl (lv_at hl 2 rfl) ?_
      obtain ⟨r10, h9, hf⟩ := bd_s hf
      refine cl_S0 C hw hS (tX7_isIn l A D cy st sz sh d v8 x1 x2 h9) csX7_isIn kw_933 ⟨Nat.le_of_ble_eq_true rfl, Nat.le_of_ble_eq_true rfl⟩ hl.1 rfl (Nat.le_of_ble_eq_true rfl) dX7_has_26 ⟨Nat.zero_le _, Nat.zero_le _⟩ (fun H locs hw hS => ?_)
      refine lv_if_eq (tgt := 36) hx hb dX7_has_29 (by decide) (fun c_11 => ?_) (fun c_11 => ?_)
      · have hf := if_t c_11 hf
        refine lv_aload_n hx hb dX7_has_36 rfl (lv_at hl 0 rfl) ?_
        obtain ⟨v12, hv12, hf⟩ := bd_s hf
        refine gt_292 C hw hv12 kw_801 dX7_has_37 ?_
        refine lv_iload_n hx hb dX7_has_40 rfl (lv_at hl 1 rfl) ?_
        refine lv_iload_n hx hb dX7_has_41 rfl (lv_at hl 2 rfl) ?_
        obtain ⟨r14, h13, hf⟩ := bd_s hf
        refine cl_S0 C hw hS (tX7_isIn l A D cy st sz sh d v12 x1 x2 h13) csX7_isIn kw_933 ⟨Nat.le_of_ble_eq_true rfl, Nat.le_of_ble_eq_true rfl⟩ hl.1 rfl (Nat.le_of_ble_eq_true rfl) dX7_has_42 ⟨Nat.zero_le _, Nat.zero_le _⟩ (fun H locs hw hS => ?_)
        refine lv_if_eq (tgt := 52) hx hb dX7_has_45 (by decide) (fun c_15 => ?_) (fun c_15 => ?_)
        · have hf := if_t c_15 hf
          refine lv_iconst (v := 0) hx hb dX7_has_52 (by decide) ?_
          cases hf
          exact rt_i C hw hS dX7_has_53
        · have hf := if_f c_15 hf
          refine lv_iconst (v := 1) hx hb dX7_has_48 (by decide) ?_
          refine lv_goto (tgt := 53) hx hb dX7_has_49 (by decide) ?_
          cases hf
          exact rt_i C hw hS dX7_has_53
      · have hf := if_f c_11 hf
        refine lv_iconst (v := 2) hx hb dX7_has_32 (by decide) ?_
        refine lv_goto (tgt := 53) hx hb dX7_has_33 (by decide) ?_
        cases hf
        exact rt_i C hw hS dX7_has_53
    · have hf := if_t c_7 hf
      refine lv_iconst (v := -1) hx hb dX7_has_16 (by decide) ?_
      refine lv_goto (tgt := 53) hx hb dX7_has_17 (by decide) ?_
      cases hf
      exact rt_i C hw hS dX7_has_53

set_option maxRecDepth 100000 in
set_option maxHeartbeats 4000000 in
theorem tX7_has (l : Launch) (A : Nat → Prop) (D : va_G) (cy : Nat → ClassId) (st : Nat → Nat) (sz : Nat) (sh : Sh) (d : Dt) (x0 : Nat) (x1 : Int32) (x2 : Int32) {r : Int32} (hf : fX7_has sh d x0 x1 x2 = some r) : Ct l yX7_has cX7_has 3 (some .int) 2 43 0 0 A D cy st [.ref x0, .int x1, .int x2] sz sh d (some (.int r)) sz sh d := ct_of (by decide) (Nat.le_of_ble_eq_true rfl) (fun p e s m args below meth c C hw hS ls hl => wX7_has_b0 C x0 x1 x2 hf hw hS hl)
theorem dX7_compare_0 : decode cX7_compare 0 = .ok (.aload_n 0, 1) := by decide +kernel
theorem dX7_compare_1 : decode cX7_compare 1 = .ok (.iload_n 1, 1) := by decide +kernel
theorem dX7_compare_2 : decode cX7_compare 2 = .ok (.invokevirtual 109, 3) := by decide +kernel
theorem dX7_compare_5 : decode cX7_compare 5 = .ok (.ifCond .eq 11, 3) := by decide +kernel
theorem dX7_compare_8 : decode cX7_compare 8 = .ok (.aload_n 0, 1) := by decide +kernel
theorem dX7_compare_9 : decode cX7_compare 9 = .ok (.iload_n 2, 1) := by decide +kernel
theorem dX7_compare_10 : decode cX7_compare 10 = .ok (.invokevirtual 109, 3) := by decide +kernel
theorem dX7_compare_13 : decode cX7_compare 13 = .ok (.ifCond .ne 5, 3) := by decide +kernel
theorem dX7_compare_16 : decode cX7_compare 16 = .ok (.iconst (-1), 1) := by decide +kernel
theorem dX7_compare_17 : decode cX7_compare 17 = .ok (.ireturn, 1) := by decide +kernel
theorem dX7_compare_18 : decode cX7_compare 18 = .ok (.aload_n 0, 1) := by decide +kernel
theorem dX7_compare_19 : decode cX7_compare 19 = .ok (.getfield 13, 3) := by decide +kernel
theorem dX7_compare_22 : decode cX7_compare 22 = .ok (.iload_n 1, 1) := by decide +kernel
theorem dX7_compare_23 : decode cX7_compare 23 = .ok (.aload_n 0, 1) := by decide +kernel
theorem dX7_compare_24 : decode cX7_compare 24 = .ok (.getfield 13, 3) := by decide +kernel
theorem dX7_compare_27 : decode cX7_compare 27 = .ok (.iload_n 2, 1) := by decide +kernel
theorem dX7_compare_28 : decode cX7_compare 28 = .ok (.invokestatic 158, 3) := by decide +kernel
theorem dX7_compare_31 : decode cX7_compare 31 = .ok (.istore_n 3, 1) := by decide +kernel
theorem dX7_compare_32 : decode cX7_compare 32 = .ok (.aload_n 0, 1) := by decide +kernel
theorem dX7_compare_33 : decode cX7_compare 33 = .ok (.getfield 13, 3) := by decide +kernel
theorem dX7_compare_36 : decode cX7_compare 36 = .ok (.iload_n 2, 1) := by decide +kernel
theorem dX7_compare_37 : decode cX7_compare 37 = .ok (.aload_n 0, 1) := by decide +kernel
theorem dX7_compare_38 : decode cX7_compare 38 = .ok (.getfield 13, 3) := by decide +kernel
theorem dX7_compare_41 : decode cX7_compare 41 = .ok (.iload_n 1, 1) := by decide +kernel
theorem dX7_compare_42 : decode cX7_compare 42 = .ok (.invokestatic 158, 3) := by decide +kernel
theorem dX7_compare_45 : decode cX7_compare 45 = .ok (.istore 4, 2) := by decide +kernel
theorem dX7_compare_47 : decode cX7_compare 47 = .ok (.iload_n 3, 1) := by decide +kernel
theorem dX7_compare_48 : decode cX7_compare 48 = .ok (.ifCond .eq 12, 3) := by decide +kernel
theorem dX7_compare_51 : decode cX7_compare 51 = .ok (.iload 4, 2) := by decide +kernel
theorem dX7_compare_53 : decode cX7_compare 53 = .ok (.ifCond .eq 7, 3) := by decide +kernel
theorem dX7_compare_56 : decode cX7_compare 56 = .ok (.iconst 0, 1) := by decide +kernel
theorem dX7_compare_57 : decode cX7_compare 57 = .ok (.goto 21, 3) := by decide +kernel
theorem dX7_compare_60 : decode cX7_compare 60 = .ok (.iload_n 3, 1) := by decide +kernel
theorem dX7_compare_61 : decode cX7_compare 61 = .ok (.ifCond .eq 7, 3) := by decide +kernel
theorem dX7_compare_64 : decode cX7_compare 64 = .ok (.iconst 1, 1) := by decide +kernel
theorem dX7_compare_65 : decode cX7_compare 65 = .ok (.goto 13, 3) := by decide +kernel
theorem dX7_compare_68 : decode cX7_compare 68 = .ok (.iload 4, 2) := by decide +kernel
theorem dX7_compare_70 : decode cX7_compare 70 = .ok (.ifCond .eq 7, 3) := by decide +kernel
theorem dX7_compare_73 : decode cX7_compare 73 = .ok (.iconst 2, 1) := by decide +kernel
theorem dX7_compare_74 : decode cX7_compare 74 = .ok (.goto 4, 3) := by decide +kernel
theorem dX7_compare_77 : decode cX7_compare 77 = .ok (.iconst 3, 1) := by decide +kernel
theorem dX7_compare_78 : decode cX7_compare 78 = .ok (.ireturn, 1) := by decide +kernel
theorem cvX7_compare : CV yX7_compare cX7_compare 5 (some .int) 8 2 := ⟨kw_1059, kw_1060, kw_6, kw_1061, ⟨_, _, rfl⟩, by decide, by decide +kernel, by decide +kernel, by decide +kernel⟩
def fX7_compare_b60 (sh : Sh) (d : Dt) (x3 : Int32) (x4 : Int32) : Option (Int32) := if x3 = 0 then (if x4 = 0 then (some (3 : Int32)) else (some (2 : Int32))) else (some (1 : Int32))

def fX7_compare_b0 (sh : Sh) (d : Dt) (x0 : Nat) (x1 : Int32) (x2 : Int32) : Option (Int32) := bd (kc sh 9 x0) fun _ => bd (fX7_isHand sh d x0 x1) fun r3 => if (bI r3) = 0 then (some (-1 : Int32)) else (bd (fX7_isHand sh d x0 x2) fun r6 => if (bI r6) = 0 then (some (-1 : Int32)) else (bd (gR sh d 9 291 x0) fun v8 => bd (gR sh d 9 291 x0) fun v9 => bd (fX7_isWithin sh d v8 x1 v9 x2) fun r11 => bd (gR sh d 9 291 x0) fun v12 => bd (gR sh d 9 291 x0) fun v13 => bd (fX7_isWithin sh d v12 x2 v13 x1) fun r15 => if (bI r11) = 0 then (fX7_compare_b60 sh d (bI r11) (bI r15)) else (if (bI r15) = 0 then (fX7_compare_b60 sh d (bI r11) (bI r15)) else (some (0 : Int32)))))

def fX7_compare (sh : Sh) (d : Dt) (x0 : Nat) (x1 : Int32) (x2 : Int32) : Option (Int32) := fX7_compare_b0 sh d x0 x1 x2

set_option maxRecDepth 100000 in
set_option maxHeartbeats 4000000 in
theorem wX7_compare_b60 (C : mx p s m args meth c yX7_compare cX7_compare 5 (some .int) A D cy st) {r : Int32} {d : Dt} : ∀ (x3 : Int32) (x4 : Int32), fX7_compare_b60 sh d x3 x4 = some r → ∀ {H : Heap} {locs : List Loc} {ls : Array Slot}, HW A D cy sz sh d H → va_S A s.heap H locs → lv_has ls 5 [(3, .int x3), (4, .int x4)] → GL p l e s m args below meth c 2 43 A D cy (some (.int r)) sz sh d H locs 60 ls [] := by
  have hx := C.1
  have hb := C.2.1
  intro x3 x4 hf H locs ls hw hS hl
  unfold fX7_compare_b60 at hf
  refine lv_iload_n hx hb dX7_compare_60 rfl (lv_at hl 0 rfl) ?_
  refine lv_if_eq (tgt := 68) hx hb dX7_compare_61 (by decide) (fun c_1 => ?_) (fun c_1 => ?_)
  · have hf := if_t c_1 hf
    refine lv_iload hx hb dX7_compare_68 (lv_at hl 1 rfl) ?_
    refine lv_if_eq (tgt := 77) hx hb dX7_compare_70 (by decide) (fun c_2 => ?_) (fun c_2 => ?_)
    · have hf := if_t c_2 hf
      refine lv_iconst (v := 3) hx hb dX7_compare_77 (by decide) ?_
      cases hf
      exact rt_i C hw hS dX7_compare_78
    · have hf := if_f c_2 hf
      refine lv_iconst (v := 2) hx hb dX7_compare_73 (by decide) ?_
      refine lv_goto (tgt := 78) hx hb dX7_compare_74 (by decide) ?_
      cases hf
      exact rt_i C hw hS dX7_compare_78
  · have hf := if_f c_1 hf
    refine lv_iconst (v := 1) hx hb dX7_compare_64 (by decide) ?_
    refine lv_goto (tgt := 78) hx hb dX7_compare_65 (by decide) ?_
    cases hf
    exact rt_i C hw hS dX7_compare_78

set_option maxRecDepth 100000 in
set_option maxHeartbeats 4000000 in
theorem wX7_compare_b0 (C : mx p s m args meth c yX7_compare cX7_compare 5 (some .int) A D cy st) {r : Int32} {d : Dt} : ∀ (x0 : Nat) (x1 : Int32) (x2 : Int32), fX7_compare_b0 sh d x0 x1 x2 = some r → ∀ {H : Heap} {locs : List Loc} {ls : Array Slot}, HW A D cy sz sh d H → va_S A s.heap H locs → lv_has ls 5 [(0, .ref x0), (1, .int x1), (2, .int x2)] → GL p l e s m args below meth c 2 43 A D cy (some (.int r)) sz sh d H locs 0 ls [] := by
  have hx := C.1
  have hb := C.2.1
  intro x0 x1 x2 hf H locs ls hw hS hl
  unfold fX7_compare_b0 at hf
  refine lv_aload_n hx hb dX7_compare_0 rfl (lv_at hl 0 rfl) ?_
  refine lv_iload_n hx hb dX7_compare_1 rfl (lv_at hl 1 rfl) ?_
  obtain ⟨_, h1, hf⟩ := bd_s hf
  obtain ⟨r3, h2, hf⟩ := bd_s hf
  refine cl_V0 C hw hS (tX7_isHand l A D cy st sz sh d x0 x1 h2) cvX7_isHand kw_917 (kc_k h1) ⟨Nat.le_of_ble_eq_true rfl, Nat.le_of_ble_eq_true rfl⟩ hl.1 rfl (Nat.le_of_ble_eq_true rfl) dX7_compare_2 ⟨Nat.zero_le _, Nat.zero_le _⟩ (fun H locs hw hS => ?_)
  refine lv_if_eq (tgt := 16) hx hb dX7_compare_5 (by decide) (fun c_4 => ?_) (fun c_4 => ?_)
  · have hf := if_t c_4 hf
    refine lv_iconst (v := -1) hx hb dX7_compare_16 (by decide) ?_
    cases hf
    exact rt_i C hw hS dX7_compare_17
  · have hf := if_f c_4 hf
    refine lv_aload_n hx hb dX7_compare_8 rfl (lv_at hl 0 rfl) ?_
    refine lv_iload_n hx hb dX7_compare_9 rfl (lv_at hl 2 rfl) ?_
    obtain ⟨r6, h5, hf⟩ := bd_s hf
    refine cl_V0 C hw hS (tX7_isHand l A D cy st sz sh d x0 x2 h5) cvX7_isHand kw_917 (kc_k h1) ⟨Nat.le_of_ble_eq_true rfl, Nat.le_of_ble_eq_true rfl⟩ hl.1 rfl (Nat.le_of_ble_eq_true rfl) dX7_compare_10 ⟨Nat.zero_le _, Nat.zero_le _⟩ (fun H locs hw hS => ?_)
    refine lv_if_ne (tgt := 18) hx hb dX7_compare_13 (by decide) (fun c_7 => ?_) (fun c_7 => ?_)
    · have hf := if_f c_7 hf
      refine lv_aload_n hx hb dX7_compare_18 rfl (lv_at hl 0 rfl) ?_
      obtain ⟨v8, hv8, hf⟩ := bd_s hf
      refine gt_291 C hw hv8 kw_800 dX7_compare_19 ?_
      refine lv_iload_n hx hb dX7_compare_22 rfl (lv_at hl 1 rfl) ?_
      refine lv_aload_n hx hb dX7_compare_23 rfl (lv_at hl 0 rfl) ?_
      obtain ⟨v9, hv9, hf⟩ := bd_s hf
      refine gt_291 C hw hv9 kw_800 dX7_compare_24 ?_
      refine lv_iload_n hx hb dX7_compare_27 rfl (lv_at hl 2 rfl) ?_
      obtain ⟨r11, h10, hf⟩ := bd_s hf
      refine cl_S0 C hw hS (tX7_isWithin l A D cy st sz sh d v8 x1 v9 x2 h10) csX7_isWithin kw_1019 ⟨Nat.le_of_ble_eq_true rfl, Nat.le_of_ble_eq_true rfl⟩ hl.1 rfl (Nat.le_of_ble_eq_true rfl) dX7_compare_28 ⟨Nat.zero_le _, Nat.zero_le _⟩ (fun H locs hw hS => ?_)
      refine lv_istore_n (lv' := [(3, .int (bI r11)), (0, .ref x0), (1, .int x1), (2, .int x2)]) hx hb dX7_compare_31 rfl hl (by decide) rfl (fun ls hl => ?_)
      refine lv_aload_n hx hb dX7_compare_32 rfl (lv_at hl 1 rfl) ?_
      obtain ⟨v12, hv12, hf⟩ := bd_s hf
      refine gt_291 C hw hv12 kw_800 dX7_compare_33 ?_
      refine lv_iload_n hx hb dX7_compare_36 rfl (lv_at hl 3 rfl) ?_
      refine lv_aload_n hx hb dX7_compare_37 rfl (lv_at hl 1 rfl) ?_
      obtain ⟨v13, hv13, hf⟩ := bd_s hf
      refine gt_291 C hw hv13 kw_800 dX7_compare_38 ?_
      refine lv_iload_n hx hb dX7_compare_41 rfl (lv_at hl 2 rfl) ?_
      obtain ⟨r15, h14, hf⟩ := bd_s hf
      refine cl_S0 C hw hS (tX7_isWithin l A D cy st sz sh d v12 x2 v13 x1 h14) csX7_isWithin kw_1019 ⟨Nat.le_of_ble_eq_true rfl, Nat.le_of_ble_eq_true rfl⟩ hl.1 rfl (Nat.le_of_ble_eq_true rfl) dX7_compare_42 ⟨Nat.zero_le _, Nat.zero_le _⟩ (fun H locs hw hS => ?_)
      refine lv_istore (lv' := [(4, .int (bI r15)), (3, .int (bI r11)), (0, .ref x0), (1, .int x1), (2, .int x2)]) hx hb dX7_compare_45 hl (by decide) rfl (fun ls hl => ?_)
      refine lv_iload_n hx hb dX7_compare_47 rfl (lv_at hl 1 rfl) ?_
      refine lv_if_eq (tgt := 60) hx hb dX7_compare_48 (by decide) (fun c_16 => ?_) (fun c_16 => ?_)
      · have hf := if_t c_16 hf
        exact wX7_compare_b60 C (bI r11) (bI r15) hf hw hS (lv_sub hl [1, 0] rfl)
      · have hf := if_f c_16 hf
        refine lv_iload hx hb dX7_compare_51 (lv_at hl 0 rfl) ?_
        refine lv_if_eq (tgt := 60) hx hb dX7_compare_53 (by decide) (fun c_17 => ?_) (fun c_17 => ?_)
        · have hf := if_t c_17 hf
          exact wX7_compare_b60 C (bI r11) (bI r15) hf hw hS (lv_sub hl [1, 0] rfl)
        · have hf := if_f c_17 hf
          refine lv_iconst (v := 0) hx hb dX7_compare_56 (by decide) ?_
          refine lv_goto (tgt := 78) hx hb dX7_compare_57 (by decide) ?_
          cases hf
          exact rt_i C hw hS dX7_compare_78
    · have hf := if_t c_7 hf
      refine lv_iconst (v := -1) hx hb dX7_compare_16 (by decide) ?_
      cases hf
      exact rt_i C hw hS dX7_compare_17

set_option maxRecDepth 100000 in
set_option maxHeartbeats 4000000 in
theorem tX7_compare (l : Launch) (A : Nat → Prop) (D : va_G) (cy : Nat → ClassId) (st : Nat → Nat) (sz : Nat) (sh : Sh) (d : Dt) (x0 : Nat) (x1 : Int32) (x2 : Int32) {r : Int32} (hf : fX7_compare sh d x0 x1 x2 = some r) : Ct l yX7_compare cX7_compare 5 (some .int) 2 43 0 0 A D cy st [.ref x0, .int x1, .int x2] sz sh d (some (.int r)) sz sh d := ct_of (by decide) (Nat.le_of_ble_eq_true rfl) (fun p e s m args below meth c C hw hS ls hl => wX7_compare_b0 C x0 x1 x2 hf hw hS hl)
theorem dX7_telling_0 : decode cX7_telling 0 = .ok (.bipush (-9), 2) := by decide +kernel
theorem dX7_telling_2 : decode cX7_telling 2 = .ok (.istore_n 3, 1) := by decide +kernel
theorem dX7_telling_3 : decode cX7_telling 3 = .ok (.iconst 0, 1) := by decide +kernel
theorem dX7_telling_4 : decode cX7_telling 4 = .ok (.istore 4, 2) := by decide +kernel
theorem dX7_telling_6 : decode cX7_telling 6 = .ok (.iload 4, 2) := by decide +kernel
theorem dX7_telling_8 : decode cX7_telling 8 = .ok (.aload_n 0, 1) := by decide +kernel
theorem dX7_telling_9 : decode cX7_telling 9 = .ok (.getfield 88, 3) := by decide +kernel
theorem dX7_telling_12 : decode cX7_telling 12 = .ok (.if_icmp .ge 71, 3) := by decide +kernel
theorem dX7_telling_15 : decode cX7_telling 15 = .ok (.aload_n 0, 1) := by decide +kernel
theorem dX7_telling_16 : decode cX7_telling 16 = .ok (.iload_n 1, 1) := by decide +kernel
theorem dX7_telling_17 : decode cX7_telling 17 = .ok (.iload_n 2, 1) := by decide +kernel
theorem dX7_telling_18 : decode cX7_telling 18 = .ok (.iload 4, 2) := by decide +kernel
theorem dX7_telling_20 : decode cX7_telling 20 = .ok (.iconst 0, 1) := by decide +kernel
theorem dX7_telling_21 : decode cX7_telling 21 = .ok (.invokevirtual 185, 3) := by decide +kernel
theorem dX7_telling_24 : decode cX7_telling 24 = .ok (.ifCond .eq 53, 3) := by decide +kernel
theorem dX7_telling_27 : decode cX7_telling 27 = .ok (.iload_n 3, 1) := by decide +kernel
theorem dX7_telling_28 : decode cX7_telling 28 = .ok (.bipush (-9), 2) := by decide +kernel
theorem dX7_telling_30 : decode cX7_telling 30 = .ok (.if_icmp .eq 28, 3) := by decide +kernel
theorem dX7_telling_33 : decode cX7_telling 33 = .ok (.aload_n 0, 1) := by decide +kernel
theorem dX7_telling_34 : decode cX7_telling 34 = .ok (.iload 4, 2) := by decide +kernel
theorem dX7_telling_36 : decode cX7_telling 36 = .ok (.iload_n 3, 1) := by decide +kernel
theorem dX7_telling_37 : decode cX7_telling 37 = .ok (.invokevirtual 165, 3) := by decide +kernel
theorem dX7_telling_40 : decode cX7_telling 40 = .ok (.aload_n 0, 1) := by decide +kernel
theorem dX7_telling_41 : decode cX7_telling 41 = .ok (.getfield 27, 3) := by decide +kernel
theorem dX7_telling_44 : decode cX7_telling 44 = .ok (.iload_n 2, 1) := by decide +kernel
theorem dX7_telling_45 : decode cX7_telling 45 = .ok (.iaload, 1) := by decide +kernel
theorem dX7_telling_46 : decode cX7_telling 46 = .ok (.iconst 1, 1) := by decide +kernel
theorem dX7_telling_47 : decode cX7_telling 47 = .ok (.if_icmp .ne 7, 3) := by decide +kernel
theorem dX7_telling_50 : decode cX7_telling 50 = .ok (.iconst 1, 1) := by decide +kernel
theorem dX7_telling_51 : decode cX7_telling 51 = .ok (.goto 4, 3) := by decide +kernel
theorem dX7_telling_54 : decode cX7_telling 54 = .ok (.iconst 0, 1) := by decide +kernel
theorem dX7_telling_55 : decode cX7_telling 55 = .ok (.if_icmp .eq 7, 3) := by decide +kernel
theorem dX7_telling_58 : decode cX7_telling 58 = .ok (.iconst 1, 1) := by decide +kernel
theorem dX7_telling_59 : decode cX7_telling 59 = .ok (.goto 4, 3) := by decide +kernel
theorem dX7_telling_62 : decode cX7_telling 62 = .ok (.iconst 0, 1) := by decide +kernel
theorem dX7_telling_63 : decode cX7_telling 63 = .ok (.istore 5, 2) := by decide +kernel
theorem dX7_telling_65 : decode cX7_telling 65 = .ok (.iload 5, 2) := by decide +kernel
theorem dX7_telling_67 : decode cX7_telling 67 = .ok (.ifCond .eq 8, 3) := by decide +kernel
theorem dX7_telling_70 : decode cX7_telling 70 = .ok (.iload 4, 2) := by decide +kernel
theorem dX7_telling_72 : decode cX7_telling 72 = .ok (.goto 4, 3) := by decide +kernel
theorem dX7_telling_75 : decode cX7_telling 75 = .ok (.iload_n 3, 1) := by decide +kernel
theorem dX7_telling_76 : decode cX7_telling 76 = .ok (.istore_n 3, 1) := by decide +kernel
theorem dX7_telling_77 : decode cX7_telling 77 = .ok (.iinc 4 1, 3) := by decide +kernel
theorem dX7_telling_80 : decode cX7_telling 80 = .ok (.goto (-74), 3) := by decide +kernel
theorem dX7_telling_83 : decode cX7_telling 83 = .ok (.iload_n 3, 1) := by decide +kernel
theorem dX7_telling_84 : decode cX7_telling 84 = .ok (.ireturn, 1) := by decide +kernel
theorem cvX7_telling : CV yX7_telling cX7_telling 6 (some .int) 8 2 := ⟨kw_1072, ks_41, kw_6, kw_1073, ⟨_, _, rfl⟩, by decide, by decide +kernel, by decide +kernel, by decide +kernel⟩
def fX7_telling_b63 (sh : Sh) (d : Dt) (k6 : Nat → Int32 → Int32 → Int32 → Int32 → Option (Int32)) (x0 : Nat) (x1 : Int32) (x2 : Int32) (x3 : Int32) (x4 : Int32) (t0 : Int32) : Option (Int32) := if t0 = 0 then (k6 x0 x1 x2 x3 (x4 + 1)) else (k6 x0 x1 x2 x4 (x4 + 1))

def fX7_telling_b55 (sh : Sh) (d : Dt) (k6 : Nat → Int32 → Int32 → Int32 → Int32 → Option (Int32)) (x0 : Nat) (x1 : Int32) (x2 : Int32) (x3 : Int32) (x4 : Int32) (t0 : Int32) (t1 : Int32) : Option (Int32) := if t0 = t1 then (fX7_telling_b63 sh d k6 x0 x1 x2 x3 x4 (0 : Int32)) else (fX7_telling_b63 sh d k6 x0 x1 x2 x3 x4 (1 : Int32))

def fX7_telling_b6 (sh : Sh) (d : Dt) : Nat → Nat → Int32 → Int32 → Int32 → Int32 → Option (Int32)
  | 0, _, _, _, _, _ => none
  | n + 1, x0, x1, x2, x3, x4 => bd (gI sh d 9 297 x0) fun v1 => if v1 ≤ x4 then (some x3) else (bd (fX7_isOn sh d x0 x1 x2 x4 (0 : Int32)) fun r4 => if (bI r4) = 0 then (fX7_telling_b6 sh d n x0 x1 x2 x3 (x4 + 1)) else (if x3 = (-9 : Int32) then (fX7_telling_b63 sh d (fX7_telling_b6 sh d n) x0 x1 x2 x3 x4 (1 : Int32)) else (bd (fX7_isAfter sh d x0 x4 x3) fun r8 => bd (gR sh d 9 296 x0) fun v9 => bd v9 fun a10 => bd (aI sh d 20 a10 x2) fun v11 => if v11 = (1 : Int32) then (fX7_telling_b55 sh d (fX7_telling_b6 sh d n) x0 x1 x2 x3 x4 (bI r8) (1 : Int32)) else (fX7_telling_b55 sh d (fX7_telling_b6 sh d n) x0 x1 x2 x3 x4 (bI r8) (0 : Int32)))))

def fX7_telling_b0 (sh : Sh) (d : Dt) (x0 : Nat) (x1 : Int32) (x2 : Int32) : Option (Int32) := fX7_telling_b6 sh d fu x0 x1 x2 (-9 : Int32) (0 : Int32)

def fX7_telling (sh : Sh) (d : Dt) (x0 : Nat) (x1 : Int32) (x2 : Int32) : Option (Int32) := fX7_telling_b0 sh d x0 x1 x2

set_option maxRecDepth 100000 in
set_option maxHeartbeats 4000000 in
theorem wX7_telling_b63 (C : mx p s m args meth c yX7_telling cX7_telling 6 (some .int) A D cy st) {k6 : Nat → Int32 → Int32 → Int32 → Int32 → Option (Int32)} {r : Int32} {d : Dt} (Hk6 : ∀ (x0 : Nat) (x1 : Int32) (x2 : Int32) (x3 : Int32) (x4 : Int32), k6 x0 x1 x2 x3 x4 = some r → ∀ {H : Heap} {locs : List Loc} {ls : Array Slot}, HW A D cy sz sh d H → va_S A s.heap H locs → lv_has ls 6 [(0, .ref x0), (1, .int x1), (2, .int x2), (3, .int x3), (4, .int x4)] → GL p l e s m args below meth c 2 46 A D cy (some (.int r)) sz sh d H locs 6 ls []) : ∀ (x0 : Nat) (x1 : Int32) (x2 : Int32) (x3 : Int32) (x4 : Int32) (t0 : Int32), fX7_telling_b63 sh d k6 x0 x1 x2 x3 x4 t0 = some r → ∀ {H : Heap} {locs : List Loc} {ls : Array Slot}, HW A D cy sz sh d H → va_S A s.heap H locs → lv_has ls 6 [(0, .ref x0), (1, .int x1), (2, .int x2), (3, .int x3), (4, .int x4)] → GL p l e s m args below meth c 2 46 A D cy (some (.int r)) sz sh d H locs 63 ls [.int t0] := by
  have hx := C.1
  have hb := C.2.1
  intro x0 x1 x2 x3 x4 t0 hf H locs ls hw hS hl
  unfold fX7_telling_b63 at hf
  refine lv_istore (lv' := [(5, .int t0), (0, .ref x0), (1, .int x1), (2, .int x2), (3, .int x3), (4, .int x4)]) hx hb dX7_telling_63 hl (by decide) rfl (fun ls hl => ?_)
  refine lv_iload hx hb dX7_telling_65 (lv_at hl 0 rfl) ?_
  refine lv_if_eq (tgt := 75) hx hb dX7_telling_67 (by decide) (fun c_1 => ?_) (fun c_1 => ?_)
  · have hf := if_t c_1 hf
    refine lv_iload_n hx hb dX7_telling_75 rfl (lv_at hl 4 rfl) ?_
    refine lv_istore_n (lv' := [(3, .int x3), (5, .int t0), (0, .ref x0), (1, .int x1), (2, .int x2), (4, .int x4)]) hx hb dX7_telling_76 rfl hl (by decide) rfl (fun ls hl => ?_)
    refine lv_iinc (v := (x4 + 1)) (lv' := [(4, .int (x4 + 1)), (3, .int x3), (5, .int t0), (0, .ref x0), (1, .int x1), (2, .int x2)]) hx hb dX7_telling_77 hl (k := 5) rfl rfl (by decide) rfl (fun ls hl => ?_)
    refine lv_goto (tgt := 6) hx hb dX7_telling_80 (by decide) ?_
    exact Hk6 x0 x1 x2 x3 (x4 + 1) hf hw hS (lv_sub hl [3, 4, 5, 1, 0] rfl)
  · have hf := if_f c_1 hf
    refine lv_iload hx hb dX7_telling_70 (lv_at hl 5 rfl) ?_
    refine lv_goto (tgt := 76) hx hb dX7_telling_72 (by decide) ?_
    refine lv_istore_n (lv' := [(3, .int x4), (5, .int t0), (0, .ref x0), (1, .int x1), (2, .int x2), (4, .int x4)]) hx hb dX7_telling_76 rfl hl (by decide) rfl (fun ls hl => ?_)
    refine lv_iinc (v := (x4 + 1)) (lv' := [(4, .int (x4 + 1)), (3, .int x4), (5, .int t0), (0, .ref x0), (1, .int x1), (2, .int x2)]) hx hb dX7_telling_77 hl (k := 5) rfl rfl (by decide) rfl (fun ls hl => ?_)
    refine lv_goto (tgt := 6) hx hb dX7_telling_80 (by decide) ?_
    exact Hk6 x0 x1 x2 x4 (x4 + 1) hf hw hS (lv_sub hl [3, 4, 5, 1, 0] rfl)

set_option maxRecDepth 100000 in
set_option maxHeartbeats 4000000 in
theorem wX7_telling_b55 (C : mx p s m args meth c yX7_telling cX7_telling 6 (some .int) A D cy st) {k6 : Nat → Int32 → Int32 → Int32 → Int32 → Option (Int32)} {r : Int32} {d : Dt} (Hk6 : ∀ (x0 : Nat) (x1 : Int32) (x2 : Int32) (x3 : Int32) (x4 : Int32), k6 x0 x1 x2 x3 x4 = some r → ∀ {H : Heap} {locs : List Loc} {ls : Array Slot}, HW A D cy sz sh d H → va_S A s.heap H locs → lv_has ls 6 [(0, .ref x0), (1, .int x1), (2, .int x2), (3, .int x3), (4, .int x4)] → GL p l e s m args below meth c 2 46 A D cy (some (.int r)) sz sh d H locs 6 ls []) : ∀ (x0 : Nat) (x1 : Int32) (x2 : Int32) (x3 : Int32) (x4 : Int32) (t0 : Int32) (t1 : Int32), fX7_telling_b55 sh d k6 x0 x1 x2 x3 x4 t0 t1 = some r → ∀ {H : Heap} {locs : List Loc} {ls : Array Slot}, HW A D cy sz sh d H → va_S A s.heap H locs → lv_has ls 6 [(0, .ref x0), (1, .int x1), (2, .int x2), (3, .int x3), (4, .int x4)] → GL p l e s m args below meth c 2 46 A D cy (some (.int r)) sz sh d H locs 55 ls [.int t1, .int t0] := by
  have hx := C.1
  have hb := C.2.1
  intro x0 x1 x2 x3 x4 t0 t1 hf H locs ls hw hS hl
  unfold fX7_telling_b55 at hf
  refine lv_icmp_eq (tgt := 62) hx hb dX7_telling_55 (by decide) (fun c_1 => ?_) (fun c_1 => ?_)
  · have hf := if_t c_1 hf
    refine lv_iconst (v := 0) hx hb dX7_telling_62 (by decide) ?_
    exact wX7_telling_b63 C Hk6 x0 x1 x2 x3 x4 (0 : Int32) hf hw hS (lv_sub hl [0, 1, 2, 3, 4] rfl)
  · have hf := if_f c_1 hf
    refine lv_iconst (v := 1) hx hb dX7_telling_58 (by decide) ?_
    refine lv_goto (tgt := 63) hx hb dX7_telling_59 (by decide) ?_
    exact wX7_telling_b63 C Hk6 x0 x1 x2 x3 x4 (1 : Int32) hf hw hS (lv_sub hl [0, 1, 2, 3, 4] rfl)

set_option maxRecDepth 100000 in
set_option maxHeartbeats 4000000 in
theorem wX7_telling_b6 (C : mx p s m args meth c yX7_telling cX7_telling 6 (some .int) A D cy st) {r : Int32} {d : Dt} : ∀ (n : Nat) (x0 : Nat) (x1 : Int32) (x2 : Int32) (x3 : Int32) (x4 : Int32), fX7_telling_b6 sh d n x0 x1 x2 x3 x4 = some r → ∀ {H : Heap} {locs : List Loc} {ls : Array Slot}, HW A D cy sz sh d H → va_S A s.heap H locs → lv_has ls 6 [(0, .ref x0), (1, .int x1), (2, .int x2), (3, .int x3), (4, .int x4)] → GL p l e s m args below meth c 2 46 A D cy (some (.int r)) sz sh d H locs 6 ls [] := by
  have hx := C.1
  have hb := C.2.1
  intro n
  induction n with
  | zero => intro x0 x1 x2 x3 x4 hf; cases hf
  | succ n ih =>
    intro x0 x1 x2 x3 x4 hf H locs ls hw hS hl
    rw [fX7_telling_b6] at hf
    refine lv_iload hx hb dX7_telling_6 (lv_at hl 4 rfl) ?_
    refine lv_aload_n hx hb dX7_telling_8 rfl (lv_at hl 0 rfl) ?_
    obtain ⟨v1, hv1, hf⟩ := bd_s hf
    refine gt_297 C hw hv1 kw_806 dX7_telling_9 ?_
    refine lv_icmp_ge (tgt := 83) hx hb dX7_telling_12 (by decide) (fun c_2 => ?_) (fun c_2 => ?_)
    · have hf := if_t c_2 hf
      refine lv_iload_n hx hb dX7_telling_83 rfl (lv_at hl 3 rfl) ?_
      cases hf
      exact rt_i C hw hS dX7_telling_84
    · have hf := if_f c_2 hf
      refine lv_aload_n hx hb dX7_telling_15 rfl (lv_at hl 0 rfl) ?_
      refine lv_iload_n hx hb dX7_telling_16 rfl (lv_at hl 1 rfl) ?_
      refine lv_iload_n hx hb dX7_telling_17 rfl (lv_at hl 2 rfl) ?_
      refine lv_iload hx hb dX7_telling_18 (lv_at hl 4 rfl) ?_
      refine lv_iconst (v := 0) hx hb dX7_telling_20 (by decide) ?_
      obtain ⟨r4, h3, hf⟩ := bd_s hf
      refine cl_V0 C hw hS (tX7_isOn l A D cy st sz sh d x0 x1 x2 x4 (0 : Int32) h3) cvX7_isOn kw_975 (gI_s hv1).1 ⟨Nat.le_of_ble_eq_true rfl, Nat.le_of_ble_eq_true rfl⟩ hl.1 rfl (Nat.le_of_ble_eq_true rfl) dX7_telling_21 ⟨Nat.zero_le _, Nat.zero_le _⟩ (fun H locs hw hS => ?_)
      refine lv_if_eq (tgt := 77) hx hb dX7_telling_24 (by decide) (fun c_5 => ?_) (fun c_5 => ?_)
      · have hf := if_t c_5 hf
        refine lv_iinc (v := (x4 + 1)) (lv' := [(4, .int (x4 + 1)), (0, .ref x0), (1, .int x1), (2, .int x2), (3, .int x3)]) hx hb dX7_telling_77 hl (k := 4) rfl rfl (by decide) rfl (fun ls hl => ?_)
        refine lv_goto (tgt := 6) hx hb dX7_telling_80 (by decide) ?_
        exact ih x0 x1 x2 x3 (x4 + 1) hf hw hS (lv_sub hl [1, 2, 3, 4, 0] rfl)
      · have hf := if_f c_5 hf
        refine lv_iload_n hx hb dX7_telling_27 rfl (lv_at hl 3 rfl) ?_
        refine lv_bipush (v := -9) hx hb dX7_telling_28 (by decide) ?_
        refine lv_icmp_eq (tgt := 58) hx hb dX7_telling_30 (by decide) (fun c_6 => ?_) (fun c_6 => ?_)
        · have hf := if_t c_6 hf
          refine lv_iconst (v := 1) hx hb dX7_telling_58 (by decide) ?_
          refine lv_goto (tgt := 63) hx hb dX7_telling_59 (by decide) ?_
          exact wX7_telling_b63 C ih x0 x1 x2 x3 x4 (1 : Int32) hf hw hS (lv_sub hl [0, 1, 2, 3, 4] rfl)
        · have hf := if_f c_6 hf
          refine lv_aload_n hx hb dX7_telling_33 rfl (lv_at hl 0 rfl) ?_
          refine lv_iload hx hb dX7_telling_34 (lv_at hl 4 rfl) ?_
          refine lv_iload_n hx hb dX7_telling_36 rfl (lv_at hl 3 rfl) ?_
          obtain ⟨r8, h7, hf⟩ := bd_s hf
          refine cl_V0 C hw hS (tX7_isAfter l A D cy st sz sh d x0 x4 x3 h7) cvX7_isAfter kw_1034 (gI_s hv1).1 ⟨Nat.le_of_ble_eq_true rfl, Nat.le_of_ble_eq_true rfl⟩ hl.1 rfl (Nat.le_of_ble_eq_true rfl) dX7_telling_37 ⟨Nat.zero_le _, Nat.zero_le _⟩ (fun H locs hw hS => ?_)
          refine lv_aload_n hx hb dX7_telling_40 rfl (lv_at hl 0 rfl) ?_
          obtain ⟨v9, hv9, hf⟩ := bd_s hf
          refine gt_296 C hw hv9 kw_805 dX7_telling_41 ?_
          refine lv_iload_n hx hb dX7_telling_44 rfl (lv_at hl 2 rfl) ?_
          obtain ⟨a10, ea10, hg⟩ := bd_s hf
          clear hf
          subst ea10
          have hf := hg
          clear hg
          obtain ⟨v11, hv11, hf⟩ := bd_s hf
          refine w_iald C hw hv11 dX7_telling_45 ?_
          refine lv_iconst (v := 1) hx hb dX7_telling_46 (by decide) ?_
          refine lv_icmp_ne (tgt := 54) hx hb dX7_telling_47 (by decide) (fun c_12 => ?_) (fun c_12 => ?_)
          · have hf := if_f c_12 hf
            refine lv_iconst (v := 0) hx hb dX7_telling_54 (by decide) ?_
            exact wX7_telling_b55 C ih x0 x1 x2 x3 x4 (bI r8) (0 : Int32) hf hw hS (lv_sub hl [0, 1, 2, 3, 4] rfl)
          · have hf := if_t c_12 hf
            refine lv_iconst (v := 1) hx hb dX7_telling_50 (by decide) ?_
            refine lv_goto (tgt := 55) hx hb dX7_telling_51 (by decide) ?_
            exact wX7_telling_b55 C ih x0 x1 x2 x3 x4 (bI r8) (1 : Int32) hf hw hS (lv_sub hl [0, 1, 2, 3, 4] rfl)

set_option maxRecDepth 100000 in
set_option maxHeartbeats 4000000 in
theorem wX7_telling_b0 (C : mx p s m args meth c yX7_telling cX7_telling 6 (some .int) A D cy st) {r : Int32} {d : Dt} : ∀ (x0 : Nat) (x1 : Int32) (x2 : Int32), fX7_telling_b0 sh d x0 x1 x2 = some r → ∀ {H : Heap} {locs : List Loc} {ls : Array Slot}, HW A D cy sz sh d H → va_S A s.heap H locs → lv_has ls 6 [(0, .ref x0), (1, .int x1), (2, .int x2)] → GL p l e s m args below meth c 2 46 A D cy (some (.int r)) sz sh d H locs 0 ls [] := by
  have hx := C.1
  have hb := C.2.1
  intro x0 x1 x2 hf H locs ls hw hS hl
  unfold fX7_telling_b0 at hf
  refine lv_bipush (v := -9) hx hb dX7_telling_0 (by decide) ?_
  refine lv_istore_n (lv' := [(3, .int (-9 : Int32)), (0, .ref x0), (1, .int x1), (2, .int x2)]) hx hb dX7_telling_2 rfl hl (by decide) rfl (fun ls hl => ?_)
  refine lv_iconst (v := 0) hx hb dX7_telling_3 (by decide) ?_
  refine lv_istore (lv' := [(4, .int (0 : Int32)), (3, .int (-9 : Int32)), (0, .ref x0), (1, .int x1), (2, .int x2)]) hx hb dX7_telling_4 hl (by decide) rfl (fun ls hl => ?_)
  exact wX7_telling_b6 C fu x0 x1 x2 (-9 : Int32) (0 : Int32) hf hw hS (lv_sub hl [2, 3, 4, 1, 0] rfl)

set_option maxRecDepth 100000 in
set_option maxHeartbeats 4000000 in
theorem tX7_telling (l : Launch) (A : Nat → Prop) (D : va_G) (cy : Nat → ClassId) (st : Nat → Nat) (sz : Nat) (sh : Sh) (d : Dt) (x0 : Nat) (x1 : Int32) (x2 : Int32) {r : Int32} (hf : fX7_telling sh d x0 x1 x2 = some r) : Ct l yX7_telling cX7_telling 6 (some .int) 2 46 0 0 A D cy st [.ref x0, .int x1, .int x2] sz sh d (some (.int r)) sz sh d := ct_of (by decide) (Nat.le_of_ble_eq_true rfl) (fun p e s m args below meth c C hw hS ls hl => wX7_telling_b0 C x0 x1 x2 hf hw hS hl)
theorem dX7_manyOn_0 : decode cX7_manyOn 0 = .ok (.iconst 0, 1) := by decide +kernel
theorem dX7_manyOn_1 : decode cX7_manyOn 1 = .ok (.istore_n 3, 1) := by decide +kernel
theorem dX7_manyOn_2 : decode cX7_manyOn 2 = .ok (.iconst 0, 1) := by decide +kernel
theorem dX7_manyOn_3 : decode cX7_manyOn 3 = .ok (.istore 4, 2) := by decide +kernel
theorem dX7_manyOn_5 : decode cX7_manyOn 5 = .ok (.iload 4, 2) := by decide +kernel
theorem dX7_manyOn_7 : decode cX7_manyOn 7 = .ok (.aload_n 0, 1) := by decide +kernel
theorem dX7_manyOn_8 : decode cX7_manyOn 8 = .ok (.getfield 88, 3) := by decide +kernel
theorem dX7_manyOn_11 : decode cX7_manyOn 11 = .ok (.if_icmp .ge 41, 3) := by decide +kernel
theorem dX7_manyOn_14 : decode cX7_manyOn 14 = .ok (.iload_n 3, 1) := by decide +kernel
theorem dX7_manyOn_15 : decode cX7_manyOn 15 = .ok (.aload_n 0, 1) := by decide +kernel
theorem dX7_manyOn_16 : decode cX7_manyOn 16 = .ok (.getfield 33, 3) := by decide +kernel
theorem dX7_manyOn_19 : decode cX7_manyOn 19 = .ok (.iload 4, 2) := by decide +kernel
theorem dX7_manyOn_21 : decode cX7_manyOn 21 = .ok (.iaload, 1) := by decide +kernel
theorem dX7_manyOn_22 : decode cX7_manyOn 22 = .ok (.iload_n 2, 1) := by decide +kernel
theorem dX7_manyOn_23 : decode cX7_manyOn 23 = .ok (.if_icmp .ne 20, 3) := by decide +kernel
theorem dX7_manyOn_26 : decode cX7_manyOn 26 = .ok (.aload_n 0, 1) := by decide +kernel
theorem dX7_manyOn_27 : decode cX7_manyOn 27 = .ok (.getfield 13, 3) := by decide +kernel
theorem dX7_manyOn_30 : decode cX7_manyOn 30 = .ok (.iload_n 1, 1) := by decide +kernel
theorem dX7_manyOn_31 : decode cX7_manyOn 31 = .ok (.iload 4, 2) := by decide +kernel
theorem dX7_manyOn_33 : decode cX7_manyOn 33 = .ok (.invokestatic 91, 3) := by decide +kernel
theorem dX7_manyOn_36 : decode cX7_manyOn 36 = .ok (.ifCond .eq 7, 3) := by decide +kernel
theorem dX7_manyOn_39 : decode cX7_manyOn 39 = .ok (.iconst 1, 1) := by decide +kernel
theorem dX7_manyOn_40 : decode cX7_manyOn 40 = .ok (.goto 4, 3) := by decide +kernel
theorem dX7_manyOn_43 : decode cX7_manyOn 43 = .ok (.iconst 0, 1) := by decide +kernel
theorem dX7_manyOn_44 : decode cX7_manyOn 44 = .ok (.iadd, 1) := by decide +kernel
theorem dX7_manyOn_45 : decode cX7_manyOn 45 = .ok (.istore_n 3, 1) := by decide +kernel
theorem dX7_manyOn_46 : decode cX7_manyOn 46 = .ok (.iinc 4 1, 3) := by decide +kernel
theorem dX7_manyOn_49 : decode cX7_manyOn 49 = .ok (.goto (-44), 3) := by decide +kernel
theorem dX7_manyOn_52 : decode cX7_manyOn 52 = .ok (.iload_n 3, 1) := by decide +kernel
theorem dX7_manyOn_53 : decode cX7_manyOn 53 = .ok (.ireturn, 1) := by decide +kernel
theorem cvX7_manyOn : CV yX7_manyOn cX7_manyOn 5 (some .int) 8 2 := ⟨kw_1084, ks_43, kw_6, kw_1085, ⟨_, _, rfl⟩, by decide, by decide +kernel, by decide +kernel, by decide +kernel⟩
def fX7_manyOn_b5 (sh : Sh) (d : Dt) : Nat → Nat → Int32 → Int32 → Int32 → Int32 → Option (Int32)
  | 0, _, _, _, _, _ => none
  | n + 1, x0, x1, x2, x3, x4 => bd (gI sh d 9 297 x0) fun v1 => if v1 ≤ x4 then (some x3) else (bd (gR sh d 9 299 x0) fun v3 => bd v3 fun a4 => bd (aI sh d 20 a4 x4) fun v5 => if v5 = x2 then (bd (gR sh d 9 291 x0) fun v7 => bd (fX7_isIn sh d v7 x1 x4) fun r9 => if (bI r9) = 0 then (fX7_manyOn_b5 sh d n x0 x1 x2 (x3 + (0 : Int32)) (x4 + 1)) else (fX7_manyOn_b5 sh d n x0 x1 x2 (x3 + (1 : Int32)) (x4 + 1))) else (fX7_manyOn_b5 sh d n x0 x1 x2 (x3 + (0 : Int32)) (x4 + 1)))

def fX7_manyOn_b0 (sh : Sh) (d : Dt) (x0 : Nat) (x1 : Int32) (x2 : Int32) : Option (Int32) := fX7_manyOn_b5 sh d fu x0 x1 x2 (0 : Int32) (0 : Int32)

def fX7_manyOn (sh : Sh) (d : Dt) (x0 : Nat) (x1 : Int32) (x2 : Int32) : Option (Int32) := fX7_manyOn_b0 sh d x0 x1 x2

set_option maxRecDepth 100000 in
set_option maxHeartbeats 4000000 in
theorem wX7_manyOn_b5 (C : mx p s m args meth c yX7_manyOn cX7_manyOn 5 (some .int) A D cy st) {r : Int32} {d : Dt} : ∀ (n : Nat) (x0 : Nat) (x1 : Int32) (x2 : Int32) (x3 : Int32) (x4 : Int32), fX7_manyOn_b5 sh d n x0 x1 x2 x3 x4 = some r → ∀ {H : Heap} {locs : List Loc} {ls : Array Slot}, HW A D cy sz sh d H → va_S A s.heap H locs → lv_has ls 5 [(0, .ref x0), (1, .int x1), (2, .int x2), (3, .int x3), (4, .int x4)] → GL p l e s m args below meth c 1 22 A D cy (some (.int r)) sz sh d H locs 5 ls [] := by
  have hx := C.1
  have hb := C.2.1
  intro n
  induction n with
  | zero => intro x0 x1 x2 x3 x4 hf; cases hf
  | succ n ih =>
    intro x0 x1 x2 x3 x4 hf H locs ls hw hS hl
    rw [fX7_manyOn_b5] at hf
    refine lv_iload hx hb dX7_manyOn_5 (lv_at hl 4 rfl) ?_
    refine lv_aload_n hx hb dX7_manyOn_7 rfl (lv_at hl 0 rfl) ?_
    obtain ⟨v1, hv1, hf⟩ := bd_s hf
    refine gt_297 C hw hv1 kw_806 dX7_manyOn_8 ?_
    refine lv_icmp_ge (tgt := 52) hx hb dX7_manyOn_11 (by decide) (fun c_2 => ?_) (fun c_2 => ?_)
    · have hf := if_t c_2 hf
      refine lv_iload_n hx hb dX7_manyOn_52 rfl (lv_at hl 3 rfl) ?_
      cases hf
      exact rt_i C hw hS dX7_manyOn_53
    · have hf := if_f c_2 hf
      refine lv_iload_n hx hb dX7_manyOn_14 rfl (lv_at hl 3 rfl) ?_
      refine lv_aload_n hx hb dX7_manyOn_15 rfl (lv_at hl 0 rfl) ?_
      obtain ⟨v3, hv3, hf⟩ := bd_s hf
      refine gt_299 C hw hv3 kw_808 dX7_manyOn_16 ?_
      refine lv_iload hx hb dX7_manyOn_19 (lv_at hl 4 rfl) ?_
      obtain ⟨a4, ea4, hg⟩ := bd_s hf
      clear hf
      subst ea4
      have hf := hg
      clear hg
      obtain ⟨v5, hv5, hf⟩ := bd_s hf
      refine w_iald C hw hv5 dX7_manyOn_21 ?_
      refine lv_iload_n hx hb dX7_manyOn_22 rfl (lv_at hl 2 rfl) ?_
      refine lv_icmp_ne (tgt := 43) hx hb dX7_manyOn_23 (by decide) (fun c_6 => ?_) (fun c_6 => ?_)
      · have hf := if_f c_6 hf
        refine lv_iconst (v := 0) hx hb dX7_manyOn_43 (by decide) ?_
        refine lv_iadd hx hb dX7_manyOn_44 ?_
        refine lv_istore_n (lv' := [(3, .int (x3 + (0 : Int32))), (0, .ref x0), (1, .int x1), (2, .int x2), (4, .int x4)]) hx hb dX7_manyOn_45 rfl hl (by decide) rfl (fun ls hl => ?_)
        refine lv_iinc (v := (x4 + 1)) (lv' := [(4, .int (x4 + 1)), (3, .int (x3 + (0 : Int32))), (0, .ref x0), (1, .int x1), (2, .int x2)]) hx hb dX7_manyOn_46 hl (k := 4) rfl rfl (by decide) rfl (fun ls hl => ?_)
        refine lv_goto (tgt := 5) hx hb dX7_manyOn_49 (by decide) ?_
        exact ih x0 x1 x2 (x3 + (0 : Int32)) (x4 + 1) hf hw hS (lv_sub hl [2, 3, 4, 1, 0] rfl)
      · have hf := if_t c_6 hf
        refine lv_aload_n hx hb dX7_manyOn_26 rfl (lv_at hl 0 rfl) ?_
        obtain ⟨v7, hv7, hf⟩ := bd_s hf
        refine gt_291 C hw hv7 kw_800 dX7_manyOn_27 ?_
        refine lv_iload_n hx hb dX7_manyOn_30 rfl (lv_at hl 1 rfl) ?_
        refine lv_iload hx hb dX7_manyOn_31 (lv_at hl 4 rfl) ?_
        obtain ⟨r9, h8, hf⟩ := bd_s hf
        refine cl_S0 C hw hS (tX7_isIn l A D cy st sz sh d v7 x1 x4 h8) csX7_isIn kw_933 ⟨Nat.le_of_ble_eq_true rfl, Nat.le_of_ble_eq_true rfl⟩ hl.1 rfl (Nat.le_of_ble_eq_true rfl) dX7_manyOn_33 ⟨Nat.zero_le _, Nat.zero_le _⟩ (fun H locs hw hS => ?_)
        refine lv_if_eq (tgt := 43) hx hb dX7_manyOn_36 (by decide) (fun c_10 => ?_) (fun c_10 => ?_)
        · have hf := if_t c_10 hf
          refine lv_iconst (v := 0) hx hb dX7_manyOn_43 (by decide) ?_
          refine lv_iadd hx hb dX7_manyOn_44 ?_
          refine lv_istore_n (lv' := [(3, .int (x3 + (0 : Int32))), (0, .ref x0), (1, .int x1), (2, .int x2), (4, .int x4)]) hx hb dX7_manyOn_45 rfl hl (by decide) rfl (fun ls hl => ?_)
          refine lv_iinc (v := (x4 + 1)) (lv' := [(4, .int (x4 + 1)), (3, .int (x3 + (0 : Int32))), (0, .ref x0), (1, .int x1), (2, .int x2)]) hx hb dX7_manyOn_46 hl (k := 4) rfl rfl (by decide) rfl (fun ls hl => ?_)
          refine lv_goto (tgt := 5) hx hb dX7_manyOn_49 (by decide) ?_
          exact ih x0 x1 x2 (x3 + (0 : Int32)) (x4 + 1) hf hw hS (lv_sub hl [2, 3, 4, 1, 0] rfl)
        · have hf := if_f c_10 hf
          refine lv_iconst (v := 1) hx hb dX7_manyOn_39 (by decide) ?_
          refine lv_goto (tgt := 44) hx hb dX7_manyOn_40 (by decide) ?_
          refine lv_iadd hx hb dX7_manyOn_44 ?_
          refine lv_istore_n (lv' := [(3, .int (x3 + (1 : Int32))), (0, .ref x0), (1, .int x1), (2, .int x2), (4, .int x4)]) hx hb dX7_manyOn_45 rfl hl (by decide) rfl (fun ls hl => ?_)
          refine lv_iinc (v := (x4 + 1)) (lv' := [(4, .int (x4 + 1)), (3, .int (x3 + (1 : Int32))), (0, .ref x0), (1, .int x1), (2, .int x2)]) hx hb dX7_manyOn_46 hl (k := 4) rfl rfl (by decide) rfl (fun ls hl => ?_)
          refine lv_goto (tgt := 5) hx hb dX7_manyOn_49 (by decide) ?_
          exact ih x0 x1 x2 (x3 + (1 : Int32)) (x4 + 1) hf hw hS (lv_sub hl [2, 3, 4, 1, 0] rfl)

set_option maxRecDepth 100000 in
set_option maxHeartbeats 4000000 in
theorem wX7_manyOn_b0 (C : mx p s m args meth c yX7_manyOn cX7_manyOn 5 (some .int) A D cy st) {r : Int32} {d : Dt} : ∀ (x0 : Nat) (x1 : Int32) (x2 : Int32), fX7_manyOn_b0 sh d x0 x1 x2 = some r → ∀ {H : Heap} {locs : List Loc} {ls : Array Slot}, HW A D cy sz sh d H → va_S A s.heap H locs → lv_has ls 5 [(0, .ref x0), (1, .int x1), (2, .int x2)] → GL p l e s m args below meth c 1 22 A D cy (some (.int r)) sz sh d H locs 0 ls [] := by
  have hx := C.1
  have hb := C.2.1
  intro x0 x1 x2 hf H locs ls hw hS hl
  unfold fX7_manyOn_b0 at hf
  refine lv_iconst (v := 0) hx hb dX7_manyOn_0 (by decide) ?_
  refine lv_istore_n (lv' := [(3, .int (0 : Int32)), (0, .ref x0), (1, .int x1), (2, .int x2)]) hx hb dX7_manyOn_1 rfl hl (by decide) rfl (fun ls hl => ?_)
  refine lv_iconst (v := 0) hx hb dX7_manyOn_2 (by decide) ?_
  refine lv_istore (lv' := [(4, .int (0 : Int32)), (3, .int (0 : Int32)), (0, .ref x0), (1, .int x1), (2, .int x2)]) hx hb dX7_manyOn_3 hl (by decide) rfl (fun ls hl => ?_)
  exact wX7_manyOn_b5 C fu x0 x1 x2 (0 : Int32) (0 : Int32) hf hw hS (lv_sub hl [2, 3, 4, 1, 0] rfl)

set_option maxRecDepth 100000 in
set_option maxHeartbeats 4000000 in
theorem tX7_manyOn (l : Launch) (A : Nat → Prop) (D : va_G) (cy : Nat → ClassId) (st : Nat → Nat) (sz : Nat) (sh : Sh) (d : Dt) (x0 : Nat) (x1 : Int32) (x2 : Int32) {r : Int32} (hf : fX7_manyOn sh d x0 x1 x2 = some r) : Ct l yX7_manyOn cX7_manyOn 5 (some .int) 1 22 0 0 A D cy st [.ref x0, .int x1, .int x2] sz sh d (some (.int r)) sz sh d := ct_of (by decide) (Nat.le_of_ble_eq_true rfl) (fun p e s m args below meth c C hw hS ls hl => wX7_manyOn_b0 C x0 x1 x2 hf hw hS hl)
theorem dX7_sumOf_0 : decode cX7_sumOf 0 = .ok (.lconst 0, 1) := by decide +kernel
theorem dX7_sumOf_1 : decode cX7_sumOf 1 = .ok (.lstore_n 3, 1) := by decide +kernel
theorem dX7_sumOf_2 : decode cX7_sumOf 2 = .ok (.iconst 0, 1) := by decide +kernel
theorem dX7_sumOf_3 : decode cX7_sumOf 3 = .ok (.istore 5, 2) := by decide +kernel
theorem dX7_sumOf_5 : decode cX7_sumOf 5 = .ok (.iload 5, 2) := by decide +kernel
theorem dX7_sumOf_7 : decode cX7_sumOf 7 = .ok (.aload_n 0, 1) := by decide +kernel
theorem dX7_sumOf_8 : decode cX7_sumOf 8 = .ok (.getfield 88, 3) := by decide +kernel
theorem dX7_sumOf_11 : decode cX7_sumOf 11 = .ok (.if_icmp .ge 58, 3) := by decide +kernel
theorem dX7_sumOf_14 : decode cX7_sumOf 14 = .ok (.lload_n 3, 1) := by decide +kernel
theorem dX7_sumOf_15 : decode cX7_sumOf 15 = .ok (.aload_n 0, 1) := by decide +kernel
theorem dX7_sumOf_16 : decode cX7_sumOf 16 = .ok (.iload_n 1, 1) := by decide +kernel
theorem dX7_sumOf_17 : decode cX7_sumOf 17 = .ok (.iload_n 2, 1) := by decide +kernel
theorem dX7_sumOf_18 : decode cX7_sumOf 18 = .ok (.iload 5, 2) := by decide +kernel
theorem dX7_sumOf_20 : decode cX7_sumOf 20 = .ok (.iconst 1, 1) := by decide +kernel
theorem dX7_sumOf_21 : decode cX7_sumOf 21 = .ok (.invokevirtual 185, 3) := by decide +kernel
theorem dX7_sumOf_24 : decode cX7_sumOf 24 = .ok (.ifCond .eq 13, 3) := by decide +kernel
theorem dX7_sumOf_27 : decode cX7_sumOf 27 = .ok (.aload_n 0, 1) := by decide +kernel
theorem dX7_sumOf_28 : decode cX7_sumOf 28 = .ok (.getfield 48, 3) := by decide +kernel
theorem dX7_sumOf_31 : decode cX7_sumOf 31 = .ok (.iload 5, 2) := by decide +kernel
theorem dX7_sumOf_33 : decode cX7_sumOf 33 = .ok (.laload, 1) := by decide +kernel
theorem dX7_sumOf_34 : decode cX7_sumOf 34 = .ok (.goto 27, 3) := by decide +kernel
theorem dX7_sumOf_37 : decode cX7_sumOf 37 = .ok (.aload_n 0, 1) := by decide +kernel
theorem dX7_sumOf_38 : decode cX7_sumOf 38 = .ok (.iload_n 1, 1) := by decide +kernel
theorem dX7_sumOf_39 : decode cX7_sumOf 39 = .ok (.iload_n 2, 1) := by decide +kernel
theorem dX7_sumOf_40 : decode cX7_sumOf 40 = .ok (.iload 5, 2) := by decide +kernel
theorem dX7_sumOf_42 : decode cX7_sumOf 42 = .ok (.iconst 5, 1) := by decide +kernel
theorem dX7_sumOf_43 : decode cX7_sumOf 43 = .ok (.invokevirtual 185, 3) := by decide +kernel
theorem dX7_sumOf_46 : decode cX7_sumOf 46 = .ok (.ifCond .eq 14, 3) := by decide +kernel
theorem dX7_sumOf_49 : decode cX7_sumOf 49 = .ok (.aload_n 0, 1) := by decide +kernel
theorem dX7_sumOf_50 : decode cX7_sumOf 50 = .ok (.getfield 48, 3) := by decide +kernel
theorem dX7_sumOf_53 : decode cX7_sumOf 53 = .ok (.iload 5, 2) := by decide +kernel
theorem dX7_sumOf_55 : decode cX7_sumOf 55 = .ok (.laload, 1) := by decide +kernel
theorem dX7_sumOf_56 : decode cX7_sumOf 56 = .ok (.lneg, 1) := by decide +kernel
theorem dX7_sumOf_57 : decode cX7_sumOf 57 = .ok (.goto 4, 3) := by decide +kernel
theorem dX7_sumOf_60 : decode cX7_sumOf 60 = .ok (.lconst 0, 1) := by decide +kernel
theorem dX7_sumOf_61 : decode cX7_sumOf 61 = .ok (.ladd, 1) := by decide +kernel
theorem dX7_sumOf_62 : decode cX7_sumOf 62 = .ok (.lstore_n 3, 1) := by decide +kernel
theorem dX7_sumOf_63 : decode cX7_sumOf 63 = .ok (.iinc 5 1, 3) := by decide +kernel
theorem dX7_sumOf_66 : decode cX7_sumOf 66 = .ok (.goto (-61), 3) := by decide +kernel
theorem dX7_sumOf_69 : decode cX7_sumOf 69 = .ok (.lload_n 3, 1) := by decide +kernel
theorem dX7_sumOf_70 : decode cX7_sumOf 70 = .ok (.lreturn, 1) := by decide +kernel
theorem cvX7_sumOf : CV yX7_sumOf cX7_sumOf 6 (some .long) 8 2 := ⟨kw_1080, ks_42, kw_6, kw_1081, ⟨_, _, rfl⟩, by decide, by decide +kernel, by decide +kernel, by decide +kernel⟩
def fX7_sumOf_b5 (sh : Sh) (d : Dt) : Nat → Nat → Int32 → Int32 → Int64 → Int32 → Option (Int64)
  | 0, _, _, _, _, _ => none
  | n + 1, x0, x1, x2, x3, x5 => bd (gI sh d 9 297 x0) fun v1 => if v1 ≤ x5 then (some x3) else (bd (fX7_isOn sh d x0 x1 x2 x5 (1 : Int32)) fun r4 => if (bI r4) = 0 then (bd (fX7_isOn sh d x0 x1 x2 x5 (5 : Int32)) fun r7 => if (bI r7) = 0 then (fX7_sumOf_b5 sh d n x0 x1 x2 (x3 + (0 : Int64)) (x5 + 1)) else (bd (gR sh d 9 304 x0) fun v9 => bd v9 fun a10 => bd (aL sh d 21 a10 x5) fun v11 => fX7_sumOf_b5 sh d n x0 x1 x2 (x3 + (-v11)) (x5 + 1))) else (bd (gR sh d 9 304 x0) fun v12 => bd v12 fun a13 => bd (aL sh d 21 a13 x5) fun v14 => fX7_sumOf_b5 sh d n x0 x1 x2 (x3 + v14) (x5 + 1)))

def fX7_sumOf_b0 (sh : Sh) (d : Dt) (x0 : Nat) (x1 : Int32) (x2 : Int32) : Option (Int64) := fX7_sumOf_b5 sh d fu x0 x1 x2 (0 : Int64) (0 : Int32)

def fX7_sumOf (sh : Sh) (d : Dt) (x0 : Nat) (x1 : Int32) (x2 : Int32) : Option (Int64) := fX7_sumOf_b0 sh d x0 x1 x2

set_option maxRecDepth 100000 in
set_option maxHeartbeats 4000000 in
theorem wX7_sumOf_b5 (C : mx p s m args meth c yX7_sumOf cX7_sumOf 6 (some .long) A D cy st) {r : Int64} {d : Dt} : ∀ (n : Nat) (x0 : Nat) (x1 : Int32) (x2 : Int32) (x3 : Int64) (x5 : Int32), fX7_sumOf_b5 sh d n x0 x1 x2 x3 x5 = some r → ∀ {H : Heap} {locs : List Loc} {ls : Array Slot}, HW A D cy sz sh d H → va_S A s.heap H locs → lv_has ls 6 [(0, .ref x0), (1, .int x1), (2, .int x2), (3, .long x3), (5, .int x5)] → GL p l e s m args below meth c 2 46 A D cy (some (.long r)) sz sh d H locs 5 ls [] := by
  have hx := C.1
  have hb := C.2.1
  intro n
  induction n with
  | zero => intro x0 x1 x2 x3 x5 hf; cases hf
  | succ n ih =>
    intro x0 x1 x2 x3 x5 hf H locs ls hw hS hl
    rw [fX7_sumOf_b5] at hf
    refine lv_iload hx hb dX7_sumOf_5 (lv_at hl 4 rfl) ?_
    refine lv_aload_n hx hb dX7_sumOf_7 rfl (lv_at hl 0 rfl) ?_
    obtain ⟨v1, hv1, hf⟩ := bd_s hf
    refine gt_297 C hw hv1 kw_806 dX7_sumOf_8 ?_
    refine lv_icmp_ge (tgt := 69) hx hb dX7_sumOf_11 (by decide) (fun c_2 => ?_) (fun c_2 => ?_)
    · have hf := if_t c_2 hf
      refine lv_lload_n hx hb dX7_sumOf_69 rfl (lv_at hl 3 rfl) ?_
      cases hf
      exact rt_l C hw hS dX7_sumOf_70
    · have hf := if_f c_2 hf
      refine lv_lload_n hx hb dX7_sumOf_14 rfl (lv_at hl 3 rfl) ?_
      refine lv_aload_n hx hb dX7_sumOf_15 rfl (lv_at hl 0 rfl) ?_
      refine lv_iload_n hx hb dX7_sumOf_16 rfl (lv_at hl 1 rfl) ?_
      refine lv_iload_n hx hb dX7_sumOf_17 rfl (lv_at hl 2 rfl) ?_
      refine lv_iload hx hb dX7_sumOf_18 (lv_at hl 4 rfl) ?_
      refine lv_iconst (v := 1) hx hb dX7_sumOf_20 (by decide) ?_
      obtain ⟨r4, h3, hf⟩ := bd_s hf
      refine cl_V0 C hw hS (tX7_isOn l A D cy st sz sh d x0 x1 x2 x5 (1 : Int32) h3) cvX7_isOn kw_975 (gI_s hv1).1 ⟨Nat.le_of_ble_eq_true rfl, Nat.le_of_ble_eq_true rfl⟩ hl.1 rfl (Nat.le_of_ble_eq_true rfl) dX7_sumOf_21 ⟨Nat.zero_le _, Nat.zero_le _⟩ (fun H locs hw hS => ?_)
      refine lv_if_eq (tgt := 37) hx hb dX7_sumOf_24 (by decide) (fun c_5 => ?_) (fun c_5 => ?_)
      · have hf := if_t c_5 hf
        refine lv_aload_n hx hb dX7_sumOf_37 rfl (lv_at hl 0 rfl) ?_
        refine lv_iload_n hx hb dX7_sumOf_38 rfl (lv_at hl 1 rfl) ?_
        refine lv_iload_n hx hb dX7_sumOf_39 rfl (lv_at hl 2 rfl) ?_
        refine lv_iload hx hb dX7_sumOf_40 (lv_at hl 4 rfl) ?_
        refine lv_iconst (v := 5) hx hb dX7_sumOf_42 (by decide) ?_
        obtain ⟨r7, h6, hf⟩ := bd_s hf
        refine cl_V0 C hw hS (tX7_isOn l A D cy st sz sh d x0 x1 x2 x5 (5 : Int32) h6) cvX7_isOn kw_975 (gI_s hv1).1 ⟨Nat.le_of_ble_eq_true rfl, Nat.le_of_ble_eq_true rfl⟩ hl.1 rfl (Nat.le_of_ble_eq_true rfl) dX7_sumOf_43 ⟨Nat.zero_le _, Nat.zero_le _⟩ (fun H locs hw hS => ?_)
        refine lv_if_eq (tgt := 60) hx hb dX7_sumOf_46 (by decide) (fun c_8 => ?_) (fun c_8 => ?_)
        · have hf := if_t c_8 hf
          refine lv_lconst (v := 0) hx hb dX7_sumOf_60 (by decide) ?_
          refine lv_ladd hx hb dX7_sumOf_61 ?_
          refine lv_lstore_n (lv' := [(3, .long (x3 + (0 : Int64))), (0, .ref x0), (1, .int x1), (2, .int x2), (5, .int x5)]) hx hb dX7_sumOf_62 rfl hl (by decide) rfl (fun ls hl => ?_)
          refine lv_iinc (v := (x5 + 1)) (lv' := [(5, .int (x5 + 1)), (3, .long (x3 + (0 : Int64))), (0, .ref x0), (1, .int x1), (2, .int x2)]) hx hb dX7_sumOf_63 hl (k := 4) rfl rfl (by decide) rfl (fun ls hl => ?_)
          refine lv_goto (tgt := 5) hx hb dX7_sumOf_66 (by decide) ?_
          exact ih x0 x1 x2 (x3 + (0 : Int64)) (x5 + 1) hf hw hS (lv_sub hl [2, 3, 4, 1, 0] rfl)
        · have hf := if_f c_8 hf
          refine lv_aload_n hx hb dX7_sumOf_49 rfl (lv_at hl 0 rfl) ?_
          obtain ⟨v9, hv9, hf⟩ := bd_s hf
          refine gt_304 C hw hv9 kw_813 dX7_sumOf_50 ?_
          refine lv_iload hx hb dX7_sumOf_53 (lv_at hl 4 rfl) ?_
          obtain ⟨a10, ea10, hg⟩ := bd_s hf
          clear hf
          subst ea10
          have hf := hg
          clear hg
          obtain ⟨v11, hv11, hf⟩ := bd_s hf
          refine w_lald C hw hv11 dX7_sumOf_55 ?_
          refine lv_lneg hx hb dX7_sumOf_56 ?_
          refine lv_goto (tgt := 61) hx hb dX7_sumOf_57 (by decide) ?_
          refine lv_ladd hx hb dX7_sumOf_61 ?_
          refine lv_lstore_n (lv' := [(3, .long (x3 + (-v11))), (0, .ref x0), (1, .int x1), (2, .int x2), (5, .int x5)]) hx hb dX7_sumOf_62 rfl hl (by decide) rfl (fun ls hl => ?_)
          refine lv_iinc (v := (x5 + 1)) (lv' := [(5, .int (x5 + 1)), (3, .long (x3 + (-v11))), (0, .ref x0), (1, .int x1), (2, .int x2)]) hx hb dX7_sumOf_63 hl (k := 4) rfl rfl (by decide) rfl (fun ls hl => ?_)
          refine lv_goto (tgt := 5) hx hb dX7_sumOf_66 (by decide) ?_
          exact ih x0 x1 x2 (x3 + (-v11)) (x5 + 1) hf hw hS (lv_sub hl [2, 3, 4, 1, 0] rfl)
      · have hf := if_f c_5 hf
        refine lv_aload_n hx hb dX7_sumOf_27 rfl (lv_at hl 0 rfl) ?_
        obtain ⟨v12, hv12, hf⟩ := bd_s hf
        refine gt_304 C hw hv12 kw_813 dX7_sumOf_28 ?_
        refine lv_iload hx hb dX7_sumOf_31 (lv_at hl 4 rfl) ?_
        obtain ⟨a13, ea13, hg⟩ := bd_s hf
        clear hf
        subst ea13
        have hf := hg
        clear hg
        obtain ⟨v14, hv14, hf⟩ := bd_s hf
        refine w_lald C hw hv14 dX7_sumOf_33 ?_
        refine lv_goto (tgt := 61) hx hb dX7_sumOf_34 (by decide) ?_
        refine lv_ladd hx hb dX7_sumOf_61 ?_
        refine lv_lstore_n (lv' := [(3, .long (x3 + v14)), (0, .ref x0), (1, .int x1), (2, .int x2), (5, .int x5)]) hx hb dX7_sumOf_62 rfl hl (by decide) rfl (fun ls hl => ?_)
        refine lv_iinc (v := (x5 + 1)) (lv' := [(5, .int (x5 + 1)), (3, .long (x3 + v14)), (0, .ref x0), (1, .int x1), (2, .int x2)]) hx hb dX7_sumOf_63 hl (k := 4) rfl rfl (by decide) rfl (fun ls hl => ?_)
        refine lv_goto (tgt := 5) hx hb dX7_sumOf_66 (by decide) ?_
        exact ih x0 x1 x2 (x3 + v14) (x5 + 1) hf hw hS (lv_sub hl [2, 3, 4, 1, 0] rfl)

set_option maxRecDepth 100000 in
set_option maxHeartbeats 4000000 in
theorem wX7_sumOf_b0 (C : mx p s m args meth c yX7_sumOf cX7_sumOf 6 (some .long) A D cy st) {r : Int64} {d : Dt} : ∀ (x0 : Nat) (x1 : Int32) (x2 : Int32), fX7_sumOf_b0 sh d x0 x1 x2 = some r → ∀ {H : Heap} {locs : List Loc} {ls : Array Slot}, HW A D cy sz sh d H → va_S A s.heap H locs → lv_has ls 6 [(0, .ref x0), (1, .int x1), (2, .int x2)] → GL p l e s m args below meth c 2 46 A D cy (some (.long r)) sz sh d H locs 0 ls [] := by
  have hx := C.1
  have hb := C.2.1
  intro x0 x1 x2 hf H locs ls hw hS hl
  unfold fX7_sumOf_b0 at hf
  refine lv_lconst (v := 0) hx hb dX7_sumOf_0 (by decide) ?_
  refine lv_lstore_n (lv' := [(3, .long (0 : Int64)), (0, .ref x0), (1, .int x1), (2, .int x2)]) hx hb dX7_sumOf_1 rfl hl (by decide) rfl (fun ls hl => ?_)
  refine lv_iconst (v := 0) hx hb dX7_sumOf_2 (by decide) ?_
  refine lv_istore (lv' := [(5, .int (0 : Int32)), (3, .long (0 : Int64)), (0, .ref x0), (1, .int x1), (2, .int x2)]) hx hb dX7_sumOf_3 hl (by decide) rfl (fun ls hl => ?_)
  exact wX7_sumOf_b5 C fu x0 x1 x2 (0 : Int64) (0 : Int32) hf hw hS (lv_sub hl [2, 3, 4, 1, 0] rfl)

set_option maxRecDepth 100000 in
set_option maxHeartbeats 4000000 in
theorem tX7_sumOf (l : Launch) (A : Nat → Prop) (D : va_G) (cy : Nat → ClassId) (st : Nat → Nat) (sz : Nat) (sh : Sh) (d : Dt) (x0 : Nat) (x1 : Int32) (x2 : Int32) {r : Int64} (hf : fX7_sumOf sh d x0 x1 x2 = some r) : Ct l yX7_sumOf cX7_sumOf 6 (some .long) 2 46 0 0 A D cy st [.ref x0, .int x1, .int x2] sz sh d (some (.long r)) sz sh d := ct_of (by decide) (Nat.le_of_ble_eq_true rfl) (fun p e s m args below meth c C hw hS ls hl => wX7_sumOf_b0 C x0 x1 x2 hf hw hS hl)
theorem dX7_isKnown_0 : decode cX7_isKnown 0 = .ok (.iconst 0, 1) := by decide +kernel
theorem dX7_isKnown_1 : decode cX7_isKnown 1 = .ok (.istore 5, 2) := by decide +kernel
theorem dX7_isKnown_3 : decode cX7_isKnown 3 = .ok (.iconst 0, 1) := by decide +kernel
theorem dX7_isKnown_4 : decode cX7_isKnown 4 = .ok (.istore 6, 2) := by decide +kernel
theorem dX7_isKnown_6 : decode cX7_isKnown 6 = .ok (.iload 6, 2) := by decide +kernel
theorem dX7_isKnown_8 : decode cX7_isKnown 8 = .ok (.aload_n 0, 1) := by decide +kernel
theorem dX7_isKnown_9 : decode cX7_isKnown 9 = .ok (.getfield 88, 3) := by decide +kernel
theorem dX7_isKnown_12 : decode cX7_isKnown 12 = .ok (.if_icmp .ge 47, 3) := by decide +kernel
theorem dX7_isKnown_15 : decode cX7_isKnown 15 = .ok (.iload 5, 2) := by decide +kernel
theorem dX7_isKnown_17 : decode cX7_isKnown 17 = .ok (.ifCond .ne 42, 3) := by decide +kernel
theorem dX7_isKnown_20 : decode cX7_isKnown 20 = .ok (.aload_n 0, 1) := by decide +kernel
theorem dX7_isKnown_21 : decode cX7_isKnown 21 = .ok (.iload_n 1, 1) := by decide +kernel
theorem dX7_isKnown_22 : decode cX7_isKnown 22 = .ok (.iload_n 2, 1) := by decide +kernel
theorem dX7_isKnown_23 : decode cX7_isKnown 23 = .ok (.iload 6, 2) := by decide +kernel
theorem dX7_isKnown_25 : decode cX7_isKnown 25 = .ok (.iload 4, 2) := by decide +kernel
theorem dX7_isKnown_27 : decode cX7_isKnown 27 = .ok (.invokevirtual 185, 3) := by decide +kernel
theorem dX7_isKnown_30 : decode cX7_isKnown 30 = .ok (.ifCond .eq 20, 3) := by decide +kernel
theorem dX7_isKnown_33 : decode cX7_isKnown 33 = .ok (.aload_n 0, 1) := by decide +kernel
theorem dX7_isKnown_34 : decode cX7_isKnown 34 = .ok (.getfield 51, 3) := by decide +kernel
theorem dX7_isKnown_37 : decode cX7_isKnown 37 = .ok (.iload 6, 2) := by decide +kernel
theorem dX7_isKnown_39 : decode cX7_isKnown 39 = .ok (.iload_n 3, 1) := by decide +kernel
theorem dX7_isKnown_40 : decode cX7_isKnown 40 = .ok (.invokestatic 91, 3) := by decide +kernel
theorem dX7_isKnown_43 : decode cX7_isKnown 43 = .ok (.ifCond .eq 7, 3) := by decide +kernel
theorem dX7_isKnown_46 : decode cX7_isKnown 46 = .ok (.iconst 1, 1) := by decide +kernel
theorem dX7_isKnown_47 : decode cX7_isKnown 47 = .ok (.goto 4, 3) := by decide +kernel
theorem dX7_isKnown_50 : decode cX7_isKnown 50 = .ok (.iconst 0, 1) := by decide +kernel
theorem dX7_isKnown_51 : decode cX7_isKnown 51 = .ok (.istore 5, 2) := by decide +kernel
theorem dX7_isKnown_53 : decode cX7_isKnown 53 = .ok (.iinc 6 1, 3) := by decide +kernel
theorem dX7_isKnown_56 : decode cX7_isKnown 56 = .ok (.goto (-50), 3) := by decide +kernel
theorem dX7_isKnown_59 : decode cX7_isKnown 59 = .ok (.iload 5, 2) := by decide +kernel
theorem dX7_isKnown_61 : decode cX7_isKnown 61 = .ok (.ireturn, 1) := by decide +kernel
theorem cvX7_isKnown : CV yX7_isKnown cX7_isKnown 7 (some .boolean) 8 4 := ⟨kw_1108, ks_45, kw_6, kw_1109, ⟨_, _, rfl⟩, by decide, by decide +kernel, by decide +kernel, by decide +kernel⟩
def fX7_isKnown_b6 (sh : Sh) (d : Dt) : Nat → Nat → Int32 → Int32 → Int32 → Int32 → Int32 → Int32 → Option (Bool)
  | 0, _, _, _, _, _, _, _ => none
  | n + 1, x0, x1, x2, x3, x4, x5, x6 => bd (gI sh d 9 297 x0) fun v1 => if v1 ≤ x6 then (if x5 = 0 then some false else if x5 = 1 then some true else none) else (if x5 = 0 then (bd (fX7_isOn sh d x0 x1 x2 x6 x4) fun r7 => if (bI r7) = 0 then (fX7_isKnown_b6 sh d n x0 x1 x2 x3 x4 (0 : Int32) (x6 + 1)) else (bd (gR sh d 9 305 x0) fun v9 => bd (fX7_isIn sh d v9 x6 x3) fun r11 => if (bI r11) = 0 then (fX7_isKnown_b6 sh d n x0 x1 x2 x3 x4 (0 : Int32) (x6 + 1)) else (fX7_isKnown_b6 sh d n x0 x1 x2 x3 x4 (1 : Int32) (x6 + 1)))) else (if x5 = 0 then some false else if x5 = 1 then some true else none))

def fX7_isKnown_b0 (sh : Sh) (d : Dt) (x0 : Nat) (x1 : Int32) (x2 : Int32) (x3 : Int32) (x4 : Int32) : Option (Bool) := fX7_isKnown_b6 sh d fu x0 x1 x2 x3 x4 (0 : Int32) (0 : Int32)

def fX7_isKnown (sh : Sh) (d : Dt) (x0 : Nat) (x1 : Int32) (x2 : Int32) (x3 : Int32) (x4 : Int32) : Option (Bool) := fX7_isKnown_b0 sh d x0 x1 x2 x3 x4

set_option maxRecDepth 100000 in
set_option maxHeartbeats 4000000 in
theorem wX7_isKnown_b6 (C : mx p s m args meth c yX7_isKnown cX7_isKnown 7 (some .boolean) A D cy st) {r : Bool} {d : Dt} : ∀ (n : Nat) (x0 : Nat) (x1 : Int32) (x2 : Int32) (x3 : Int32) (x4 : Int32) (x5 : Int32) (x6 : Int32), fX7_isKnown_b6 sh d n x0 x1 x2 x3 x4 x5 x6 = some r → ∀ {H : Heap} {locs : List Loc} {ls : Array Slot}, HW A D cy sz sh d H → va_S A s.heap H locs → lv_has ls 7 [(0, .ref x0), (1, .int x1), (2, .int x2), (3, .int x3), (4, .int x4), (5, .int x5), (6, .int x6)] → GL p l e s m args below meth c 2 46 A D cy (some (.int (bI r))) sz sh d H locs 6 ls [] := by
  have hx := C.1
  have hb := C.2.1
  intro n
  induction n with
  | zero => intro x0 x1 x2 x3 x4 x5 x6 hf; cases hf
  | succ n ih =>
    intro x0 x1 x2 x3 x4 x5 x6 hf H locs ls hw hS hl
    rw [fX7_isKnown_b6] at hf
    refine lv_iload hx hb dX7_isKnown_6 (lv_at hl 6 rfl) ?_
    refine lv_aload_n hx hb dX7_isKnown_8 rfl (lv_at hl 0 rfl) ?_
    obtain ⟨v1, hv1, hf⟩ := bd_s hf
    refine gt_297 C hw hv1 kw_806 dX7_isKnown_9 ?_
    refine lv_icmp_ge (tgt := 59) hx hb dX7_isKnown_12 (by decide) (fun c_2 => ?_) (fun c_2 => ?_)
    · have hf := if_t c_2 hf
      refine lv_iload hx hb dX7_isKnown_59 (lv_at hl 5 rfl) ?_
      by_cases c_3 : x5 = 0
      · have hf := if_t c_3 hf
        cases hf
        exact rt_z C hw hS false c_3 dX7_isKnown_61
      have hf := if_f c_3 hf
      by_cases c_3b : x5 = 1
      · have hf := if_t c_3b hf
        cases hf
        exact rt_z C hw hS true c_3b dX7_isKnown_61
      have hf := if_f c_3b hf
      cases hf
    · have hf := if_f c_2 hf
      refine lv_iload hx hb dX7_isKnown_15 (lv_at hl 5 rfl) ?_
      refine lv_if_ne (tgt := 59) hx hb dX7_isKnown_17 (by decide) (fun c_4 => ?_) (fun c_4 => ?_)
      · have hf := if_f c_4 hf
        refine lv_iload hx hb dX7_isKnown_59 (lv_at hl 5 rfl) ?_
        by_cases c_5 : x5 = 0
        · have hf := if_t c_5 hf
          cases hf
          exact rt_z C hw hS false c_5 dX7_isKnown_61
        have hf := if_f c_5 hf
        by_cases c_5b : x5 = 1
        · have hf := if_t c_5b hf
          cases hf
          exact rt_z C hw hS true c_5b dX7_isKnown_61
        have hf := if_f c_5b hf
        cases hf
      · have hf := if_t c_4 hf
        refine lv_aload_n hx hb dX7_isKnown_20 rfl (lv_at hl 0 rfl) ?_
        refine lv_iload_n hx hb dX7_isKnown_21 rfl (lv_at hl 1 rfl) ?_
        refine lv_iload_n hx hb dX7_isKnown_22 rfl (lv_at hl 2 rfl) ?_
        refine lv_iload hx hb dX7_isKnown_23 (lv_at hl 6 rfl) ?_
        refine lv_iload hx hb dX7_isKnown_25 (lv_at hl 4 rfl) ?_
        obtain ⟨r7, h6, hf⟩ := bd_s hf
        refine cl_V0 C hw hS (tX7_isOn l A D cy st sz sh d x0 x1 x2 x6 x4 h6) cvX7_isOn kw_975 (gI_s hv1).1 ⟨Nat.le_of_ble_eq_true rfl, Nat.le_of_ble_eq_true rfl⟩ hl.1 rfl (Nat.le_of_ble_eq_true rfl) dX7_isKnown_27 ⟨Nat.zero_le _, Nat.zero_le _⟩ (fun H locs hw hS => ?_)
        refine lv_if_eq (tgt := 50) hx hb dX7_isKnown_30 (by decide) (fun c_8 => ?_) (fun c_8 => ?_)
        · have hf := if_t c_8 hf
          refine lv_iconst (v := 0) hx hb dX7_isKnown_50 (by decide) ?_
          refine lv_istore (lv' := [(5, .int (0 : Int32)), (0, .ref x0), (1, .int x1), (2, .int x2), (3, .int x3), (4, .int x4), (6, .int x6)]) hx hb dX7_isKnown_51 hl (by decide) rfl (fun ls hl => ?_)
          refine lv_iinc (v := (x6 + 1)) (lv' := [(6, .int (x6 + 1)), (5, .int (0 : Int32)), (0, .ref x0), (1, .int x1), (2, .int x2), (3, .int x3), (4, .int x4)]) hx hb dX7_isKnown_53 hl (k := 6) rfl rfl (by decide) rfl (fun ls hl => ?_)
          refine lv_goto (tgt := 6) hx hb dX7_isKnown_56 (by decide) ?_
          exact ih x0 x1 x2 x3 x4 (0 : Int32) (x6 + 1) hf hw hS (lv_sub hl [2, 3, 4, 5, 6, 1, 0] rfl)
        · have hf := if_f c_8 hf
          refine lv_aload_n hx hb dX7_isKnown_33 rfl (lv_at hl 0 rfl) ?_
          obtain ⟨v9, hv9, hf⟩ := bd_s hf
          refine gt_305 C hw hv9 kw_814 dX7_isKnown_34 ?_
          refine lv_iload hx hb dX7_isKnown_37 (lv_at hl 6 rfl) ?_
          refine lv_iload_n hx hb dX7_isKnown_39 rfl (lv_at hl 3 rfl) ?_
          obtain ⟨r11, h10, hf⟩ := bd_s hf
          refine cl_S0 C hw hS (tX7_isIn l A D cy st sz sh d v9 x6 x3 h10) csX7_isIn kw_933 ⟨Nat.le_of_ble_eq_true rfl, Nat.le_of_ble_eq_true rfl⟩ hl.1 rfl (Nat.le_of_ble_eq_true rfl) dX7_isKnown_40 ⟨Nat.zero_le _, Nat.zero_le _⟩ (fun H locs hw hS => ?_)
          refine lv_if_eq (tgt := 50) hx hb dX7_isKnown_43 (by decide) (fun c_12 => ?_) (fun c_12 => ?_)
          · have hf := if_t c_12 hf
            refine lv_iconst (v := 0) hx hb dX7_isKnown_50 (by decide) ?_
            refine lv_istore (lv' := [(5, .int (0 : Int32)), (0, .ref x0), (1, .int x1), (2, .int x2), (3, .int x3), (4, .int x4), (6, .int x6)]) hx hb dX7_isKnown_51 hl (by decide) rfl (fun ls hl => ?_)
            refine lv_iinc (v := (x6 + 1)) (lv' := [(6, .int (x6 + 1)), (5, .int (0 : Int32)), (0, .ref x0), (1, .int x1), (2, .int x2), (3, .int x3), (4, .int x4)]) hx hb dX7_isKnown_53 hl (k := 6) rfl rfl (by decide) rfl (fun ls hl => ?_)
            refine lv_goto (tgt := 6) hx hb dX7_isKnown_56 (by decide) ?_
            exact ih x0 x1 x2 x3 x4 (0 : Int32) (x6 + 1) hf hw hS (lv_sub hl [2, 3, 4, 5, 6, 1, 0] rfl)
          · have hf := if_f c_12 hf
            refine lv_iconst (v := 1) hx hb dX7_isKnown_46 (by decide) ?_
            refine lv_goto (tgt := 51) hx hb dX7_isKnown_47 (by decide) ?_
            refine lv_istore (lv' := [(5, .int (1 : Int32)), (0, .ref x0), (1, .int x1), (2, .int x2), (3, .int x3), (4, .int x4), (6, .int x6)]) hx hb dX7_isKnown_51 hl (by decide) rfl (fun ls hl => ?_)
            refine lv_iinc (v := (x6 + 1)) (lv' := [(6, .int (x6 + 1)), (5, .int (1 : Int32)), (0, .ref x0), (1, .int x1), (2, .int x2), (3, .int x3), (4, .int x4)]) hx hb dX7_isKnown_53 hl (k := 6) rfl rfl (by decide) rfl (fun ls hl => ?_)
            refine lv_goto (tgt := 6) hx hb dX7_isKnown_56 (by decide) ?_
            exact ih x0 x1 x2 x3 x4 (1 : Int32) (x6 + 1) hf hw hS (lv_sub hl [2, 3, 4, 5, 6, 1, 0] rfl)

set_option maxRecDepth 100000 in
set_option maxHeartbeats 4000000 in
theorem wX7_isKnown_b0 (C : mx p s m args meth c yX7_isKnown cX7_isKnown 7 (some .boolean) A D cy st) {r : Bool} {d : Dt} : ∀ (x0 : Nat) (x1 : Int32) (x2 : Int32) (x3 : Int32) (x4 : Int32), fX7_isKnown_b0 sh d x0 x1 x2 x3 x4 = some r → ∀ {H : Heap} {locs : List Loc} {ls : Array Slot}, HW A D cy sz sh d H → va_S A s.heap H locs → lv_has ls 7 [(0, .ref x0), (1, .int x1), (2, .int x2), (3, .int x3), (4, .int x4)] → GL p l e s m args below meth c 2 46 A D cy (some (.int (bI r))) sz sh d H locs 0 ls [] := by
  have hx := C.1
  have hb := C.2.1
  intro x0 x1 x2 x3 x4 hf H locs ls hw hS hl
  unfold fX7_isKnown_b0 at hf
  refine lv_iconst (v := 0) hx hb dX7_isKnown_0 (by decide) ?_
  refine lv_istore (lv' := [(5, .int (0 : Int32)), (0, .ref x0), (1, .int x1), (2, .int x2), (3, .int x3), (4, .int x4)]) hx hb dX7_isKnown_1 hl (by decide) rfl (fun ls hl => ?_)
  refine lv_iconst (v := 0) hx hb dX7_isKnown_3 (by decide) ?_
  refine lv_istore (lv' := [(6, .int (0 : Int32)), (5, .int (0 : Int32)), (0, .ref x0), (1, .int x1), (2, .int x2), (3, .int x3), (4, .int x4)]) hx hb dX7_isKnown_4 hl (by decide) rfl (fun ls hl => ?_)
  exact wX7_isKnown_b6 C fu x0 x1 x2 x3 x4 (0 : Int32) (0 : Int32) hf hw hS (lv_sub hl [2, 3, 4, 5, 6, 1, 0] rfl)

set_option maxRecDepth 100000 in
set_option maxHeartbeats 4000000 in
theorem tX7_isKnown (l : Launch) (A : Nat → Prop) (D : va_G) (cy : Nat → ClassId) (st : Nat → Nat) (sz : Nat) (sh : Sh) (d : Dt) (x0 : Nat) (x1 : Int32) (x2 : Int32) (x3 : Int32) (x4 : Int32) {r : Bool} (hf : fX7_isKnown sh d x0 x1 x2 x3 x4 = some r) : Ct l yX7_isKnown cX7_isKnown 7 (some .boolean) 2 46 0 0 A D cy st [.ref x0, .int x1, .int x2, .int x3, .int x4] sz sh d (some (.int (bI r))) sz sh d := ct_of (by decide) (Nat.le_of_ble_eq_true rfl) (fun p e s m args below meth c C hw hS ls hl => wX7_isKnown_b0 C x0 x1 x2 x3 x4 hf hw hS hl)
theorem dX7_layHeads_0 : decode cX7_layHeads 0 = .ok (.aload_n 0, 1) := by decide +kernel
theorem dX7_layHeads_1 : decode cX7_layHeads 1 = .ok (.iconst 0, 1) := by decide +kernel
theorem dX7_layHeads_2 : decode cX7_layHeads 2 = .ok (.putfield 189, 3) := by decide +kernel
theorem dX7_layHeads_5 : decode cX7_layHeads 5 = .ok (.iconst 0, 1) := by decide +kernel
theorem dX7_layHeads_6 : decode cX7_layHeads 6 = .ok (.istore_n 3, 1) := by decide +kernel
theorem dX7_layHeads_7 : decode cX7_layHeads 7 = .ok (.iload_n 3, 1) := by decide +kernel
theorem dX7_layHeads_8 : decode cX7_layHeads 8 = .ok (.aload_n 0, 1) := by decide +kernel
theorem dX7_layHeads_9 : decode cX7_layHeads 9 = .ok (.getfield 88, 3) := by decide +kernel
theorem dX7_layHeads_12 : decode cX7_layHeads 12 = .ok (.if_icmp .ge 99, 3) := by decide +kernel
theorem dX7_layHeads_15 : decode cX7_layHeads 15 = .ok (.aload_n 0, 1) := by decide +kernel
theorem dX7_layHeads_16 : decode cX7_layHeads 16 = .ok (.iload_n 1, 1) := by decide +kernel
theorem dX7_layHeads_17 : decode cX7_layHeads 17 = .ok (.iload_n 2, 1) := by decide +kernel
theorem dX7_layHeads_18 : decode cX7_layHeads 18 = .ok (.iload_n 3, 1) := by decide +kernel
theorem dX7_layHeads_19 : decode cX7_layHeads 19 = .ok (.iconst 0, 1) := by decide +kernel
theorem dX7_layHeads_20 : decode cX7_layHeads 20 = .ok (.invokevirtual 185, 3) := by decide +kernel
theorem dX7_layHeads_23 : decode cX7_layHeads 23 = .ok (.ifCond .eq 82, 3) := by decide +kernel
theorem dX7_layHeads_26 : decode cX7_layHeads 26 = .ok (.aload_n 0, 1) := by decide +kernel
theorem dX7_layHeads_27 : decode cX7_layHeads 27 = .ok (.iload_n 1, 1) := by decide +kernel
theorem dX7_layHeads_28 : decode cX7_layHeads 28 = .ok (.iload_n 2, 1) := by decide +kernel
theorem dX7_layHeads_29 : decode cX7_layHeads 29 = .ok (.iload_n 3, 1) := by decide +kernel
theorem dX7_layHeads_30 : decode cX7_layHeads 30 = .ok (.iconst 0, 1) := by decide +kernel
theorem dX7_layHeads_31 : decode cX7_layHeads 31 = .ok (.invokevirtual 192, 3) := by decide +kernel
theorem dX7_layHeads_34 : decode cX7_layHeads 34 = .ok (.ifCond .ne 71, 3) := by decide +kernel
theorem dX7_layHeads_37 : decode cX7_layHeads 37 = .ok (.aload_n 0, 1) := by decide +kernel
theorem dX7_layHeads_38 : decode cX7_layHeads 38 = .ok (.getfield 189, 3) := by decide +kernel
theorem dX7_layHeads_41 : decode cX7_layHeads 41 = .ok (.istore 4, 2) := by decide +kernel
theorem dX7_layHeads_43 : decode cX7_layHeads 43 = .ok (.iload 4, 2) := by decide +kernel
theorem dX7_layHeads_45 : decode cX7_layHeads 45 = .ok (.ifCond .le 42, 3) := by decide +kernel
theorem dX7_layHeads_48 : decode cX7_layHeads 48 = .ok (.aload_n 0, 1) := by decide +kernel
theorem dX7_layHeads_49 : decode cX7_layHeads 49 = .ok (.aload_n 0, 1) := by decide +kernel
theorem dX7_layHeads_50 : decode cX7_layHeads 50 = .ok (.getfield 54, 3) := by decide +kernel
theorem dX7_layHeads_53 : decode cX7_layHeads 53 = .ok (.iload 4, 2) := by decide +kernel
theorem dX7_layHeads_55 : decode cX7_layHeads 55 = .ok (.iconst 1, 1) := by decide +kernel
theorem dX7_layHeads_56 : decode cX7_layHeads 56 = .ok (.isub, 1) := by decide +kernel
theorem dX7_layHeads_57 : decode cX7_layHeads 57 = .ok (.iaload, 1) := by decide +kernel
theorem dX7_layHeads_58 : decode cX7_layHeads 58 = .ok (.iload_n 3, 1) := by decide +kernel
theorem dX7_layHeads_59 : decode cX7_layHeads 59 = .ok (.invokevirtual 165, 3) := by decide +kernel
theorem dX7_layHeads_62 : decode cX7_layHeads 62 = .ok (.ifCond .eq 25, 3) := by decide +kernel
theorem dX7_layHeads_65 : decode cX7_layHeads 65 = .ok (.aload_n 0, 1) := by decide +kernel
theorem dX7_layHeads_66 : decode cX7_layHeads 66 = .ok (.getfield 54, 3) := by decide +kernel
theorem dX7_layHeads_69 : decode cX7_layHeads 69 = .ok (.iload 4, 2) := by decide +kernel
theorem dX7_layHeads_71 : decode cX7_layHeads 71 = .ok (.aload_n 0, 1) := by decide +kernel
theorem dX7_layHeads_72 : decode cX7_layHeads 72 = .ok (.getfield 54, 3) := by decide +kernel
theorem dX7_layHeads_75 : decode cX7_layHeads 75 = .ok (.iload 4, 2) := by decide +kernel
theorem dX7_layHeads_77 : decode cX7_layHeads 77 = .ok (.iconst 1, 1) := by decide +kernel
theorem dX7_layHeads_78 : decode cX7_layHeads 78 = .ok (.isub, 1) := by decide +kernel
theorem dX7_layHeads_79 : decode cX7_layHeads 79 = .ok (.iaload, 1) := by decide +kernel
theorem dX7_layHeads_80 : decode cX7_layHeads 80 = .ok (.iastore, 1) := by decide +kernel
theorem dX7_layHeads_81 : decode cX7_layHeads 81 = .ok (.iinc 4 (-1), 3) := by decide +kernel
theorem dX7_layHeads_84 : decode cX7_layHeads 84 = .ok (.goto (-41), 3) := by decide +kernel
theorem dX7_layHeads_87 : decode cX7_layHeads 87 = .ok (.aload_n 0, 1) := by decide +kernel
theorem dX7_layHeads_88 : decode cX7_layHeads 88 = .ok (.getfield 54, 3) := by decide +kernel
theorem dX7_layHeads_91 : decode cX7_layHeads 91 = .ok (.iload 4, 2) := by decide +kernel
theorem dX7_layHeads_93 : decode cX7_layHeads 93 = .ok (.iload_n 3, 1) := by decide +kernel
theorem dX7_layHeads_94 : decode cX7_layHeads 94 = .ok (.iastore, 1) := by decide +kernel
theorem dX7_layHeads_95 : decode cX7_layHeads 95 = .ok (.aload_n 0, 1) := by decide +kernel
theorem dX7_layHeads_96 : decode cX7_layHeads 96 = .ok (.dup, 1) := by decide +kernel
theorem dX7_layHeads_97 : decode cX7_layHeads 97 = .ok (.getfield 189, 3) := by decide +kernel
theorem dX7_layHeads_100 : decode cX7_layHeads 100 = .ok (.iconst 1, 1) := by decide +kernel
theorem dX7_layHeads_101 : decode cX7_layHeads 101 = .ok (.iadd, 1) := by decide +kernel
theorem dX7_layHeads_102 : decode cX7_layHeads 102 = .ok (.putfield 189, 3) := by decide +kernel
theorem dX7_layHeads_105 : decode cX7_layHeads 105 = .ok (.iinc 3 1, 3) := by decide +kernel
theorem dX7_layHeads_108 : decode cX7_layHeads 108 = .ok (.goto (-101), 3) := by decide +kernel
theorem dX7_layHeads_111 : decode cX7_layHeads 111 = .ok (.return_, 1) := by decide +kernel
theorem cvX7_layHeads : CV yX7_layHeads cX7_layHeads 5 none 8 2 := ⟨kw_1104, ks_44, kw_6, kw_1105, ⟨_, _, rfl⟩, by decide, by decide +kernel, by decide +kernel, by decide +kernel⟩
def fX7_layHeads_b87 (sh : Sh) (k7 : Nat → Int32 → Int32 → Int32 → Dt → Option (Dt)) (x0 : Nat) (x1 : Int32) (x2 : Int32) (x3 : Int32) (x4 : Int32) (d : Dt) : Option (Dt) := bd (gR sh d 9 307 x0) fun v1 => bd v1 fun a2 => bd (sI sh d 20 a2 x4 x3) fun d3 => bd (gI sh d3 9 308 x0) fun v4 => bd (pI sh d3 9 308 x0 (v4 + (1 : Int32))) fun d5 => k7 x0 x1 x2 (x3 + 1) d5

def fX7_layHeads_b43 (sh : Sh) (k7 : Nat → Int32 → Int32 → Int32 → Dt → Option (Dt)) : Nat → Nat → Int32 → Int32 → Int32 → Int32 → Dt → Option (Dt)
  | 0, _, _, _, _, _, _ => none
  | n + 1, x0, x1, x2, x3, x4, d => if x4 ≤ 0 then (fX7_layHeads_b87 sh k7 x0 x1 x2 x3 x4 d) else (bd (gR sh d 9 307 x0) fun v2 => bd v2 fun a3 => bd (aI sh d 20 a3 (x4 - (1 : Int32))) fun v4 => bd (fX7_isAfter sh d x0 v4 x3) fun r6 => if (bI r6) = 0 then (fX7_layHeads_b87 sh k7 x0 x1 x2 x3 x4 d) else (bd (gR sh d 9 307 x0) fun v8 => bd (gR sh d 9 307 x0) fun v9 => bd v9 fun a10 => bd (aI sh d 20 a10 (x4 - (1 : Int32))) fun v11 => bd v8 fun a12 => bd (sI sh d 20 a12 x4 v11) fun d13 => fX7_layHeads_b43 sh k7 n x0 x1 x2 x3 (x4 + -1) d13))

def fX7_layHeads_b7 (sh : Sh) : Nat → Nat → Int32 → Int32 → Int32 → Dt → Option (Dt)
  | 0, _, _, _, _, _ => none
  | n + 1, x0, x1, x2, x3, d => bd (gI sh d 9 297 x0) fun v1 => if v1 ≤ x3 then (some d) else (bd (fX7_isOn sh d x0 x1 x2 x3 (0 : Int32)) fun r4 => if (bI r4) = 0 then (fX7_layHeads_b7 sh n x0 x1 x2 (x3 + 1) d) else (bd (fX7_isKnown sh d x0 x1 x2 x3 (0 : Int32)) fun r7 => if (bI r7) = 0 then (bd (gI sh d 9 308 x0) fun v9 => fX7_layHeads_b43 sh (fX7_layHeads_b7 sh n) fu x0 x1 x2 x3 v9 d) else (fX7_layHeads_b7 sh n x0 x1 x2 (x3 + 1) d)))

def fX7_layHeads_b0 (sh : Sh) (x0 : Nat) (x1 : Int32) (x2 : Int32) (d : Dt) : Option (Dt) := bd (pI sh d 9 308 x0 (0 : Int32)) fun d1 => fX7_layHeads_b7 sh fu x0 x1 x2 (0 : Int32) d1

def fX7_layHeads (sh : Sh) (d : Dt) (x0 : Nat) (x1 : Int32) (x2 : Int32) : Option (Dt) := fX7_layHeads_b0 sh x0 x1 x2 d

set_option maxRecDepth 100000 in
set_option maxHeartbeats 4000000 in
theorem wX7_layHeads_b87 (C : mx p s m args meth c yX7_layHeads cX7_layHeads 5 none A D cy st) {k7 : Nat → Int32 → Int32 → Int32 → Dt → Option (Dt)} {d9 : Dt} (Hk7 : ∀ (x0 : Nat) (x1 : Int32) (x2 : Int32) (x3 : Int32) (d : Dt), k7 x0 x1 x2 x3 d = some d9 → ∀ {H : Heap} {locs : List Loc} {ls : Array Slot}, HW A D cy sz sh d H → va_S A s.heap H locs → lv_has ls 5 [(0, .ref x0), (1, .int x1), (2, .int x2), (3, .int x3)] → GL p l e s m args below meth c 3 72 A D cy none sz sh d9 H locs 7 ls []) : ∀ (x0 : Nat) (x1 : Int32) (x2 : Int32) (x3 : Int32) (x4 : Int32) (d : Dt), fX7_layHeads_b87 sh k7 x0 x1 x2 x3 x4 d = some d9 → ∀ {H : Heap} {locs : List Loc} {ls : Array Slot}, HW A D cy sz sh d H → va_S A s.heap H locs → lv_has ls 5 [(0, .ref x0), (1, .int x1), (2, .int x2), (3, .int x3), (4, .int x4)] → GL p l e s m args below meth c 3 72 A D cy none sz sh d9 H locs 87 ls [] := by
  have hx := C.1
  have hb := C.2.1
  intro x0 x1 x2 x3 x4 d hf H locs ls hw hS hl
  unfold fX7_layHeads_b87 at hf
  refine lv_aload_n hx hb dX7_layHeads_87 rfl (lv_at hl 0 rfl) ?_
  obtain ⟨v1, hv1, hf⟩ := bd_s hf
  refine gt_307 C hw hv1 kw_816 dX7_layHeads_88 ?_
  refine lv_iload hx hb dX7_layHeads_91 (lv_at hl 4 rfl) ?_
  refine lv_iload_n hx hb dX7_layHeads_93 rfl (lv_at hl 3 rfl) ?_
  obtain ⟨a2, ea2, hg⟩ := bd_s hf
  clear hf
  subst ea2
  have hf := hg
  clear hg
  obtain ⟨d3, hd3, hf⟩ := bd_s hf
  refine w_iast C hw hS hd3 dX7_layHeads_94 (fun H locs hw hS => ?_)
  refine lv_aload_n hx hb dX7_layHeads_95 rfl (lv_at hl 0 rfl) ?_
  refine lv_dup hx hb dX7_layHeads_96 rfl ?_
  obtain ⟨v4, hv4, hf⟩ := bd_s hf
  refine gt_308 C hw hv4 kw_817 dX7_layHeads_97 ?_
  refine lv_iconst (v := 1) hx hb dX7_layHeads_100 (by decide) ?_
  refine lv_iadd hx hb dX7_layHeads_101 ?_
  obtain ⟨d5, hd5, hf⟩ := bd_s hf
  refine pt_308 C hw hS hd5 kw_817 dX7_layHeads_102 (fun H locs hw hS => ?_)
  refine lv_iinc (v := (x3 + 1)) (lv' := [(3, .int (x3 + 1)), (0, .ref x0), (1, .int x1), (2, .int x2), (4, .int x4)]) hx hb dX7_layHeads_105 hl (k := 3) rfl rfl (by decide) rfl (fun ls hl => ?_)
  refine lv_goto (tgt := 7) hx hb dX7_layHeads_108 (by decide) ?_
  exact Hk7 x0 x1 x2 (x3 + 1) d5 hf hw hS (lv_sub hl [1, 2, 3, 0] rfl)

set_option maxRecDepth 100000 in
set_option maxHeartbeats 4000000 in
theorem wX7_layHeads_b43 (C : mx p s m args meth c yX7_layHeads cX7_layHeads 5 none A D cy st) {k7 : Nat → Int32 → Int32 → Int32 → Dt → Option (Dt)} {d9 : Dt} (Hk7 : ∀ (x0 : Nat) (x1 : Int32) (x2 : Int32) (x3 : Int32) (d : Dt), k7 x0 x1 x2 x3 d = some d9 → ∀ {H : Heap} {locs : List Loc} {ls : Array Slot}, HW A D cy sz sh d H → va_S A s.heap H locs → lv_has ls 5 [(0, .ref x0), (1, .int x1), (2, .int x2), (3, .int x3)] → GL p l e s m args below meth c 3 72 A D cy none sz sh d9 H locs 7 ls []) : ∀ (n : Nat) (x0 : Nat) (x1 : Int32) (x2 : Int32) (x3 : Int32) (x4 : Int32) (d : Dt), fX7_layHeads_b43 sh k7 n x0 x1 x2 x3 x4 d = some d9 → ∀ {H : Heap} {locs : List Loc} {ls : Array Slot}, HW A D cy sz sh d H → va_S A s.heap H locs → lv_has ls 5 [(0, .ref x0), (1, .int x1), (2, .int x2), (3, .int x3), (4, .int x4)] → GL p l e s m args below meth c 3 72 A D cy none sz sh d9 H locs 43 ls [] := by
  have hx := C.1
  have hb := C.2.1
  intro n
  induction n with
  | zero => intro x0 x1 x2 x3 x4 d hf; cases hf
  | succ n ih =>
    intro x0 x1 x2 x3 x4 d hf H locs ls hw hS hl
    rw [fX7_layHeads_b43] at hf
    refine lv_iload hx hb dX7_layHeads_43 (lv_at hl 4 rfl) ?_
    refine lv_if_le (tgt := 87) hx hb dX7_layHeads_45 (by decide) (fun c_1 => ?_) (fun c_1 => ?_)
    · have hf := if_t c_1 hf
      exact wX7_layHeads_b87 C Hk7 x0 x1 x2 x3 x4 d hf hw hS (lv_sub hl [0, 1, 2, 3, 4] rfl)
    · have hf := if_f c_1 hf
      refine lv_aload_n hx hb dX7_layHeads_48 rfl (lv_at hl 0 rfl) ?_
      refine lv_aload_n hx hb dX7_layHeads_49 rfl (lv_at hl 0 rfl) ?_
      obtain ⟨v2, hv2, hf⟩ := bd_s hf
      refine gt_307 C hw hv2 kw_816 dX7_layHeads_50 ?_
      refine lv_iload hx hb dX7_layHeads_53 (lv_at hl 4 rfl) ?_
      refine lv_iconst (v := 1) hx hb dX7_layHeads_55 (by decide) ?_
      refine lv_isub hx hb dX7_layHeads_56 ?_
      obtain ⟨a3, ea3, hg⟩ := bd_s hf
      clear hf
      subst ea3
      have hf := hg
      clear hg
      obtain ⟨v4, hv4, hf⟩ := bd_s hf
      refine w_iald C hw hv4 dX7_layHeads_57 ?_
      refine lv_iload_n hx hb dX7_layHeads_58 rfl (lv_at hl 3 rfl) ?_
      obtain ⟨r6, h5, hf⟩ := bd_s hf
      refine cl_V0 C hw hS (tX7_isAfter l A D cy st sz sh d x0 v4 x3 h5) cvX7_isAfter kw_1034 (gR_s hv2).1 ⟨Nat.le_of_ble_eq_true rfl, Nat.le_of_ble_eq_true rfl⟩ hl.1 rfl (Nat.le_of_ble_eq_true rfl) dX7_layHeads_59 ⟨Nat.zero_le _, Nat.zero_le _⟩ (fun H locs hw hS => ?_)
      refine lv_if_eq (tgt := 87) hx hb dX7_layHeads_62 (by decide) (fun c_7 => ?_) (fun c_7 => ?_)
      · have hf := if_t c_7 hf
        exact wX7_layHeads_b87 C Hk7 x0 x1 x2 x3 x4 d hf hw hS (lv_sub hl [0, 1, 2, 3, 4] rfl)
      · have hf := if_f c_7 hf
        refine lv_aload_n hx hb dX7_layHeads_65 rfl (lv_at hl 0 rfl) ?_
        obtain ⟨v8, hv8, hf⟩ := bd_s hf
        refine gt_307 C hw hv8 kw_816 dX7_layHeads_66 ?_
        refine lv_iload hx hb dX7_layHeads_69 (lv_at hl 4 rfl) ?_
        refine lv_aload_n hx hb dX7_layHeads_71 rfl (lv_at hl 0 rfl) ?_
        obtain ⟨v9, hv9, hf⟩ := bd_s hf
        refine gt_307 C hw hv9 kw_816 dX7_layHeads_72 ?_
        refine lv_iload hx hb dX7_layHeads_75 (lv_at hl 4 rfl) ?_
        refine lv_iconst (v := 1) hx hb dX7_layHeads_77 (by decide) ?_
        refine lv_isub hx hb dX7_layHeads_78 ?_
        obtain ⟨a10, ea10, hg⟩ := bd_s hf
        clear hf
        subst ea10
        have hf := hg
        clear hg
        obtain ⟨v11, hv11, hf⟩ := bd_s hf
        refine w_iald C hw hv11 dX7_layHeads_79 ?_
        obtain ⟨a12, ea12, hg⟩ := bd_s hf
        clear hf
        subst ea12
        have hf := hg
        clear hg
        obtain ⟨d13, hd13, hf⟩ := bd_s hf
        refine w_iast C hw hS hd13 dX7_layHeads_80 (fun H locs hw hS => ?_)
        refine lv_iinc (v := (x4 + -1)) (lv' := [(4, .int (x4 + -1)), (0, .ref x0), (1, .int x1), (2, .int x2), (3, .int x3)]) hx hb dX7_layHeads_81 hl (k := 4) rfl rfl (by decide) rfl (fun ls hl => ?_)
        refine lv_goto (tgt := 43) hx hb dX7_layHeads_84 (by decide) ?_
        exact ih x0 x1 x2 x3 (x4 + -1) d13 hf hw hS (lv_sub hl [1, 2, 3, 4, 0] rfl)

set_option maxRecDepth 100000 in
set_option maxHeartbeats 4000000 in
theorem wX7_layHeads_b7 (C : mx p s m args meth c yX7_layHeads cX7_layHeads 5 none A D cy st) {d9 : Dt} : ∀ (n : Nat) (x0 : Nat) (x1 : Int32) (x2 : Int32) (x3 : Int32) (d : Dt), fX7_layHeads_b7 sh n x0 x1 x2 x3 d = some d9 → ∀ {H : Heap} {locs : List Loc} {ls : Array Slot}, HW A D cy sz sh d H → va_S A s.heap H locs → lv_has ls 5 [(0, .ref x0), (1, .int x1), (2, .int x2), (3, .int x3)] → GL p l e s m args below meth c 3 72 A D cy none sz sh d9 H locs 7 ls [] := by
  have hx := C.1
  have hb := C.2.1
  intro n
  induction n with
  | zero => intro x0 x1 x2 x3 d hf; cases hf
  | succ n ih =>
    intro x0 x1 x2 x3 d hf H locs ls hw hS hl
    rw [fX7_layHeads_b7] at hf
    refine lv_iload_n hx hb dX7_layHeads_7 rfl (lv_at hl 3 rfl) ?_
    refine lv_aload_n hx hb dX7_layHeads_8 rfl (lv_at hl 0 rfl) ?_
    obtain ⟨v1, hv1, hf⟩ := bd_s hf
    refine gt_297 C hw hv1 kw_806 dX7_layHeads_9 ?_
    refine lv_icmp_ge (tgt := 111) hx hb dX7_layHeads_12 (by decide) (fun c_2 => ?_) (fun c_2 => ?_)
    · have hf := if_t c_2 hf
      cases hf
      exact rt_v C hw hS dX7_layHeads_111
    · have hf := if_f c_2 hf
      refine lv_aload_n hx hb dX7_layHeads_15 rfl (lv_at hl 0 rfl) ?_
      refine lv_iload_n hx hb dX7_layHeads_16 rfl (lv_at hl 1 rfl) ?_
      refine lv_iload_n hx hb dX7_layHeads_17 rfl (lv_at hl 2 rfl) ?_
      refine lv_iload_n hx hb dX7_layHeads_18 rfl (lv_at hl 3 rfl) ?_
      refine lv_iconst (v := 0) hx hb dX7_layHeads_19 (by decide) ?_
      obtain ⟨r4, h3, hf⟩ := bd_s hf
      refine cl_V0 C hw hS (tX7_isOn l A D cy st sz sh d x0 x1 x2 x3 (0 : Int32) h3) cvX7_isOn kw_975 (gI_s hv1).1 ⟨Nat.le_of_ble_eq_true rfl, Nat.le_of_ble_eq_true rfl⟩ hl.1 rfl (Nat.le_of_ble_eq_true rfl) dX7_layHeads_20 ⟨Nat.zero_le _, Nat.zero_le _⟩ (fun H locs hw hS => ?_)
      refine lv_if_eq (tgt := 105) hx hb dX7_layHeads_23 (by decide) (fun c_5 => ?_) (fun c_5 => ?_)
      · have hf := if_t c_5 hf
        refine lv_iinc (v := (x3 + 1)) (lv' := [(3, .int (x3 + 1)), (0, .ref x0), (1, .int x1), (2, .int x2)]) hx hb dX7_layHeads_105 hl (k := 3) rfl rfl (by decide) rfl (fun ls hl => ?_)
        refine lv_goto (tgt := 7) hx hb dX7_layHeads_108 (by decide) ?_
        exact ih x0 x1 x2 (x3 + 1) d hf hw hS (lv_sub hl [1, 2, 3, 0] rfl)
      · have hf := if_f c_5 hf
        refine lv_aload_n hx hb dX7_layHeads_26 rfl (lv_at hl 0 rfl) ?_
        refine lv_iload_n hx hb dX7_layHeads_27 rfl (lv_at hl 1 rfl) ?_
        refine lv_iload_n hx hb dX7_layHeads_28 rfl (lv_at hl 2 rfl) ?_
        refine lv_iload_n hx hb dX7_layHeads_29 rfl (lv_at hl 3 rfl) ?_
        refine lv_iconst (v := 0) hx hb dX7_layHeads_30 (by decide) ?_
        obtain ⟨r7, h6, hf⟩ := bd_s hf
        refine cl_V0 C hw hS (tX7_isKnown l A D cy st sz sh d x0 x1 x2 x3 (0 : Int32) h6) cvX7_isKnown kw_1106 (gI_s hv1).1 ⟨Nat.le_of_ble_eq_true rfl, Nat.le_of_ble_eq_true rfl⟩ hl.1 rfl (Nat.le_of_ble_eq_true rfl) dX7_layHeads_31 ⟨Nat.zero_le _, Nat.zero_le _⟩ (fun H locs hw hS => ?_)
        refine lv_if_ne (tgt := 105) hx hb dX7_layHeads_34 (by decide) (fun c_8 => ?_) (fun c_8 => ?_)
        · have hf := if_f c_8 hf
          refine lv_iinc (v := (x3 + 1)) (lv' := [(3, .int (x3 + 1)), (0, .ref x0), (1, .int x1), (2, .int x2)]) hx hb dX7_layHeads_105 hl (k := 3) rfl rfl (by decide) rfl (fun ls hl => ?_)
          refine lv_goto (tgt := 7) hx hb dX7_layHeads_108 (by decide) ?_
          exact ih x0 x1 x2 (x3 + 1) d hf hw hS (lv_sub hl [1, 2, 3, 0] rfl)
        · have hf := if_t c_8 hf
          refine lv_aload_n hx hb dX7_layHeads_37 rfl (lv_at hl 0 rfl) ?_
          obtain ⟨v9, hv9, hf⟩ := bd_s hf
          refine gt_308 C hw hv9 kw_817 dX7_layHeads_38 ?_
          refine lv_istore (lv' := [(4, .int v9), (0, .ref x0), (1, .int x1), (2, .int x2), (3, .int x3)]) hx hb dX7_layHeads_41 hl (by decide) rfl (fun ls hl => ?_)
          exact wX7_layHeads_b43 C ih fu x0 x1 x2 x3 v9 d hf hw hS (lv_sub hl [1, 2, 3, 4, 0] rfl)

set_option maxRecDepth 100000 in
set_option maxHeartbeats 4000000 in
theorem wX7_layHeads_b0 (C : mx p s m args meth c yX7_layHeads cX7_layHeads 5 none A D cy st) {d9 : Dt} : ∀ (x0 : Nat) (x1 : Int32) (x2 : Int32) (d : Dt), fX7_layHeads_b0 sh x0 x1 x2 d = some d9 → ∀ {H : Heap} {locs : List Loc} {ls : Array Slot}, HW A D cy sz sh d H → va_S A s.heap H locs → lv_has ls 5 [(0, .ref x0), (1, .int x1), (2, .int x2)] → GL p l e s m args below meth c 3 72 A D cy none sz sh d9 H locs 0 ls [] := by
  have hx := C.1
  have hb := C.2.1
  intro x0 x1 x2 d hf H locs ls hw hS hl
  unfold fX7_layHeads_b0 at hf
  refine lv_aload_n hx hb dX7_layHeads_0 rfl (lv_at hl 0 rfl) ?_
  refine lv_iconst (v := 0) hx hb dX7_layHeads_1 (by decide) ?_
  obtain ⟨d1, hd1, hf⟩ := bd_s hf
  refine pt_308 C hw hS hd1 kw_817 dX7_layHeads_2 (fun H locs hw hS => ?_)
  refine lv_iconst (v := 0) hx hb dX7_layHeads_5 (by decide) ?_
  refine lv_istore_n (lv' := [(3, .int (0 : Int32)), (0, .ref x0), (1, .int x1), (2, .int x2)]) hx hb dX7_layHeads_6 rfl hl (by decide) rfl (fun ls hl => ?_)
  exact wX7_layHeads_b7 C fu x0 x1 x2 (0 : Int32) d1 hf hw hS (lv_sub hl [1, 2, 3, 0] rfl)

set_option maxRecDepth 100000 in
set_option maxHeartbeats 4000000 in
theorem tX7_layHeads (l : Launch) (A : Nat → Prop) (D : va_G) (cy : Nat → ClassId) (st : Nat → Nat) (sz : Nat) (sh : Sh) (d : Dt) (x0 : Nat) (x1 : Int32) (x2 : Int32) {d9 : Dt} (hf : fX7_layHeads sh d x0 x1 x2 = some d9) : Ct l yX7_layHeads cX7_layHeads 5 none 3 72 0 0 A D cy st [.ref x0, .int x1, .int x2] sz sh d none sz sh d9 := ct_of (by decide) (Nat.le_of_ble_eq_true rfl) (fun p e s m args below meth c C hw hS ls hl => wX7_layHeads_b0 C x0 x1 x2 d hf hw hS hl)
theorem dX7_manyDo_0 : decode cX7_manyDo 0 = .ok (.iconst 0, 1) := by decide +kernel
theorem dX7_manyDo_1 : decode cX7_manyDo 1 = .ok (.istore 4, 2) := by decide +kernel
theorem dX7_manyDo_3 : decode cX7_manyDo 3 = .ok (.iconst 0, 1) := by decide +kernel
theorem dX7_manyDo_4 : decode cX7_manyDo 4 = .ok (.istore 5, 2) := by decide +kernel
theorem dX7_manyDo_6 : decode cX7_manyDo 6 = .ok (.iload 5, 2) := by decide +kernel
theorem dX7_manyDo_8 : decode cX7_manyDo 8 = .ok (.aload_n 0, 1) := by decide +kernel
theorem dX7_manyDo_9 : decode cX7_manyDo 9 = .ok (.getfield 88, 3) := by decide +kernel
theorem dX7_manyDo_12 : decode cX7_manyDo 12 = .ok (.if_icmp .ge 31, 3) := by decide +kernel
theorem dX7_manyDo_15 : decode cX7_manyDo 15 = .ok (.iload 4, 2) := by decide +kernel
theorem dX7_manyDo_17 : decode cX7_manyDo 17 = .ok (.aload_n 0, 1) := by decide +kernel
theorem dX7_manyDo_18 : decode cX7_manyDo 18 = .ok (.iload_n 1, 1) := by decide +kernel
theorem dX7_manyDo_19 : decode cX7_manyDo 19 = .ok (.iload_n 2, 1) := by decide +kernel
theorem dX7_manyDo_20 : decode cX7_manyDo 20 = .ok (.iload 5, 2) := by decide +kernel
theorem dX7_manyDo_22 : decode cX7_manyDo 22 = .ok (.iload_n 3, 1) := by decide +kernel
theorem dX7_manyDo_23 : decode cX7_manyDo 23 = .ok (.invokevirtual 185, 3) := by decide +kernel
theorem dX7_manyDo_26 : decode cX7_manyDo 26 = .ok (.ifCond .eq 7, 3) := by decide +kernel
theorem dX7_manyDo_29 : decode cX7_manyDo 29 = .ok (.iconst 1, 1) := by decide +kernel
theorem dX7_manyDo_30 : decode cX7_manyDo 30 = .ok (.goto 4, 3) := by decide +kernel
theorem dX7_manyDo_33 : decode cX7_manyDo 33 = .ok (.iconst 0, 1) := by decide +kernel
theorem dX7_manyDo_34 : decode cX7_manyDo 34 = .ok (.iadd, 1) := by decide +kernel
theorem dX7_manyDo_35 : decode cX7_manyDo 35 = .ok (.istore 4, 2) := by decide +kernel
theorem dX7_manyDo_37 : decode cX7_manyDo 37 = .ok (.iinc 5 1, 3) := by decide +kernel
theorem dX7_manyDo_40 : decode cX7_manyDo 40 = .ok (.goto (-34), 3) := by decide +kernel
theorem dX7_manyDo_43 : decode cX7_manyDo 43 = .ok (.iload 4, 2) := by decide +kernel
theorem dX7_manyDo_45 : decode cX7_manyDo 45 = .ok (.ireturn, 1) := by decide +kernel
theorem cvX7_manyDo : CV yX7_manyDo cX7_manyDo 6 (some .int) 8 3 := ⟨kw_1128, ks_47, kw_6, kw_1129, ⟨_, _, rfl⟩, by decide, by decide +kernel, by decide +kernel, by decide +kernel⟩
def fX7_manyDo_b6 (sh : Sh) (d : Dt) : Nat → Nat → Int32 → Int32 → Int32 → Int32 → Int32 → Option (Int32)
  | 0, _, _, _, _, _, _ => none
  | n + 1, x0, x1, x2, x3, x4, x5 => bd (gI sh d 9 297 x0) fun v1 => if v1 ≤ x5 then (some x4) else (bd (fX7_isOn sh d x0 x1 x2 x5 x3) fun r4 => if (bI r4) = 0 then (fX7_manyDo_b6 sh d n x0 x1 x2 x3 (x4 + (0 : Int32)) (x5 + 1)) else (fX7_manyDo_b6 sh d n x0 x1 x2 x3 (x4 + (1 : Int32)) (x5 + 1)))

def fX7_manyDo_b0 (sh : Sh) (d : Dt) (x0 : Nat) (x1 : Int32) (x2 : Int32) (x3 : Int32) : Option (Int32) := fX7_manyDo_b6 sh d fu x0 x1 x2 x3 (0 : Int32) (0 : Int32)

def fX7_manyDo (sh : Sh) (d : Dt) (x0 : Nat) (x1 : Int32) (x2 : Int32) (x3 : Int32) : Option (Int32) := fX7_manyDo_b0 sh d x0 x1 x2 x3

set_option maxRecDepth 100000 in
set_option maxHeartbeats 4000000 in
theorem wX7_manyDo_b6 (C : mx p s m args meth c yX7_manyDo cX7_manyDo 6 (some .int) A D cy st) {r : Int32} {d : Dt} : ∀ (n : Nat) (x0 : Nat) (x1 : Int32) (x2 : Int32) (x3 : Int32) (x4 : Int32) (x5 : Int32), fX7_manyDo_b6 sh d n x0 x1 x2 x3 x4 x5 = some r → ∀ {H : Heap} {locs : List Loc} {ls : Array Slot}, HW A D cy sz sh d H → va_S A s.heap H locs → lv_has ls 6 [(0, .ref x0), (1, .int x1), (2, .int x2), (3, .int x3), (4, .int x4), (5, .int x5)] → GL p l e s m args below meth c 2 46 A D cy (some (.int r)) sz sh d H locs 6 ls [] := by
  have hx := C.1
  have hb := C.2.1
  intro n
  induction n with
  | zero => intro x0 x1 x2 x3 x4 x5 hf; cases hf
  | succ n ih =>
    intro x0 x1 x2 x3 x4 x5 hf H locs ls hw hS hl
    rw [fX7_manyDo_b6] at hf
    refine lv_iload hx hb dX7_manyDo_6 (lv_at hl 5 rfl) ?_
    refine lv_aload_n hx hb dX7_manyDo_8 rfl (lv_at hl 0 rfl) ?_
    obtain ⟨v1, hv1, hf⟩ := bd_s hf
    refine gt_297 C hw hv1 kw_806 dX7_manyDo_9 ?_
    refine lv_icmp_ge (tgt := 43) hx hb dX7_manyDo_12 (by decide) (fun c_2 => ?_) (fun c_2 => ?_)
    · have hf := if_t c_2 hf
      refine lv_iload hx hb dX7_manyDo_43 (lv_at hl 4 rfl) ?_
      cases hf
      exact rt_i C hw hS dX7_manyDo_45
    · have hf := if_f c_2 hf
      refine lv_iload hx hb dX7_manyDo_15 (lv_at hl 4 rfl) ?_
      refine lv_aload_n hx hb dX7_manyDo_17 rfl (lv_at hl 0 rfl) ?_
      refine lv_iload_n hx hb dX7_manyDo_18 rfl (lv_at hl 1 rfl) ?_
      refine lv_iload_n hx hb dX7_manyDo_19 rfl (lv_at hl 2 rfl) ?_
      refine lv_iload hx hb dX7_manyDo_20 (lv_at hl 5 rfl) ?_
      refine lv_iload_n hx hb dX7_manyDo_22 rfl (lv_at hl 3 rfl) ?_
      obtain ⟨r4, h3, hf⟩ := bd_s hf
      refine cl_V0 C hw hS (tX7_isOn l A D cy st sz sh d x0 x1 x2 x5 x3 h3) cvX7_isOn kw_975 (gI_s hv1).1 ⟨Nat.le_of_ble_eq_true rfl, Nat.le_of_ble_eq_true rfl⟩ hl.1 rfl (Nat.le_of_ble_eq_true rfl) dX7_manyDo_23 ⟨Nat.zero_le _, Nat.zero_le _⟩ (fun H locs hw hS => ?_)
      refine lv_if_eq (tgt := 33) hx hb dX7_manyDo_26 (by decide) (fun c_5 => ?_) (fun c_5 => ?_)
      · have hf := if_t c_5 hf
        refine lv_iconst (v := 0) hx hb dX7_manyDo_33 (by decide) ?_
        refine lv_iadd hx hb dX7_manyDo_34 ?_
        refine lv_istore (lv' := [(4, .int (x4 + (0 : Int32))), (0, .ref x0), (1, .int x1), (2, .int x2), (3, .int x3), (5, .int x5)]) hx hb dX7_manyDo_35 hl (by decide) rfl (fun ls hl => ?_)
        refine lv_iinc (v := (x5 + 1)) (lv' := [(5, .int (x5 + 1)), (4, .int (x4 + (0 : Int32))), (0, .ref x0), (1, .int x1), (2, .int x2), (3, .int x3)]) hx hb dX7_manyDo_37 hl (k := 5) rfl rfl (by decide) rfl (fun ls hl => ?_)
        refine lv_goto (tgt := 6) hx hb dX7_manyDo_40 (by decide) ?_
        exact ih x0 x1 x2 x3 (x4 + (0 : Int32)) (x5 + 1) hf hw hS (lv_sub hl [2, 3, 4, 5, 1, 0] rfl)
      · have hf := if_f c_5 hf
        refine lv_iconst (v := 1) hx hb dX7_manyDo_29 (by decide) ?_
        refine lv_goto (tgt := 34) hx hb dX7_manyDo_30 (by decide) ?_
        refine lv_iadd hx hb dX7_manyDo_34 ?_
        refine lv_istore (lv' := [(4, .int (x4 + (1 : Int32))), (0, .ref x0), (1, .int x1), (2, .int x2), (3, .int x3), (5, .int x5)]) hx hb dX7_manyDo_35 hl (by decide) rfl (fun ls hl => ?_)
        refine lv_iinc (v := (x5 + 1)) (lv' := [(5, .int (x5 + 1)), (4, .int (x4 + (1 : Int32))), (0, .ref x0), (1, .int x1), (2, .int x2), (3, .int x3)]) hx hb dX7_manyDo_37 hl (k := 5) rfl rfl (by decide) rfl (fun ls hl => ?_)
        refine lv_goto (tgt := 6) hx hb dX7_manyDo_40 (by decide) ?_
        exact ih x0 x1 x2 x3 (x4 + (1 : Int32)) (x5 + 1) hf hw hS (lv_sub hl [2, 3, 4, 5, 1, 0] rfl)

set_option maxRecDepth 100000 in
set_option maxHeartbeats 4000000 in
theorem wX7_manyDo_b0 (C : mx p s m args meth c yX7_manyDo cX7_manyDo 6 (some .int) A D cy st) {r : Int32} {d : Dt} : ∀ (x0 : Nat) (x1 : Int32) (x2 : Int32) (x3 : Int32), fX7_manyDo_b0 sh d x0 x1 x2 x3 = some r → ∀ {H : Heap} {locs : List Loc} {ls : Array Slot}, HW A D cy sz sh d H → va_S A s.heap H locs → lv_has ls 6 [(0, .ref x0), (1, .int x1), (2, .int x2), (3, .int x3)] → GL p l e s m args below meth c 2 46 A D cy (some (.int r)) sz sh d H locs 0 ls [] := by
  have hx := C.1
  have hb := C.2.1
  intro x0 x1 x2 x3 hf H locs ls hw hS hl
  unfold fX7_manyDo_b0 at hf
  refine lv_iconst (v := 0) hx hb dX7_manyDo_0 (by decide) ?_
  refine lv_istore (lv' := [(4, .int (0 : Int32)), (0, .ref x0), (1, .int x1), (2, .int x2), (3, .int x3)]) hx hb dX7_manyDo_1 hl (by decide) rfl (fun ls hl => ?_)
  refine lv_iconst (v := 0) hx hb dX7_manyDo_3 (by decide) ?_
  refine lv_istore (lv' := [(5, .int (0 : Int32)), (4, .int (0 : Int32)), (0, .ref x0), (1, .int x1), (2, .int x2), (3, .int x3)]) hx hb dX7_manyDo_4 hl (by decide) rfl (fun ls hl => ?_)
  exact wX7_manyDo_b6 C fu x0 x1 x2 x3 (0 : Int32) (0 : Int32) hf hw hS (lv_sub hl [2, 3, 4, 5, 1, 0] rfl)

set_option maxRecDepth 100000 in
set_option maxHeartbeats 4000000 in
theorem tX7_manyDo (l : Launch) (A : Nat → Prop) (D : va_G) (cy : Nat → ClassId) (st : Nat → Nat) (sz : Nat) (sh : Sh) (d : Dt) (x0 : Nat) (x1 : Int32) (x2 : Int32) (x3 : Int32) {r : Int32} (hf : fX7_manyDo sh d x0 x1 x2 x3 = some r) : Ct l yX7_manyDo cX7_manyDo 6 (some .int) 2 46 0 0 A D cy st [.ref x0, .int x1, .int x2, .int x3] sz sh d (some (.int r)) sz sh d := ct_of (by decide) (Nat.le_of_ble_eq_true rfl) (fun p e s m args below meth c C hw hS ls hl => wX7_manyDo_b0 C x0 x1 x2 x3 hf hw hS hl)
theorem dX7_isUp_0 : decode cX7_isUp 0 = .ok (.aload_n 0, 1) := by decide +kernel
theorem dX7_isUp_1 : decode cX7_isUp 1 = .ok (.getfield 27, 3) := by decide +kernel
theorem dX7_isUp_4 : decode cX7_isUp 4 = .ok (.iload_n 2, 1) := by decide +kernel
theorem dX7_isUp_5 : decode cX7_isUp 5 = .ok (.iaload, 1) := by decide +kernel
theorem dX7_isUp_6 : decode cX7_isUp 6 = .ok (.bipush 7, 2) := by decide +kernel
theorem dX7_isUp_8 : decode cX7_isUp 8 = .ok (.if_icmp .ne 7, 3) := by decide +kernel
theorem dX7_isUp_11 : decode cX7_isUp 11 = .ok (.iconst 1, 1) := by decide +kernel
theorem dX7_isUp_12 : decode cX7_isUp 12 = .ok (.goto 4, 3) := by decide +kernel
theorem dX7_isUp_15 : decode cX7_isUp 15 = .ok (.iconst 0, 1) := by decide +kernel
theorem dX7_isUp_16 : decode cX7_isUp 16 = .ok (.istore_n 3, 1) := by decide +kernel
theorem dX7_isUp_17 : decode cX7_isUp 17 = .ok (.iload_n 3, 1) := by decide +kernel
theorem dX7_isUp_18 : decode cX7_isUp 18 = .ok (.ifCond .eq 8, 3) := by decide +kernel
theorem dX7_isUp_21 : decode cX7_isUp 21 = .ok (.bipush 7, 2) := by decide +kernel
theorem dX7_isUp_23 : decode cX7_isUp 23 = .ok (.goto 5, 3) := by decide +kernel
theorem dX7_isUp_26 : decode cX7_isUp 26 = .ok (.bipush 6, 2) := by decide +kernel
theorem dX7_isUp_28 : decode cX7_isUp 28 = .ok (.istore 4, 2) := by decide +kernel
theorem dX7_isUp_30 : decode cX7_isUp 30 = .ok (.iconst 0, 1) := by decide +kernel
theorem dX7_isUp_31 : decode cX7_isUp 31 = .ok (.istore 5, 2) := by decide +kernel
theorem dX7_isUp_33 : decode cX7_isUp 33 = .ok (.iconst 0, 1) := by decide +kernel
theorem dX7_isUp_34 : decode cX7_isUp 34 = .ok (.istore 6, 2) := by decide +kernel
theorem dX7_isUp_36 : decode cX7_isUp 36 = .ok (.iload 6, 2) := by decide +kernel
theorem dX7_isUp_38 : decode cX7_isUp 38 = .ok (.aload_n 0, 1) := by decide +kernel
theorem dX7_isUp_39 : decode cX7_isUp 39 = .ok (.getfield 88, 3) := by decide +kernel
theorem dX7_isUp_42 : decode cX7_isUp 42 = .ok (.if_icmp .ge 54, 3) := by decide +kernel
theorem dX7_isUp_45 : decode cX7_isUp 45 = .ok (.iload 5, 2) := by decide +kernel
theorem dX7_isUp_47 : decode cX7_isUp 47 = .ok (.aload_n 0, 1) := by decide +kernel
theorem dX7_isUp_48 : decode cX7_isUp 48 = .ok (.iload_n 1, 1) := by decide +kernel
theorem dX7_isUp_49 : decode cX7_isUp 49 = .ok (.iload_n 2, 1) := by decide +kernel
theorem dX7_isUp_50 : decode cX7_isUp 50 = .ok (.iload 6, 2) := by decide +kernel
theorem dX7_isUp_52 : decode cX7_isUp 52 = .ok (.iload 4, 2) := by decide +kernel
theorem dX7_isUp_54 : decode cX7_isUp 54 = .ok (.invokevirtual 185, 3) := by decide +kernel
theorem dX7_isUp_57 : decode cX7_isUp 57 = .ok (.ifCond .eq 29, 3) := by decide +kernel
theorem dX7_isUp_60 : decode cX7_isUp 60 = .ok (.aload_n 0, 1) := by decide +kernel
theorem dX7_isUp_61 : decode cX7_isUp 61 = .ok (.iload_n 1, 1) := by decide +kernel
theorem dX7_isUp_62 : decode cX7_isUp 62 = .ok (.iload_n 2, 1) := by decide +kernel
theorem dX7_isUp_63 : decode cX7_isUp 63 = .ok (.iload 6, 2) := by decide +kernel
theorem dX7_isUp_65 : decode cX7_isUp 65 = .ok (.iload_n 3, 1) := by decide +kernel
theorem dX7_isUp_66 : decode cX7_isUp 66 = .ok (.ifCond .eq 8, 3) := by decide +kernel
theorem dX7_isUp_69 : decode cX7_isUp 69 = .ok (.bipush 6, 2) := by decide +kernel
theorem dX7_isUp_71 : decode cX7_isUp 71 = .ok (.goto 5, 3) := by decide +kernel
theorem dX7_isUp_74 : decode cX7_isUp 74 = .ok (.bipush 7, 2) := by decide +kernel
theorem dX7_isUp_76 : decode cX7_isUp 76 = .ok (.invokevirtual 192, 3) := by decide +kernel
theorem dX7_isUp_79 : decode cX7_isUp 79 = .ok (.ifCond .ne 7, 3) := by decide +kernel
theorem dX7_isUp_82 : decode cX7_isUp 82 = .ok (.iconst 1, 1) := by decide +kernel
theorem dX7_isUp_83 : decode cX7_isUp 83 = .ok (.goto 4, 3) := by decide +kernel
theorem dX7_isUp_86 : decode cX7_isUp 86 = .ok (.iconst 0, 1) := by decide +kernel
theorem dX7_isUp_87 : decode cX7_isUp 87 = .ok (.iadd, 1) := by decide +kernel
theorem dX7_isUp_88 : decode cX7_isUp 88 = .ok (.istore 5, 2) := by decide +kernel
theorem dX7_isUp_90 : decode cX7_isUp 90 = .ok (.iinc 6 1, 3) := by decide +kernel
theorem dX7_isUp_93 : decode cX7_isUp 93 = .ok (.goto (-57), 3) := by decide +kernel
theorem dX7_isUp_96 : decode cX7_isUp 96 = .ok (.iload_n 3, 1) := by decide +kernel
theorem dX7_isUp_97 : decode cX7_isUp 97 = .ok (.ifCond .eq 27, 3) := by decide +kernel
theorem dX7_isUp_100 : decode cX7_isUp 100 = .ok (.aload_n 0, 1) := by decide +kernel
theorem dX7_isUp_101 : decode cX7_isUp 101 = .ok (.iload_n 1, 1) := by decide +kernel
theorem dX7_isUp_102 : decode cX7_isUp 102 = .ok (.iload_n 2, 1) := by decide +kernel
theorem dX7_isUp_103 : decode cX7_isUp 103 = .ok (.bipush 6, 2) := by decide +kernel
theorem dX7_isUp_105 : decode cX7_isUp 105 = .ok (.invokevirtual 195, 3) := by decide +kernel
theorem dX7_isUp_108 : decode cX7_isUp 108 = .ok (.ifCond .le 12, 3) := by decide +kernel
theorem dX7_isUp_111 : decode cX7_isUp 111 = .ok (.iload 5, 2) := by decide +kernel
theorem dX7_isUp_113 : decode cX7_isUp 113 = .ok (.ifCond .ne 7, 3) := by decide +kernel
theorem dX7_isUp_116 : decode cX7_isUp 116 = .ok (.iconst 1, 1) := by decide +kernel
theorem dX7_isUp_117 : decode cX7_isUp 117 = .ok (.goto 17, 3) := by decide +kernel
theorem dX7_isUp_120 : decode cX7_isUp 120 = .ok (.iconst 0, 1) := by decide +kernel
theorem dX7_isUp_121 : decode cX7_isUp 121 = .ok (.goto 13, 3) := by decide +kernel
theorem dX7_isUp_124 : decode cX7_isUp 124 = .ok (.iload 5, 2) := by decide +kernel
theorem dX7_isUp_126 : decode cX7_isUp 126 = .ok (.ifCond .le 7, 3) := by decide +kernel
theorem dX7_isUp_129 : decode cX7_isUp 129 = .ok (.iconst 1, 1) := by decide +kernel
theorem dX7_isUp_130 : decode cX7_isUp 130 = .ok (.goto 4, 3) := by decide +kernel
theorem dX7_isUp_133 : decode cX7_isUp 133 = .ok (.iconst 0, 1) := by decide +kernel
theorem dX7_isUp_134 : decode cX7_isUp 134 = .ok (.ireturn, 1) := by decide +kernel
theorem cvX7_isUp : CV yX7_isUp cX7_isUp 7 (some .boolean) 8 2 := ⟨kw_1124, ks_46, kw_6, kw_1125, ⟨_, _, rfl⟩, by decide, by decide +kernel, by decide +kernel, by decide +kernel⟩
def fX7_isUp_b76 (sh : Sh) (d : Dt) (k36 : Nat → Int32 → Int32 → Int32 → Int32 → Int32 → Int32 → Option (Bool)) (x0 : Nat) (x1 : Int32) (x2 : Int32) (x3 : Int32) (x4 : Int32) (x6 : Int32) (t0 : Int32) (t1 : Nat) (t2 : Int32) (t3 : Int32) (t4 : Int32) (t5 : Int32) : Option (Bool) := bd (kc sh 9 t1) fun _ => bd (fX7_isKnown sh d t1 t2 t3 t4 t5) fun r3 => if (bI r3) = 0 then (k36 x0 x1 x2 x3 x4 (t0 + (1 : Int32)) (x6 + 1)) else (k36 x0 x1 x2 x3 x4 (t0 + (0 : Int32)) (x6 + 1))

def fX7_isUp_b36 (sh : Sh) (d : Dt) : Nat → Nat → Int32 → Int32 → Int32 → Int32 → Int32 → Int32 → Option (Bool)
  | 0, _, _, _, _, _, _, _ => none
  | n + 1, x0, x1, x2, x3, x4, x5, x6 => bd (gI sh d 9 297 x0) fun v1 => if v1 ≤ x6 then (if x3 = 0 then (if x5 ≤ 0 then (some false) else (some true)) else (bd (fX7_manyDo sh d x0 x1 x2 (6 : Int32)) fun r6 => if r6 ≤ 0 then (some false) else (if x5 = 0 then (some true) else (some false)))) else (bd (fX7_isOn sh d x0 x1 x2 x6 x4) fun r10 => if (bI r10) = 0 then (fX7_isUp_b36 sh d n x0 x1 x2 x3 x4 (x5 + (0 : Int32)) (x6 + 1)) else (if x3 = 0 then (fX7_isUp_b76 sh d (fX7_isUp_b36 sh d n) x0 x1 x2 x3 x4 x6 x5 x0 x1 x2 x6 (7 : Int32)) else (fX7_isUp_b76 sh d (fX7_isUp_b36 sh d n) x0 x1 x2 x3 x4 x6 x5 x0 x1 x2 x6 (6 : Int32))))

def fX7_isUp_b16 (sh : Sh) (d : Dt) (x0 : Nat) (x1 : Int32) (x2 : Int32) (t0 : Int32) : Option (Bool) := if t0 = 0 then (fX7_isUp_b36 sh d fu x0 x1 x2 t0 (6 : Int32) (0 : Int32) (0 : Int32)) else (fX7_isUp_b36 sh d fu x0 x1 x2 t0 (7 : Int32) (0 : Int32) (0 : Int32))

def fX7_isUp_b0 (sh : Sh) (d : Dt) (x0 : Nat) (x1 : Int32) (x2 : Int32) : Option (Bool) := bd (gR sh d 9 296 x0) fun v1 => bd v1 fun a2 => bd (aI sh d 20 a2 x2) fun v3 => if v3 = (7 : Int32) then (fX7_isUp_b16 sh d x0 x1 x2 (1 : Int32)) else (fX7_isUp_b16 sh d x0 x1 x2 (0 : Int32))

def fX7_isUp (sh : Sh) (d : Dt) (x0 : Nat) (x1 : Int32) (x2 : Int32) : Option (Bool) := fX7_isUp_b0 sh d x0 x1 x2

set_option maxRecDepth 100000 in
set_option maxHeartbeats 4000000 in
theorem wX7_isUp_b76 (C : mx p s m args meth c yX7_isUp cX7_isUp 7 (some .boolean) A D cy st) {k36 : Nat → Int32 → Int32 → Int32 → Int32 → Int32 → Int32 → Option (Bool)} {r : Bool} {d : Dt} (Hk36 : ∀ (x0 : Nat) (x1 : Int32) (x2 : Int32) (x3 : Int32) (x4 : Int32) (x5 : Int32) (x6 : Int32), k36 x0 x1 x2 x3 x4 x5 x6 = some r → ∀ {H : Heap} {locs : List Loc} {ls : Array Slot}, HW A D cy sz sh d H → va_S A s.heap H locs → lv_has ls 7 [(0, .ref x0), (1, .int x1), (2, .int x2), (3, .int x3), (4, .int x4), (5, .int x5), (6, .int x6)] → GL p l e s m args below meth c 3 72 A D cy (some (.int (bI r))) sz sh d H locs 36 ls []) : ∀ (x0 : Nat) (x1 : Int32) (x2 : Int32) (x3 : Int32) (x4 : Int32) (x6 : Int32) (t0 : Int32) (t1 : Nat) (t2 : Int32) (t3 : Int32) (t4 : Int32) (t5 : Int32), fX7_isUp_b76 sh d k36 x0 x1 x2 x3 x4 x6 t0 t1 t2 t3 t4 t5 = some r → ∀ {H : Heap} {locs : List Loc} {ls : Array Slot}, HW A D cy sz sh d H → va_S A s.heap H locs → lv_has ls 7 [(0, .ref x0), (1, .int x1), (2, .int x2), (3, .int x3), (4, .int x4), (6, .int x6)] → GL p l e s m args below meth c 3 72 A D cy (some (.int (bI r))) sz sh d H locs 76 ls [.int t5, .int t4, .int t3, .int t2, .ref t1, .int t0] := by
  have hx := C.1
  have hb := C.2.1
  intro x0 x1 x2 x3 x4 x6 t0 t1 t2 t3 t4 t5 hf H locs ls hw hS hl
  unfold fX7_isUp_b76 at hf
  obtain ⟨_, h1, hf⟩ := bd_s hf
  obtain ⟨r3, h2, hf⟩ := bd_s hf
  refine cl_V0 C hw hS (tX7_isKnown l A D cy st sz sh d t1 t2 t3 t4 t5 h2) cvX7_isKnown kw_1106 (kc_k h1) ⟨Nat.le_of_ble_eq_true rfl, Nat.le_of_ble_eq_true rfl⟩ hl.1 rfl (Nat.le_of_ble_eq_true rfl) dX7_isUp_76 ⟨Nat.zero_le _, Nat.zero_le _⟩ (fun H locs hw hS => ?_)
  refine lv_if_ne (tgt := 86) hx hb dX7_isUp_79 (by decide) (fun c_4 => ?_) (fun c_4 => ?_)
  · have hf := if_f c_4 hf
    refine lv_iconst (v := 0) hx hb dX7_isUp_86 (by decide) ?_
    refine lv_iadd hx hb dX7_isUp_87 ?_
    refine lv_istore (lv' := [(5, .int (t0 + (0 : Int32))), (0, .ref x0), (1, .int x1), (2, .int x2), (3, .int x3), (4, .int x4), (6, .int x6)]) hx hb dX7_isUp_88 hl (by decide) rfl (fun ls hl => ?_)
    refine lv_iinc (v := (x6 + 1)) (lv' := [(6, .int (x6 + 1)), (5, .int (t0 + (0 : Int32))), (0, .ref x0), (1, .int x1), (2, .int x2), (3, .int x3), (4, .int x4)]) hx hb dX7_isUp_90 hl (k := 6) rfl rfl (by decide) rfl (fun ls hl => ?_)
    refine lv_goto (tgt := 36) hx hb dX7_isUp_93 (by decide) ?_
    exact Hk36 x0 x1 x2 x3 x4 (t0 + (0 : Int32)) (x6 + 1) hf hw hS (lv_sub hl [2, 3, 4, 5, 6, 1, 0] rfl)
  · have hf := if_t c_4 hf
    refine lv_iconst (v := 1) hx hb dX7_isUp_82 (by decide) ?_
    refine lv_goto (tgt := 87) hx hb dX7_isUp_83 (by decide) ?_
    refine lv_iadd hx hb dX7_isUp_87 ?_
    refine lv_istore (lv' := [(5, .int (t0 + (1 : Int32))), (0, .ref x0), (1, .int x1), (2, .int x2), (3, .int x3), (4, .int x4), (6, .int x6)]) hx hb dX7_isUp_88 hl (by decide) rfl (fun ls hl => ?_)
    refine lv_iinc (v := (x6 + 1)) (lv' := [(6, .int (x6 + 1)), (5, .int (t0 + (1 : Int32))), (0, .ref x0), (1, .int x1), (2, .int x2), (3, .int x3), (4, .int x4)]) hx hb dX7_isUp_90 hl (k := 6) rfl rfl (by decide) rfl (fun ls hl => ?_)
    refine lv_goto (tgt := 36) hx hb dX7_isUp_93 (by decide) ?_
    exact Hk36 x0 x1 x2 x3 x4 (t0 + (1 : Int32)) (x6 + 1) hf hw hS (lv_sub hl [2, 3, 4, 5, 6, 1, 0] rfl)

set_option maxRecDepth 100000 in
set_option maxHeartbeats 4000000 in
theorem wX7_isUp_b36 (C : mx p s m args meth c yX7_isUp cX7_isUp 7 (some .boolean) A D cy st) {r : Bool} {d : Dt} : ∀ (n : Nat) (x0 : Nat) (x1 : Int32) (x2 : Int32) (x3 : Int32) (x4 : Int32) (x5 : Int32) (x6 : Int32), fX7_isUp_b36 sh d n x0 x1 x2 x3 x4 x5 x6 = some r → ∀ {H : Heap} {locs : List Loc} {ls : Array Slot}, HW A D cy sz sh d H → va_S A s.heap H locs → lv_has ls 7 [(0, .ref x0), (1, .int x1), (2, .int x2), (3, .int x3), (4, .int x4), (5, .int x5), (6, .int x6)] → GL p l e s m args below meth c 3 72 A D cy (some (.int (bI r))) sz sh d H locs 36 ls [] := by
  have hx := C.1
  have hb := C.2.1
  intro n
  induction n with
  | zero => intro x0 x1 x2 x3 x4 x5 x6 hf; cases hf
  | succ n ih =>
    intro x0 x1 x2 x3 x4 x5 x6 hf H locs ls hw hS hl
    rw [fX7_isUp_b36] at hf
    refine lv_iload hx hb dX7_isUp_36 (lv_at hl 6 rfl) ?_
    refine lv_aload_n hx hb dX7_isUp_38 rfl (lv_at hl 0 rfl) ?_
    obtain ⟨v1, hv1, hf⟩ := bd_s hf
    refine gt_297 C hw hv1 kw_806 dX7_isUp_39 ?_
    refine lv_icmp_ge (tgt := 96) hx hb dX7_isUp_42 (by decide) (fun c_2 => ?_) (fun c_2 => ?_)
    · have hf := if_t c_2 hf
      refine lv_iload_n hx hb dX7_isUp_96 rfl (lv_at hl 3 rfl) ?_
      refine lv_if_eq (tgt := 124) hx hb dX7_isUp_97 (by decide) (fun c_3 => ?_) (fun c_3 => ?_)
      · have hf := if_t c_3 hf
        refine lv_iload hx hb dX7_isUp_124 (lv_at hl 5 rfl) ?_
        refine lv_if_le (tgt := 133) hx hb dX7_isUp_126 (by decide) (fun c_4 => ?_) (fun c_4 => ?_)
        · have hf := if_t c_4 hf
          refine lv_iconst (v := 0) hx hb dX7_isUp_133 (by decide) ?_
          cases hf
          exact rt_z C hw hS _ rfl dX7_isUp_134
        · have hf := if_f c_4 hf
          refine lv_iconst (v := 1) hx hb dX7_isUp_129 (by decide) ?_
          refine lv_goto (tgt := 134) hx hb dX7_isUp_130 (by decide) ?_
          cases hf
          exact rt_z C hw hS _ rfl dX7_isUp_134
      · have hf := if_f c_3 hf
        refine lv_aload_n hx hb dX7_isUp_100 rfl (lv_at hl 0 rfl) ?_
        refine lv_iload_n hx hb dX7_isUp_101 rfl (lv_at hl 1 rfl) ?_
        refine lv_iload_n hx hb dX7_isUp_102 rfl (lv_at hl 2 rfl) ?_
        refine lv_bipush (v := 6) hx hb dX7_isUp_103 (by decide) ?_
        obtain ⟨r6, h5, hf⟩ := bd_s hf
        refine cl_V0 C hw hS (tX7_manyDo l A D cy st sz sh d x0 x1 x2 (6 : Int32) h5) cvX7_manyDo kw_1126 (gI_s hv1).1 ⟨Nat.le_of_ble_eq_true rfl, Nat.le_of_ble_eq_true rfl⟩ hl.1 rfl (Nat.le_of_ble_eq_true rfl) dX7_isUp_105 ⟨Nat.zero_le _, Nat.zero_le _⟩ (fun H locs hw hS => ?_)
        refine lv_if_le (tgt := 120) hx hb dX7_isUp_108 (by decide) (fun c_7 => ?_) (fun c_7 => ?_)
        · have hf := if_t c_7 hf
          refine lv_iconst (v := 0) hx hb dX7_isUp_120 (by decide) ?_
          refine lv_goto (tgt := 134) hx hb dX7_isUp_121 (by decide) ?_
          cases hf
          exact rt_z C hw hS _ rfl dX7_isUp_134
        · have hf := if_f c_7 hf
          refine lv_iload hx hb dX7_isUp_111 (lv_at hl 5 rfl) ?_
          refine lv_if_ne (tgt := 120) hx hb dX7_isUp_113 (by decide) (fun c_8 => ?_) (fun c_8 => ?_)
          · have hf := if_f c_8 hf
            refine lv_iconst (v := 0) hx hb dX7_isUp_120 (by decide) ?_
            refine lv_goto (tgt := 134) hx hb dX7_isUp_121 (by decide) ?_
            cases hf
            exact rt_z C hw hS _ rfl dX7_isUp_134
          · have hf := if_t c_8 hf
            refine lv_iconst (v := 1) hx hb dX7_isUp_116 (by decide) ?_
            refine lv_goto (tgt := 134) hx hb dX7_isUp_117 (by decide) ?_
            cases hf
            exact rt_z C hw hS _ rfl dX7_isUp_134
    · have hf := if_f c_2 hf
      refine lv_iload hx hb dX7_isUp_45 (lv_at hl 5 rfl) ?_
      refine lv_aload_n hx hb dX7_isUp_47 rfl (lv_at hl 0 rfl) ?_
      refine lv_iload_n hx hb dX7_isUp_48 rfl (lv_at hl 1 rfl) ?_
      refine lv_iload_n hx hb dX7_isUp_49 rfl (lv_at hl 2 rfl) ?_
      refine lv_iload hx hb dX7_isUp_50 (lv_at hl 6 rfl) ?_
      refine lv_iload hx hb dX7_isUp_52 (lv_at hl 4 rfl) ?_
      obtain ⟨r10, h9, hf⟩ := bd_s hf
      refine cl_V0 C hw hS (tX7_isOn l A D cy st sz sh d x0 x1 x2 x6 x4 h9) cvX7_isOn kw_975 (gI_s hv1).1 ⟨Nat.le_of_ble_eq_true rfl, Nat.le_of_ble_eq_true rfl⟩ hl.1 rfl (Nat.le_of_ble_eq_true rfl) dX7_isUp_54 ⟨Nat.zero_le _, Nat.zero_le _⟩ (fun H locs hw hS => ?_)
      refine lv_if_eq (tgt := 86) hx hb dX7_isUp_57 (by decide) (fun c_11 => ?_) (fun c_11 => ?_)
      · have hf := if_t c_11 hf
        refine lv_iconst (v := 0) hx hb dX7_isUp_86 (by decide) ?_
        refine lv_iadd hx hb dX7_isUp_87 ?_
        refine lv_istore (lv' := [(5, .int (x5 + (0 : Int32))), (0, .ref x0), (1, .int x1), (2, .int x2), (3, .int x3), (4, .int x4), (6, .int x6)]) hx hb dX7_isUp_88 hl (by decide) rfl (fun ls hl => ?_)
        refine lv_iinc (v := (x6 + 1)) (lv' := [(6, .int (x6 + 1)), (5, .int (x5 + (0 : Int32))), (0, .ref x0), (1, .int x1), (2, .int x2), (3, .int x3), (4, .int x4)]) hx hb dX7_isUp_90 hl (k := 6) rfl rfl (by decide) rfl (fun ls hl => ?_)
        refine lv_goto (tgt := 36) hx hb dX7_isUp_93 (by decide) ?_
        exact ih x0 x1 x2 x3 x4 (x5 + (0 : Int32)) (x6 + 1) hf hw hS (lv_sub hl [2, 3, 4, 5, 6, 1, 0] rfl)
      · have hf := if_f c_11 hf
        refine lv_aload_n hx hb dX7_isUp_60 rfl (lv_at hl 0 rfl) ?_
        refine lv_iload_n hx hb dX7_isUp_61 rfl (lv_at hl 1 rfl) ?_
        refine lv_iload_n hx hb dX7_isUp_62 rfl (lv_at hl 2 rfl) ?_
        refine lv_iload hx hb dX7_isUp_63 (lv_at hl 6 rfl) ?_
        refine lv_iload_n hx hb dX7_isUp_65 rfl (lv_at hl 3 rfl) ?_
        refine lv_if_eq (tgt := 74) hx hb dX7_isUp_66 (by decide) (fun c_12 => ?_) (fun c_12 => ?_)
        · have hf := if_t c_12 hf
          refine lv_bipush (v := 7) hx hb dX7_isUp_74 (by decide) ?_
          exact wX7_isUp_b76 C ih x0 x1 x2 x3 x4 x6 x5 x0 x1 x2 x6 (7 : Int32) hf hw hS (lv_sub hl [0, 1, 2, 3, 4, 6] rfl)
        · have hf := if_f c_12 hf
          refine lv_bipush (v := 6) hx hb dX7_isUp_69 (by decide) ?_
          refine lv_goto (tgt := 76) hx hb dX7_isUp_71 (by decide) ?_
          exact wX7_isUp_b76 C ih x0 x1 x2 x3 x4 x6 x5 x0 x1 x2 x6 (6 : Int32) hf hw hS (lv_sub hl [0, 1, 2, 3, 4, 6] rfl)

set_option maxRecDepth 100000 in
set_option maxHeartbeats 4000000 in
theorem wX7_isUp_b16 (C : mx p s m args meth c yX7_isUp cX7_isUp 7 (some .boolean) A D cy st) {r : Bool} {d : Dt} : ∀ (x0 : Nat) (x1 : Int32) (x2 : Int32) (t0 : Int32), fX7_isUp_b16 sh d x0 x1 x2 t0 = some r → ∀ {H : Heap} {locs : List Loc} {ls : Array Slot}, HW A D cy sz sh d H → va_S A s.heap H locs → lv_has ls 7 [(0, .ref x0), (1, .int x1), (2, .int x2)] → GL p l e s m args below meth c 3 72 A D cy (some (.int (bI r))) sz sh d H locs 16 ls [.int t0] := by
  have hx := C.1
  have hb := C.2.1
  intro x0 x1 x2 t0 hf H locs ls hw hS hl
  unfold fX7_isUp_b16 at hf
  refine lv_istore_n (lv' := [(3, .int t0), (0, .ref x0), (1, .int x1), (2, .int x2)]) hx hb dX7_isUp_16 rfl hl (by decide) rfl (fun ls hl => ?_)
  refine lv_iload_n hx hb dX7_isUp_17 rfl (lv_at hl 0 rfl) ?_
  refine lv_if_eq (tgt := 26) hx hb dX7_isUp_18 (by decide) (fun c_1 => ?_) (fun c_1 => ?_)
  · have hf := if_t c_1 hf
    refine lv_bipush (v := 6) hx hb dX7_isUp_26 (by decide) ?_
    refine lv_istore (lv' := [(4, .int (6 : Int32)), (3, .int t0), (0, .ref x0), (1, .int x1), (2, .int x2)]) hx hb dX7_isUp_28 hl (by decide) rfl (fun ls hl => ?_)
    refine lv_iconst (v := 0) hx hb dX7_isUp_30 (by decide) ?_
    refine lv_istore (lv' := [(5, .int (0 : Int32)), (4, .int (6 : Int32)), (3, .int t0), (0, .ref x0), (1, .int x1), (2, .int x2)]) hx hb dX7_isUp_31 hl (by decide) rfl (fun ls hl => ?_)
    refine lv_iconst (v := 0) hx hb dX7_isUp_33 (by decide) ?_
    refine lv_istore (lv' := [(6, .int (0 : Int32)), (5, .int (0 : Int32)), (4, .int (6 : Int32)), (3, .int t0), (0, .ref x0), (1, .int x1), (2, .int x2)]) hx hb dX7_isUp_34 hl (by decide) rfl (fun ls hl => ?_)
    exact wX7_isUp_b36 C fu x0 x1 x2 t0 (6 : Int32) (0 : Int32) (0 : Int32) hf hw hS (lv_sub hl [4, 5, 6, 3, 2, 1, 0] rfl)
  · have hf := if_f c_1 hf
    refine lv_bipush (v := 7) hx hb dX7_isUp_21 (by decide) ?_
    refine lv_goto (tgt := 28) hx hb dX7_isUp_23 (by decide) ?_
    refine lv_istore (lv' := [(4, .int (7 : Int32)), (3, .int t0), (0, .ref x0), (1, .int x1), (2, .int x2)]) hx hb dX7_isUp_28 hl (by decide) rfl (fun ls hl => ?_)
    refine lv_iconst (v := 0) hx hb dX7_isUp_30 (by decide) ?_
    refine lv_istore (lv' := [(5, .int (0 : Int32)), (4, .int (7 : Int32)), (3, .int t0), (0, .ref x0), (1, .int x1), (2, .int x2)]) hx hb dX7_isUp_31 hl (by decide) rfl (fun ls hl => ?_)
    refine lv_iconst (v := 0) hx hb dX7_isUp_33 (by decide) ?_
    refine lv_istore (lv' := [(6, .int (0 : Int32)), (5, .int (0 : Int32)), (4, .int (7 : Int32)), (3, .int t0), (0, .ref x0), (1, .int x1), (2, .int x2)]) hx hb dX7_isUp_34 hl (by decide) rfl (fun ls hl => ?_)
    exact wX7_isUp_b36 C fu x0 x1 x2 t0 (7 : Int32) (0 : Int32) (0 : Int32) hf hw hS (lv_sub hl [4, 5, 6, 3, 2, 1, 0] rfl)

set_option maxRecDepth 100000 in
set_option maxHeartbeats 4000000 in
theorem wX7_isUp_b0 (C : mx p s m args meth c yX7_isUp cX7_isUp 7 (some .boolean) A D cy st) {r : Bool} {d : Dt} : ∀ (x0 : Nat) (x1 : Int32) (x2 : Int32), fX7_isUp_b0 sh d x0 x1 x2 = some r → ∀ {H : Heap} {locs : List Loc} {ls : Array Slot}, HW A D cy sz sh d H → va_S A s.heap H locs → lv_has ls 7 [(0, .ref x0), (1, .int x1), (2, .int x2)] → GL p l e s m args below meth c 3 72 A D cy (some (.int (bI r))) sz sh d H locs 0 ls [] := by
  have hx := C.1
  have hb := C.2.1
  intro x0 x1 x2 hf H locs ls hw hS hl
  unfold fX7_isUp_b0 at hf
  refine lv_aload_n hx hb dX7_isUp_0 rfl (lv_at hl 0 rfl) ?_
  obtain ⟨v1, hv1, hf⟩ := bd_s hf
  refine gt_296 C hw hv1 kw_805 dX7_isUp_1 ?_
  refine lv_iload_n hx hb dX7_isUp_4 rfl (lv_at hl 2 rfl) ?_
  obtain ⟨a2, ea2, hg⟩ := bd_s hf
  clear hf
  subst ea2
  have hf := hg
  clear hg
  obtain ⟨v3, hv3, hf⟩ := bd_s hf
  refine w_iald C hw hv3 dX7_isUp_5 ?_
  refine lv_bipush (v := 7) hx hb dX7_isUp_6 (by decide) ?_
  refine lv_icmp_ne (tgt := 15) hx hb dX7_isUp_8 (by decide) (fun c_4 => ?_) (fun c_4 => ?_)
  · have hf := if_f c_4 hf
    refine lv_iconst (v := 0) hx hb dX7_isUp_15 (by decide) ?_
    exact wX7_isUp_b16 C x0 x1 x2 (0 : Int32) hf hw hS (lv_sub hl [0, 1, 2] rfl)
  · have hf := if_t c_4 hf
    refine lv_iconst (v := 1) hx hb dX7_isUp_11 (by decide) ?_
    refine lv_goto (tgt := 16) hx hb dX7_isUp_12 (by decide) ?_
    exact wX7_isUp_b16 C x0 x1 x2 (1 : Int32) hf hw hS (lv_sub hl [0, 1, 2] rfl)

set_option maxRecDepth 100000 in
set_option maxHeartbeats 4000000 in
theorem tX7_isUp (l : Launch) (A : Nat → Prop) (D : va_G) (cy : Nat → ClassId) (st : Nat → Nat) (sz : Nat) (sh : Sh) (d : Dt) (x0 : Nat) (x1 : Int32) (x2 : Int32) {r : Bool} (hf : fX7_isUp sh d x0 x1 x2 = some r) : Ct l yX7_isUp cX7_isUp 7 (some .boolean) 3 72 0 0 A D cy st [.ref x0, .int x1, .int x2] sz sh d (some (.int (bI r))) sz sh d := ct_of (by decide) (Nat.le_of_ble_eq_true rfl) (fun p e s m args below meth c C hw hS ls hl => wX7_isUp_b0 C x0 x1 x2 hf hw hS hl)
theorem dX7_need_0 : decode cX7_need 0 = .ok (.aload_n 0, 1) := by decide +kernel
theorem dX7_need_1 : decode cX7_need 1 = .ok (.iload_n 2, 1) := by decide +kernel
theorem dX7_need_2 : decode cX7_need 2 = .ok (.invokevirtual 109, 3) := by decide +kernel
theorem dX7_need_5 : decode cX7_need 5 = .ok (.ifCond .eq 15, 3) := by decide +kernel
theorem dX7_need_8 : decode cX7_need 8 = .ok (.aload_n 0, 1) := by decide +kernel
theorem dX7_need_9 : decode cX7_need 9 = .ok (.iload_n 3, 1) := by decide +kernel
theorem dX7_need_10 : decode cX7_need 10 = .ok (.invokevirtual 101, 3) := by decide +kernel
theorem dX7_need_13 : decode cX7_need 13 = .ok (.ifCond .eq 7, 3) := by decide +kernel
theorem dX7_need_16 : decode cX7_need 16 = .ok (.iload_n 1, 1) := by decide +kernel
theorem dX7_need_17 : decode cX7_need 17 = .ok (.ifCond .ne 7, 3) := by decide +kernel
theorem dX7_need_20 : decode cX7_need 20 = .ok (.iconst (-1), 1) := by decide +kernel
theorem dX7_need_21 : decode cX7_need 21 = .ok (.goto 11, 3) := by decide +kernel
theorem dX7_need_24 : decode cX7_need 24 = .ok (.aload_n 0, 1) := by decide +kernel
theorem dX7_need_25 : decode cX7_need 25 = .ok (.iload_n 2, 1) := by decide +kernel
theorem dX7_need_26 : decode cX7_need 26 = .ok (.iload_n 3, 1) := by decide +kernel
theorem dX7_need_27 : decode cX7_need 27 = .ok (.iload 4, 2) := by decide +kernel
theorem dX7_need_29 : decode cX7_need 29 = .ok (.invokevirtual 116, 3) := by decide +kernel
theorem dX7_need_32 : decode cX7_need 32 = .ok (.ireturn, 1) := by decide +kernel
theorem cvX7_need : CV yX7_need cX7_need 5 (some .int) 8 4 := ⟨kw_1068, ks_40, kw_6, kw_1069, ⟨_, _, rfl⟩, by decide, by decide +kernel, by decide +kernel, by decide +kernel⟩
def fX7_need_b0 (sh : Sh) (x0 : Nat) (x1 : Int32) (x2 : Int32) (x3 : Int32) (x4 : Int32) (d : Dt) : Option (Int32 × Dt) := bd (kc sh 9 x0) fun _ => bd (fX7_isHand sh d x0 x2) fun r3 => if (bI r3) = 0 then (some ((-1 : Int32), d)) else (bd (fX7_isPage sh d x0 x3) fun r6 => if (bI r6) = 0 then (some ((-1 : Int32), d)) else (if x1 = 0 then (some ((-1 : Int32), d)) else (bd2 (fX7_needSee sh d x0 x2 x3 x4) fun r10 d11 => some (r10, d11))))

def fX7_need (sh : Sh) (d : Dt) (x0 : Nat) (x1 : Int32) (x2 : Int32) (x3 : Int32) (x4 : Int32) : Option (Int32 × Dt) := fX7_need_b0 sh x0 x1 x2 x3 x4 d

set_option maxRecDepth 100000 in
set_option maxHeartbeats 4000000 in
theorem wX7_need_b0 (C : mx p s m args meth c yX7_need cX7_need 5 (some .int) A D cy st) {r : Int32} {d9 : Dt} : ∀ (x0 : Nat) (x1 : Int32) (x2 : Int32) (x3 : Int32) (x4 : Int32) (d : Dt), fX7_need_b0 sh x0 x1 x2 x3 x4 d = some (r, d9) → ∀ {H : Heap} {locs : List Loc} {ls : Array Slot}, HW A D cy sz sh d H → va_S A s.heap H locs → lv_has ls 5 [(0, .ref x0), (1, .int x1), (2, .int x2), (3, .int x3), (4, .int x4)] → GL p l e s m args below meth c 2 46 A D cy (some (.int r)) sz sh d9 H locs 0 ls [] := by
  have hx := C.1
  have hb := C.2.1
  intro x0 x1 x2 x3 x4 d hf H locs ls hw hS hl
  unfold fX7_need_b0 at hf
  refine lv_aload_n hx hb dX7_need_0 rfl (lv_at hl 0 rfl) ?_
  refine lv_iload_n hx hb dX7_need_1 rfl (lv_at hl 2 rfl) ?_
  obtain ⟨_, h1, hf⟩ := bd_s hf
  obtain ⟨r3, h2, hf⟩ := bd_s hf
  refine cl_V0 C hw hS (tX7_isHand l A D cy st sz sh d x0 x2 h2) cvX7_isHand kw_917 (kc_k h1) ⟨Nat.le_of_ble_eq_true rfl, Nat.le_of_ble_eq_true rfl⟩ hl.1 rfl (Nat.le_of_ble_eq_true rfl) dX7_need_2 ⟨Nat.zero_le _, Nat.zero_le _⟩ (fun H locs hw hS => ?_)
  refine lv_if_eq (tgt := 20) hx hb dX7_need_5 (by decide) (fun c_4 => ?_) (fun c_4 => ?_)
  · have hf := if_t c_4 hf
    refine lv_iconst (v := -1) hx hb dX7_need_20 (by decide) ?_
    refine lv_goto (tgt := 32) hx hb dX7_need_21 (by decide) ?_
    cases hf
    exact rt_i C hw hS dX7_need_32
  · have hf := if_f c_4 hf
    refine lv_aload_n hx hb dX7_need_8 rfl (lv_at hl 0 rfl) ?_
    refine lv_iload_n hx hb dX7_need_9 rfl (lv_at hl 3 rfl) ?_
    obtain ⟨r6, h5, hf⟩ := bd_s hf
    refine cl_V0 C hw hS (tX7_isPage l A D cy st sz sh d x0 x3 h5) cvX7_isPage kw_905 (kc_k h1) ⟨Nat.le_of_ble_eq_true rfl, Nat.le_of_ble_eq_true rfl⟩ hl.1 rfl (Nat.le_of_ble_eq_true rfl) dX7_need_10 ⟨Nat.zero_le _, Nat.zero_le _⟩ (fun H locs hw hS => ?_)
    refine lv_if_eq (tgt := 20) hx hb dX7_need_13 (by decide) (fun c_7 => ?_) (fun c_7 => ?_)
    · have hf := if_t c_7 hf
      refine lv_iconst (v := -1) hx hb dX7_need_20 (by decide) ?_
      refine lv_goto (tgt := 32) hx hb dX7_need_21 (by decide) ?_
      cases hf
      exact rt_i C hw hS dX7_need_32
    · have hf := if_f c_7 hf
      refine lv_iload_n hx hb dX7_need_16 rfl (lv_at hl 1 rfl) ?_
      refine lv_if_ne (tgt := 24) hx hb dX7_need_17 (by decide) (fun c_8 => ?_) (fun c_8 => ?_)
      · have hf := if_f c_8 hf
        refine lv_aload_n hx hb dX7_need_24 rfl (lv_at hl 0 rfl) ?_
        refine lv_iload_n hx hb dX7_need_25 rfl (lv_at hl 2 rfl) ?_
        refine lv_iload_n hx hb dX7_need_26 rfl (lv_at hl 3 rfl) ?_
        refine lv_iload hx hb dX7_need_27 (lv_at hl 4 rfl) ?_
        obtain ⟨r10, d11, h9, hf⟩ := bd2_s hf
        refine cl_V0 C hw hS (tX7_needSee l A D cy st sz sh d x0 x2 x3 x4 h9) cvX7_needSee kw_936 (kc_k h1) ⟨Nat.le_of_ble_eq_true rfl, Nat.le_of_ble_eq_true rfl⟩ hl.1 rfl (Nat.le_of_ble_eq_true rfl) dX7_need_29 ⟨Nat.zero_le _, Nat.zero_le _⟩ (fun H locs hw hS => ?_)
        cases hf
        exact rt_i C hw hS dX7_need_32
      · have hf := if_t c_8 hf
        refine lv_iconst (v := -1) hx hb dX7_need_20 (by decide) ?_
        refine lv_goto (tgt := 32) hx hb dX7_need_21 (by decide) ?_
        cases hf
        exact rt_i C hw hS dX7_need_32

set_option maxRecDepth 100000 in
set_option maxHeartbeats 4000000 in
theorem tX7_need (l : Launch) (A : Nat → Prop) (D : va_G) (cy : Nat → ClassId) (st : Nat → Nat) (sz : Nat) (sh : Sh) (d : Dt) (x0 : Nat) (x1 : Int32) (x2 : Int32) (x3 : Int32) (x4 : Int32) {r : Int32} {d9 : Dt} (hf : fX7_need sh d x0 x1 x2 x3 x4 = some (r, d9)) : Ct l yX7_need cX7_need 5 (some .int) 2 46 0 0 A D cy st [.ref x0, .int x1, .int x2, .int x3, .int x4] sz sh d (some (.int r)) sz sh d9 := ct_of (by decide) (Nat.le_of_ble_eq_true rfl) (fun p e s m args below meth c C hw hS ls hl => wX7_need_b0 C x0 x1 x2 x3 x4 d hf hw hS hl)
theorem dX7_value_0 : decode cX7_value 0 = .ok (.aload_n 0, 1) := by decide +kernel
theorem dX7_value_1 : decode cX7_value 1 = .ok (.iconst 1, 1) := by decide +kernel
theorem dX7_value_2 : decode cX7_value 2 = .ok (.iload_n 1, 1) := by decide +kernel
theorem dX7_value_3 : decode cX7_value 3 = .ok (.iload_n 2, 1) := by decide +kernel
theorem dX7_value_4 : decode cX7_value 4 = .ok (.iconst 0, 1) := by decide +kernel
theorem dX7_value_5 : decode cX7_value 5 = .ok (.invokevirtual 198, 3) := by decide +kernel
theorem dX7_value_8 : decode cX7_value 8 = .ok (.istore_n 3, 1) := by decide +kernel
theorem dX7_value_9 : decode cX7_value 9 = .ok (.iload_n 3, 1) := by decide +kernel
theorem dX7_value_10 : decode cX7_value 10 = .ok (.ifCond .ge 5, 3) := by decide +kernel
theorem dX7_value_13 : decode cX7_value 13 = .ok (.iload_n 3, 1) := by decide +kernel
theorem dX7_value_14 : decode cX7_value 14 = .ok (.ireturn, 1) := by decide +kernel
theorem dX7_value_15 : decode cX7_value 15 = .ok (.aload_n 0, 1) := by decide +kernel
theorem dX7_value_16 : decode cX7_value 16 = .ok (.iload_n 1, 1) := by decide +kernel
theorem dX7_value_17 : decode cX7_value 17 = .ok (.iload_n 2, 1) := by decide +kernel
theorem dX7_value_18 : decode cX7_value 18 = .ok (.invokevirtual 201, 3) := by decide +kernel
theorem dX7_value_21 : decode cX7_value 21 = .ok (.istore 4, 2) := by decide +kernel
theorem dX7_value_23 : decode cX7_value 23 = .ok (.aload_n 0, 1) := by decide +kernel
theorem dX7_value_24 : decode cX7_value 24 = .ok (.iload 4, 2) := by decide +kernel
theorem dX7_value_26 : decode cX7_value 26 = .ok (.bipush (-9), 2) := by decide +kernel
theorem dX7_value_28 : decode cX7_value 28 = .ok (.if_icmp .ne 10, 3) := by decide +kernel
theorem dX7_value_31 : decode cX7_value 31 = .ok (.aload_n 0, 1) := by decide +kernel
theorem dX7_value_32 : decode cX7_value 32 = .ok (.getfield 204, 3) := by decide +kernel
theorem dX7_value_35 : decode cX7_value 35 = .ok (.goto 10, 3) := by decide +kernel
theorem dX7_value_38 : decode cX7_value 38 = .ok (.aload_n 0, 1) := by decide +kernel
theorem dX7_value_39 : decode cX7_value 39 = .ok (.getfield 48, 3) := by decide +kernel
theorem dX7_value_42 : decode cX7_value 42 = .ok (.iload 4, 2) := by decide +kernel
theorem dX7_value_44 : decode cX7_value 44 = .ok (.laload, 1) := by decide +kernel
theorem dX7_value_45 : decode cX7_value 45 = .ok (.putfield 204, 3) := by decide +kernel
theorem dX7_value_48 : decode cX7_value 48 = .ok (.iload 4, 2) := by decide +kernel
theorem dX7_value_50 : decode cX7_value 50 = .ok (.ireturn, 1) := by decide +kernel
theorem cvX7_value : CV yX7_value cX7_value 5 (some .int) 8 2 := ⟨kw_1063, kw_1064, kw_6, kw_1065, ⟨_, _, rfl⟩, by decide, by decide +kernel, by decide +kernel, by decide +kernel⟩
def fX7_value_b0 (sh : Sh) (x0 : Nat) (x1 : Int32) (x2 : Int32) (d : Dt) : Option (Int32 × Dt) := bd (kc sh 9 x0) fun _ => bd2 (fX7_need sh d x0 (1 : Int32) x1 x2 (0 : Int32)) fun r3 d4 => if 0 ≤ r3 then (bd (fX7_telling sh d4 x0 x1 x2) fun r7 => if r7 = (-9 : Int32) then (bd (gL sh d4 9 306 x0) fun v13 => bd (pL sh d4 9 306 x0 v13) fun d14 => some (r7, d14)) else (bd (gR sh d4 9 304 x0) fun v9 => bd v9 fun a10 => bd (aL sh d4 21 a10 r7) fun v11 => bd (pL sh d4 9 306 x0 v11) fun d12 => some (r7, d12))) else (some (r3, d4))

def fX7_value (sh : Sh) (d : Dt) (x0 : Nat) (x1 : Int32) (x2 : Int32) : Option (Int32 × Dt) := fX7_value_b0 sh x0 x1 x2 d

set_option maxRecDepth 100000 in
set_option maxHeartbeats 4000000 in
theorem wX7_value_b0 (C : mx p s m args meth c yX7_value cX7_value 5 (some .int) A D cy st) {r : Int32} {d9 : Dt} : ∀ (x0 : Nat) (x1 : Int32) (x2 : Int32) (d : Dt), fX7_value_b0 sh x0 x1 x2 d = some (r, d9) → ∀ {H : Heap} {locs : List Loc} {ls : Array Slot}, HW A D cy sz sh d H → va_S A s.heap H locs → lv_has ls 5 [(0, .ref x0), (1, .int x1), (2, .int x2)] → GL p l e s m args below meth c 3 71 A D cy (some (.int r)) sz sh d9 H locs 0 ls [] := by
  have hx := C.1
  have hb := C.2.1
  intro x0 x1 x2 d hf H locs ls hw hS hl
  unfold fX7_value_b0 at hf
  refine lv_aload_n hx hb dX7_value_0 rfl (lv_at hl 0 rfl) ?_
  refine lv_iconst (v := 1) hx hb dX7_value_1 (by decide) ?_
  refine lv_iload_n hx hb dX7_value_2 rfl (lv_at hl 1 rfl) ?_
  refine lv_iload_n hx hb dX7_value_3 rfl (lv_at hl 2 rfl) ?_
  refine lv_iconst (v := 0) hx hb dX7_value_4 (by decide) ?_
  obtain ⟨_, h1, hf⟩ := bd_s hf
  obtain ⟨r3, d4, h2, hf⟩ := bd2_s hf
  refine cl_V0 C hw hS (tX7_need l A D cy st sz sh d x0 (1 : Int32) x1 x2 (0 : Int32) h2) cvX7_need kw_1066 (kc_k h1) ⟨Nat.le_of_ble_eq_true rfl, Nat.le_of_ble_eq_true rfl⟩ hl.1 rfl (Nat.le_of_ble_eq_true rfl) dX7_value_5 ⟨Nat.zero_le _, Nat.zero_le _⟩ (fun H locs hw hS => ?_)
  refine lv_istore_n (lv' := [(3, .int r3), (0, .ref x0), (1, .int x1), (2, .int x2)]) hx hb dX7_value_8 rfl hl (by decide) rfl (fun ls hl => ?_)
  refine lv_iload_n hx hb dX7_value_9 rfl (lv_at hl 0 rfl) ?_
  refine lv_if_ge (tgt := 15) hx hb dX7_value_10 (by decide) (fun c_5 => ?_) (fun c_5 => ?_)
  · have hf := if_t c_5 hf
    refine lv_aload_n hx hb dX7_value_15 rfl (lv_at hl 1 rfl) ?_
    refine lv_iload_n hx hb dX7_value_16 rfl (lv_at hl 2 rfl) ?_
    refine lv_iload_n hx hb dX7_value_17 rfl (lv_at hl 3 rfl) ?_
    obtain ⟨r7, h6, hf⟩ := bd_s hf
    refine cl_V0 C hw hS (tX7_telling l A D cy st sz sh d4 x0 x1 x2 h6) cvX7_telling kw_1070 (kc_k h1) ⟨Nat.le_of_ble_eq_true rfl, Nat.le_of_ble_eq_true rfl⟩ hl.1 rfl (Nat.le_of_ble_eq_true rfl) dX7_value_18 ⟨Nat.zero_le _, Nat.zero_le _⟩ (fun H locs hw hS => ?_)
    refine lv_istore (lv' := [(4, .int r7), (3, .int r3), (0, .ref x0), (1, .int x1), (2, .int x2)]) hx hb dX7_value_21 hl (by decide) rfl (fun ls hl => ?_)
    refine lv_aload_n hx hb dX7_value_23 rfl (lv_at hl 2 rfl) ?_
    refine lv_iload hx hb dX7_value_24 (lv_at hl 0 rfl) ?_
    refine lv_bipush (v := -9) hx hb dX7_value_26 (by decide) ?_
    refine lv_icmp_ne (tgt := 38) hx hb dX7_value_28 (by decide) (fun c_8 => ?_) (fun c_8 => ?_)
    · have hf := if_f c_8 hf
      refine lv_aload_n hx hb dX7_value_38 rfl (lv_at hl 2 rfl) ?_
      obtain ⟨v9, hv9, hf⟩ := bd_s hf
      refine gt_304 C hw hv9 kw_813 dX7_value_39 ?_
      refine lv_iload hx hb dX7_value_42 (lv_at hl 0 rfl) ?_
      obtain ⟨a10, ea10, hg⟩ := bd_s hf
      clear hf
      subst ea10
      have hf := hg
      clear hg
      obtain ⟨v11, hv11, hf⟩ := bd_s hf
      refine w_lald C hw hv11 dX7_value_44 ?_
      obtain ⟨d12, hd12, hf⟩ := bd_s hf
      refine pt_306 C hw hS hd12 kw_815 dX7_value_45 (fun H locs hw hS => ?_)
      refine lv_iload hx hb dX7_value_48 (lv_at hl 0 rfl) ?_
      cases hf
      exact rt_i C hw hS dX7_value_50
    · have hf := if_t c_8 hf
      refine lv_aload_n hx hb dX7_value_31 rfl (lv_at hl 2 rfl) ?_
      obtain ⟨v13, hv13, hf⟩ := bd_s hf
      refine gt_306 C hw hv13 kw_815 dX7_value_32 ?_
      refine lv_goto (tgt := 45) hx hb dX7_value_35 (by decide) ?_
      obtain ⟨d14, hd14, hf⟩ := bd_s hf
      refine pt_306 C hw hS hd14 kw_815 dX7_value_45 (fun H locs hw hS => ?_)
      refine lv_iload hx hb dX7_value_48 (lv_at hl 0 rfl) ?_
      cases hf
      exact rt_i C hw hS dX7_value_50
  · have hf := if_f c_5 hf
    refine lv_iload_n hx hb dX7_value_13 rfl (lv_at hl 0 rfl) ?_
    cases hf
    exact rt_i C hw hS dX7_value_14

set_option maxRecDepth 100000 in
set_option maxHeartbeats 4000000 in
theorem tX7_value (l : Launch) (A : Nat → Prop) (D : va_G) (cy : Nat → ClassId) (st : Nat → Nat) (sz : Nat) (sh : Sh) (d : Dt) (x0 : Nat) (x1 : Int32) (x2 : Int32) {r : Int32} {d9 : Dt} (hf : fX7_value sh d x0 x1 x2 = some (r, d9)) : Ct l yX7_value cX7_value 5 (some .int) 3 71 0 0 A D cy st [.ref x0, .int x1, .int x2] sz sh d (some (.int r)) sz sh d9 := ct_of (by decide) (Nat.le_of_ble_eq_true rfl) (fun p e s m args below meth c C hw hS ls hl => wX7_value_b0 C x0 x1 x2 d hf hw hS hl)
theorem dX7_sum_0 : decode cX7_sum 0 = .ok (.aload_n 0, 1) := by decide +kernel
theorem dX7_sum_1 : decode cX7_sum 1 = .ok (.iconst 1, 1) := by decide +kernel
theorem dX7_sum_2 : decode cX7_sum 2 = .ok (.iload_n 1, 1) := by decide +kernel
theorem dX7_sum_3 : decode cX7_sum 3 = .ok (.iload_n 2, 1) := by decide +kernel
theorem dX7_sum_4 : decode cX7_sum 4 = .ok (.iconst 2, 1) := by decide +kernel
theorem dX7_sum_5 : decode cX7_sum 5 = .ok (.invokevirtual 198, 3) := by decide +kernel
theorem dX7_sum_8 : decode cX7_sum 8 = .ok (.istore_n 3, 1) := by decide +kernel
theorem dX7_sum_9 : decode cX7_sum 9 = .ok (.iload_n 3, 1) := by decide +kernel
theorem dX7_sum_10 : decode cX7_sum 10 = .ok (.ifCond .ge 5, 3) := by decide +kernel
theorem dX7_sum_13 : decode cX7_sum 13 = .ok (.iload_n 3, 1) := by decide +kernel
theorem dX7_sum_14 : decode cX7_sum 14 = .ok (.ireturn, 1) := by decide +kernel
theorem dX7_sum_15 : decode cX7_sum 15 = .ok (.aload_n 0, 1) := by decide +kernel
theorem dX7_sum_16 : decode cX7_sum 16 = .ok (.aload_n 0, 1) := by decide +kernel
theorem dX7_sum_17 : decode cX7_sum 17 = .ok (.iload_n 1, 1) := by decide +kernel
theorem dX7_sum_18 : decode cX7_sum 18 = .ok (.iload_n 2, 1) := by decide +kernel
theorem dX7_sum_19 : decode cX7_sum 19 = .ok (.invokevirtual 208, 3) := by decide +kernel
theorem dX7_sum_22 : decode cX7_sum 22 = .ok (.putfield 204, 3) := by decide +kernel
theorem dX7_sum_25 : decode cX7_sum 25 = .ok (.aload_n 0, 1) := by decide +kernel
theorem dX7_sum_26 : decode cX7_sum 26 = .ok (.iload_n 1, 1) := by decide +kernel
theorem dX7_sum_27 : decode cX7_sum 27 = .ok (.iload_n 2, 1) := by decide +kernel
theorem dX7_sum_28 : decode cX7_sum 28 = .ok (.invokevirtual 212, 3) := by decide +kernel
theorem dX7_sum_31 : decode cX7_sum 31 = .ok (.ireturn, 1) := by decide +kernel
theorem cvX7_sum : CV yX7_sum cX7_sum 4 (some .int) 8 2 := ⟨kw_1075, kw_1076, kw_6, kw_1077, ⟨_, _, rfl⟩, by decide, by decide +kernel, by decide +kernel, by decide +kernel⟩
def fX7_sum_b0 (sh : Sh) (x0 : Nat) (x1 : Int32) (x2 : Int32) (d : Dt) : Option (Int32 × Dt) := bd (kc sh 9 x0) fun _ => bd2 (fX7_need sh d x0 (1 : Int32) x1 x2 (2 : Int32)) fun r3 d4 => if 0 ≤ r3 then (bd (fX7_sumOf sh d4 x0 x1 x2) fun r7 => bd (pL sh d4 9 306 x0 r7) fun d8 => bd (fX7_manyOn sh d8 x0 x1 x2) fun r10 => some (r10, d8)) else (some (r3, d4))

def fX7_sum (sh : Sh) (d : Dt) (x0 : Nat) (x1 : Int32) (x2 : Int32) : Option (Int32 × Dt) := fX7_sum_b0 sh x0 x1 x2 d

set_option maxRecDepth 100000 in
set_option maxHeartbeats 4000000 in
theorem wX7_sum_b0 (C : mx p s m args meth c yX7_sum cX7_sum 4 (some .int) A D cy st) {r : Int32} {d9 : Dt} : ∀ (x0 : Nat) (x1 : Int32) (x2 : Int32) (d : Dt), fX7_sum_b0 sh x0 x1 x2 d = some (r, d9) → ∀ {H : Heap} {locs : List Loc} {ls : Array Slot}, HW A D cy sz sh d H → va_S A s.heap H locs → lv_has ls 4 [(0, .ref x0), (1, .int x1), (2, .int x2)] → GL p l e s m args below meth c 3 71 A D cy (some (.int r)) sz sh d9 H locs 0 ls [] := by
  have hx := C.1
  have hb := C.2.1
  intro x0 x1 x2 d hf H locs ls hw hS hl
  unfold fX7_sum_b0 at hf
  refine lv_aload_n hx hb dX7_sum_0 rfl (lv_at hl 0 rfl) ?_
  refine lv_iconst (v := 1) hx hb dX7_sum_1 (by decide) ?_
  refine lv_iload_n hx hb dX7_sum_2 rfl (lv_at hl 1 rfl) ?_
  refine lv_iload_n hx hb dX7_sum_3 rfl (lv_at hl 2 rfl) ?_
  refine lv_iconst (v := 2) hx hb dX7_sum_4 (by decide) ?_
  obtain ⟨_, h1, hf⟩ := bd_s hf
  obtain ⟨r3, d4, h2, hf⟩ := bd2_s hf
  refine cl_V0 C hw hS (tX7_need l A D cy st sz sh d x0 (1 : Int32) x1 x2 (2 : Int32) h2) cvX7_need kw_1066 (kc_k h1) ⟨Nat.le_of_ble_eq_true rfl, Nat.le_of_ble_eq_true rfl⟩ hl.1 rfl (Nat.le_of_ble_eq_true rfl) dX7_sum_5 ⟨Nat.zero_le _, Nat.zero_le _⟩ (fun H locs hw hS => ?_)
  refine lv_istore_n (lv' := [(3, .int r3), (0, .ref x0), (1, .int x1), (2, .int x2)]) hx hb dX7_sum_8 rfl hl (by decide) rfl (fun ls hl => ?_)
  refine lv_iload_n hx hb dX7_sum_9 rfl (lv_at hl 0 rfl) ?_
  refine lv_if_ge (tgt := 15) hx hb dX7_sum_10 (by decide) (fun c_5 => ?_) (fun c_5 => ?_)
  · have hf := if_t c_5 hf
    refine lv_aload_n hx hb dX7_sum_15 rfl (lv_at hl 1 rfl) ?_
    refine lv_aload_n hx hb dX7_sum_16 rfl (lv_at hl 1 rfl) ?_
    refine lv_iload_n hx hb dX7_sum_17 rfl (lv_at hl 2 rfl) ?_
    refine lv_iload_n hx hb dX7_sum_18 rfl (lv_at hl 3 rfl) ?_
    obtain ⟨r7, h6, hf⟩ := bd_s hf
    refine cl_V0 C hw hS (tX7_sumOf l A D cy st sz sh d4 x0 x1 x2 h6) cvX7_sumOf kw_1078 (kc_k h1) ⟨Nat.le_of_ble_eq_true rfl, Nat.le_of_ble_eq_true rfl⟩ hl.1 rfl (Nat.le_of_ble_eq_true rfl) dX7_sum_19 ⟨Nat.zero_le _, Nat.zero_le _⟩ (fun H locs hw hS => ?_)
    obtain ⟨d8, hd8, hf⟩ := bd_s hf
    refine pt_306 C hw hS hd8 kw_815 dX7_sum_22 (fun H locs hw hS => ?_)
    refine lv_aload_n hx hb dX7_sum_25 rfl (lv_at hl 1 rfl) ?_
    refine lv_iload_n hx hb dX7_sum_26 rfl (lv_at hl 2 rfl) ?_
    refine lv_iload_n hx hb dX7_sum_27 rfl (lv_at hl 3 rfl) ?_
    obtain ⟨r10, h9, hf⟩ := bd_s hf
    refine cl_V0 C hw hS (tX7_manyOn l A D cy st sz sh d8 x0 x1 x2 h9) cvX7_manyOn kw_1082 (pL_s hd8).1 ⟨Nat.le_of_ble_eq_true rfl, Nat.le_of_ble_eq_true rfl⟩ hl.1 rfl (Nat.le_of_ble_eq_true rfl) dX7_sum_28 ⟨Nat.zero_le _, Nat.zero_le _⟩ (fun H locs hw hS => ?_)
    cases hf
    exact rt_i C hw hS dX7_sum_31
  · have hf := if_f c_5 hf
    refine lv_iload_n hx hb dX7_sum_13 rfl (lv_at hl 0 rfl) ?_
    cases hf
    exact rt_i C hw hS dX7_sum_14

set_option maxRecDepth 100000 in
set_option maxHeartbeats 4000000 in
theorem tX7_sum (l : Launch) (A : Nat → Prop) (D : va_G) (cy : Nat → ClassId) (st : Nat → Nat) (sz : Nat) (sh : Sh) (d : Dt) (x0 : Nat) (x1 : Int32) (x2 : Int32) {r : Int32} {d9 : Dt} (hf : fX7_sum sh d x0 x1 x2 = some (r, d9)) : Ct l yX7_sum cX7_sum 4 (some .int) 3 71 0 0 A D cy st [.ref x0, .int x1, .int x2] sz sh d (some (.int r)) sz sh d9 := ct_of (by decide) (Nat.le_of_ble_eq_true rfl) (fun p e s m args below meth c C hw hS ls hl => wX7_sum_b0 C x0 x1 x2 d hf hw hS hl)
theorem dX7_mean_0 : decode cX7_mean 0 = .ok (.aload_n 0, 1) := by decide +kernel
theorem dX7_mean_1 : decode cX7_mean 1 = .ok (.iconst 1, 1) := by decide +kernel
theorem dX7_mean_2 : decode cX7_mean 2 = .ok (.iload_n 1, 1) := by decide +kernel
theorem dX7_mean_3 : decode cX7_mean 3 = .ok (.iload_n 2, 1) := by decide +kernel
theorem dX7_mean_4 : decode cX7_mean 4 = .ok (.iconst 2, 1) := by decide +kernel
theorem dX7_mean_5 : decode cX7_mean 5 = .ok (.invokevirtual 198, 3) := by decide +kernel
theorem dX7_mean_8 : decode cX7_mean 8 = .ok (.istore_n 3, 1) := by decide +kernel
theorem dX7_mean_9 : decode cX7_mean 9 = .ok (.iload_n 3, 1) := by decide +kernel
theorem dX7_mean_10 : decode cX7_mean 10 = .ok (.ifCond .ge 5, 3) := by decide +kernel
theorem dX7_mean_13 : decode cX7_mean 13 = .ok (.iload_n 3, 1) := by decide +kernel
theorem dX7_mean_14 : decode cX7_mean 14 = .ok (.ireturn, 1) := by decide +kernel
theorem dX7_mean_15 : decode cX7_mean 15 = .ok (.aload_n 0, 1) := by decide +kernel
theorem dX7_mean_16 : decode cX7_mean 16 = .ok (.iload_n 1, 1) := by decide +kernel
theorem dX7_mean_17 : decode cX7_mean 17 = .ok (.iload_n 2, 1) := by decide +kernel
theorem dX7_mean_18 : decode cX7_mean 18 = .ok (.invokevirtual 212, 3) := by decide +kernel
theorem dX7_mean_21 : decode cX7_mean 21 = .ok (.istore 4, 2) := by decide +kernel
theorem dX7_mean_23 : decode cX7_mean 23 = .ok (.iload 4, 2) := by decide +kernel
theorem dX7_mean_25 : decode cX7_mean 25 = .ok (.ifCond .ne 9, 3) := by decide +kernel
theorem dX7_mean_28 : decode cX7_mean 28 = .ok (.aload_n 0, 1) := by decide +kernel
theorem dX7_mean_29 : decode cX7_mean 29 = .ok (.iconst 4, 1) := by decide +kernel
theorem dX7_mean_30 : decode cX7_mean 30 = .ok (.invokevirtual 120, 3) := by decide +kernel
theorem dX7_mean_33 : decode cX7_mean 33 = .ok (.ireturn, 1) := by decide +kernel
theorem dX7_mean_34 : decode cX7_mean 34 = .ok (.aload_n 0, 1) := by decide +kernel
theorem dX7_mean_35 : decode cX7_mean 35 = .ok (.aload_n 0, 1) := by decide +kernel
theorem dX7_mean_36 : decode cX7_mean 36 = .ok (.iload_n 1, 1) := by decide +kernel
theorem dX7_mean_37 : decode cX7_mean 37 = .ok (.iload_n 2, 1) := by decide +kernel
theorem dX7_mean_38 : decode cX7_mean 38 = .ok (.invokevirtual 208, 3) := by decide +kernel
theorem dX7_mean_41 : decode cX7_mean 41 = .ok (.iload 4, 2) := by decide +kernel
theorem dX7_mean_43 : decode cX7_mean 43 = .ok (.i2l, 1) := by decide +kernel
theorem dX7_mean_44 : decode cX7_mean 44 = .ok (.ldiv, 1) := by decide +kernel
theorem dX7_mean_45 : decode cX7_mean 45 = .ok (.putfield 204, 3) := by decide +kernel
theorem dX7_mean_48 : decode cX7_mean 48 = .ok (.iconst 1, 1) := by decide +kernel
theorem dX7_mean_49 : decode cX7_mean 49 = .ok (.ireturn, 1) := by decide +kernel
theorem cvX7_mean : CV yX7_mean cX7_mean 5 (some .int) 8 2 := ⟨kw_1087, kw_1088, kw_6, kw_1089, ⟨_, _, rfl⟩, by decide, by decide +kernel, by decide +kernel, by decide +kernel⟩
def fX7_mean_b0 (sh : Sh) (x0 : Nat) (x1 : Int32) (x2 : Int32) (d : Dt) : Option (Int32 × Dt) := bd (kc sh 9 x0) fun _ => bd2 (fX7_need sh d x0 (1 : Int32) x1 x2 (2 : Int32)) fun r3 d4 => if 0 ≤ r3 then (bd (fX7_manyOn sh d4 x0 x1 x2) fun r7 => if r7 = 0 then (bd2 (fX7_meets sh d4 x0 (4 : Int32)) fun r14 d15 => some (r14, d15)) else (bd (fX7_sumOf sh d4 x0 x1 x2) fun r10 => if r7.toInt64 = 0 then none else bd (pL sh d4 9 306 x0 (r10 / r7.toInt64)) fun d11 => some ((1 : Int32), d11))) else (some (r3, d4))

def fX7_mean (sh : Sh) (d : Dt) (x0 : Nat) (x1 : Int32) (x2 : Int32) : Option (Int32 × Dt) := fX7_mean_b0 sh x0 x1 x2 d

set_option maxRecDepth 100000 in
set_option maxHeartbeats 4000000 in
theorem wX7_mean_b0 (C : mx p s m args meth c yX7_mean cX7_mean 5 (some .int) A D cy st) {r : Int32} {d9 : Dt} : ∀ (x0 : Nat) (x1 : Int32) (x2 : Int32) (d : Dt), fX7_mean_b0 sh x0 x1 x2 d = some (r, d9) → ∀ {H : Heap} {locs : List Loc} {ls : Array Slot}, HW A D cy sz sh d H → va_S A s.heap H locs → lv_has ls 5 [(0, .ref x0), (1, .int x1), (2, .int x2)] → GL p l e s m args below meth c 3 71 A D cy (some (.int r)) sz sh d9 H locs 0 ls [] := by
  have hx := C.1
  have hb := C.2.1
  intro x0 x1 x2 d hf H locs ls hw hS hl
  unfold fX7_mean_b0 at hf
  refine lv_aload_n hx hb dX7_mean_0 rfl (lv_at hl 0 rfl) ?_
  refine lv_iconst (v := 1) hx hb dX7_mean_1 (by decide) ?_
  refine lv_iload_n hx hb dX7_mean_2 rfl (lv_at hl 1 rfl) ?_
  refine lv_iload_n hx hb dX7_mean_3 rfl (lv_at hl 2 rfl) ?_
  refine lv_iconst (v := 2) hx hb dX7_mean_4 (by decide) ?_
  obtain ⟨_, h1, hf⟩ := bd_s hf
  obtain ⟨r3, d4, h2, hf⟩ := bd2_s hf
  refine cl_V0 C hw hS (tX7_need l A D cy st sz sh d x0 (1 : Int32) x1 x2 (2 : Int32) h2) cvX7_need kw_1066 (kc_k h1) ⟨Nat.le_of_ble_eq_true rfl, Nat.le_of_ble_eq_true rfl⟩ hl.1 rfl (Nat.le_of_ble_eq_true rfl) dX7_mean_5 ⟨Nat.zero_le _, Nat.zero_le _⟩ (fun H locs hw hS => ?_)
  refine lv_istore_n (lv' := [(3, .int r3), (0, .ref x0), (1, .int x1), (2, .int x2)]) hx hb dX7_mean_8 rfl hl (by decide) rfl (fun ls hl => ?_)
  refine lv_iload_n hx hb dX7_mean_9 rfl (lv_at hl 0 rfl) ?_
  refine lv_if_ge (tgt := 15) hx hb dX7_mean_10 (by decide) (fun c_5 => ?_) (fun c_5 => ?_)
  · have hf := if_t c_5 hf
    refine lv_aload_n hx hb dX7_mean_15 rfl (lv_at hl 1 rfl) ?_
    refine lv_iload_n hx hb dX7_mean_16 rfl (lv_at hl 2 rfl) ?_
    refine lv_iload_n hx hb dX7_mean_17 rfl (lv_at hl 3 rfl) ?_
    obtain ⟨r7, h6, hf⟩ := bd_s hf
    refine cl_V0 C hw hS (tX7_manyOn l A D cy st sz sh d4 x0 x1 x2 h6) cvX7_manyOn kw_1082 (kc_k h1) ⟨Nat.le_of_ble_eq_true rfl, Nat.le_of_ble_eq_true rfl⟩ hl.1 rfl (Nat.le_of_ble_eq_true rfl) dX7_mean_18 ⟨Nat.zero_le _, Nat.zero_le _⟩ (fun H locs hw hS => ?_)
    refine lv_istore (lv' := [(4, .int r7), (3, .int r3), (0, .ref x0), (1, .int x1), (2, .int x2)]) hx hb dX7_mean_21 hl (by decide) rfl (fun ls hl => ?_)
    refine lv_iload hx hb dX7_mean_23 (lv_at hl 0 rfl) ?_
    refine lv_if_ne (tgt := 34) hx hb dX7_mean_25 (by decide) (fun c_8 => ?_) (fun c_8 => ?_)
    · have hf := if_f c_8 hf
      refine lv_aload_n hx hb dX7_mean_34 rfl (lv_at hl 2 rfl) ?_
      refine lv_aload_n hx hb dX7_mean_35 rfl (lv_at hl 2 rfl) ?_
      refine lv_iload_n hx hb dX7_mean_36 rfl (lv_at hl 3 rfl) ?_
      refine lv_iload_n hx hb dX7_mean_37 rfl (lv_at hl 4 rfl) ?_
      obtain ⟨r10, h9, hf⟩ := bd_s hf
      refine cl_V0 C hw hS (tX7_sumOf l A D cy st sz sh d4 x0 x1 x2 h9) cvX7_sumOf kw_1078 (kc_k h1) ⟨Nat.le_of_ble_eq_true rfl, Nat.le_of_ble_eq_true rfl⟩ hl.1 rfl (Nat.le_of_ble_eq_true rfl) dX7_mean_38 ⟨Nat.zero_le _, Nat.zero_le _⟩ (fun H locs hw hS => ?_)
      refine lv_iload hx hb dX7_mean_41 (lv_at hl 0 rfl) ?_
      refine lv_i2l hx hb dX7_mean_43 rfl ?_
      by_cases c_12 : r7.toInt64 = 0
      · exact absurd (if_t c_12 hf) (by simp)
      have hf := if_f c_12 hf
      refine lv_ldiv hx hb dX7_mean_44 c_12 ?_
      obtain ⟨d11, hd11, hf⟩ := bd_s hf
      refine pt_306 C hw hS hd11 kw_815 dX7_mean_45 (fun H locs hw hS => ?_)
      refine lv_iconst (v := 1) hx hb dX7_mean_48 (by decide) ?_
      cases hf
      exact rt_i C hw hS dX7_mean_49
    · have hf := if_t c_8 hf
      refine lv_aload_n hx hb dX7_mean_28 rfl (lv_at hl 2 rfl) ?_
      refine lv_iconst (v := 4) hx hb dX7_mean_29 (by decide) ?_
      obtain ⟨r14, d15, h13, hf⟩ := bd2_s hf
      refine cl_V0 C hw hS (tX7_meets l A D cy st sz sh d4 x0 (4 : Int32) h13) cvX7_meets kw_940 (kc_k h1) ⟨Nat.le_of_ble_eq_true rfl, Nat.le_of_ble_eq_true rfl⟩ hl.1 rfl (Nat.le_of_ble_eq_true rfl) dX7_mean_30 ⟨Nat.zero_le _, Nat.zero_le _⟩ (fun H locs hw hS => ?_)
      cases hf
      exact rt_i C hw hS dX7_mean_33
  · have hf := if_f c_5 hf
    refine lv_iload_n hx hb dX7_mean_13 rfl (lv_at hl 0 rfl) ?_
    cases hf
    exact rt_i C hw hS dX7_mean_14

set_option maxRecDepth 100000 in
set_option maxHeartbeats 4000000 in
theorem tX7_mean (l : Launch) (A : Nat → Prop) (D : va_G) (cy : Nat → ClassId) (st : Nat → Nat) (sz : Nat) (sh : Sh) (d : Dt) (x0 : Nat) (x1 : Int32) (x2 : Int32) {r : Int32} {d9 : Dt} (hf : fX7_mean sh d x0 x1 x2 = some (r, d9)) : Ct l yX7_mean cX7_mean 5 (some .int) 3 71 0 0 A D cy st [.ref x0, .int x1, .int x2] sz sh d (some (.int r)) sz sh d9 := ct_of (by decide) (Nat.le_of_ble_eq_true rfl) (fun p e s m args below meth c C hw hS ls hl => wX7_mean_b0 C x0 x1 x2 d hf hw hS hl)
theorem dX7_often_0 : decode cX7_often 0 = .ok (.aload_n 0, 1) := by decide +kernel
theorem dX7_often_1 : decode cX7_often 1 = .ok (.iload_n 3, 1) := by decide +kernel
theorem dX7_often_2 : decode cX7_often 2 = .ok (.iconst 0, 1) := by decide +kernel
theorem dX7_often_3 : decode cX7_often 3 = .ok (.bipush 63, 2) := by decide +kernel
theorem dX7_often_5 : decode cX7_often 5 = .ok (.invokestatic 82, 3) := by decide +kernel
theorem dX7_often_8 : decode cX7_often 8 = .ok (.iload_n 1, 1) := by decide +kernel
theorem dX7_often_9 : decode cX7_often 9 = .ok (.iload_n 2, 1) := by decide +kernel
theorem dX7_often_10 : decode cX7_often 10 = .ok (.iconst 3, 1) := by decide +kernel
theorem dX7_often_11 : decode cX7_often 11 = .ok (.invokevirtual 198, 3) := by decide +kernel
theorem dX7_often_14 : decode cX7_often 14 = .ok (.istore 4, 2) := by decide +kernel
theorem dX7_often_16 : decode cX7_often 16 = .ok (.iload 4, 2) := by decide +kernel
theorem dX7_often_18 : decode cX7_often 18 = .ok (.ifCond .ge 8, 3) := by decide +kernel
theorem dX7_often_21 : decode cX7_often 21 = .ok (.iload 4, 2) := by decide +kernel
theorem dX7_often_23 : decode cX7_often 23 = .ok (.goto 10, 3) := by decide +kernel
theorem dX7_often_26 : decode cX7_often 26 = .ok (.aload_n 0, 1) := by decide +kernel
theorem dX7_often_27 : decode cX7_often 27 = .ok (.iload_n 1, 1) := by decide +kernel
theorem dX7_often_28 : decode cX7_often 28 = .ok (.iload_n 2, 1) := by decide +kernel
theorem dX7_often_29 : decode cX7_often 29 = .ok (.iload_n 3, 1) := by decide +kernel
theorem dX7_often_30 : decode cX7_often 30 = .ok (.invokevirtual 142, 3) := by decide +kernel
theorem dX7_often_33 : decode cX7_often 33 = .ok (.ireturn, 1) := by decide +kernel
theorem cvX7_often : CV yX7_often cX7_often 5 (some .int) 8 3 := ⟨kw_1091, kw_1092, kw_6, kw_1093, ⟨_, _, rfl⟩, by decide, by decide +kernel, by decide +kernel, by decide +kernel⟩
def fX7_often_b0 (sh : Sh) (x0 : Nat) (x1 : Int32) (x2 : Int32) (x3 : Int32) (d : Dt) : Option (Int32 × Dt) := bd (fX7_in sh d x3 (0 : Int32) (63 : Int32)) fun r2 => bd (kc sh 9 x0) fun _ => bd2 (fX7_need sh d x0 (bI r2) x1 x2 (3 : Int32)) fun r5 d6 => if 0 ≤ r5 then (bd (fX7_countIn sh d6 x0 x1 x2 x3) fun r9 => some (r9, d6)) else (some (r5, d6))

def fX7_often (sh : Sh) (d : Dt) (x0 : Nat) (x1 : Int32) (x2 : Int32) (x3 : Int32) : Option (Int32 × Dt) := fX7_often_b0 sh x0 x1 x2 x3 d

set_option maxRecDepth 100000 in
set_option maxHeartbeats 4000000 in
theorem wX7_often_b0 (C : mx p s m args meth c yX7_often cX7_often 5 (some .int) A D cy st) {r : Int32} {d9 : Dt} : ∀ (x0 : Nat) (x1 : Int32) (x2 : Int32) (x3 : Int32) (d : Dt), fX7_often_b0 sh x0 x1 x2 x3 d = some (r, d9) → ∀ {H : Heap} {locs : List Loc} {ls : Array Slot}, HW A D cy sz sh d H → va_S A s.heap H locs → lv_has ls 5 [(0, .ref x0), (1, .int x1), (2, .int x2), (3, .int x3)] → GL p l e s m args below meth c 3 73 A D cy (some (.int r)) sz sh d9 H locs 0 ls [] := by
  have hx := C.1
  have hb := C.2.1
  intro x0 x1 x2 x3 d hf H locs ls hw hS hl
  unfold fX7_often_b0 at hf
  refine lv_aload_n hx hb dX7_often_0 rfl (lv_at hl 0 rfl) ?_
  refine lv_iload_n hx hb dX7_often_1 rfl (lv_at hl 3 rfl) ?_
  refine lv_iconst (v := 0) hx hb dX7_often_2 (by decide) ?_
  refine lv_bipush (v := 63) hx hb dX7_often_3 (by decide) ?_
  obtain ⟨r2, h1, hf⟩ := bd_s hf
  refine cl_S0 C hw hS (tX7_in l A D cy st sz sh d x3 (0 : Int32) (63 : Int32) h1) csX7_in kw_890 ⟨Nat.le_of_ble_eq_true rfl, Nat.le_of_ble_eq_true rfl⟩ hl.1 rfl (Nat.le_of_ble_eq_true rfl) dX7_often_5 ⟨Nat.zero_le _, Nat.zero_le _⟩ (fun H locs hw hS => ?_)
  refine lv_iload_n hx hb dX7_often_8 rfl (lv_at hl 1 rfl) ?_
  refine lv_iload_n hx hb dX7_often_9 rfl (lv_at hl 2 rfl) ?_
  refine lv_iconst (v := 3) hx hb dX7_often_10 (by decide) ?_
  obtain ⟨_, h3, hf⟩ := bd_s hf
  obtain ⟨r5, d6, h4, hf⟩ := bd2_s hf
  refine cl_V0 C hw hS (tX7_need l A D cy st sz sh d x0 (bI r2) x1 x2 (3 : Int32) h4) cvX7_need kw_1066 (kc_k h3) ⟨Nat.le_of_ble_eq_true rfl, Nat.le_of_ble_eq_true rfl⟩ hl.1 rfl (Nat.le_of_ble_eq_true rfl) dX7_often_11 ⟨Nat.zero_le _, Nat.zero_le _⟩ (fun H locs hw hS => ?_)
  refine lv_istore (lv' := [(4, .int r5), (0, .ref x0), (1, .int x1), (2, .int x2), (3, .int x3)]) hx hb dX7_often_14 hl (by decide) rfl (fun ls hl => ?_)
  refine lv_iload hx hb dX7_often_16 (lv_at hl 0 rfl) ?_
  refine lv_if_ge (tgt := 26) hx hb dX7_often_18 (by decide) (fun c_7 => ?_) (fun c_7 => ?_)
  · have hf := if_t c_7 hf
    refine lv_aload_n hx hb dX7_often_26 rfl (lv_at hl 1 rfl) ?_
    refine lv_iload_n hx hb dX7_often_27 rfl (lv_at hl 2 rfl) ?_
    refine lv_iload_n hx hb dX7_often_28 rfl (lv_at hl 3 rfl) ?_
    refine lv_iload_n hx hb dX7_often_29 rfl (lv_at hl 4 rfl) ?_
    obtain ⟨r9, h8, hf⟩ := bd_s hf
    refine cl_V0 C hw hS (tX7_countIn l A D cy st sz sh d6 x0 x1 x2 x3 h8) cvX7_countIn kw_971 (kc_k h3) ⟨Nat.le_of_ble_eq_true rfl, Nat.le_of_ble_eq_true rfl⟩ hl.1 rfl (Nat.le_of_ble_eq_true rfl) dX7_often_30 ⟨Nat.zero_le _, Nat.zero_le _⟩ (fun H locs hw hS => ?_)
    cases hf
    exact rt_i C hw hS dX7_often_33
  · have hf := if_f c_7 hf
    refine lv_iload hx hb dX7_often_21 (lv_at hl 0 rfl) ?_
    refine lv_goto (tgt := 33) hx hb dX7_often_23 (by decide) ?_
    cases hf
    exact rt_i C hw hS dX7_often_33

set_option maxRecDepth 100000 in
set_option maxHeartbeats 4000000 in
theorem tX7_often (l : Launch) (A : Nat → Prop) (D : va_G) (cy : Nat → ClassId) (st : Nat → Nat) (sz : Nat) (sh : Sh) (d : Dt) (x0 : Nat) (x1 : Int32) (x2 : Int32) (x3 : Int32) {r : Int32} {d9 : Dt} (hf : fX7_often sh d x0 x1 x2 x3 = some (r, d9)) : Ct l yX7_often cX7_often 5 (some .int) 3 73 0 0 A D cy st [.ref x0, .int x1, .int x2, .int x3] sz sh d (some (.int r)) sz sh d9 := ct_of (by decide) (Nat.le_of_ble_eq_true rfl) (fun p e s m args below meth c C hw hS ls hl => wX7_often_b0 C x0 x1 x2 x3 d hf hw hS hl)
theorem dX7_inside_0 : decode cX7_inside 0 = .ok (.aload_n 0, 1) := by decide +kernel
theorem dX7_inside_1 : decode cX7_inside 1 = .ok (.iconst 1, 1) := by decide +kernel
theorem dX7_inside_2 : decode cX7_inside 2 = .ok (.iload_n 1, 1) := by decide +kernel
theorem dX7_inside_3 : decode cX7_inside 3 = .ok (.iload_n 2, 1) := by decide +kernel
theorem dX7_inside_4 : decode cX7_inside 4 = .ok (.iconst 3, 1) := by decide +kernel
theorem dX7_inside_5 : decode cX7_inside 5 = .ok (.invokevirtual 198, 3) := by decide +kernel
theorem dX7_inside_8 : decode cX7_inside 8 = .ok (.istore 4, 2) := by decide +kernel
theorem dX7_inside_10 : decode cX7_inside 10 = .ok (.iload 4, 2) := by decide +kernel
theorem dX7_inside_12 : decode cX7_inside 12 = .ok (.ifCond .ge 6, 3) := by decide +kernel
theorem dX7_inside_15 : decode cX7_inside 15 = .ok (.iload 4, 2) := by decide +kernel
theorem dX7_inside_17 : decode cX7_inside 17 = .ok (.ireturn, 1) := by decide +kernel
theorem dX7_inside_18 : decode cX7_inside 18 = .ok (.iload_n 3, 1) := by decide +kernel
theorem dX7_inside_19 : decode cX7_inside 19 = .ok (.istore 5, 2) := by decide +kernel
theorem dX7_inside_21 : decode cX7_inside 21 = .ok (.iconst 0, 1) := by decide +kernel
theorem dX7_inside_22 : decode cX7_inside 22 = .ok (.istore 6, 2) := by decide +kernel
theorem dX7_inside_24 : decode cX7_inside 24 = .ok (.iload 6, 2) := by decide +kernel
theorem dX7_inside_26 : decode cX7_inside 26 = .ok (.bipush 64, 2) := by decide +kernel
theorem dX7_inside_28 : decode cX7_inside 28 = .ok (.if_icmp .ge 35, 3) := by decide +kernel
theorem dX7_inside_31 : decode cX7_inside 31 = .ok (.iload_n 3, 1) := by decide +kernel
theorem dX7_inside_32 : decode cX7_inside 32 = .ok (.ifCond .lt 31, 3) := by decide +kernel
theorem dX7_inside_35 : decode cX7_inside 35 = .ok (.aload_n 0, 1) := by decide +kernel
theorem dX7_inside_36 : decode cX7_inside 36 = .ok (.iload_n 1, 1) := by decide +kernel
theorem dX7_inside_37 : decode cX7_inside 37 = .ok (.iload_n 2, 1) := by decide +kernel
theorem dX7_inside_38 : decode cX7_inside 38 = .ok (.iload 6, 2) := by decide +kernel
theorem dX7_inside_40 : decode cX7_inside 40 = .ok (.invokevirtual 142, 3) := by decide +kernel
theorem dX7_inside_43 : decode cX7_inside 43 = .ok (.ifCond .le 14, 3) := by decide +kernel
theorem dX7_inside_46 : decode cX7_inside 46 = .ok (.iload 5, 2) := by decide +kernel
theorem dX7_inside_48 : decode cX7_inside 48 = .ok (.ifCond .ne 6, 3) := by decide +kernel
theorem dX7_inside_51 : decode cX7_inside 51 = .ok (.iload 6, 2) := by decide +kernel
theorem dX7_inside_53 : decode cX7_inside 53 = .ok (.ireturn, 1) := by decide +kernel
theorem dX7_inside_54 : decode cX7_inside 54 = .ok (.iinc 5 (-1), 3) := by decide +kernel
theorem dX7_inside_57 : decode cX7_inside 57 = .ok (.iinc 6 1, 3) := by decide +kernel
theorem dX7_inside_60 : decode cX7_inside 60 = .ok (.goto (-36), 3) := by decide +kernel
theorem dX7_inside_63 : decode cX7_inside 63 = .ok (.aload_n 0, 1) := by decide +kernel
theorem dX7_inside_64 : decode cX7_inside 64 = .ok (.iconst 2, 1) := by decide +kernel
theorem dX7_inside_65 : decode cX7_inside 65 = .ok (.invokevirtual 120, 3) := by decide +kernel
theorem dX7_inside_68 : decode cX7_inside 68 = .ok (.ireturn, 1) := by decide +kernel
theorem cvX7_inside : CV yX7_inside cX7_inside 7 (some .int) 8 3 := ⟨kw_1095, kw_1096, kw_6, kw_1097, ⟨_, _, rfl⟩, by decide, by decide +kernel, by decide +kernel, by decide +kernel⟩
def fX7_inside_b63 (sh : Sh) (x0 : Nat) (d : Dt) : Option (Int32 × Dt) := bd (kc sh 9 x0) fun _ => bd2 (fX7_meets sh d x0 (2 : Int32)) fun r3 d4 => some (r3, d4)

def fX7_inside_b24 (sh : Sh) : Nat → Nat → Int32 → Int32 → Int32 → Int32 → Int32 → Dt → Option (Int32 × Dt)
  | 0, _, _, _, _, _, _, _ => none
  | n + 1, x0, x1, x2, x3, x5, x6, d => if (64 : Int32) ≤ x6 then (fX7_inside_b63 sh x0 d) else (if x3 < 0 then (fX7_inside_b63 sh x0 d) else (bd (kc sh 9 x0) fun _ => bd (fX7_countIn sh d x0 x1 x2 x6) fun r5 => if r5 ≤ 0 then (fX7_inside_b24 sh n x0 x1 x2 x3 x5 (x6 + 1) d) else (if x5 = 0 then (some (x6, d)) else (fX7_inside_b24 sh n x0 x1 x2 x3 (x5 + -1) (x6 + 1) d))))

def fX7_inside_b0 (sh : Sh) (x0 : Nat) (x1 : Int32) (x2 : Int32) (x3 : Int32) (d : Dt) : Option (Int32 × Dt) := bd (kc sh 9 x0) fun _ => bd2 (fX7_need sh d x0 (1 : Int32) x1 x2 (3 : Int32)) fun r3 d4 => if 0 ≤ r3 then (fX7_inside_b24 sh fu x0 x1 x2 x3 x3 (0 : Int32) d4) else (some (r3, d4))

def fX7_inside (sh : Sh) (d : Dt) (x0 : Nat) (x1 : Int32) (x2 : Int32) (x3 : Int32) : Option (Int32 × Dt) := fX7_inside_b0 sh x0 x1 x2 x3 d

set_option maxRecDepth 100000 in
set_option maxHeartbeats 4000000 in
theorem wX7_inside_b63 (C : mx p s m args meth c yX7_inside cX7_inside 7 (some .int) A D cy st) {r : Int32} {d9 : Dt} : ∀ (x0 : Nat) (d : Dt), fX7_inside_b63 sh x0 d = some (r, d9) → ∀ {H : Heap} {locs : List Loc} {ls : Array Slot}, HW A D cy sz sh d H → va_S A s.heap H locs → lv_has ls 7 [(0, .ref x0)] → GL p l e s m args below meth c 3 73 A D cy (some (.int r)) sz sh d9 H locs 63 ls [] := by
  have hx := C.1
  have hb := C.2.1
  intro x0 d hf H locs ls hw hS hl
  unfold fX7_inside_b63 at hf
  refine lv_aload_n hx hb dX7_inside_63 rfl (lv_at hl 0 rfl) ?_
  refine lv_iconst (v := 2) hx hb dX7_inside_64 (by decide) ?_
  obtain ⟨_, h1, hf⟩ := bd_s hf
  obtain ⟨r3, d4, h2, hf⟩ := bd2_s hf
  refine cl_V0 C hw hS (tX7_meets l A D cy st sz sh d x0 (2 : Int32) h2) cvX7_meets kw_940 (kc_k h1) ⟨Nat.le_of_ble_eq_true rfl, Nat.le_of_ble_eq_true rfl⟩ hl.1 rfl (Nat.le_of_ble_eq_true rfl) dX7_inside_65 ⟨Nat.zero_le _, Nat.zero_le _⟩ (fun H locs hw hS => ?_)
  cases hf
  exact rt_i C hw hS dX7_inside_68

set_option maxRecDepth 100000 in
set_option maxHeartbeats 4000000 in
theorem wX7_inside_b24 (C : mx p s m args meth c yX7_inside cX7_inside 7 (some .int) A D cy st) {r : Int32} {d9 : Dt} : ∀ (n : Nat) (x0 : Nat) (x1 : Int32) (x2 : Int32) (x3 : Int32) (x5 : Int32) (x6 : Int32) (d : Dt), fX7_inside_b24 sh n x0 x1 x2 x3 x5 x6 d = some (r, d9) → ∀ {H : Heap} {locs : List Loc} {ls : Array Slot}, HW A D cy sz sh d H → va_S A s.heap H locs → lv_has ls 7 [(0, .ref x0), (1, .int x1), (2, .int x2), (3, .int x3), (5, .int x5), (6, .int x6)] → GL p l e s m args below meth c 3 73 A D cy (some (.int r)) sz sh d9 H locs 24 ls [] := by
  have hx := C.1
  have hb := C.2.1
  intro n
  induction n with
  | zero => intro x0 x1 x2 x3 x5 x6 d hf; cases hf
  | succ n ih =>
    intro x0 x1 x2 x3 x5 x6 d hf H locs ls hw hS hl
    rw [fX7_inside_b24] at hf
    refine lv_iload hx hb dX7_inside_24 (lv_at hl 5 rfl) ?_
    refine lv_bipush (v := 64) hx hb dX7_inside_26 (by decide) ?_
    refine lv_icmp_ge (tgt := 63) hx hb dX7_inside_28 (by decide) (fun c_1 => ?_) (fun c_1 => ?_)
    · have hf := if_t c_1 hf
      exact wX7_inside_b63 C x0 d hf hw hS (lv_sub hl [0] rfl)
    · have hf := if_f c_1 hf
      refine lv_iload_n hx hb dX7_inside_31 rfl (lv_at hl 3 rfl) ?_
      refine lv_if_lt (tgt := 63) hx hb dX7_inside_32 (by decide) (fun c_2 => ?_) (fun c_2 => ?_)
      · have hf := if_t c_2 hf
        exact wX7_inside_b63 C x0 d hf hw hS (lv_sub hl [0] rfl)
      · have hf := if_f c_2 hf
        refine lv_aload_n hx hb dX7_inside_35 rfl (lv_at hl 0 rfl) ?_
        refine lv_iload_n hx hb dX7_inside_36 rfl (lv_at hl 1 rfl) ?_
        refine lv_iload_n hx hb dX7_inside_37 rfl (lv_at hl 2 rfl) ?_
        refine lv_iload hx hb dX7_inside_38 (lv_at hl 5 rfl) ?_
        obtain ⟨_, h3, hf⟩ := bd_s hf
        obtain ⟨r5, h4, hf⟩ := bd_s hf
        refine cl_V0 C hw hS (tX7_countIn l A D cy st sz sh d x0 x1 x2 x6 h4) cvX7_countIn kw_971 (kc_k h3) ⟨Nat.le_of_ble_eq_true rfl, Nat.le_of_ble_eq_true rfl⟩ hl.1 rfl (Nat.le_of_ble_eq_true rfl) dX7_inside_40 ⟨Nat.zero_le _, Nat.zero_le _⟩ (fun H locs hw hS => ?_)
        refine lv_if_le (tgt := 57) hx hb dX7_inside_43 (by decide) (fun c_6 => ?_) (fun c_6 => ?_)
        · have hf := if_t c_6 hf
          refine lv_iinc (v := (x6 + 1)) (lv' := [(6, .int (x6 + 1)), (0, .ref x0), (1, .int x1), (2, .int x2), (3, .int x3), (5, .int x5)]) hx hb dX7_inside_57 hl (k := 5) rfl rfl (by decide) rfl (fun ls hl => ?_)
          refine lv_goto (tgt := 24) hx hb dX7_inside_60 (by decide) ?_
          exact ih x0 x1 x2 x3 x5 (x6 + 1) d hf hw hS (lv_sub hl [1, 2, 3, 4, 5, 0] rfl)
        · have hf := if_f c_6 hf
          refine lv_iload hx hb dX7_inside_46 (lv_at hl 4 rfl) ?_
          refine lv_if_ne (tgt := 54) hx hb dX7_inside_48 (by decide) (fun c_7 => ?_) (fun c_7 => ?_)
          · have hf := if_f c_7 hf
            refine lv_iinc (v := (x5 + -1)) (lv' := [(5, .int (x5 + -1)), (0, .ref x0), (1, .int x1), (2, .int x2), (3, .int x3), (6, .int x6)]) hx hb dX7_inside_54 hl (k := 4) rfl rfl (by decide) rfl (fun ls hl => ?_)
            refine lv_iinc (v := (x6 + 1)) (lv' := [(6, .int (x6 + 1)), (5, .int (x5 + -1)), (0, .ref x0), (1, .int x1), (2, .int x2), (3, .int x3)]) hx hb dX7_inside_57 hl (k := 5) rfl rfl (by decide) rfl (fun ls hl => ?_)
            refine lv_goto (tgt := 24) hx hb dX7_inside_60 (by decide) ?_
            exact ih x0 x1 x2 x3 (x5 + -1) (x6 + 1) d hf hw hS (lv_sub hl [2, 3, 4, 5, 1, 0] rfl)
          · have hf := if_t c_7 hf
            refine lv_iload hx hb dX7_inside_51 (lv_at hl 5 rfl) ?_
            cases hf
            exact rt_i C hw hS dX7_inside_53

set_option maxRecDepth 100000 in
set_option maxHeartbeats 4000000 in
theorem wX7_inside_b0 (C : mx p s m args meth c yX7_inside cX7_inside 7 (some .int) A D cy st) {r : Int32} {d9 : Dt} : ∀ (x0 : Nat) (x1 : Int32) (x2 : Int32) (x3 : Int32) (d : Dt), fX7_inside_b0 sh x0 x1 x2 x3 d = some (r, d9) → ∀ {H : Heap} {locs : List Loc} {ls : Array Slot}, HW A D cy sz sh d H → va_S A s.heap H locs → lv_has ls 7 [(0, .ref x0), (1, .int x1), (2, .int x2), (3, .int x3)] → GL p l e s m args below meth c 3 73 A D cy (some (.int r)) sz sh d9 H locs 0 ls [] := by
  have hx := C.1
  have hb := C.2.1
  intro x0 x1 x2 x3 d hf H locs ls hw hS hl
  unfold fX7_inside_b0 at hf
  refine lv_aload_n hx hb dX7_inside_0 rfl (lv_at hl 0 rfl) ?_
  refine lv_iconst (v := 1) hx hb dX7_inside_1 (by decide) ?_
  refine lv_iload_n hx hb dX7_inside_2 rfl (lv_at hl 1 rfl) ?_
  refine lv_iload_n hx hb dX7_inside_3 rfl (lv_at hl 2 rfl) ?_
  refine lv_iconst (v := 3) hx hb dX7_inside_4 (by decide) ?_
  obtain ⟨_, h1, hf⟩ := bd_s hf
  obtain ⟨r3, d4, h2, hf⟩ := bd2_s hf
  refine cl_V0 C hw hS (tX7_need l A D cy st sz sh d x0 (1 : Int32) x1 x2 (3 : Int32) h2) cvX7_need kw_1066 (kc_k h1) ⟨Nat.le_of_ble_eq_true rfl, Nat.le_of_ble_eq_true rfl⟩ hl.1 rfl (Nat.le_of_ble_eq_true rfl) dX7_inside_5 ⟨Nat.zero_le _, Nat.zero_le _⟩ (fun H locs hw hS => ?_)
  refine lv_istore (lv' := [(4, .int r3), (0, .ref x0), (1, .int x1), (2, .int x2), (3, .int x3)]) hx hb dX7_inside_8 hl (by decide) rfl (fun ls hl => ?_)
  refine lv_iload hx hb dX7_inside_10 (lv_at hl 0 rfl) ?_
  refine lv_if_ge (tgt := 18) hx hb dX7_inside_12 (by decide) (fun c_5 => ?_) (fun c_5 => ?_)
  · have hf := if_t c_5 hf
    refine lv_iload_n hx hb dX7_inside_18 rfl (lv_at hl 4 rfl) ?_
    refine lv_istore (lv' := [(5, .int x3), (4, .int r3), (0, .ref x0), (1, .int x1), (2, .int x2), (3, .int x3)]) hx hb dX7_inside_19 hl (by decide) rfl (fun ls hl => ?_)
    refine lv_iconst (v := 0) hx hb dX7_inside_21 (by decide) ?_
    refine lv_istore (lv' := [(6, .int (0 : Int32)), (5, .int x3), (4, .int r3), (0, .ref x0), (1, .int x1), (2, .int x2), (3, .int x3)]) hx hb dX7_inside_22 hl (by decide) rfl (fun ls hl => ?_)
    exact wX7_inside_b24 C fu x0 x1 x2 x3 x3 (0 : Int32) d4 hf hw hS (lv_sub hl [3, 4, 5, 6, 1, 0] rfl)
  · have hf := if_f c_5 hf
    refine lv_iload hx hb dX7_inside_15 (lv_at hl 0 rfl) ?_
    cases hf
    exact rt_i C hw hS dX7_inside_17

set_option maxRecDepth 100000 in
set_option maxHeartbeats 4000000 in
theorem tX7_inside (l : Launch) (A : Nat → Prop) (D : va_G) (cy : Nat → ClassId) (st : Nat → Nat) (sz : Nat) (sh : Sh) (d : Dt) (x0 : Nat) (x1 : Int32) (x2 : Int32) (x3 : Int32) {r : Int32} {d9 : Dt} (hf : fX7_inside sh d x0 x1 x2 x3 = some (r, d9)) : Ct l yX7_inside cX7_inside 7 (some .int) 3 73 0 0 A D cy st [.ref x0, .int x1, .int x2, .int x3] sz sh d (some (.int r)) sz sh d9 := ct_of (by decide) (Nat.le_of_ble_eq_true rfl) (fun p e s m args below meth c C hw hS ls hl => wX7_inside_b0 C x0 x1 x2 x3 d hf hw hS hl)
theorem dX7_heads_0 : decode cX7_heads 0 = .ok (.aload_n 0, 1) := by decide +kernel
theorem dX7_heads_1 : decode cX7_heads 1 = .ok (.iconst 1, 1) := by decide +kernel
theorem dX7_heads_2 : decode cX7_heads 2 = .ok (.iload_n 1, 1) := by decide +kernel
theorem dX7_heads_3 : decode cX7_heads 3 = .ok (.iload_n 2, 1) := by decide +kernel
theorem dX7_heads_4 : decode cX7_heads 4 = .ok (.iconst 4, 1) := by decide +kernel
theorem dX7_heads_5 : decode cX7_heads 5 = .ok (.invokevirtual 198, 3) := by decide +kernel
theorem dX7_heads_8 : decode cX7_heads 8 = .ok (.istore_n 3, 1) := by decide +kernel
theorem dX7_heads_9 : decode cX7_heads 9 = .ok (.iload_n 3, 1) := by decide +kernel
theorem dX7_heads_10 : decode cX7_heads 10 = .ok (.ifCond .ge 5, 3) := by decide +kernel
theorem dX7_heads_13 : decode cX7_heads 13 = .ok (.iload_n 3, 1) := by decide +kernel
theorem dX7_heads_14 : decode cX7_heads 14 = .ok (.ireturn, 1) := by decide +kernel
theorem dX7_heads_15 : decode cX7_heads 15 = .ok (.aload_n 0, 1) := by decide +kernel
theorem dX7_heads_16 : decode cX7_heads 16 = .ok (.iload_n 1, 1) := by decide +kernel
theorem dX7_heads_17 : decode cX7_heads 17 = .ok (.iload_n 2, 1) := by decide +kernel
theorem dX7_heads_18 : decode cX7_heads 18 = .ok (.invokevirtual 215, 3) := by decide +kernel
theorem dX7_heads_21 : decode cX7_heads 21 = .ok (.aload_n 0, 1) := by decide +kernel
theorem dX7_heads_22 : decode cX7_heads 22 = .ok (.getfield 189, 3) := by decide +kernel
theorem dX7_heads_25 : decode cX7_heads 25 = .ok (.ireturn, 1) := by decide +kernel
theorem cvX7_heads : CV yX7_heads cX7_heads 4 (some .int) 8 2 := ⟨kw_1099, kw_1100, kw_6, kw_1101, ⟨_, _, rfl⟩, by decide, by decide +kernel, by decide +kernel, by decide +kernel⟩
def fX7_heads_b0 (sh : Sh) (x0 : Nat) (x1 : Int32) (x2 : Int32) (d : Dt) : Option (Int32 × Dt) := bd (kc sh 9 x0) fun _ => bd2 (fX7_need sh d x0 (1 : Int32) x1 x2 (4 : Int32)) fun r3 d4 => if 0 ≤ r3 then (bd (fX7_layHeads sh d4 x0 x1 x2) fun d8 => bd (gI sh d8 9 308 x0) fun v9 => some (v9, d8)) else (some (r3, d4))

def fX7_heads (sh : Sh) (d : Dt) (x0 : Nat) (x1 : Int32) (x2 : Int32) : Option (Int32 × Dt) := fX7_heads_b0 sh x0 x1 x2 d

set_option maxRecDepth 100000 in
set_option maxHeartbeats 4000000 in
theorem wX7_heads_b0 (C : mx p s m args meth c yX7_heads cX7_heads 4 (some .int) A D cy st) {r : Int32} {d9 : Dt} : ∀ (x0 : Nat) (x1 : Int32) (x2 : Int32) (d : Dt), fX7_heads_b0 sh x0 x1 x2 d = some (r, d9) → ∀ {H : Heap} {locs : List Loc} {ls : Array Slot}, HW A D cy sz sh d H → va_S A s.heap H locs → lv_has ls 4 [(0, .ref x0), (1, .int x1), (2, .int x2)] → GL p l e s m args below meth c 4 96 A D cy (some (.int r)) sz sh d9 H locs 0 ls [] := by
  have hx := C.1
  have hb := C.2.1
  intro x0 x1 x2 d hf H locs ls hw hS hl
  unfold fX7_heads_b0 at hf
  refine lv_aload_n hx hb dX7_heads_0 rfl (lv_at hl 0 rfl) ?_
  refine lv_iconst (v := 1) hx hb dX7_heads_1 (by decide) ?_
  refine lv_iload_n hx hb dX7_heads_2 rfl (lv_at hl 1 rfl) ?_
  refine lv_iload_n hx hb dX7_heads_3 rfl (lv_at hl 2 rfl) ?_
  refine lv_iconst (v := 4) hx hb dX7_heads_4 (by decide) ?_
  obtain ⟨_, h1, hf⟩ := bd_s hf
  obtain ⟨r3, d4, h2, hf⟩ := bd2_s hf
  refine cl_V0 C hw hS (tX7_need l A D cy st sz sh d x0 (1 : Int32) x1 x2 (4 : Int32) h2) cvX7_need kw_1066 (kc_k h1) ⟨Nat.le_of_ble_eq_true rfl, Nat.le_of_ble_eq_true rfl⟩ hl.1 rfl (Nat.le_of_ble_eq_true rfl) dX7_heads_5 ⟨Nat.zero_le _, Nat.zero_le _⟩ (fun H locs hw hS => ?_)
  refine lv_istore_n (lv' := [(3, .int r3), (0, .ref x0), (1, .int x1), (2, .int x2)]) hx hb dX7_heads_8 rfl hl (by decide) rfl (fun ls hl => ?_)
  refine lv_iload_n hx hb dX7_heads_9 rfl (lv_at hl 0 rfl) ?_
  refine lv_if_ge (tgt := 15) hx hb dX7_heads_10 (by decide) (fun c_5 => ?_) (fun c_5 => ?_)
  · have hf := if_t c_5 hf
    refine lv_aload_n hx hb dX7_heads_15 rfl (lv_at hl 1 rfl) ?_
    refine lv_iload_n hx hb dX7_heads_16 rfl (lv_at hl 2 rfl) ?_
    refine lv_iload_n hx hb dX7_heads_17 rfl (lv_at hl 3 rfl) ?_
    obtain ⟨d8, h6, hf⟩ := bd_s hf
    refine cl_V0 C hw hS (tX7_layHeads l A D cy st sz sh d4 x0 x1 x2 h6) cvX7_layHeads kw_1102 (kc_k h1) ⟨Nat.le_of_ble_eq_true rfl, Nat.le_of_ble_eq_true rfl⟩ hl.1 rfl (Nat.le_of_ble_eq_true rfl) dX7_heads_18 ⟨Nat.zero_le _, Nat.zero_le _⟩ (fun H locs hw hS => ?_)
    refine lv_aload_n hx hb dX7_heads_21 rfl (lv_at hl 1 rfl) ?_
    obtain ⟨v9, hv9, hf⟩ := bd_s hf
    refine gt_308 C hw hv9 kw_817 dX7_heads_22 ?_
    cases hf
    exact rt_i C hw hS dX7_heads_25
  · have hf := if_f c_5 hf
    refine lv_iload_n hx hb dX7_heads_13 rfl (lv_at hl 0 rfl) ?_
    cases hf
    exact rt_i C hw hS dX7_heads_14

set_option maxRecDepth 100000 in
set_option maxHeartbeats 4000000 in
theorem tX7_heads (l : Launch) (A : Nat → Prop) (D : va_G) (cy : Nat → ClassId) (st : Nat → Nat) (sz : Nat) (sh : Sh) (d : Dt) (x0 : Nat) (x1 : Int32) (x2 : Int32) {r : Int32} {d9 : Dt} (hf : fX7_heads sh d x0 x1 x2 = some (r, d9)) : Ct l yX7_heads cX7_heads 4 (some .int) 4 96 0 0 A D cy st [.ref x0, .int x1, .int x2] sz sh d (some (.int r)) sz sh d9 := ct_of (by decide) (Nat.le_of_ble_eq_true rfl) (fun p e s m args below meth c C hw hS ls hl => wX7_heads_b0 C x0 x1 x2 d hf hw hS hl)
theorem dX7_head_0 : decode cX7_head 0 = .ok (.aload_n 0, 1) := by decide +kernel
theorem dX7_head_1 : decode cX7_head 1 = .ok (.iconst 1, 1) := by decide +kernel
theorem dX7_head_2 : decode cX7_head 2 = .ok (.iload_n 1, 1) := by decide +kernel
theorem dX7_head_3 : decode cX7_head 3 = .ok (.iload_n 2, 1) := by decide +kernel
theorem dX7_head_4 : decode cX7_head 4 = .ok (.iconst 4, 1) := by decide +kernel
theorem dX7_head_5 : decode cX7_head 5 = .ok (.invokevirtual 198, 3) := by decide +kernel
theorem dX7_head_8 : decode cX7_head 8 = .ok (.istore 4, 2) := by decide +kernel
theorem dX7_head_10 : decode cX7_head 10 = .ok (.iload 4, 2) := by decide +kernel
theorem dX7_head_12 : decode cX7_head 12 = .ok (.ifCond .ge 6, 3) := by decide +kernel
theorem dX7_head_15 : decode cX7_head 15 = .ok (.iload 4, 2) := by decide +kernel
theorem dX7_head_17 : decode cX7_head 17 = .ok (.ireturn, 1) := by decide +kernel
theorem dX7_head_18 : decode cX7_head 18 = .ok (.aload_n 0, 1) := by decide +kernel
theorem dX7_head_19 : decode cX7_head 19 = .ok (.iload_n 1, 1) := by decide +kernel
theorem dX7_head_20 : decode cX7_head 20 = .ok (.iload_n 2, 1) := by decide +kernel
theorem dX7_head_21 : decode cX7_head 21 = .ok (.invokevirtual 215, 3) := by decide +kernel
theorem dX7_head_24 : decode cX7_head 24 = .ok (.iload_n 3, 1) := by decide +kernel
theorem dX7_head_25 : decode cX7_head 25 = .ok (.iconst 0, 1) := by decide +kernel
theorem dX7_head_26 : decode cX7_head 26 = .ok (.aload_n 0, 1) := by decide +kernel
theorem dX7_head_27 : decode cX7_head 27 = .ok (.getfield 189, 3) := by decide +kernel
theorem dX7_head_30 : decode cX7_head 30 = .ok (.iconst 1, 1) := by decide +kernel
theorem dX7_head_31 : decode cX7_head 31 = .ok (.isub, 1) := by decide +kernel
theorem dX7_head_32 : decode cX7_head 32 = .ok (.invokestatic 82, 3) := by decide +kernel
theorem dX7_head_35 : decode cX7_head 35 = .ok (.ifCond .ne 9, 3) := by decide +kernel
theorem dX7_head_38 : decode cX7_head 38 = .ok (.aload_n 0, 1) := by decide +kernel
theorem dX7_head_39 : decode cX7_head 39 = .ok (.iconst 2, 1) := by decide +kernel
theorem dX7_head_40 : decode cX7_head 40 = .ok (.invokevirtual 120, 3) := by decide +kernel
theorem dX7_head_43 : decode cX7_head 43 = .ok (.ireturn, 1) := by decide +kernel
theorem dX7_head_44 : decode cX7_head 44 = .ok (.aload_n 0, 1) := by decide +kernel
theorem dX7_head_45 : decode cX7_head 45 = .ok (.aload_n 0, 1) := by decide +kernel
theorem dX7_head_46 : decode cX7_head 46 = .ok (.getfield 48, 3) := by decide +kernel
theorem dX7_head_49 : decode cX7_head 49 = .ok (.aload_n 0, 1) := by decide +kernel
theorem dX7_head_50 : decode cX7_head 50 = .ok (.getfield 54, 3) := by decide +kernel
theorem dX7_head_53 : decode cX7_head 53 = .ok (.iload_n 3, 1) := by decide +kernel
theorem dX7_head_54 : decode cX7_head 54 = .ok (.iaload, 1) := by decide +kernel
theorem dX7_head_55 : decode cX7_head 55 = .ok (.laload, 1) := by decide +kernel
theorem dX7_head_56 : decode cX7_head 56 = .ok (.putfield 204, 3) := by decide +kernel
theorem dX7_head_59 : decode cX7_head 59 = .ok (.aload_n 0, 1) := by decide +kernel
theorem dX7_head_60 : decode cX7_head 60 = .ok (.getfield 54, 3) := by decide +kernel
theorem dX7_head_63 : decode cX7_head 63 = .ok (.iload_n 3, 1) := by decide +kernel
theorem dX7_head_64 : decode cX7_head 64 = .ok (.iaload, 1) := by decide +kernel
theorem dX7_head_65 : decode cX7_head 65 = .ok (.ireturn, 1) := by decide +kernel
theorem cvX7_head : CV yX7_head cX7_head 5 (some .int) 8 3 := ⟨kw_1111, kw_1112, kw_6, kw_1113, ⟨_, _, rfl⟩, by decide, by decide +kernel, by decide +kernel, by decide +kernel⟩
def fX7_head_b0 (sh : Sh) (x0 : Nat) (x1 : Int32) (x2 : Int32) (x3 : Int32) (d : Dt) : Option (Int32 × Dt) := bd (kc sh 9 x0) fun _ => bd2 (fX7_need sh d x0 (1 : Int32) x1 x2 (4 : Int32)) fun r3 d4 => if 0 ≤ r3 then (bd (fX7_layHeads sh d4 x0 x1 x2) fun d8 => bd (gI sh d8 9 308 x0) fun v9 => bd (fX7_in sh d8 x3 (0 : Int32) (v9 - (1 : Int32))) fun r11 => if (bI r11) = 0 then (bd2 (fX7_meets sh d8 x0 (2 : Int32)) fun r24 d25 => some (r24, d25)) else (bd (gR sh d8 9 304 x0) fun v13 => bd (gR sh d8 9 307 x0) fun v14 => bd v14 fun a15 => bd (aI sh d8 20 a15 x3) fun v16 => bd v13 fun a17 => bd (aL sh d8 21 a17 v16) fun v18 => bd (pL sh d8 9 306 x0 v18) fun d19 => bd (gR sh d19 9 307 x0) fun v20 => bd v20 fun a21 => bd (aI sh d19 20 a21 x3) fun v22 => some (v22, d19))) else (some (r3, d4))

def fX7_head (sh : Sh) (d : Dt) (x0 : Nat) (x1 : Int32) (x2 : Int32) (x3 : Int32) : Option (Int32 × Dt) := fX7_head_b0 sh x0 x1 x2 x3 d

set_option maxRecDepth 100000 in
set_option maxHeartbeats 4000000 in
theorem wX7_head_b0 (C : mx p s m args meth c yX7_head cX7_head 5 (some .int) A D cy st) {r : Int32} {d9 : Dt} : ∀ (x0 : Nat) (x1 : Int32) (x2 : Int32) (x3 : Int32) (d : Dt), fX7_head_b0 sh x0 x1 x2 x3 d = some (r, d9) → ∀ {H : Heap} {locs : List Loc} {ls : Array Slot}, HW A D cy sz sh d H → va_S A s.heap H locs → lv_has ls 5 [(0, .ref x0), (1, .int x1), (2, .int x2), (3, .int x3)] → GL p l e s m args below meth c 4 96 A D cy (some (.int r)) sz sh d9 H locs 0 ls [] := by
  have hx := C.1
  have hb := C.2.1
  intro x0 x1 x2 x3 d hf H locs ls hw hS hl
  unfold fX7_head_b0 at hf
  refine lv_aload_n hx hb dX7_head_0 rfl (lv_at hl 0 rfl) ?_
  refine lv_iconst (v := 1) hx hb dX7_head_1 (by decide) ?_
  refine lv_iload_n hx hb dX7_head_2 rfl (lv_at hl 1 rfl) ?_
  refine lv_iload_n hx hb dX7_head_3 rfl (lv_at hl 2 rfl) ?_
  refine lv_iconst (v := 4) hx hb dX7_head_4 (by decide) ?_
  obtain ⟨_, h1, hf⟩ := bd_s hf
  obtain ⟨r3, d4, h2, hf⟩ := bd2_s hf
  refine cl_V0 C hw hS (tX7_need l A D cy st sz sh d x0 (1 : Int32) x1 x2 (4 : Int32) h2) cvX7_need kw_1066 (kc_k h1) ⟨Nat.le_of_ble_eq_true rfl, Nat.le_of_ble_eq_true rfl⟩ hl.1 rfl (Nat.le_of_ble_eq_true rfl) dX7_head_5 ⟨Nat.zero_le _, Nat.zero_le _⟩ (fun H locs hw hS => ?_)
  refine lv_istore (lv' := [(4, .int r3), (0, .ref x0), (1, .int x1), (2, .int x2), (3, .int x3)]) hx hb dX7_head_8 hl (by decide) rfl (fun ls hl => ?_)
  refine lv_iload hx hb dX7_head_10 (lv_at hl 0 rfl) ?_
  refine lv_if_ge (tgt := 18) hx hb dX7_head_12 (by decide) (fun c_5 => ?_) (fun c_5 => ?_)
  · have hf := if_t c_5 hf
    refine lv_aload_n hx hb dX7_head_18 rfl (lv_at hl 1 rfl) ?_
    refine lv_iload_n hx hb dX7_head_19 rfl (lv_at hl 2 rfl) ?_
    refine lv_iload_n hx hb dX7_head_20 rfl (lv_at hl 3 rfl) ?_
    obtain ⟨d8, h6, hf⟩ := bd_s hf
    refine cl_V0 C hw hS (tX7_layHeads l A D cy st sz sh d4 x0 x1 x2 h6) cvX7_layHeads kw_1102 (kc_k h1) ⟨Nat.le_of_ble_eq_true rfl, Nat.le_of_ble_eq_true rfl⟩ hl.1 rfl (Nat.le_of_ble_eq_true rfl) dX7_head_21 ⟨Nat.zero_le _, Nat.zero_le _⟩ (fun H locs hw hS => ?_)
    refine lv_iload_n hx hb dX7_head_24 rfl (lv_at hl 4 rfl) ?_
    refine lv_iconst (v := 0) hx hb dX7_head_25 (by decide) ?_
    refine lv_aload_n hx hb dX7_head_26 rfl (lv_at hl 1 rfl) ?_
    obtain ⟨v9, hv9, hf⟩ := bd_s hf
    refine gt_308 C hw hv9 kw_817 dX7_head_27 ?_
    refine lv_iconst (v := 1) hx hb dX7_head_30 (by decide) ?_
    refine lv_isub hx hb dX7_head_31 ?_
    obtain ⟨r11, h10, hf⟩ := bd_s hf
    refine cl_S0 C hw hS (tX7_in l A D cy st sz sh d8 x3 (0 : Int32) (v9 - (1 : Int32)) h10) csX7_in kw_890 ⟨Nat.le_of_ble_eq_true rfl, Nat.le_of_ble_eq_true rfl⟩ hl.1 rfl (Nat.le_of_ble_eq_true rfl) dX7_head_32 ⟨Nat.zero_le _, Nat.zero_le _⟩ (fun H locs hw hS => ?_)
    refine lv_if_ne (tgt := 44) hx hb dX7_head_35 (by decide) (fun c_12 => ?_) (fun c_12 => ?_)
    · have hf := if_f c_12 hf
      refine lv_aload_n hx hb dX7_head_44 rfl (lv_at hl 1 rfl) ?_
      refine lv_aload_n hx hb dX7_head_45 rfl (lv_at hl 1 rfl) ?_
      obtain ⟨v13, hv13, hf⟩ := bd_s hf
      refine gt_304 C hw hv13 kw_813 dX7_head_46 ?_
      refine lv_aload_n hx hb dX7_head_49 rfl (lv_at hl 1 rfl) ?_
      obtain ⟨v14, hv14, hf⟩ := bd_s hf
      refine gt_307 C hw hv14 kw_816 dX7_head_50 ?_
      refine lv_iload_n hx hb dX7_head_53 rfl (lv_at hl 4 rfl) ?_
      obtain ⟨a15, ea15, hg⟩ := bd_s hf
      clear hf
      subst ea15
      have hf := hg
      clear hg
      obtain ⟨v16, hv16, hf⟩ := bd_s hf
      refine w_iald C hw hv16 dX7_head_54 ?_
      obtain ⟨a17, ea17, hg⟩ := bd_s hf
      clear hf
      subst ea17
      have hf := hg
      clear hg
      obtain ⟨v18, hv18, hf⟩ := bd_s hf
      refine w_lald C hw hv18 dX7_head_55 ?_
      obtain ⟨d19, hd19, hf⟩ := bd_s hf
      refine pt_306 C hw hS hd19 kw_815 dX7_head_56 (fun H locs hw hS => ?_)
      refine lv_aload_n hx hb dX7_head_59 rfl (lv_at hl 1 rfl) ?_
      obtain ⟨v20, hv20, hf⟩ := bd_s hf
      refine gt_307 C hw hv20 kw_816 dX7_head_60 ?_
      refine lv_iload_n hx hb dX7_head_63 rfl (lv_at hl 4 rfl) ?_
      obtain ⟨a21, ea21, hg⟩ := bd_s hf
      clear hf
      subst ea21
      have hf := hg
      clear hg
      obtain ⟨v22, hv22, hf⟩ := bd_s hf
      refine w_iald C hw hv22 dX7_head_64 ?_
      cases hf
      exact rt_i C hw hS dX7_head_65
    · have hf := if_t c_12 hf
      refine lv_aload_n hx hb dX7_head_38 rfl (lv_at hl 1 rfl) ?_
      refine lv_iconst (v := 2) hx hb dX7_head_39 (by decide) ?_
      obtain ⟨r24, d25, h23, hf⟩ := bd2_s hf
      refine cl_V0 C hw hS (tX7_meets l A D cy st sz sh d8 x0 (2 : Int32) h23) cvX7_meets kw_940 (gI_s hv9).1 ⟨Nat.le_of_ble_eq_true rfl, Nat.le_of_ble_eq_true rfl⟩ hl.1 rfl (Nat.le_of_ble_eq_true rfl) dX7_head_40 ⟨Nat.zero_le _, Nat.zero_le _⟩ (fun H locs hw hS => ?_)
      cases hf
      exact rt_i C hw hS dX7_head_43
  · have hf := if_f c_5 hf
    refine lv_iload hx hb dX7_head_15 (lv_at hl 0 rfl) ?_
    cases hf
    exact rt_i C hw hS dX7_head_17

set_option maxRecDepth 100000 in
set_option maxHeartbeats 4000000 in
theorem tX7_head (l : Launch) (A : Nat → Prop) (D : va_G) (cy : Nat → ClassId) (st : Nat → Nat) (sz : Nat) (sh : Sh) (d : Dt) (x0 : Nat) (x1 : Int32) (x2 : Int32) (x3 : Int32) {r : Int32} {d9 : Dt} (hf : fX7_head sh d x0 x1 x2 x3 = some (r, d9)) : Ct l yX7_head cX7_head 5 (some .int) 4 96 0 0 A D cy st [.ref x0, .int x1, .int x2, .int x3] sz sh d (some (.int r)) sz sh d9 := ct_of (by decide) (Nat.le_of_ble_eq_true rfl) (fun p e s m args below meth c C hw hS ls hl => wX7_head_b0 C x0 x1 x2 x3 d hf hw hS hl)
theorem dX7_rights_0 : decode cX7_rights 0 = .ok (.aload_n 0, 1) := by decide +kernel
theorem dX7_rights_1 : decode cX7_rights 1 = .ok (.aload_n 0, 1) := by decide +kernel
theorem dX7_rights_2 : decode cX7_rights 2 = .ok (.iload_n 3, 1) := by decide +kernel
theorem dX7_rights_3 : decode cX7_rights 3 = .ok (.invokevirtual 109, 3) := by decide +kernel
theorem dX7_rights_6 : decode cX7_rights 6 = .ok (.iload_n 1, 1) := by decide +kernel
theorem dX7_rights_7 : decode cX7_rights 7 = .ok (.iload_n 2, 1) := by decide +kernel
theorem dX7_rights_8 : decode cX7_rights 8 = .ok (.iconst 5, 1) := by decide +kernel
theorem dX7_rights_9 : decode cX7_rights 9 = .ok (.invokevirtual 198, 3) := by decide +kernel
theorem dX7_rights_12 : decode cX7_rights 12 = .ok (.istore 4, 2) := by decide +kernel
theorem dX7_rights_14 : decode cX7_rights 14 = .ok (.iload 4, 2) := by decide +kernel
theorem dX7_rights_16 : decode cX7_rights 16 = .ok (.ifCond .ge 6, 3) := by decide +kernel
theorem dX7_rights_19 : decode cX7_rights 19 = .ok (.iload 4, 2) := by decide +kernel
theorem dX7_rights_21 : decode cX7_rights 21 = .ok (.ireturn, 1) := by decide +kernel
theorem dX7_rights_22 : decode cX7_rights 22 = .ok (.aload_n 0, 1) := by decide +kernel
theorem dX7_rights_23 : decode cX7_rights 23 = .ok (.aload_n 0, 1) := by decide +kernel
theorem dX7_rights_24 : decode cX7_rights 24 = .ok (.iload_n 1, 1) := by decide +kernel
theorem dX7_rights_25 : decode cX7_rights 25 = .ok (.iload_n 2, 1) := by decide +kernel
theorem dX7_rights_26 : decode cX7_rights 26 = .ok (.iload_n 3, 1) := by decide +kernel
theorem dX7_rights_27 : decode cX7_rights 27 = .ok (.invokevirtual 147, 3) := by decide +kernel
theorem dX7_rights_30 : decode cX7_rights 30 = .ok (.putfield 204, 3) := by decide +kernel
theorem dX7_rights_33 : decode cX7_rights 33 = .ok (.iconst 1, 1) := by decide +kernel
theorem dX7_rights_34 : decode cX7_rights 34 = .ok (.ireturn, 1) := by decide +kernel
theorem cvX7_rights : CV yX7_rights cX7_rights 5 (some .int) 8 3 := ⟨kw_1115, kw_1116, kw_6, kw_1117, ⟨_, _, rfl⟩, by decide, by decide +kernel, by decide +kernel, by decide +kernel⟩
def fX7_rights_b0 (sh : Sh) (x0 : Nat) (x1 : Int32) (x2 : Int32) (x3 : Int32) (d : Dt) : Option (Int32 × Dt) := bd (kc sh 9 x0) fun _ => bd (fX7_isHand sh d x0 x3) fun r3 => bd2 (fX7_need sh d x0 (bI r3) x1 x2 (5 : Int32)) fun r5 d6 => if 0 ≤ r5 then (bd (fX7_rightsOf sh d6 x0 x1 x2 x3) fun r9 => bd (pL sh d6 9 306 x0 r9) fun d10 => some ((1 : Int32), d10)) else (some (r5, d6))

def fX7_rights (sh : Sh) (d : Dt) (x0 : Nat) (x1 : Int32) (x2 : Int32) (x3 : Int32) : Option (Int32 × Dt) := fX7_rights_b0 sh x0 x1 x2 x3 d

set_option maxRecDepth 100000 in
set_option maxHeartbeats 4000000 in
theorem wX7_rights_b0 (C : mx p s m args meth c yX7_rights cX7_rights 5 (some .int) A D cy st) {r : Int32} {d9 : Dt} : ∀ (x0 : Nat) (x1 : Int32) (x2 : Int32) (x3 : Int32) (d : Dt), fX7_rights_b0 sh x0 x1 x2 x3 d = some (r, d9) → ∀ {H : Heap} {locs : List Loc} {ls : Array Slot}, HW A D cy sz sh d H → va_S A s.heap H locs → lv_has ls 5 [(0, .ref x0), (1, .int x1), (2, .int x2), (3, .int x3)] → GL p l e s m args below meth c 3 70 A D cy (some (.int r)) sz sh d9 H locs 0 ls [] := by
  have hx := C.1
  have hb := C.2.1
  intro x0 x1 x2 x3 d hf H locs ls hw hS hl
  unfold fX7_rights_b0 at hf
  refine lv_aload_n hx hb dX7_rights_0 rfl (lv_at hl 0 rfl) ?_
  refine lv_aload_n hx hb dX7_rights_1 rfl (lv_at hl 0 rfl) ?_
  refine lv_iload_n hx hb dX7_rights_2 rfl (lv_at hl 3 rfl) ?_
  obtain ⟨_, h1, hf⟩ := bd_s hf
  obtain ⟨r3, h2, hf⟩ := bd_s hf
  refine cl_V0 C hw hS (tX7_isHand l A D cy st sz sh d x0 x3 h2) cvX7_isHand kw_917 (kc_k h1) ⟨Nat.le_of_ble_eq_true rfl, Nat.le_of_ble_eq_true rfl⟩ hl.1 rfl (Nat.le_of_ble_eq_true rfl) dX7_rights_3 ⟨Nat.zero_le _, Nat.zero_le _⟩ (fun H locs hw hS => ?_)
  refine lv_iload_n hx hb dX7_rights_6 rfl (lv_at hl 1 rfl) ?_
  refine lv_iload_n hx hb dX7_rights_7 rfl (lv_at hl 2 rfl) ?_
  refine lv_iconst (v := 5) hx hb dX7_rights_8 (by decide) ?_
  obtain ⟨r5, d6, h4, hf⟩ := bd2_s hf
  refine cl_V0 C hw hS (tX7_need l A D cy st sz sh d x0 (bI r3) x1 x2 (5 : Int32) h4) cvX7_need kw_1066 (kc_k h1) ⟨Nat.le_of_ble_eq_true rfl, Nat.le_of_ble_eq_true rfl⟩ hl.1 rfl (Nat.le_of_ble_eq_true rfl) dX7_rights_9 ⟨Nat.zero_le _, Nat.zero_le _⟩ (fun H locs hw hS => ?_)
  refine lv_istore (lv' := [(4, .int r5), (0, .ref x0), (1, .int x1), (2, .int x2), (3, .int x3)]) hx hb dX7_rights_12 hl (by decide) rfl (fun ls hl => ?_)
  refine lv_iload hx hb dX7_rights_14 (lv_at hl 0 rfl) ?_
  refine lv_if_ge (tgt := 22) hx hb dX7_rights_16 (by decide) (fun c_7 => ?_) (fun c_7 => ?_)
  · have hf := if_t c_7 hf
    refine lv_aload_n hx hb dX7_rights_22 rfl (lv_at hl 1 rfl) ?_
    refine lv_aload_n hx hb dX7_rights_23 rfl (lv_at hl 1 rfl) ?_
    refine lv_iload_n hx hb dX7_rights_24 rfl (lv_at hl 2 rfl) ?_
    refine lv_iload_n hx hb dX7_rights_25 rfl (lv_at hl 3 rfl) ?_
    refine lv_iload_n hx hb dX7_rights_26 rfl (lv_at hl 4 rfl) ?_
    obtain ⟨r9, h8, hf⟩ := bd_s hf
    refine cl_V0 C hw hS (tX7_rightsOf l A D cy st sz sh d6 x0 x1 x2 x3 h8) cvX7_rightsOf kw_983 (kc_k h1) ⟨Nat.le_of_ble_eq_true rfl, Nat.le_of_ble_eq_true rfl⟩ hl.1 rfl (Nat.le_of_ble_eq_true rfl) dX7_rights_27 ⟨Nat.zero_le _, Nat.zero_le _⟩ (fun H locs hw hS => ?_)
    obtain ⟨d10, hd10, hf⟩ := bd_s hf
    refine pt_306 C hw hS hd10 kw_815 dX7_rights_30 (fun H locs hw hS => ?_)
    refine lv_iconst (v := 1) hx hb dX7_rights_33 (by decide) ?_
    cases hf
    exact rt_i C hw hS dX7_rights_34
  · have hf := if_f c_7 hf
    refine lv_iload hx hb dX7_rights_19 (lv_at hl 0 rfl) ?_
    cases hf
    exact rt_i C hw hS dX7_rights_21

set_option maxRecDepth 100000 in
set_option maxHeartbeats 4000000 in
theorem tX7_rights (l : Launch) (A : Nat → Prop) (D : va_G) (cy : Nat → ClassId) (st : Nat → Nat) (sz : Nat) (sh : Sh) (d : Dt) (x0 : Nat) (x1 : Int32) (x2 : Int32) (x3 : Int32) {r : Int32} {d9 : Dt} (hf : fX7_rights sh d x0 x1 x2 x3 = some (r, d9)) : Ct l yX7_rights cX7_rights 5 (some .int) 3 70 0 0 A D cy st [.ref x0, .int x1, .int x2, .int x3] sz sh d (some (.int r)) sz sh d9 := ct_of (by decide) (Nat.le_of_ble_eq_true rfl) (fun p e s m args below meth c C hw hS ls hl => wX7_rights_b0 C x0 x1 x2 x3 d hf hw hS hl)
theorem dX7_up_0 : decode cX7_up 0 = .ok (.aload_n 0, 1) := by decide +kernel
theorem dX7_up_1 : decode cX7_up 1 = .ok (.iconst 1, 1) := by decide +kernel
theorem dX7_up_2 : decode cX7_up 2 = .ok (.iload_n 1, 1) := by decide +kernel
theorem dX7_up_3 : decode cX7_up 3 = .ok (.iload_n 2, 1) := by decide +kernel
theorem dX7_up_4 : decode cX7_up 4 = .ok (.bipush 6, 2) := by decide +kernel
theorem dX7_up_6 : decode cX7_up 6 = .ok (.invokevirtual 198, 3) := by decide +kernel
theorem dX7_up_9 : decode cX7_up 9 = .ok (.istore_n 3, 1) := by decide +kernel
theorem dX7_up_10 : decode cX7_up 10 = .ok (.iload_n 3, 1) := by decide +kernel
theorem dX7_up_11 : decode cX7_up 11 = .ok (.ifCond .ge 7, 3) := by decide +kernel
theorem dX7_up_14 : decode cX7_up 14 = .ok (.iload_n 3, 1) := by decide +kernel
theorem dX7_up_15 : decode cX7_up 15 = .ok (.goto 17, 3) := by decide +kernel
theorem dX7_up_18 : decode cX7_up 18 = .ok (.aload_n 0, 1) := by decide +kernel
theorem dX7_up_19 : decode cX7_up 19 = .ok (.iload_n 1, 1) := by decide +kernel
theorem dX7_up_20 : decode cX7_up 20 = .ok (.iload_n 2, 1) := by decide +kernel
theorem dX7_up_21 : decode cX7_up 21 = .ok (.invokevirtual 219, 3) := by decide +kernel
theorem dX7_up_24 : decode cX7_up 24 = .ok (.ifCond .eq 7, 3) := by decide +kernel
theorem dX7_up_27 : decode cX7_up 27 = .ok (.iconst 1, 1) := by decide +kernel
theorem dX7_up_28 : decode cX7_up 28 = .ok (.goto 4, 3) := by decide +kernel
theorem dX7_up_31 : decode cX7_up 31 = .ok (.iconst 0, 1) := by decide +kernel
theorem dX7_up_32 : decode cX7_up 32 = .ok (.ireturn, 1) := by decide +kernel
theorem cvX7_up : CV yX7_up cX7_up 4 (some .int) 8 2 := ⟨kw_1119, kw_1120, kw_6, kw_1121, ⟨_, _, rfl⟩, by decide, by decide +kernel, by decide +kernel, by decide +kernel⟩
def fX7_up_b0 (sh : Sh) (x0 : Nat) (x1 : Int32) (x2 : Int32) (d : Dt) : Option (Int32 × Dt) := bd (kc sh 9 x0) fun _ => bd2 (fX7_need sh d x0 (1 : Int32) x1 x2 (6 : Int32)) fun r3 d4 => if 0 ≤ r3 then (bd (fX7_isUp sh d4 x0 x1 x2) fun r7 => if (bI r7) = 0 then (some ((0 : Int32), d4)) else (some ((1 : Int32), d4))) else (some (r3, d4))

def fX7_up (sh : Sh) (d : Dt) (x0 : Nat) (x1 : Int32) (x2 : Int32) : Option (Int32 × Dt) := fX7_up_b0 sh x0 x1 x2 d

set_option maxRecDepth 100000 in
set_option maxHeartbeats 4000000 in
theorem wX7_up_b0 (C : mx p s m args meth c yX7_up cX7_up 4 (some .int) A D cy st) {r : Int32} {d9 : Dt} : ∀ (x0 : Nat) (x1 : Int32) (x2 : Int32) (d : Dt), fX7_up_b0 sh x0 x1 x2 d = some (r, d9) → ∀ {H : Heap} {locs : List Loc} {ls : Array Slot}, HW A D cy sz sh d H → va_S A s.heap H locs → lv_has ls 4 [(0, .ref x0), (1, .int x1), (2, .int x2)] → GL p l e s m args below meth c 4 98 A D cy (some (.int r)) sz sh d9 H locs 0 ls [] := by
  have hx := C.1
  have hb := C.2.1
  intro x0 x1 x2 d hf H locs ls hw hS hl
  unfold fX7_up_b0 at hf
  refine lv_aload_n hx hb dX7_up_0 rfl (lv_at hl 0 rfl) ?_
  refine lv_iconst (v := 1) hx hb dX7_up_1 (by decide) ?_
  refine lv_iload_n hx hb dX7_up_2 rfl (lv_at hl 1 rfl) ?_
  refine lv_iload_n hx hb dX7_up_3 rfl (lv_at hl 2 rfl) ?_
  refine lv_bipush (v := 6) hx hb dX7_up_4 (by decide) ?_
  obtain ⟨_, h1, hf⟩ := bd_s hf
  obtain ⟨r3, d4, h2, hf⟩ := bd2_s hf
  refine cl_V0 C hw hS (tX7_need l A D cy st sz sh d x0 (1 : Int32) x1 x2 (6 : Int32) h2) cvX7_need kw_1066 (kc_k h1) ⟨Nat.le_of_ble_eq_true rfl, Nat.le_of_ble_eq_true rfl⟩ hl.1 rfl (Nat.le_of_ble_eq_true rfl) dX7_up_6 ⟨Nat.zero_le _, Nat.zero_le _⟩ (fun H locs hw hS => ?_)
  refine lv_istore_n (lv' := [(3, .int r3), (0, .ref x0), (1, .int x1), (2, .int x2)]) hx hb dX7_up_9 rfl hl (by decide) rfl (fun ls hl => ?_)
  refine lv_iload_n hx hb dX7_up_10 rfl (lv_at hl 0 rfl) ?_
  refine lv_if_ge (tgt := 18) hx hb dX7_up_11 (by decide) (fun c_5 => ?_) (fun c_5 => ?_)
  · have hf := if_t c_5 hf
    refine lv_aload_n hx hb dX7_up_18 rfl (lv_at hl 1 rfl) ?_
    refine lv_iload_n hx hb dX7_up_19 rfl (lv_at hl 2 rfl) ?_
    refine lv_iload_n hx hb dX7_up_20 rfl (lv_at hl 3 rfl) ?_
    obtain ⟨r7, h6, hf⟩ := bd_s hf
    refine cl_V0 C hw hS (tX7_isUp l A D cy st sz sh d4 x0 x1 x2 h6) cvX7_isUp kw_1122 (kc_k h1) ⟨Nat.le_of_ble_eq_true rfl, Nat.le_of_ble_eq_true rfl⟩ hl.1 rfl (Nat.le_of_ble_eq_true rfl) dX7_up_21 ⟨Nat.zero_le _, Nat.zero_le _⟩ (fun H locs hw hS => ?_)
    refine lv_if_eq (tgt := 31) hx hb dX7_up_24 (by decide) (fun c_8 => ?_) (fun c_8 => ?_)
    · have hf := if_t c_8 hf
      refine lv_iconst (v := 0) hx hb dX7_up_31 (by decide) ?_
      cases hf
      exact rt_i C hw hS dX7_up_32
    · have hf := if_f c_8 hf
      refine lv_iconst (v := 1) hx hb dX7_up_27 (by decide) ?_
      refine lv_goto (tgt := 32) hx hb dX7_up_28 (by decide) ?_
      cases hf
      exact rt_i C hw hS dX7_up_32
  · have hf := if_f c_5 hf
    refine lv_iload_n hx hb dX7_up_14 rfl (lv_at hl 0 rfl) ?_
    refine lv_goto (tgt := 32) hx hb dX7_up_15 (by decide) ?_
    cases hf
    exact rt_i C hw hS dX7_up_32

set_option maxRecDepth 100000 in
set_option maxHeartbeats 4000000 in
theorem tX7_up (l : Launch) (A : Nat → Prop) (D : va_G) (cy : Nat → ClassId) (st : Nat → Nat) (sz : Nat) (sh : Sh) (d : Dt) (x0 : Nat) (x1 : Int32) (x2 : Int32) {r : Int32} {d9 : Dt} (hf : fX7_up sh d x0 x1 x2 = some (r, d9)) : Ct l yX7_up cX7_up 4 (some .int) 4 98 0 0 A D cy st [.ref x0, .int x1, .int x2] sz sh d (some (.int r)) sz sh d9 := ct_of (by decide) (Nat.le_of_ble_eq_true rfl) (fun p e s m args below meth c C hw hS ls hl => wX7_up_b0 C x0 x1 x2 d hf hw hS hl)
theorem dX7_lay_0 : decode cX7_lay 0 = .ok (.aload_n 0, 1) := by decide +kernel
theorem dX7_lay_1 : decode cX7_lay 1 = .ok (.getfield 27, 3) := by decide +kernel
theorem dX7_lay_4 : decode cX7_lay 4 = .ok (.iload_n 2, 1) := by decide +kernel
theorem dX7_lay_5 : decode cX7_lay 5 = .ok (.iaload, 1) := by decide +kernel
theorem dX7_lay_6 : decode cX7_lay 6 = .ok (.tableswitch 236 0 5 #[38, 38, 138, 204, 38, 138], 38) := by decide +kernel
theorem dX7_lay_44 : decode cX7_lay 44 = .ok (.aload_n 0, 1) := by decide +kernel
theorem dX7_lay_45 : decode cX7_lay 45 = .ok (.iload_n 1, 1) := by decide +kernel
theorem dX7_lay_46 : decode cX7_lay 46 = .ok (.iload_n 2, 1) := by decide +kernel
theorem dX7_lay_47 : decode cX7_lay 47 = .ok (.invokevirtual 201, 3) := by decide +kernel
theorem dX7_lay_50 : decode cX7_lay 50 = .ok (.istore 4, 2) := by decide +kernel
theorem dX7_lay_52 : decode cX7_lay 52 = .ok (.aload_n 3, 1) := by decide +kernel
theorem dX7_lay_53 : decode cX7_lay 53 = .ok (.iconst 0, 1) := by decide +kernel
theorem dX7_lay_54 : decode cX7_lay 54 = .ok (.iload 4, 2) := by decide +kernel
theorem dX7_lay_56 : decode cX7_lay 56 = .ok (.i2l, 1) := by decide +kernel
theorem dX7_lay_57 : decode cX7_lay 57 = .ok (.lastore, 1) := by decide +kernel
theorem dX7_lay_58 : decode cX7_lay 58 = .ok (.aload_n 3, 1) := by decide +kernel
theorem dX7_lay_59 : decode cX7_lay 59 = .ok (.iconst 1, 1) := by decide +kernel
theorem dX7_lay_60 : decode cX7_lay 60 = .ok (.iload 4, 2) := by decide +kernel
theorem dX7_lay_62 : decode cX7_lay 62 = .ok (.bipush (-9), 2) := by decide +kernel
theorem dX7_lay_64 : decode cX7_lay 64 = .ok (.if_icmp .ne 7, 3) := by decide +kernel
theorem dX7_lay_67 : decode cX7_lay 67 = .ok (.lconst 0, 1) := by decide +kernel
theorem dX7_lay_68 : decode cX7_lay 68 = .ok (.goto 10, 3) := by decide +kernel
theorem dX7_lay_71 : decode cX7_lay 71 = .ok (.aload_n 0, 1) := by decide +kernel
theorem dX7_lay_72 : decode cX7_lay 72 = .ok (.getfield 48, 3) := by decide +kernel
theorem dX7_lay_75 : decode cX7_lay 75 = .ok (.iload 4, 2) := by decide +kernel
theorem dX7_lay_77 : decode cX7_lay 77 = .ok (.laload, 1) := by decide +kernel
theorem dX7_lay_78 : decode cX7_lay 78 = .ok (.lastore, 1) := by decide +kernel
theorem dX7_lay_79 : decode cX7_lay 79 = .ok (.aload_n 0, 1) := by decide +kernel
theorem dX7_lay_80 : decode cX7_lay 80 = .ok (.getfield 27, 3) := by decide +kernel
theorem dX7_lay_83 : decode cX7_lay 83 = .ok (.iload_n 2, 1) := by decide +kernel
theorem dX7_lay_84 : decode cX7_lay 84 = .ok (.iaload, 1) := by decide +kernel
theorem dX7_lay_85 : decode cX7_lay 85 = .ok (.iconst 4, 1) := by decide +kernel
theorem dX7_lay_86 : decode cX7_lay 86 = .ok (.if_icmp .eq 5, 3) := by decide +kernel
theorem dX7_lay_89 : decode cX7_lay 89 = .ok (.iconst 2, 1) := by decide +kernel
theorem dX7_lay_90 : decode cX7_lay 90 = .ok (.ireturn, 1) := by decide +kernel
theorem dX7_lay_91 : decode cX7_lay 91 = .ok (.aload_n 0, 1) := by decide +kernel
theorem dX7_lay_92 : decode cX7_lay 92 = .ok (.iload_n 1, 1) := by decide +kernel
theorem dX7_lay_93 : decode cX7_lay 93 = .ok (.iload_n 2, 1) := by decide +kernel
theorem dX7_lay_94 : decode cX7_lay 94 = .ok (.invokevirtual 215, 3) := by decide +kernel
theorem dX7_lay_97 : decode cX7_lay 97 = .ok (.aload_n 3, 1) := by decide +kernel
theorem dX7_lay_98 : decode cX7_lay 98 = .ok (.iconst 2, 1) := by decide +kernel
theorem dX7_lay_99 : decode cX7_lay 99 = .ok (.aload_n 0, 1) := by decide +kernel
theorem dX7_lay_100 : decode cX7_lay 100 = .ok (.getfield 189, 3) := by decide +kernel
theorem dX7_lay_103 : decode cX7_lay 103 = .ok (.i2l, 1) := by decide +kernel
theorem dX7_lay_104 : decode cX7_lay 104 = .ok (.lastore, 1) := by decide +kernel
theorem dX7_lay_105 : decode cX7_lay 105 = .ok (.iconst 0, 1) := by decide +kernel
theorem dX7_lay_106 : decode cX7_lay 106 = .ok (.istore 5, 2) := by decide +kernel
theorem dX7_lay_108 : decode cX7_lay 108 = .ok (.iload 5, 2) := by decide +kernel
theorem dX7_lay_110 : decode cX7_lay 110 = .ok (.aload_n 0, 1) := by decide +kernel
theorem dX7_lay_111 : decode cX7_lay 111 = .ok (.getfield 189, 3) := by decide +kernel
theorem dX7_lay_114 : decode cX7_lay 114 = .ok (.if_icmp .ge 23, 3) := by decide +kernel
theorem dX7_lay_117 : decode cX7_lay 117 = .ok (.aload_n 3, 1) := by decide +kernel
theorem dX7_lay_118 : decode cX7_lay 118 = .ok (.iload 5, 2) := by decide +kernel
theorem dX7_lay_120 : decode cX7_lay 120 = .ok (.iconst 3, 1) := by decide +kernel
theorem dX7_lay_121 : decode cX7_lay 121 = .ok (.iadd, 1) := by decide +kernel
theorem dX7_lay_122 : decode cX7_lay 122 = .ok (.aload_n 0, 1) := by decide +kernel
theorem dX7_lay_123 : decode cX7_lay 123 = .ok (.getfield 54, 3) := by decide +kernel
theorem dX7_lay_126 : decode cX7_lay 126 = .ok (.iload 5, 2) := by decide +kernel
theorem dX7_lay_128 : decode cX7_lay 128 = .ok (.iaload, 1) := by decide +kernel
theorem dX7_lay_129 : decode cX7_lay 129 = .ok (.i2l, 1) := by decide +kernel
theorem dX7_lay_130 : decode cX7_lay 130 = .ok (.lastore, 1) := by decide +kernel
theorem dX7_lay_131 : decode cX7_lay 131 = .ok (.iinc 5 1, 3) := by decide +kernel
theorem dX7_lay_134 : decode cX7_lay 134 = .ok (.goto (-26), 3) := by decide +kernel
theorem dX7_lay_137 : decode cX7_lay 137 = .ok (.aload_n 0, 1) := by decide +kernel
theorem dX7_lay_138 : decode cX7_lay 138 = .ok (.getfield 189, 3) := by decide +kernel
theorem dX7_lay_141 : decode cX7_lay 141 = .ok (.iconst 3, 1) := by decide +kernel
theorem dX7_lay_142 : decode cX7_lay 142 = .ok (.iadd, 1) := by decide +kernel
theorem dX7_lay_143 : decode cX7_lay 143 = .ok (.ireturn, 1) := by decide +kernel
theorem dX7_lay_144 : decode cX7_lay 144 = .ok (.aload_n 3, 1) := by decide +kernel
theorem dX7_lay_145 : decode cX7_lay 145 = .ok (.iconst 0, 1) := by decide +kernel
theorem dX7_lay_146 : decode cX7_lay 146 = .ok (.aload_n 0, 1) := by decide +kernel
theorem dX7_lay_147 : decode cX7_lay 147 = .ok (.iload_n 1, 1) := by decide +kernel
theorem dX7_lay_148 : decode cX7_lay 148 = .ok (.iload_n 2, 1) := by decide +kernel
theorem dX7_lay_149 : decode cX7_lay 149 = .ok (.invokevirtual 208, 3) := by decide +kernel
theorem dX7_lay_152 : decode cX7_lay 152 = .ok (.lastore, 1) := by decide +kernel
theorem dX7_lay_153 : decode cX7_lay 153 = .ok (.aload_n 3, 1) := by decide +kernel
theorem dX7_lay_154 : decode cX7_lay 154 = .ok (.iconst 1, 1) := by decide +kernel
theorem dX7_lay_155 : decode cX7_lay 155 = .ok (.aload_n 0, 1) := by decide +kernel
theorem dX7_lay_156 : decode cX7_lay 156 = .ok (.iload_n 1, 1) := by decide +kernel
theorem dX7_lay_157 : decode cX7_lay 157 = .ok (.iload_n 2, 1) := by decide +kernel
theorem dX7_lay_158 : decode cX7_lay 158 = .ok (.invokevirtual 212, 3) := by decide +kernel
theorem dX7_lay_161 : decode cX7_lay 161 = .ok (.i2l, 1) := by decide +kernel
theorem dX7_lay_162 : decode cX7_lay 162 = .ok (.lastore, 1) := by decide +kernel
theorem dX7_lay_163 : decode cX7_lay 163 = .ok (.iconst 0, 1) := by decide +kernel
theorem dX7_lay_164 : decode cX7_lay 164 = .ok (.istore 4, 2) := by decide +kernel
theorem dX7_lay_166 : decode cX7_lay 166 = .ok (.iload 4, 2) := by decide +kernel
theorem dX7_lay_168 : decode cX7_lay 168 = .ok (.bipush 6, 2) := by decide +kernel
theorem dX7_lay_170 : decode cX7_lay 170 = .ok (.if_icmp .ge 23, 3) := by decide +kernel
theorem dX7_lay_173 : decode cX7_lay 173 = .ok (.aload_n 3, 1) := by decide +kernel
theorem dX7_lay_174 : decode cX7_lay 174 = .ok (.iload 4, 2) := by decide +kernel
theorem dX7_lay_176 : decode cX7_lay 176 = .ok (.iconst 2, 1) := by decide +kernel
theorem dX7_lay_177 : decode cX7_lay 177 = .ok (.iadd, 1) := by decide +kernel
theorem dX7_lay_178 : decode cX7_lay 178 = .ok (.aload_n 0, 1) := by decide +kernel
theorem dX7_lay_179 : decode cX7_lay 179 = .ok (.iload_n 1, 1) := by decide +kernel
theorem dX7_lay_180 : decode cX7_lay 180 = .ok (.iload_n 2, 1) := by decide +kernel
theorem dX7_lay_181 : decode cX7_lay 181 = .ok (.iload 4, 2) := by decide +kernel
theorem dX7_lay_183 : decode cX7_lay 183 = .ok (.invokevirtual 147, 3) := by decide +kernel
theorem dX7_lay_186 : decode cX7_lay 186 = .ok (.lastore, 1) := by decide +kernel
theorem dX7_lay_187 : decode cX7_lay 187 = .ok (.iinc 4 1, 3) := by decide +kernel
theorem dX7_lay_190 : decode cX7_lay 190 = .ok (.goto (-24), 3) := by decide +kernel
theorem dX7_lay_193 : decode cX7_lay 193 = .ok (.aload_n 0, 1) := by decide +kernel
theorem dX7_lay_194 : decode cX7_lay 194 = .ok (.getfield 27, 3) := by decide +kernel
theorem dX7_lay_197 : decode cX7_lay 197 = .ok (.iload_n 2, 1) := by decide +kernel
theorem dX7_lay_198 : decode cX7_lay 198 = .ok (.iaload, 1) := by decide +kernel
theorem dX7_lay_199 : decode cX7_lay 199 = .ok (.iconst 5, 1) := by decide +kernel
theorem dX7_lay_200 : decode cX7_lay 200 = .ok (.if_icmp .ne 8, 3) := by decide +kernel
theorem dX7_lay_203 : decode cX7_lay 203 = .ok (.bipush 8, 2) := by decide +kernel
theorem dX7_lay_205 : decode cX7_lay 205 = .ok (.goto 4, 3) := by decide +kernel
theorem dX7_lay_208 : decode cX7_lay 208 = .ok (.iconst 2, 1) := by decide +kernel
theorem dX7_lay_209 : decode cX7_lay 209 = .ok (.ireturn, 1) := by decide +kernel
theorem dX7_lay_210 : decode cX7_lay 210 = .ok (.iconst 0, 1) := by decide +kernel
theorem dX7_lay_211 : decode cX7_lay 211 = .ok (.istore 4, 2) := by decide +kernel
theorem dX7_lay_213 : decode cX7_lay 213 = .ok (.iload 4, 2) := by decide +kernel
theorem dX7_lay_215 : decode cX7_lay 215 = .ok (.bipush 64, 2) := by decide +kernel
theorem dX7_lay_217 : decode cX7_lay 217 = .ok (.if_icmp .ge 22, 3) := by decide +kernel
theorem dX7_lay_220 : decode cX7_lay 220 = .ok (.aload_n 3, 1) := by decide +kernel
theorem dX7_lay_221 : decode cX7_lay 221 = .ok (.iload 4, 2) := by decide +kernel
theorem dX7_lay_223 : decode cX7_lay 223 = .ok (.aload_n 0, 1) := by decide +kernel
theorem dX7_lay_224 : decode cX7_lay 224 = .ok (.iload_n 1, 1) := by decide +kernel
theorem dX7_lay_225 : decode cX7_lay 225 = .ok (.iload_n 2, 1) := by decide +kernel
theorem dX7_lay_226 : decode cX7_lay 226 = .ok (.iload 4, 2) := by decide +kernel
theorem dX7_lay_228 : decode cX7_lay 228 = .ok (.invokevirtual 142, 3) := by decide +kernel
theorem dX7_lay_231 : decode cX7_lay 231 = .ok (.i2l, 1) := by decide +kernel
theorem dX7_lay_232 : decode cX7_lay 232 = .ok (.lastore, 1) := by decide +kernel
theorem dX7_lay_233 : decode cX7_lay 233 = .ok (.iinc 4 1, 3) := by decide +kernel
theorem dX7_lay_236 : decode cX7_lay 236 = .ok (.goto (-23), 3) := by decide +kernel
theorem dX7_lay_239 : decode cX7_lay 239 = .ok (.bipush 64, 2) := by decide +kernel
theorem dX7_lay_241 : decode cX7_lay 241 = .ok (.ireturn, 1) := by decide +kernel
theorem dX7_lay_242 : decode cX7_lay 242 = .ok (.aload_n 3, 1) := by decide +kernel
theorem dX7_lay_243 : decode cX7_lay 243 = .ok (.iconst 0, 1) := by decide +kernel
theorem dX7_lay_244 : decode cX7_lay 244 = .ok (.aload_n 0, 1) := by decide +kernel
theorem dX7_lay_245 : decode cX7_lay 245 = .ok (.iload_n 1, 1) := by decide +kernel
theorem dX7_lay_246 : decode cX7_lay 246 = .ok (.iload_n 2, 1) := by decide +kernel
theorem dX7_lay_247 : decode cX7_lay 247 = .ok (.invokevirtual 219, 3) := by decide +kernel
theorem dX7_lay_250 : decode cX7_lay 250 = .ok (.ifCond .eq 7, 3) := by decide +kernel
theorem dX7_lay_253 : decode cX7_lay 253 = .ok (.lconst 1, 1) := by decide +kernel
theorem dX7_lay_254 : decode cX7_lay 254 = .ok (.goto 4, 3) := by decide +kernel
theorem dX7_lay_257 : decode cX7_lay 257 = .ok (.lconst 0, 1) := by decide +kernel
theorem dX7_lay_258 : decode cX7_lay 258 = .ok (.lastore, 1) := by decide +kernel
theorem dX7_lay_259 : decode cX7_lay 259 = .ok (.aload_n 3, 1) := by decide +kernel
theorem dX7_lay_260 : decode cX7_lay 260 = .ok (.iconst 1, 1) := by decide +kernel
theorem dX7_lay_261 : decode cX7_lay 261 = .ok (.aload_n 0, 1) := by decide +kernel
theorem dX7_lay_262 : decode cX7_lay 262 = .ok (.iload_n 1, 1) := by decide +kernel
theorem dX7_lay_263 : decode cX7_lay 263 = .ok (.iload_n 2, 1) := by decide +kernel
theorem dX7_lay_264 : decode cX7_lay 264 = .ok (.bipush 6, 2) := by decide +kernel
theorem dX7_lay_266 : decode cX7_lay 266 = .ok (.invokevirtual 195, 3) := by decide +kernel
theorem dX7_lay_269 : decode cX7_lay 269 = .ok (.i2l, 1) := by decide +kernel
theorem dX7_lay_270 : decode cX7_lay 270 = .ok (.lastore, 1) := by decide +kernel
theorem dX7_lay_271 : decode cX7_lay 271 = .ok (.aload_n 3, 1) := by decide +kernel
theorem dX7_lay_272 : decode cX7_lay 272 = .ok (.iconst 2, 1) := by decide +kernel
theorem dX7_lay_273 : decode cX7_lay 273 = .ok (.aload_n 0, 1) := by decide +kernel
theorem dX7_lay_274 : decode cX7_lay 274 = .ok (.iload_n 1, 1) := by decide +kernel
theorem dX7_lay_275 : decode cX7_lay 275 = .ok (.iload_n 2, 1) := by decide +kernel
theorem dX7_lay_276 : decode cX7_lay 276 = .ok (.bipush 7, 2) := by decide +kernel
theorem dX7_lay_278 : decode cX7_lay 278 = .ok (.invokevirtual 195, 3) := by decide +kernel
theorem dX7_lay_281 : decode cX7_lay 281 = .ok (.i2l, 1) := by decide +kernel
theorem dX7_lay_282 : decode cX7_lay 282 = .ok (.lastore, 1) := by decide +kernel
theorem dX7_lay_283 : decode cX7_lay 283 = .ok (.iconst 3, 1) := by decide +kernel
theorem dX7_lay_284 : decode cX7_lay 284 = .ok (.ireturn, 1) := by decide +kernel
theorem cvX7_lay : CV yX7_lay cX7_lay 6 (some .int) 8 3 := ⟨kw_1136, ks_48, kw_6, kw_1137, ⟨_, _, rfl⟩, by decide, by decide +kernel, by decide +kernel, by decide +kernel⟩
def fX7_lay_b108 (sh : Sh) : Nat → Nat → Option Nat → Int32 → Dt → Option (Int32 × Dt)
  | 0, _, _, _, _ => none
  | n + 1, x0, x3, x5, d => bd (gI sh d 9 308 x0) fun v1 => if v1 ≤ x5 then (bd (gI sh d 9 308 x0) fun v3 => some ((v3 + (3 : Int32)), d)) else (bd (gR sh d 9 307 x0) fun v4 => bd v4 fun a5 => bd (aI sh d 20 a5 x5) fun v6 => bd x3 fun a7 => bd (sL sh d 21 a7 (x5 + (3 : Int32)) v6.toInt64) fun d8 => fX7_lay_b108 sh n x0 (some a7) (x5 + 1) d8)

def fX7_lay_b78 (sh : Sh) (x0 : Nat) (x1 : Int32) (x2 : Int32) (x3 : Option Nat) (t0 : Option Nat) (t1 : Int32) (t2 : Int64) (d : Dt) : Option (Int32 × Dt) := bd t0 fun a1 => bd (sL sh d 21 a1 t1 t2) fun d2 => bd (gR sh d2 9 296 x0) fun v3 => bd v3 fun a4 => bd (aI sh d2 20 a4 x2) fun v5 => if v5 = (4 : Int32) then (bd (fX7_layHeads sh d2 x0 x1 x2) fun d9 => bd (gI sh d9 9 308 x0) fun v10 => bd x3 fun a11 => bd (sL sh d9 21 a11 (2 : Int32) v10.toInt64) fun d12 => fX7_lay_b108 sh fu x0 (some a11) (0 : Int32) d12) else (some ((2 : Int32), d2))

def fX7_lay_b44 (sh : Sh) (x0 : Nat) (x1 : Int32) (x2 : Int32) (x3 : Option Nat) (d : Dt) : Option (Int32 × Dt) := bd (kc sh 9 x0) fun _ => bd (fX7_telling sh d x0 x1 x2) fun r3 => bd x3 fun a4 => bd (sL sh d 21 a4 (0 : Int32) r3.toInt64) fun d5 => if r3 = (-9 : Int32) then (fX7_lay_b78 sh x0 x1 x2 (some a4) (some a4) (1 : Int32) (0 : Int64) d5) else (bd (gR sh d5 9 304 x0) fun v7 => bd v7 fun a8 => bd (aL sh d5 21 a8 r3) fun v9 => fX7_lay_b78 sh x0 x1 x2 (some a4) (some a4) (1 : Int32) v9 d5)

def fX7_lay_b166 (sh : Sh) : Nat → Nat → Int32 → Int32 → Option Nat → Int32 → Dt → Option (Int32 × Dt)
  | 0, _, _, _, _, _, _ => none
  | n + 1, x0, x1, x2, x3, x4, d => if (6 : Int32) ≤ x4 then (bd (gR sh d 9 296 x0) fun v2 => bd v2 fun a3 => bd (aI sh d 20 a3 x2) fun v4 => if v4 = (5 : Int32) then (some ((8 : Int32), d)) else (some ((2 : Int32), d))) else (bd (kc sh 9 x0) fun _ => bd (fX7_rightsOf sh d x0 x1 x2 x4) fun r8 => bd x3 fun a9 => bd (sL sh d 21 a9 (x4 + (2 : Int32)) r8) fun d10 => fX7_lay_b166 sh n x0 x1 x2 (some a9) (x4 + 1) d10)

def fX7_lay_b144 (sh : Sh) (x0 : Nat) (x1 : Int32) (x2 : Int32) (x3 : Option Nat) (d : Dt) : Option (Int32 × Dt) := bd (kc sh 9 x0) fun _ => bd (fX7_sumOf sh d x0 x1 x2) fun r3 => bd x3 fun a4 => bd (sL sh d 21 a4 (0 : Int32) r3) fun d5 => bd (fX7_manyOn sh d5 x0 x1 x2) fun r7 => bd (sL sh d5 21 a4 (1 : Int32) r7.toInt64) fun d8 => fX7_lay_b166 sh fu x0 x1 x2 (some a4) (0 : Int32) d8

def fX7_lay_b213 (sh : Sh) : Nat → Nat → Int32 → Int32 → Option Nat → Int32 → Dt → Option (Int32 × Dt)
  | 0, _, _, _, _, _, _ => none
  | n + 1, x0, x1, x2, x3, x4, d => if (64 : Int32) ≤ x4 then (some ((64 : Int32), d)) else (bd (kc sh 9 x0) fun _ => bd (fX7_countIn sh d x0 x1 x2 x4) fun r4 => bd x3 fun a5 => bd (sL sh d 21 a5 x4 r4.toInt64) fun d6 => fX7_lay_b213 sh n x0 x1 x2 (some a5) (x4 + 1) d6)

def fX7_lay_b258 (sh : Sh) (x0 : Nat) (x1 : Int32) (x2 : Int32) (x3 : Option Nat) (t0 : Option Nat) (t1 : Int32) (t2 : Int64) (d : Dt) : Option (Int32 × Dt) := bd t0 fun a1 => bd (sL sh d 21 a1 t1 t2) fun d2 => bd (kc sh 9 x0) fun _ => bd (fX7_manyDo sh d2 x0 x1 x2 (6 : Int32)) fun r5 => bd x3 fun a6 => bd (sL sh d2 21 a6 (1 : Int32) r5.toInt64) fun d7 => bd (fX7_manyDo sh d7 x0 x1 x2 (7 : Int32)) fun r9 => bd (sL sh d7 21 a6 (2 : Int32) r9.toInt64) fun d10 => some ((3 : Int32), d10)

def fX7_lay_b0 (sh : Sh) (x0 : Nat) (x1 : Int32) (x2 : Int32) (x3 : Option Nat) (d : Dt) : Option (Int32 × Dt) := bd (gR sh d 9 296 x0) fun v1 => bd v1 fun a2 => bd (aI sh d 20 a2 x2) fun v3 => if v3 = 0 then (fX7_lay_b44 sh x0 x1 x2 x3 d) else if v3 = 1 then (fX7_lay_b44 sh x0 x1 x2 x3 d) else if v3 = 2 then (fX7_lay_b144 sh x0 x1 x2 x3 d) else if v3 = 3 then (fX7_lay_b213 sh fu x0 x1 x2 x3 (0 : Int32) d) else if v3 = 4 then (fX7_lay_b44 sh x0 x1 x2 x3 d) else if v3 = 5 then (fX7_lay_b144 sh x0 x1 x2 x3 d) else (bd (fX7_isUp sh d x0 x1 x2) fun r11 => if (bI r11) = 0 then (fX7_lay_b258 sh x0 x1 x2 x3 x3 (0 : Int32) (0 : Int64) d) else (fX7_lay_b258 sh x0 x1 x2 x3 x3 (0 : Int32) (1 : Int64) d))

def fX7_lay (sh : Sh) (d : Dt) (x0 : Nat) (x1 : Int32) (x2 : Int32) (x3 : Option Nat) : Option (Int32 × Dt) := fX7_lay_b0 sh x0 x1 x2 x3 d

set_option maxRecDepth 100000 in
set_option maxHeartbeats 4000000 in
theorem wX7_lay_b108 (C : mx p s m args meth c yX7_lay cX7_lay 6 (some .int) A D cy st) {r : Int32} {d9 : Dt} : ∀ (n : Nat) (x0 : Nat) (x3 : Option Nat) (x5 : Int32) (d : Dt), fX7_lay_b108 sh n x0 x3 x5 d = some (r, d9) → ∀ {H : Heap} {locs : List Loc} {ls : Array Slot}, HW A D cy sz sh d H → va_S A s.heap H locs → lv_has ls 6 [(0, .ref x0), (3, va_rf x3), (5, .int x5)] → GL p l e s m args below meth c 4 98 A D cy (some (.int r)) sz sh d9 H locs 108 ls [] := by
  have hx := C.1
  have hb := C.2.1
  intro n
  induction n with
  | zero => intro x0 x3 x5 d hf; cases hf
  | succ n ih =>
    intro x0 x3 x5 d hf H locs ls hw hS hl
    rw [fX7_lay_b108] at hf
    refine lv_iload hx hb dX7_lay_108 (lv_at hl 2 rfl) ?_
    refine lv_aload_n hx hb dX7_lay_110 rfl (lv_at hl 0 rfl) ?_
    obtain ⟨v1, hv1, hf⟩ := bd_s hf
    refine gt_308 C hw hv1 kw_817 dX7_lay_111 ?_
    refine lv_icmp_ge (tgt := 137) hx hb dX7_lay_114 (by decide) (fun c_2 => ?_) (fun c_2 => ?_)
    · have hf := if_t c_2 hf
      refine lv_aload_n hx hb dX7_lay_137 rfl (lv_at hl 0 rfl) ?_
      obtain ⟨v3, hv3, hf⟩ := bd_s hf
      refine gt_308 C hw hv3 kw_817 dX7_lay_138 ?_
      refine lv_iconst (v := 3) hx hb dX7_lay_141 (by decide) ?_
      refine lv_iadd hx hb dX7_lay_142 ?_
      cases hf
      exact rt_i C hw hS dX7_lay_143
    · have hf := if_f c_2 hf
      refine lq_aload_n hx hb dX7_lay_117 rfl (lv_at hl 1 rfl) ?_
      refine lv_iload hx hb dX7_lay_118 (lv_at hl 2 rfl) ?_
      refine lv_iconst (v := 3) hx hb dX7_lay_120 (by decide) ?_
      refine lv_iadd hx hb dX7_lay_121 ?_
      refine lv_aload_n hx hb dX7_lay_122 rfl (lv_at hl 0 rfl) ?_
      obtain ⟨v4, hv4, hf⟩ := bd_s hf
      refine gt_307 C hw hv4 kw_816 dX7_lay_123 ?_
      refine lv_iload hx hb dX7_lay_126 (lv_at hl 2 rfl) ?_
      obtain ⟨a5, ea5, hg⟩ := bd_s hf
      clear hf
      subst ea5
      have hf := hg
      clear hg
      obtain ⟨v6, hv6, hf⟩ := bd_s hf
      refine w_iald C hw hv6 dX7_lay_128 ?_
      refine lv_i2l hx hb dX7_lay_129 rfl ?_
      obtain ⟨a7, ea7, hg⟩ := bd_s hf
      clear hf
      subst ea7
      have hf := hg
      clear hg
      obtain ⟨d8, hd8, hf⟩ := bd_s hf
      refine w_last C hw hS hd8 dX7_lay_130 (fun H locs hw hS => ?_)
      refine lv_iinc (v := (x5 + 1)) (lv' := [(5, .int (x5 + 1)), (0, .ref x0), (3, va_rf (some a7))]) hx hb dX7_lay_131 hl (k := 2) rfl rfl (by decide) rfl (fun ls hl => ?_)
      refine lv_goto (tgt := 108) hx hb dX7_lay_134 (by decide) ?_
      exact ih x0 (some a7) (x5 + 1) d8 hf hw hS (lv_sub hl [1, 2, 0] rfl)

set_option maxRecDepth 100000 in
set_option maxHeartbeats 4000000 in
theorem wX7_lay_b78 (C : mx p s m args meth c yX7_lay cX7_lay 6 (some .int) A D cy st) {r : Int32} {d9 : Dt} : ∀ (x0 : Nat) (x1 : Int32) (x2 : Int32) (x3 : Option Nat) (t0 : Option Nat) (t1 : Int32) (t2 : Int64) (d : Dt), fX7_lay_b78 sh x0 x1 x2 x3 t0 t1 t2 d = some (r, d9) → ∀ {H : Heap} {locs : List Loc} {ls : Array Slot}, HW A D cy sz sh d H → va_S A s.heap H locs → lv_has ls 6 [(0, .ref x0), (1, .int x1), (2, .int x2), (3, va_rf x3)] → GL p l e s m args below meth c 4 98 A D cy (some (.int r)) sz sh d9 H locs 78 ls [.long t2, .int t1, va_rf t0] := by
  have hx := C.1
  have hb := C.2.1
  intro x0 x1 x2 x3 t0 t1 t2 d hf H locs ls hw hS hl
  unfold fX7_lay_b78 at hf
  obtain ⟨a1, ea1, hg⟩ := bd_s hf
  clear hf
  subst ea1
  have hf := hg
  clear hg
  obtain ⟨d2, hd2, hf⟩ := bd_s hf
  refine w_last C hw hS hd2 dX7_lay_78 (fun H locs hw hS => ?_)
  refine lv_aload_n hx hb dX7_lay_79 rfl (lv_at hl 0 rfl) ?_
  obtain ⟨v3, hv3, hf⟩ := bd_s hf
  refine gt_296 C hw hv3 kw_805 dX7_lay_80 ?_
  refine lv_iload_n hx hb dX7_lay_83 rfl (lv_at hl 2 rfl) ?_
  obtain ⟨a4, ea4, hg⟩ := bd_s hf
  clear hf
  subst ea4
  have hf := hg
  clear hg
  obtain ⟨v5, hv5, hf⟩ := bd_s hf
  refine w_iald C hw hv5 dX7_lay_84 ?_
  refine lv_iconst (v := 4) hx hb dX7_lay_85 (by decide) ?_
  refine lv_icmp_eq (tgt := 91) hx hb dX7_lay_86 (by decide) (fun c_6 => ?_) (fun c_6 => ?_)
  · have hf := if_t c_6 hf
    refine lv_aload_n hx hb dX7_lay_91 rfl (lv_at hl 0 rfl) ?_
    refine lv_iload_n hx hb dX7_lay_92 rfl (lv_at hl 1 rfl) ?_
    refine lv_iload_n hx hb dX7_lay_93 rfl (lv_at hl 2 rfl) ?_
    obtain ⟨d9, h7, hf⟩ := bd_s hf
    refine cl_V0 C hw hS (tX7_layHeads l A D cy st sz sh d2 x0 x1 x2 h7) cvX7_layHeads kw_1102 (gR_s hv3).1 ⟨Nat.le_of_ble_eq_true rfl, Nat.le_of_ble_eq_true rfl⟩ hl.1 rfl (Nat.le_of_ble_eq_true rfl) dX7_lay_94 ⟨Nat.zero_le _, Nat.zero_le _⟩ (fun H locs hw hS => ?_)
    refine lq_aload_n hx hb dX7_lay_97 rfl (lv_at hl 3 rfl) ?_
    refine lv_iconst (v := 2) hx hb dX7_lay_98 (by decide) ?_
    refine lv_aload_n hx hb dX7_lay_99 rfl (lv_at hl 0 rfl) ?_
    obtain ⟨v10, hv10, hf⟩ := bd_s hf
    refine gt_308 C hw hv10 kw_817 dX7_lay_100 ?_
    refine lv_i2l hx hb dX7_lay_103 rfl ?_
    obtain ⟨a11, ea11, hg⟩ := bd_s hf
    clear hf
    subst ea11
    have hf := hg
    clear hg
    obtain ⟨d12, hd12, hf⟩ := bd_s hf
    refine w_last C hw hS hd12 dX7_lay_104 (fun H locs hw hS => ?_)
    refine lv_iconst (v := 0) hx hb dX7_lay_105 (by decide) ?_
    refine lv_istore (lv' := [(5, .int (0 : Int32)), (0, .ref x0), (1, .int x1), (2, .int x2), (3, va_rf (some a11))]) hx hb dX7_lay_106 hl (by decide) rfl (fun ls hl => ?_)
    exact wX7_lay_b108 C fu x0 (some a11) (0 : Int32) d12 hf hw hS (lv_sub hl [1, 4, 0] rfl)
  · have hf := if_f c_6 hf
    refine lv_iconst (v := 2) hx hb dX7_lay_89 (by decide) ?_
    cases hf
    exact rt_i C hw hS dX7_lay_90

set_option maxRecDepth 100000 in
set_option maxHeartbeats 4000000 in
theorem wX7_lay_b44 (C : mx p s m args meth c yX7_lay cX7_lay 6 (some .int) A D cy st) {r : Int32} {d9 : Dt} : ∀ (x0 : Nat) (x1 : Int32) (x2 : Int32) (x3 : Option Nat) (d : Dt), fX7_lay_b44 sh x0 x1 x2 x3 d = some (r, d9) → ∀ {H : Heap} {locs : List Loc} {ls : Array Slot}, HW A D cy sz sh d H → va_S A s.heap H locs → lv_has ls 6 [(0, .ref x0), (1, .int x1), (2, .int x2), (3, va_rf x3)] → GL p l e s m args below meth c 4 98 A D cy (some (.int r)) sz sh d9 H locs 44 ls [] := by
  have hx := C.1
  have hb := C.2.1
  intro x0 x1 x2 x3 d hf H locs ls hw hS hl
  unfold fX7_lay_b44 at hf
  refine lv_aload_n hx hb dX7_lay_44 rfl (lv_at hl 0 rfl) ?_
  refine lv_iload_n hx hb dX7_lay_45 rfl (lv_at hl 1 rfl) ?_
  refine lv_iload_n hx hb dX7_lay_46 rfl (lv_at hl 2 rfl) ?_
  obtain ⟨_, h1, hf⟩ := bd_s hf
  obtain ⟨r3, h2, hf⟩ := bd_s hf
  refine cl_V0 C hw hS (tX7_telling l A D cy st sz sh d x0 x1 x2 h2) cvX7_telling kw_1070 (kc_k h1) ⟨Nat.le_of_ble_eq_true rfl, Nat.le_of_ble_eq_true rfl⟩ hl.1 rfl (Nat.le_of_ble_eq_true rfl) dX7_lay_47 ⟨Nat.zero_le _, Nat.zero_le _⟩ (fun H locs hw hS => ?_)
  refine lv_istore (lv' := [(4, .int r3), (0, .ref x0), (1, .int x1), (2, .int x2), (3, va_rf x3)]) hx hb dX7_lay_50 hl (by decide) (by simp [va_rf_c, cat_i, cat_l, cat_r]) (fun ls hl => ?_)
  refine lq_aload_n hx hb dX7_lay_52 rfl (lv_at hl 4 rfl) ?_
  refine lv_iconst (v := 0) hx hb dX7_lay_53 (by decide) ?_
  refine lv_iload hx hb dX7_lay_54 (lv_at hl 0 rfl) ?_
  refine lv_i2l hx hb dX7_lay_56 rfl ?_
  obtain ⟨a4, ea4, hg⟩ := bd_s hf
  clear hf
  subst ea4
  have hf := hg
  clear hg
  obtain ⟨d5, hd5, hf⟩ := bd_s hf
  refine w_last C hw hS hd5 dX7_lay_57 (fun H locs hw hS => ?_)
  refine lq_aload_n hx hb dX7_lay_58 rfl (lv_at hl 4 rfl) ?_
  refine lv_iconst (v := 1) hx hb dX7_lay_59 (by decide) ?_
  refine lv_iload hx hb dX7_lay_60 (lv_at hl 0 rfl) ?_
  refine lv_bipush (v := -9) hx hb dX7_lay_62 (by decide) ?_
  refine lv_icmp_ne (tgt := 71) hx hb dX7_lay_64 (by decide) (fun c_6 => ?_) (fun c_6 => ?_)
  · have hf := if_f c_6 hf
    refine lv_aload_n hx hb dX7_lay_71 rfl (lv_at hl 1 rfl) ?_
    obtain ⟨v7, hv7, hf⟩ := bd_s hf
    refine gt_304 C hw hv7 kw_813 dX7_lay_72 ?_
    refine lv_iload hx hb dX7_lay_75 (lv_at hl 0 rfl) ?_
    obtain ⟨a8, ea8, hg⟩ := bd_s hf
    clear hf
    subst ea8
    have hf := hg
    clear hg
    obtain ⟨v9, hv9, hf⟩ := bd_s hf
    refine w_lald C hw hv9 dX7_lay_77 ?_
    exact wX7_lay_b78 C x0 x1 x2 (some a4) (some a4) (1 : Int32) v9 d5 hf hw hS (lv_sub hl [1, 2, 3, 4] rfl)
  · have hf := if_t c_6 hf
    refine lv_lconst (v := 0) hx hb dX7_lay_67 (by decide) ?_
    refine lv_goto (tgt := 78) hx hb dX7_lay_68 (by decide) ?_
    exact wX7_lay_b78 C x0 x1 x2 (some a4) (some a4) (1 : Int32) (0 : Int64) d5 hf hw hS (lv_sub hl [1, 2, 3, 4] rfl)

set_option maxRecDepth 100000 in
set_option maxHeartbeats 4000000 in
theorem wX7_lay_b166 (C : mx p s m args meth c yX7_lay cX7_lay 6 (some .int) A D cy st) {r : Int32} {d9 : Dt} : ∀ (n : Nat) (x0 : Nat) (x1 : Int32) (x2 : Int32) (x3 : Option Nat) (x4 : Int32) (d : Dt), fX7_lay_b166 sh n x0 x1 x2 x3 x4 d = some (r, d9) → ∀ {H : Heap} {locs : List Loc} {ls : Array Slot}, HW A D cy sz sh d H → va_S A s.heap H locs → lv_has ls 6 [(0, .ref x0), (1, .int x1), (2, .int x2), (3, va_rf x3), (4, .int x4)] → GL p l e s m args below meth c 4 98 A D cy (some (.int r)) sz sh d9 H locs 166 ls [] := by
  have hx := C.1
  have hb := C.2.1
  intro n
  induction n with
  | zero => intro x0 x1 x2 x3 x4 d hf; cases hf
  | succ n ih =>
    intro x0 x1 x2 x3 x4 d hf H locs ls hw hS hl
    rw [fX7_lay_b166] at hf
    refine lv_iload hx hb dX7_lay_166 (lv_at hl 4 rfl) ?_
    refine lv_bipush (v := 6) hx hb dX7_lay_168 (by decide) ?_
    refine lv_icmp_ge (tgt := 193) hx hb dX7_lay_170 (by decide) (fun c_1 => ?_) (fun c_1 => ?_)
    · have hf := if_t c_1 hf
      refine lv_aload_n hx hb dX7_lay_193 rfl (lv_at hl 0 rfl) ?_
      obtain ⟨v2, hv2, hf⟩ := bd_s hf
      refine gt_296 C hw hv2 kw_805 dX7_lay_194 ?_
      refine lv_iload_n hx hb dX7_lay_197 rfl (lv_at hl 2 rfl) ?_
      obtain ⟨a3, ea3, hg⟩ := bd_s hf
      clear hf
      subst ea3
      have hf := hg
      clear hg
      obtain ⟨v4, hv4, hf⟩ := bd_s hf
      refine w_iald C hw hv4 dX7_lay_198 ?_
      refine lv_iconst (v := 5) hx hb dX7_lay_199 (by decide) ?_
      refine lv_icmp_ne (tgt := 208) hx hb dX7_lay_200 (by decide) (fun c_5 => ?_) (fun c_5 => ?_)
      · have hf := if_f c_5 hf
        refine lv_iconst (v := 2) hx hb dX7_lay_208 (by decide) ?_
        cases hf
        exact rt_i C hw hS dX7_lay_209
      · have hf := if_t c_5 hf
        refine lv_bipush (v := 8) hx hb dX7_lay_203 (by decide) ?_
        refine lv_goto (tgt := 209) hx hb dX7_lay_205 (by decide) ?_
        cases hf
        exact rt_i C hw hS dX7_lay_209
    · have hf := if_f c_1 hf
      refine lq_aload_n hx hb dX7_lay_173 rfl (lv_at hl 3 rfl) ?_
      refine lv_iload hx hb dX7_lay_174 (lv_at hl 4 rfl) ?_
      refine lv_iconst (v := 2) hx hb dX7_lay_176 (by decide) ?_
      refine lv_iadd hx hb dX7_lay_177 ?_
      refine lv_aload_n hx hb dX7_lay_178 rfl (lv_at hl 0 rfl) ?_
      refine lv_iload_n hx hb dX7_lay_179 rfl (lv_at hl 1 rfl) ?_
      refine lv_iload_n hx hb dX7_lay_180 rfl (lv_at hl 2 rfl) ?_
      refine lv_iload hx hb dX7_lay_181 (lv_at hl 4 rfl) ?_
      obtain ⟨_, h6, hf⟩ := bd_s hf
      obtain ⟨r8, h7, hf⟩ := bd_s hf
      refine cl_V0 C hw hS (tX7_rightsOf l A D cy st sz sh d x0 x1 x2 x4 h7) cvX7_rightsOf kw_983 (kc_k h6) ⟨Nat.le_of_ble_eq_true rfl, Nat.le_of_ble_eq_true rfl⟩ hl.1 rfl (by simp [va_rf_c, cat_i, cat_l, cat_r]) dX7_lay_183 ⟨Nat.zero_le _, Nat.zero_le _⟩ (fun H locs hw hS => ?_)
      obtain ⟨a9, ea9, hg⟩ := bd_s hf
      clear hf
      subst ea9
      have hf := hg
      clear hg
      obtain ⟨d10, hd10, hf⟩ := bd_s hf
      refine w_last C hw hS hd10 dX7_lay_186 (fun H locs hw hS => ?_)
      refine lv_iinc (v := (x4 + 1)) (lv' := [(4, .int (x4 + 1)), (0, .ref x0), (1, .int x1), (2, .int x2), (3, va_rf (some a9))]) hx hb dX7_lay_187 hl (k := 4) rfl rfl (by decide) (by simp [va_rf_c, cat_i, cat_l, cat_r]) (fun ls hl => ?_)
      refine lv_goto (tgt := 166) hx hb dX7_lay_190 (by decide) ?_
      exact ih x0 x1 x2 (some a9) (x4 + 1) d10 hf hw hS (lv_sub hl [1, 2, 3, 4, 0] rfl)

set_option maxRecDepth 100000 in
set_option maxHeartbeats 4000000 in
theorem wX7_lay_b144 (C : mx p s m args meth c yX7_lay cX7_lay 6 (some .int) A D cy st) {r : Int32} {d9 : Dt} : ∀ (x0 : Nat) (x1 : Int32) (x2 : Int32) (x3 : Option Nat) (d : Dt), fX7_lay_b144 sh x0 x1 x2 x3 d = some (r, d9) → ∀ {H : Heap} {locs : List Loc} {ls : Array Slot}, HW A D cy sz sh d H → va_S A s.heap H locs → lv_has ls 6 [(0, .ref x0), (1, .int x1), (2, .int x2), (3, va_rf x3)] → GL p l e s m args below meth c 4 98 A D cy (some (.int r)) sz sh d9 H locs 144 ls [] := by
  have hx := C.1
  have hb := C.2.1
  intro x0 x1 x2 x3 d hf H locs ls hw hS hl
  unfold fX7_lay_b144 at hf
  refine lq_aload_n hx hb dX7_lay_144 rfl (lv_at hl 3 rfl) ?_
  refine lv_iconst (v := 0) hx hb dX7_lay_145 (by decide) ?_
  refine lv_aload_n hx hb dX7_lay_146 rfl (lv_at hl 0 rfl) ?_
  refine lv_iload_n hx hb dX7_lay_147 rfl (lv_at hl 1 rfl) ?_
  refine lv_iload_n hx hb dX7_lay_148 rfl (lv_at hl 2 rfl) ?_
  obtain ⟨_, h1, hf⟩ := bd_s hf
  obtain ⟨r3, h2, hf⟩ := bd_s hf
  refine cl_V0 C hw hS (tX7_sumOf l A D cy st sz sh d x0 x1 x2 h2) cvX7_sumOf kw_1078 (kc_k h1) ⟨Nat.le_of_ble_eq_true rfl, Nat.le_of_ble_eq_true rfl⟩ hl.1 rfl (by simp [va_rf_c, cat_i, cat_l, cat_r]) dX7_lay_149 ⟨Nat.zero_le _, Nat.zero_le _⟩ (fun H locs hw hS => ?_)
  obtain ⟨a4, ea4, hg⟩ := bd_s hf
  clear hf
  subst ea4
  have hf := hg
  clear hg
  obtain ⟨d5, hd5, hf⟩ := bd_s hf
  refine w_last C hw hS hd5 dX7_lay_152 (fun H locs hw hS => ?_)
  refine lq_aload_n hx hb dX7_lay_153 rfl (lv_at hl 3 rfl) ?_
  refine lv_iconst (v := 1) hx hb dX7_lay_154 (by decide) ?_
  refine lv_aload_n hx hb dX7_lay_155 rfl (lv_at hl 0 rfl) ?_
  refine lv_iload_n hx hb dX7_lay_156 rfl (lv_at hl 1 rfl) ?_
  refine lv_iload_n hx hb dX7_lay_157 rfl (lv_at hl 2 rfl) ?_
  obtain ⟨r7, h6, hf⟩ := bd_s hf
  refine cl_V0 C hw hS (tX7_manyOn l A D cy st sz sh d5 x0 x1 x2 h6) cvX7_manyOn kw_1082 (kc_k h1) ⟨Nat.le_of_ble_eq_true rfl, Nat.le_of_ble_eq_true rfl⟩ hl.1 rfl (by simp [va_rf_c, cat_i, cat_l, cat_r]) dX7_lay_158 ⟨Nat.zero_le _, Nat.zero_le _⟩ (fun H locs hw hS => ?_)
  refine lv_i2l hx hb dX7_lay_161 rfl ?_
  obtain ⟨d8, hd8, hf⟩ := bd_s hf
  refine w_last C hw hS hd8 dX7_lay_162 (fun H locs hw hS => ?_)
  refine lv_iconst (v := 0) hx hb dX7_lay_163 (by decide) ?_
  refine lv_istore (lv' := [(4, .int (0 : Int32)), (0, .ref x0), (1, .int x1), (2, .int x2), (3, va_rf (some a4))]) hx hb dX7_lay_164 hl (by decide) (by simp [va_rf_c, cat_i, cat_l, cat_r]) (fun ls hl => ?_)
  exact wX7_lay_b166 C fu x0 x1 x2 (some a4) (0 : Int32) d8 hf hw hS (lv_sub hl [1, 2, 3, 4, 0] rfl)

set_option maxRecDepth 100000 in
set_option maxHeartbeats 4000000 in
theorem wX7_lay_b213 (C : mx p s m args meth c yX7_lay cX7_lay 6 (some .int) A D cy st) {r : Int32} {d9 : Dt} : ∀ (n : Nat) (x0 : Nat) (x1 : Int32) (x2 : Int32) (x3 : Option Nat) (x4 : Int32) (d : Dt), fX7_lay_b213 sh n x0 x1 x2 x3 x4 d = some (r, d9) → ∀ {H : Heap} {locs : List Loc} {ls : Array Slot}, HW A D cy sz sh d H → va_S A s.heap H locs → lv_has ls 6 [(0, .ref x0), (1, .int x1), (2, .int x2), (3, va_rf x3), (4, .int x4)] → GL p l e s m args below meth c 4 98 A D cy (some (.int r)) sz sh d9 H locs 213 ls [] := by
  have hx := C.1
  have hb := C.2.1
  intro n
  induction n with
  | zero => intro x0 x1 x2 x3 x4 d hf; cases hf
  | succ n ih =>
    intro x0 x1 x2 x3 x4 d hf H locs ls hw hS hl
    rw [fX7_lay_b213] at hf
    refine lv_iload hx hb dX7_lay_213 (lv_at hl 4 rfl) ?_
    refine lv_bipush (v := 64) hx hb dX7_lay_215 (by decide) ?_
    refine lv_icmp_ge (tgt := 239) hx hb dX7_lay_217 (by decide) (fun c_1 => ?_) (fun c_1 => ?_)
    · have hf := if_t c_1 hf
      refine lv_bipush (v := 64) hx hb dX7_lay_239 (by decide) ?_
      cases hf
      exact rt_i C hw hS dX7_lay_241
    · have hf := if_f c_1 hf
      refine lq_aload_n hx hb dX7_lay_220 rfl (lv_at hl 3 rfl) ?_
      refine lv_iload hx hb dX7_lay_221 (lv_at hl 4 rfl) ?_
      refine lv_aload_n hx hb dX7_lay_223 rfl (lv_at hl 0 rfl) ?_
      refine lv_iload_n hx hb dX7_lay_224 rfl (lv_at hl 1 rfl) ?_
      refine lv_iload_n hx hb dX7_lay_225 rfl (lv_at hl 2 rfl) ?_
      refine lv_iload hx hb dX7_lay_226 (lv_at hl 4 rfl) ?_
      obtain ⟨_, h2, hf⟩ := bd_s hf
      obtain ⟨r4, h3, hf⟩ := bd_s hf
      refine cl_V0 C hw hS (tX7_countIn l A D cy st sz sh d x0 x1 x2 x4 h3) cvX7_countIn kw_971 (kc_k h2) ⟨Nat.le_of_ble_eq_true rfl, Nat.le_of_ble_eq_true rfl⟩ hl.1 rfl (by simp [va_rf_c, cat_i, cat_l, cat_r]) dX7_lay_228 ⟨Nat.zero_le _, Nat.zero_le _⟩ (fun H locs hw hS => ?_)
      refine lv_i2l hx hb dX7_lay_231 rfl ?_
      obtain ⟨a5, ea5, hg⟩ := bd_s hf
      clear hf
      subst ea5
      have hf := hg
      clear hg
      obtain ⟨d6, hd6, hf⟩ := bd_s hf
      refine w_last C hw hS hd6 dX7_lay_232 (fun H locs hw hS => ?_)
      refine lv_iinc (v := (x4 + 1)) (lv' := [(4, .int (x4 + 1)), (0, .ref x0), (1, .int x1), (2, .int x2), (3, va_rf (some a5))]) hx hb dX7_lay_233 hl (k := 4) rfl rfl (by decide) (by simp [va_rf_c, cat_i, cat_l, cat_r]) (fun ls hl => ?_)
      refine lv_goto (tgt := 213) hx hb dX7_lay_236 (by decide) ?_
      exact ih x0 x1 x2 (some a5) (x4 + 1) d6 hf hw hS (lv_sub hl [1, 2, 3, 4, 0] rfl)

set_option maxRecDepth 100000 in
set_option maxHeartbeats 4000000 in
theorem wX7_lay_b258 (C : mx p s m args meth c yX7_lay cX7_lay 6 (some .int) A D cy st) {r : Int32} {d9 : Dt} : ∀ (x0 : Nat) (x1 : Int32) (x2 : Int32) (x3 : Option Nat) (t0 : Option Nat) (t1 : Int32) (t2 : Int64) (d : Dt), fX7_lay_b258 sh x0 x1 x2 x3 t0 t1 t2 d = some (r, d9) → ∀ {H : Heap} {locs : List Loc} {ls : Array Slot}, HW A D cy sz sh d H → va_S A s.heap H locs → lv_has ls 6 [(0, .ref x0), (1, .int x1), (2, .int x2), (3, va_rf x3)] → GL p l e s m args below meth c 4 98 A D cy (some (.int r)) sz sh d9 H locs 258 ls [.long t2, .int t1, va_rf t0] := by
  have hx := C.1
  have hb := C.2.1
  intro x0 x1 x2 x3 t0 t1 t2 d hf H locs ls hw hS hl
  unfold fX7_lay_b258 at hf
  obtain ⟨a1, ea1, hg⟩ := bd_s hf
  clear hf
  subst ea1
  have hf := hg
  clear hg
  obtain ⟨d2, hd2, hf⟩ := bd_s hf
  refine w_last C hw hS hd2 dX7_lay_258 (fun H locs hw hS => ?_)
  refine lq_aload_n hx hb dX7_lay_259 rfl (lv_at hl 3 rfl) ?_
  refine lv_iconst (v := 1) hx hb dX7_lay_260 (by decide) ?_
  refine lv_aload_n hx hb dX7_lay_261 rfl (lv_at hl 0 rfl) ?_
  refine lv_iload_n hx hb dX7_lay_262 rfl (lv_at hl 1 rfl) ?_
  refine lv_iload_n hx hb dX7_lay_263 rfl (lv_at hl 2 rfl) ?_
  refine lv_bipush (v := 6) hx hb dX7_lay_264 (by decide) ?_
  obtain ⟨_, h3, hf⟩ := bd_s hf
  obtain ⟨r5, h4, hf⟩ := bd_s hf
  refine cl_V0 C hw hS (tX7_manyDo l A D cy st sz sh d2 x0 x1 x2 (6 : Int32) h4) cvX7_manyDo kw_1126 (kc_k h3) ⟨Nat.le_of_ble_eq_true rfl, Nat.le_of_ble_eq_true rfl⟩ hl.1 rfl (by simp [va_rf_c, cat_i, cat_l, cat_r]) dX7_lay_266 ⟨Nat.zero_le _, Nat.zero_le _⟩ (fun H locs hw hS => ?_)
  refine lv_i2l hx hb dX7_lay_269 rfl ?_
  obtain ⟨a6, ea6, hg⟩ := bd_s hf
  clear hf
  subst ea6
  have hf := hg
  clear hg
  obtain ⟨d7, hd7, hf⟩ := bd_s hf
  refine w_last C hw hS hd7 dX7_lay_270 (fun H locs hw hS => ?_)
  refine lq_aload_n hx hb dX7_lay_271 rfl (lv_at hl 3 rfl) ?_
  refine lv_iconst (v := 2) hx hb dX7_lay_272 (by decide) ?_
  refine lv_aload_n hx hb dX7_lay_273 rfl (lv_at hl 0 rfl) ?_
  refine lv_iload_n hx hb dX7_lay_274 rfl (lv_at hl 1 rfl) ?_
  refine lv_iload_n hx hb dX7_lay_275 rfl (lv_at hl 2 rfl) ?_
  refine lv_bipush (v := 7) hx hb dX7_lay_276 (by decide) ?_
  obtain ⟨r9, h8, hf⟩ := bd_s hf
  refine cl_V0 C hw hS (tX7_manyDo l A D cy st sz sh d7 x0 x1 x2 (7 : Int32) h8) cvX7_manyDo kw_1126 (kc_k h3) ⟨Nat.le_of_ble_eq_true rfl, Nat.le_of_ble_eq_true rfl⟩ hl.1 rfl (by simp [va_rf_c, cat_i, cat_l, cat_r]) dX7_lay_278 ⟨Nat.zero_le _, Nat.zero_le _⟩ (fun H locs hw hS => ?_)
  refine lv_i2l hx hb dX7_lay_281 rfl ?_
  obtain ⟨d10, hd10, hf⟩ := bd_s hf
  refine w_last C hw hS hd10 dX7_lay_282 (fun H locs hw hS => ?_)
  refine lv_iconst (v := 3) hx hb dX7_lay_283 (by decide) ?_
  cases hf
  exact rt_i C hw hS dX7_lay_284

set_option maxRecDepth 100000 in
set_option maxHeartbeats 4000000 in
theorem wX7_lay_b0 (C : mx p s m args meth c yX7_lay cX7_lay 6 (some .int) A D cy st) {r : Int32} {d9 : Dt} : ∀ (x0 : Nat) (x1 : Int32) (x2 : Int32) (x3 : Option Nat) (d : Dt), fX7_lay_b0 sh x0 x1 x2 x3 d = some (r, d9) → ∀ {H : Heap} {locs : List Loc} {ls : Array Slot}, HW A D cy sz sh d H → va_S A s.heap H locs → lv_has ls 6 [(0, .ref x0), (1, .int x1), (2, .int x2), (3, va_rf x3)] → GL p l e s m args below meth c 4 98 A D cy (some (.int r)) sz sh d9 H locs 0 ls [] := by
  have hx := C.1
  have hb := C.2.1
  intro x0 x1 x2 x3 d hf H locs ls hw hS hl
  unfold fX7_lay_b0 at hf
  refine lv_aload_n hx hb dX7_lay_0 rfl (lv_at hl 0 rfl) ?_
  obtain ⟨v1, hv1, hf⟩ := bd_s hf
  refine gt_296 C hw hv1 kw_805 dX7_lay_1 ?_
  refine lv_iload_n hx hb dX7_lay_4 rfl (lv_at hl 2 rfl) ?_
  obtain ⟨a2, ea2, hg⟩ := bd_s hf
  clear hf
  subst ea2
  have hf := hg
  clear hg
  obtain ⟨v3, hv3, hf⟩ := bd_s hf
  refine w_iald C hw hv3 dX7_lay_5 ?_
  by_cases c_4 : v3 = 0
  · have hf := if_t c_4 hf
    refine lv_tableIn (tgt := 44) hx hb dX7_lay_6 (by rw [c_4]; decide) (by rw [c_4]; decide) (by rw [c_4]; rfl) (by decide) ?_
    exact wX7_lay_b44 C x0 x1 x2 x3 d hf hw hS (lv_sub hl [0, 1, 2, 3] rfl)
  have hf := if_f c_4 hf
  by_cases c_5 : v3 = 1
  · have hf := if_t c_5 hf
    refine lv_tableIn (tgt := 44) hx hb dX7_lay_6 (by rw [c_5]; decide) (by rw [c_5]; decide) (by rw [c_5]; rfl) (by decide) ?_
    exact wX7_lay_b44 C x0 x1 x2 x3 d hf hw hS (lv_sub hl [0, 1, 2, 3] rfl)
  have hf := if_f c_5 hf
  by_cases c_6 : v3 = 2
  · have hf := if_t c_6 hf
    refine lv_tableIn (tgt := 144) hx hb dX7_lay_6 (by rw [c_6]; decide) (by rw [c_6]; decide) (by rw [c_6]; rfl) (by decide) ?_
    exact wX7_lay_b144 C x0 x1 x2 x3 d hf hw hS (lv_sub hl [0, 1, 2, 3] rfl)
  have hf := if_f c_6 hf
  by_cases c_7 : v3 = 3
  · have hf := if_t c_7 hf
    refine lv_tableIn (tgt := 210) hx hb dX7_lay_6 (by rw [c_7]; decide) (by rw [c_7]; decide) (by rw [c_7]; rfl) (by decide) ?_
    refine lv_iconst (v := 0) hx hb dX7_lay_210 (by decide) ?_
    refine lv_istore (lv' := [(4, .int (0 : Int32)), (0, .ref x0), (1, .int x1), (2, .int x2), (3, va_rf x3)]) hx hb dX7_lay_211 hl (by decide) (by simp [va_rf_c, cat_i, cat_l, cat_r]) (fun ls hl => ?_)
    exact wX7_lay_b213 C fu x0 x1 x2 x3 (0 : Int32) d hf hw hS (lv_sub hl [1, 2, 3, 4, 0] rfl)
  have hf := if_f c_7 hf
  by_cases c_8 : v3 = 4
  · have hf := if_t c_8 hf
    refine lv_tableIn (tgt := 44) hx hb dX7_lay_6 (by rw [c_8]; decide) (by rw [c_8]; decide) (by rw [c_8]; rfl) (by decide) ?_
    exact wX7_lay_b44 C x0 x1 x2 x3 d hf hw hS (lv_sub hl [0, 1, 2, 3] rfl)
  have hf := if_f c_8 hf
  by_cases c_9 : v3 = 5
  · have hf := if_t c_9 hf
    refine lv_tableIn (tgt := 144) hx hb dX7_lay_6 (by rw [c_9]; decide) (by rw [c_9]; decide) (by rw [c_9]; rfl) (by decide) ?_
    exact wX7_lay_b144 C x0 x1 x2 x3 d hf hw hS (lv_sub hl [0, 1, 2, 3] rfl)
  have hf := if_f c_9 hf
  refine lv_tableOut (tgt := 242) hx hb dX7_lay_6 (by have z0 := lv_neT (a := 0) c_4 (by decide); have z1 := lv_neT (a := 1) c_5 (by decide); have z2 := lv_neT (a := 2) c_6 (by decide); have z3 := lv_neT (a := 3) c_7 (by decide); have z4 := lv_neT (a := 4) c_8 (by decide); have z5 := lv_neT (a := 5) c_9 (by decide); omega) (by decide) ?_
  refine lq_aload_n hx hb dX7_lay_242 rfl (lv_at hl 3 rfl) ?_
  refine lv_iconst (v := 0) hx hb dX7_lay_243 (by decide) ?_
  refine lv_aload_n hx hb dX7_lay_244 rfl (lv_at hl 0 rfl) ?_
  refine lv_iload_n hx hb dX7_lay_245 rfl (lv_at hl 1 rfl) ?_
  refine lv_iload_n hx hb dX7_lay_246 rfl (lv_at hl 2 rfl) ?_
  obtain ⟨r11, h10, hf⟩ := bd_s hf
  refine cl_V0 C hw hS (tX7_isUp l A D cy st sz sh d x0 x1 x2 h10) cvX7_isUp kw_1122 (gR_s hv1).1 ⟨Nat.le_of_ble_eq_true rfl, Nat.le_of_ble_eq_true rfl⟩ hl.1 rfl (by simp [va_rf_c, cat_i, cat_l, cat_r]) dX7_lay_247 ⟨Nat.zero_le _, Nat.zero_le _⟩ (fun H locs hw hS => ?_)
  refine lv_if_eq (tgt := 257) hx hb dX7_lay_250 (by decide) (fun c_12 => ?_) (fun c_12 => ?_)
  · have hf := if_t c_12 hf
    refine lv_lconst (v := 0) hx hb dX7_lay_257 (by decide) ?_
    exact wX7_lay_b258 C x0 x1 x2 x3 x3 (0 : Int32) (0 : Int64) d hf hw hS (lv_sub hl [0, 1, 2, 3] rfl)
  · have hf := if_f c_12 hf
    refine lv_lconst (v := 1) hx hb dX7_lay_253 (by decide) ?_
    refine lv_goto (tgt := 258) hx hb dX7_lay_254 (by decide) ?_
    exact wX7_lay_b258 C x0 x1 x2 x3 x3 (0 : Int32) (1 : Int64) d hf hw hS (lv_sub hl [0, 1, 2, 3] rfl)

set_option maxRecDepth 100000 in
set_option maxHeartbeats 4000000 in
theorem tX7_lay (l : Launch) (A : Nat → Prop) (D : va_G) (cy : Nat → ClassId) (st : Nat → Nat) (sz : Nat) (sh : Sh) (d : Dt) (x0 : Nat) (x1 : Int32) (x2 : Int32) (x3 : Option Nat) {r : Int32} {d9 : Dt} (hf : fX7_lay sh d x0 x1 x2 x3 = some (r, d9)) : Ct l yX7_lay cX7_lay 6 (some .int) 4 98 0 0 A D cy st [.ref x0, .int x1, .int x2, va_rf x3] sz sh d (some (.int r)) sz sh d9 := ct_of (by decide) (by simp [lg_sl, va_rf_c, cat_i, cat_l, cat_r]) (fun p e s m args below meth c C hw hS ls hl => wX7_lay_b0 C x0 x1 x2 x3 d hf hw hS (by simpa [lv_args, va_rf_c, cat_i, cat_l, cat_r] using hl))
theorem dX7_alike_0 : decode cX7_alike 0 = .ok (.aload_n 0, 1) := by decide +kernel
theorem dX7_alike_1 : decode cX7_alike 1 = .ok (.iload_n 1, 1) := by decide +kernel
theorem dX7_alike_2 : decode cX7_alike 2 = .ok (.invokevirtual 101, 3) := by decide +kernel
theorem dX7_alike_5 : decode cX7_alike 5 = .ok (.ifCond .eq 19, 3) := by decide +kernel
theorem dX7_alike_8 : decode cX7_alike 8 = .ok (.aload_n 0, 1) := by decide +kernel
theorem dX7_alike_9 : decode cX7_alike 9 = .ok (.iload_n 2, 1) := by decide +kernel
theorem dX7_alike_10 : decode cX7_alike 10 = .ok (.invokevirtual 109, 3) := by decide +kernel
theorem dX7_alike_13 : decode cX7_alike 13 = .ok (.ifCond .eq 11, 3) := by decide +kernel
theorem dX7_alike_16 : decode cX7_alike 16 = .ok (.aload_n 0, 1) := by decide +kernel
theorem dX7_alike_17 : decode cX7_alike 17 = .ok (.iload_n 3, 1) := by decide +kernel
theorem dX7_alike_18 : decode cX7_alike 18 = .ok (.invokevirtual 109, 3) := by decide +kernel
theorem dX7_alike_21 : decode cX7_alike 21 = .ok (.ifCond .ne 5, 3) := by decide +kernel
theorem dX7_alike_24 : decode cX7_alike 24 = .ok (.iconst (-1), 1) := by decide +kernel
theorem dX7_alike_25 : decode cX7_alike 25 = .ok (.ireturn, 1) := by decide +kernel
theorem dX7_alike_26 : decode cX7_alike 26 = .ok (.aload_n 0, 1) := by decide +kernel
theorem dX7_alike_27 : decode cX7_alike 27 = .ok (.iload_n 2, 1) := by decide +kernel
theorem dX7_alike_28 : decode cX7_alike 28 = .ok (.iload_n 1, 1) := by decide +kernel
theorem dX7_alike_29 : decode cX7_alike 29 = .ok (.aload_n 0, 1) := by decide +kernel
theorem dX7_alike_30 : decode cX7_alike 30 = .ok (.getfield 57, 3) := by decide +kernel
theorem dX7_alike_33 : decode cX7_alike 33 = .ok (.invokevirtual 222, 3) := by decide +kernel
theorem dX7_alike_36 : decode cX7_alike 36 = .ok (.istore 4, 2) := by decide +kernel
theorem dX7_alike_38 : decode cX7_alike 38 = .ok (.aload_n 0, 1) := by decide +kernel
theorem dX7_alike_39 : decode cX7_alike 39 = .ok (.iload_n 3, 1) := by decide +kernel
theorem dX7_alike_40 : decode cX7_alike 40 = .ok (.iload_n 1, 1) := by decide +kernel
theorem dX7_alike_41 : decode cX7_alike 41 = .ok (.aload_n 0, 1) := by decide +kernel
theorem dX7_alike_42 : decode cX7_alike 42 = .ok (.getfield 60, 3) := by decide +kernel
theorem dX7_alike_45 : decode cX7_alike 45 = .ok (.invokevirtual 222, 3) := by decide +kernel
theorem dX7_alike_48 : decode cX7_alike 48 = .ok (.istore 5, 2) := by decide +kernel
theorem dX7_alike_50 : decode cX7_alike 50 = .ok (.iload 4, 2) := by decide +kernel
theorem dX7_alike_52 : decode cX7_alike 52 = .ok (.iload 5, 2) := by decide +kernel
theorem dX7_alike_54 : decode cX7_alike 54 = .ok (.if_icmp .ne 7, 3) := by decide +kernel
theorem dX7_alike_57 : decode cX7_alike 57 = .ok (.iconst 1, 1) := by decide +kernel
theorem dX7_alike_58 : decode cX7_alike 58 = .ok (.goto 4, 3) := by decide +kernel
theorem dX7_alike_61 : decode cX7_alike 61 = .ok (.iconst 0, 1) := by decide +kernel
theorem dX7_alike_62 : decode cX7_alike 62 = .ok (.istore 6, 2) := by decide +kernel
theorem dX7_alike_64 : decode cX7_alike 64 = .ok (.iconst 0, 1) := by decide +kernel
theorem dX7_alike_65 : decode cX7_alike 65 = .ok (.istore 7, 2) := by decide +kernel
theorem dX7_alike_67 : decode cX7_alike 67 = .ok (.iload 7, 2) := by decide +kernel
theorem dX7_alike_69 : decode cX7_alike 69 = .ok (.iload 4, 2) := by decide +kernel
theorem dX7_alike_71 : decode cX7_alike 71 = .ok (.if_icmp .ge 39, 3) := by decide +kernel
theorem dX7_alike_74 : decode cX7_alike 74 = .ok (.iload 6, 2) := by decide +kernel
theorem dX7_alike_76 : decode cX7_alike 76 = .ok (.ifCond .eq 34, 3) := by decide +kernel
theorem dX7_alike_79 : decode cX7_alike 79 = .ok (.aload_n 0, 1) := by decide +kernel
theorem dX7_alike_80 : decode cX7_alike 80 = .ok (.getfield 57, 3) := by decide +kernel
theorem dX7_alike_83 : decode cX7_alike 83 = .ok (.iload 7, 2) := by decide +kernel
theorem dX7_alike_85 : decode cX7_alike 85 = .ok (.laload, 1) := by decide +kernel
theorem dX7_alike_86 : decode cX7_alike 86 = .ok (.aload_n 0, 1) := by decide +kernel
theorem dX7_alike_87 : decode cX7_alike 87 = .ok (.getfield 60, 3) := by decide +kernel
theorem dX7_alike_90 : decode cX7_alike 90 = .ok (.iload 7, 2) := by decide +kernel
theorem dX7_alike_92 : decode cX7_alike 92 = .ok (.laload, 1) := by decide +kernel
theorem dX7_alike_93 : decode cX7_alike 93 = .ok (.lcmp, 1) := by decide +kernel
theorem dX7_alike_94 : decode cX7_alike 94 = .ok (.ifCond .ne 7, 3) := by decide +kernel
theorem dX7_alike_97 : decode cX7_alike 97 = .ok (.iconst 1, 1) := by decide +kernel
theorem dX7_alike_98 : decode cX7_alike 98 = .ok (.goto 4, 3) := by decide +kernel
theorem dX7_alike_101 : decode cX7_alike 101 = .ok (.iconst 0, 1) := by decide +kernel
theorem dX7_alike_102 : decode cX7_alike 102 = .ok (.istore 6, 2) := by decide +kernel
theorem dX7_alike_104 : decode cX7_alike 104 = .ok (.iinc 7 1, 3) := by decide +kernel
theorem dX7_alike_107 : decode cX7_alike 107 = .ok (.goto (-40), 3) := by decide +kernel
theorem dX7_alike_110 : decode cX7_alike 110 = .ok (.iload 6, 2) := by decide +kernel
theorem dX7_alike_112 : decode cX7_alike 112 = .ok (.ifCond .eq 7, 3) := by decide +kernel
theorem dX7_alike_115 : decode cX7_alike 115 = .ok (.iconst 1, 1) := by decide +kernel
theorem dX7_alike_116 : decode cX7_alike 116 = .ok (.goto 4, 3) := by decide +kernel
theorem dX7_alike_119 : decode cX7_alike 119 = .ok (.iconst 0, 1) := by decide +kernel
theorem dX7_alike_120 : decode cX7_alike 120 = .ok (.ireturn, 1) := by decide +kernel
theorem cvX7_alike : CV yX7_alike cX7_alike 8 (some .int) 8 3 := ⟨kw_1131, kw_1132, kw_6, kw_1133, ⟨_, _, rfl⟩, by decide, by decide +kernel, by decide +kernel, by decide +kernel⟩
def fX7_alike_b110 (sh : Sh) (x6 : Int32) (d : Dt) : Option (Int32 × Dt) := if x6 = 0 then (some ((0 : Int32), d)) else (some ((1 : Int32), d))

def fX7_alike_b67 (sh : Sh) : Nat → Nat → Int32 → Int32 → Int32 → Dt → Option (Int32 × Dt)
  | 0, _, _, _, _, _ => none
  | n + 1, x0, x4, x6, x7, d => if x4 ≤ x7 then (fX7_alike_b110 sh x6 d) else (if x6 = 0 then (fX7_alike_b110 sh x6 d) else (bd (gR sh d 9 309 x0) fun v3 => bd v3 fun a4 => bd (aL sh d 21 a4 x7) fun v5 => bd (gR sh d 9 310 x0) fun v6 => bd v6 fun a7 => bd (aL sh d 21 a7 x7) fun v8 => if (lg_cmp v5 v8) = 0 then (fX7_alike_b67 sh n x0 x4 (1 : Int32) (x7 + 1) d) else (fX7_alike_b67 sh n x0 x4 (0 : Int32) (x7 + 1) d)))

def fX7_alike_b0 (sh : Sh) (x0 : Nat) (x1 : Int32) (x2 : Int32) (x3 : Int32) (d : Dt) : Option (Int32 × Dt) := bd (kc sh 9 x0) fun _ => bd (fX7_isPage sh d x0 x1) fun r3 => if (bI r3) = 0 then (some ((-1 : Int32), d)) else (bd (fX7_isHand sh d x0 x2) fun r6 => if (bI r6) = 0 then (some ((-1 : Int32), d)) else (bd (fX7_isHand sh d x0 x3) fun r9 => if (bI r9) = 0 then (some ((-1 : Int32), d)) else (bd (gR sh d 9 309 x0) fun v11 => bd2 (fX7_lay sh d x0 x2 x1 v11) fun r13 d14 => bd (gR sh d14 9 310 x0) fun v15 => bd2 (fX7_lay sh d14 x0 x3 x1 v15) fun r17 d18 => if r13 = r17 then (fX7_alike_b67 sh fu x0 r13 (1 : Int32) (0 : Int32) d18) else (fX7_alike_b67 sh fu x0 r13 (0 : Int32) (0 : Int32) d18))))

def fX7_alike (sh : Sh) (d : Dt) (x0 : Nat) (x1 : Int32) (x2 : Int32) (x3 : Int32) : Option (Int32 × Dt) := fX7_alike_b0 sh x0 x1 x2 x3 d

set_option maxRecDepth 100000 in
set_option maxHeartbeats 4000000 in
theorem wX7_alike_b110 (C : mx p s m args meth c yX7_alike cX7_alike 8 (some .int) A D cy st) {r : Int32} {d9 : Dt} : ∀ (x6 : Int32) (d : Dt), fX7_alike_b110 sh x6 d = some (r, d9) → ∀ {H : Heap} {locs : List Loc} {ls : Array Slot}, HW A D cy sz sh d H → va_S A s.heap H locs → lv_has ls 8 [(6, .int x6)] → GL p l e s m args below meth c 5 123 A D cy (some (.int r)) sz sh d9 H locs 110 ls [] := by
  have hx := C.1
  have hb := C.2.1
  intro x6 d hf H locs ls hw hS hl
  unfold fX7_alike_b110 at hf
  refine lv_iload hx hb dX7_alike_110 (lv_at hl 0 rfl) ?_
  refine lv_if_eq (tgt := 119) hx hb dX7_alike_112 (by decide) (fun c_1 => ?_) (fun c_1 => ?_)
  · have hf := if_t c_1 hf
    refine lv_iconst (v := 0) hx hb dX7_alike_119 (by decide) ?_
    cases hf
    exact rt_i C hw hS dX7_alike_120
  · have hf := if_f c_1 hf
    refine lv_iconst (v := 1) hx hb dX7_alike_115 (by decide) ?_
    refine lv_goto (tgt := 120) hx hb dX7_alike_116 (by decide) ?_
    cases hf
    exact rt_i C hw hS dX7_alike_120

set_option maxRecDepth 100000 in
set_option maxHeartbeats 4000000 in
theorem wX7_alike_b67 (C : mx p s m args meth c yX7_alike cX7_alike 8 (some .int) A D cy st) {r : Int32} {d9 : Dt} : ∀ (n : Nat) (x0 : Nat) (x4 : Int32) (x6 : Int32) (x7 : Int32) (d : Dt), fX7_alike_b67 sh n x0 x4 x6 x7 d = some (r, d9) → ∀ {H : Heap} {locs : List Loc} {ls : Array Slot}, HW A D cy sz sh d H → va_S A s.heap H locs → lv_has ls 8 [(0, .ref x0), (4, .int x4), (6, .int x6), (7, .int x7)] → GL p l e s m args below meth c 5 123 A D cy (some (.int r)) sz sh d9 H locs 67 ls [] := by
  have hx := C.1
  have hb := C.2.1
  intro n
  induction n with
  | zero => intro x0 x4 x6 x7 d hf; cases hf
  | succ n ih =>
    intro x0 x4 x6 x7 d hf H locs ls hw hS hl
    rw [fX7_alike_b67] at hf
    refine lv_iload hx hb dX7_alike_67 (lv_at hl 3 rfl) ?_
    refine lv_iload hx hb dX7_alike_69 (lv_at hl 1 rfl) ?_
    refine lv_icmp_ge (tgt := 110) hx hb dX7_alike_71 (by decide) (fun c_1 => ?_) (fun c_1 => ?_)
    · have hf := if_t c_1 hf
      exact wX7_alike_b110 C x6 d hf hw hS (lv_sub hl [2] rfl)
    · have hf := if_f c_1 hf
      refine lv_iload hx hb dX7_alike_74 (lv_at hl 2 rfl) ?_
      refine lv_if_eq (tgt := 110) hx hb dX7_alike_76 (by decide) (fun c_2 => ?_) (fun c_2 => ?_)
      · have hf := if_t c_2 hf
        exact wX7_alike_b110 C x6 d hf hw hS (lv_sub hl [2] rfl)
      · have hf := if_f c_2 hf
        refine lv_aload_n hx hb dX7_alike_79 rfl (lv_at hl 0 rfl) ?_
        obtain ⟨v3, hv3, hf⟩ := bd_s hf
        refine gt_309 C hw hv3 kw_818 dX7_alike_80 ?_
        refine lv_iload hx hb dX7_alike_83 (lv_at hl 3 rfl) ?_
        obtain ⟨a4, ea4, hg⟩ := bd_s hf
        clear hf
        subst ea4
        have hf := hg
        clear hg
        obtain ⟨v5, hv5, hf⟩ := bd_s hf
        refine w_lald C hw hv5 dX7_alike_85 ?_
        refine lv_aload_n hx hb dX7_alike_86 rfl (lv_at hl 0 rfl) ?_
        obtain ⟨v6, hv6, hf⟩ := bd_s hf
        refine gt_310 C hw hv6 kw_819 dX7_alike_87 ?_
        refine lv_iload hx hb dX7_alike_90 (lv_at hl 3 rfl) ?_
        obtain ⟨a7, ea7, hg⟩ := bd_s hf
        clear hf
        subst ea7
        have hf := hg
        clear hg
        obtain ⟨v8, hv8, hf⟩ := bd_s hf
        refine w_lald C hw hv8 dX7_alike_92 ?_
        refine W.lcmp hx hb dX7_alike_93 ?_
        refine lv_if_ne (tgt := 101) hx hb dX7_alike_94 (by decide) (fun c_9 => ?_) (fun c_9 => ?_)
        · have hf := if_f c_9 hf
          refine lv_iconst (v := 0) hx hb dX7_alike_101 (by decide) ?_
          refine lv_istore (lv' := [(6, .int (0 : Int32)), (0, .ref x0), (4, .int x4), (7, .int x7)]) hx hb dX7_alike_102 hl (by decide) rfl (fun ls hl => ?_)
          refine lv_iinc (v := (x7 + 1)) (lv' := [(7, .int (x7 + 1)), (6, .int (0 : Int32)), (0, .ref x0), (4, .int x4)]) hx hb dX7_alike_104 hl (k := 3) rfl rfl (by decide) rfl (fun ls hl => ?_)
          refine lv_goto (tgt := 67) hx hb dX7_alike_107 (by decide) ?_
          exact ih x0 x4 (0 : Int32) (x7 + 1) d hf hw hS (lv_sub hl [2, 3, 1, 0] rfl)
        · have hf := if_t c_9 hf
          refine lv_iconst (v := 1) hx hb dX7_alike_97 (by decide) ?_
          refine lv_goto (tgt := 102) hx hb dX7_alike_98 (by decide) ?_
          refine lv_istore (lv' := [(6, .int (1 : Int32)), (0, .ref x0), (4, .int x4), (7, .int x7)]) hx hb dX7_alike_102 hl (by decide) rfl (fun ls hl => ?_)
          refine lv_iinc (v := (x7 + 1)) (lv' := [(7, .int (x7 + 1)), (6, .int (1 : Int32)), (0, .ref x0), (4, .int x4)]) hx hb dX7_alike_104 hl (k := 3) rfl rfl (by decide) rfl (fun ls hl => ?_)
          refine lv_goto (tgt := 67) hx hb dX7_alike_107 (by decide) ?_
          exact ih x0 x4 (1 : Int32) (x7 + 1) d hf hw hS (lv_sub hl [2, 3, 1, 0] rfl)

set_option maxRecDepth 100000 in
set_option maxHeartbeats 4000000 in
theorem wX7_alike_b0 (C : mx p s m args meth c yX7_alike cX7_alike 8 (some .int) A D cy st) {r : Int32} {d9 : Dt} : ∀ (x0 : Nat) (x1 : Int32) (x2 : Int32) (x3 : Int32) (d : Dt), fX7_alike_b0 sh x0 x1 x2 x3 d = some (r, d9) → ∀ {H : Heap} {locs : List Loc} {ls : Array Slot}, HW A D cy sz sh d H → va_S A s.heap H locs → lv_has ls 8 [(0, .ref x0), (1, .int x1), (2, .int x2), (3, .int x3)] → GL p l e s m args below meth c 5 123 A D cy (some (.int r)) sz sh d9 H locs 0 ls [] := by
  have hx := C.1
  have hb := C.2.1
  intro x0 x1 x2 x3 d hf H locs ls hw hS hl
  unfold fX7_alike_b0 at hf
  refine lv_aload_n hx hb dX7_alike_0 rfl (lv_at hl 0 rfl) ?_
  refine lv_iload_n hx hb dX7_alike_1 rfl (lv_at hl 1 rfl) ?_
  obtain ⟨_, h1, hf⟩ := bd_s hf
  obtain ⟨r3, h2, hf⟩ := bd_s hf
  refine cl_V0 C hw hS (tX7_isPage l A D cy st sz sh d x0 x1 h2) cvX7_isPage kw_905 (kc_k h1) ⟨Nat.le_of_ble_eq_true rfl, Nat.le_of_ble_eq_true rfl⟩ hl.1 rfl (Nat.le_of_ble_eq_true rfl) dX7_alike_2 ⟨Nat.zero_le _, Nat.zero_le _⟩ (fun H locs hw hS => ?_)
  refine lv_if_eq (tgt := 24) hx hb dX7_alike_5 (by decide) (fun c_4 => ?_) (fun c_4 => ?_)
  · have hf := if_t c_4 hf
    refine lv_iconst (v := -1) hx hb dX7_alike_24 (by decide) ?_
    cases hf
    exact rt_i C hw hS dX7_alike_25
  · have hf := if_f c_4 hf
    refine lv_aload_n hx hb dX7_alike_8 rfl (lv_at hl 0 rfl) ?_
    refine lv_iload_n hx hb dX7_alike_9 rfl (lv_at hl 2 rfl) ?_
    obtain ⟨r6, h5, hf⟩ := bd_s hf
    refine cl_V0 C hw hS (tX7_isHand l A D cy st sz sh d x0 x2 h5) cvX7_isHand kw_917 (kc_k h1) ⟨Nat.le_of_ble_eq_true rfl, Nat.le_of_ble_eq_true rfl⟩ hl.1 rfl (Nat.le_of_ble_eq_true rfl) dX7_alike_10 ⟨Nat.zero_le _, Nat.zero_le _⟩ (fun H locs hw hS => ?_)
    refine lv_if_eq (tgt := 24) hx hb dX7_alike_13 (by decide) (fun c_7 => ?_) (fun c_7 => ?_)
    · have hf := if_t c_7 hf
      refine lv_iconst (v := -1) hx hb dX7_alike_24 (by decide) ?_
      cases hf
      exact rt_i C hw hS dX7_alike_25
    · have hf := if_f c_7 hf
      refine lv_aload_n hx hb dX7_alike_16 rfl (lv_at hl 0 rfl) ?_
      refine lv_iload_n hx hb dX7_alike_17 rfl (lv_at hl 3 rfl) ?_
      obtain ⟨r9, h8, hf⟩ := bd_s hf
      refine cl_V0 C hw hS (tX7_isHand l A D cy st sz sh d x0 x3 h8) cvX7_isHand kw_917 (kc_k h1) ⟨Nat.le_of_ble_eq_true rfl, Nat.le_of_ble_eq_true rfl⟩ hl.1 rfl (Nat.le_of_ble_eq_true rfl) dX7_alike_18 ⟨Nat.zero_le _, Nat.zero_le _⟩ (fun H locs hw hS => ?_)
      refine lv_if_ne (tgt := 26) hx hb dX7_alike_21 (by decide) (fun c_10 => ?_) (fun c_10 => ?_)
      · have hf := if_f c_10 hf
        refine lv_aload_n hx hb dX7_alike_26 rfl (lv_at hl 0 rfl) ?_
        refine lv_iload_n hx hb dX7_alike_27 rfl (lv_at hl 2 rfl) ?_
        refine lv_iload_n hx hb dX7_alike_28 rfl (lv_at hl 1 rfl) ?_
        refine lv_aload_n hx hb dX7_alike_29 rfl (lv_at hl 0 rfl) ?_
        obtain ⟨v11, hv11, hf⟩ := bd_s hf
        refine gt_309 C hw hv11 kw_818 dX7_alike_30 ?_
        obtain ⟨r13, d14, h12, hf⟩ := bd2_s hf
        refine cl_V0 C hw hS (tX7_lay l A D cy st sz sh d x0 x2 x1 v11 h12) cvX7_lay kw_1134 (gR_s hv11).1 ⟨Nat.le_of_ble_eq_true rfl, Nat.le_of_ble_eq_true rfl⟩ hl.1 rfl (Nat.le_of_ble_eq_true rfl) dX7_alike_33 ⟨Nat.zero_le _, Nat.zero_le _⟩ (fun H locs hw hS => ?_)
        refine lv_istore (lv' := [(4, .int r13), (0, .ref x0), (1, .int x1), (2, .int x2), (3, .int x3)]) hx hb dX7_alike_36 hl (by decide) rfl (fun ls hl => ?_)
        refine lv_aload_n hx hb dX7_alike_38 rfl (lv_at hl 1 rfl) ?_
        refine lv_iload_n hx hb dX7_alike_39 rfl (lv_at hl 4 rfl) ?_
        refine lv_iload_n hx hb dX7_alike_40 rfl (lv_at hl 2 rfl) ?_
        refine lv_aload_n hx hb dX7_alike_41 rfl (lv_at hl 1 rfl) ?_
        obtain ⟨v15, hv15, hf⟩ := bd_s hf
        refine gt_310 C hw hv15 kw_819 dX7_alike_42 ?_
        obtain ⟨r17, d18, h16, hf⟩ := bd2_s hf
        refine cl_V0 C hw hS (tX7_lay l A D cy st sz sh d14 x0 x3 x1 v15 h16) cvX7_lay kw_1134 (gR_s hv15).1 ⟨Nat.le_of_ble_eq_true rfl, Nat.le_of_ble_eq_true rfl⟩ hl.1 rfl (Nat.le_of_ble_eq_true rfl) dX7_alike_45 ⟨Nat.zero_le _, Nat.zero_le _⟩ (fun H locs hw hS => ?_)
        refine lv_istore (lv' := [(5, .int r17), (4, .int r13), (0, .ref x0), (1, .int x1), (2, .int x2), (3, .int x3)]) hx hb dX7_alike_48 hl (by decide) rfl (fun ls hl => ?_)
        refine lv_iload hx hb dX7_alike_50 (lv_at hl 1 rfl) ?_
        refine lv_iload hx hb dX7_alike_52 (lv_at hl 0 rfl) ?_
        refine lv_icmp_ne (tgt := 61) hx hb dX7_alike_54 (by decide) (fun c_19 => ?_) (fun c_19 => ?_)
        · have hf := if_f c_19 hf
          refine lv_iconst (v := 0) hx hb dX7_alike_61 (by decide) ?_
          refine lv_istore (lv' := [(6, .int (0 : Int32)), (5, .int r17), (4, .int r13), (0, .ref x0), (1, .int x1), (2, .int x2), (3, .int x3)]) hx hb dX7_alike_62 hl (by decide) rfl (fun ls hl => ?_)
          refine lv_iconst (v := 0) hx hb dX7_alike_64 (by decide) ?_
          refine lv_istore (lv' := [(7, .int (0 : Int32)), (6, .int (0 : Int32)), (5, .int r17), (4, .int r13), (0, .ref x0), (1, .int x1), (2, .int x2), (3, .int x3)]) hx hb dX7_alike_65 hl (by decide) rfl (fun ls hl => ?_)
          exact wX7_alike_b67 C fu x0 r13 (0 : Int32) (0 : Int32) d18 hf hw hS (lv_sub hl [4, 3, 1, 0] rfl)
        · have hf := if_t c_19 hf
          refine lv_iconst (v := 1) hx hb dX7_alike_57 (by decide) ?_
          refine lv_goto (tgt := 62) hx hb dX7_alike_58 (by decide) ?_
          refine lv_istore (lv' := [(6, .int (1 : Int32)), (5, .int r17), (4, .int r13), (0, .ref x0), (1, .int x1), (2, .int x2), (3, .int x3)]) hx hb dX7_alike_62 hl (by decide) rfl (fun ls hl => ?_)
          refine lv_iconst (v := 0) hx hb dX7_alike_64 (by decide) ?_
          refine lv_istore (lv' := [(7, .int (0 : Int32)), (6, .int (1 : Int32)), (5, .int r17), (4, .int r13), (0, .ref x0), (1, .int x1), (2, .int x2), (3, .int x3)]) hx hb dX7_alike_65 hl (by decide) rfl (fun ls hl => ?_)
          exact wX7_alike_b67 C fu x0 r13 (1 : Int32) (0 : Int32) d18 hf hw hS (lv_sub hl [4, 3, 1, 0] rfl)
      · have hf := if_t c_10 hf
        refine lv_iconst (v := -1) hx hb dX7_alike_24 (by decide) ?_
        cases hf
        exact rt_i C hw hS dX7_alike_25

set_option maxRecDepth 100000 in
set_option maxHeartbeats 4000000 in
theorem tX7_alike (l : Launch) (A : Nat → Prop) (D : va_G) (cy : Nat → ClassId) (st : Nat → Nat) (sz : Nat) (sh : Sh) (d : Dt) (x0 : Nat) (x1 : Int32) (x2 : Int32) (x3 : Int32) {r : Int32} {d9 : Dt} (hf : fX7_alike sh d x0 x1 x2 x3 = some (r, d9)) : Ct l yX7_alike cX7_alike 8 (some .int) 5 123 0 0 A D cy st [.ref x0, .int x1, .int x2, .int x3] sz sh d (some (.int r)) sz sh d9 := ct_of (by decide) (Nat.le_of_ble_eq_true rfl) (fun p e s m args below meth c C hw hS ls hl => wX7_alike_b0 C x0 x1 x2 x3 d hf hw hS hl)
theorem dX7_leaves_0 : decode cX7_leaves 0 = .ok (.aload_n 0, 1) := by decide +kernel
theorem dX7_leaves_1 : decode cX7_leaves 1 = .ok (.iload_n 1, 1) := by decide +kernel
theorem dX7_leaves_2 : decode cX7_leaves 2 = .ok (.invokevirtual 109, 3) := by decide +kernel
theorem dX7_leaves_5 : decode cX7_leaves 5 = .ok (.ifCond .eq 9, 3) := by decide +kernel
theorem dX7_leaves_8 : decode cX7_leaves 8 = .ok (.iload_n 2, 1) := by decide +kernel
theorem dX7_leaves_9 : decode cX7_leaves 9 = .ok (.bipush 16, 2) := by decide +kernel
theorem dX7_leaves_11 : decode cX7_leaves 11 = .ok (.if_icmp .le 5, 3) := by decide +kernel
theorem dX7_leaves_14 : decode cX7_leaves 14 = .ok (.iconst (-1), 1) := by decide +kernel
theorem dX7_leaves_15 : decode cX7_leaves 15 = .ok (.ireturn, 1) := by decide +kernel
theorem dX7_leaves_16 : decode cX7_leaves 16 = .ok (.iload_n 2, 1) := by decide +kernel
theorem dX7_leaves_17 : decode cX7_leaves 17 = .ok (.ifCond .ge 9, 3) := by decide +kernel
theorem dX7_leaves_20 : decode cX7_leaves 20 = .ok (.aload_n 0, 1) := by decide +kernel
theorem dX7_leaves_21 : decode cX7_leaves 21 = .ok (.iconst 5, 1) := by decide +kernel
theorem dX7_leaves_22 : decode cX7_leaves 22 = .ok (.invokevirtual 120, 3) := by decide +kernel
theorem dX7_leaves_25 : decode cX7_leaves 25 = .ok (.ireturn, 1) := by decide +kernel
theorem dX7_leaves_26 : decode cX7_leaves 26 = .ok (.aload_n 0, 1) := by decide +kernel
theorem dX7_leaves_27 : decode cX7_leaves 27 = .ok (.getfield 63, 3) := by decide +kernel
theorem dX7_leaves_30 : decode cX7_leaves 30 = .ok (.iload_n 1, 1) := by decide +kernel
theorem dX7_leaves_31 : decode cX7_leaves 31 = .ok (.iload_n 2, 1) := by decide +kernel
theorem dX7_leaves_32 : decode cX7_leaves 32 = .ok (.iastore, 1) := by decide +kernel
theorem dX7_leaves_33 : decode cX7_leaves 33 = .ok (.iconst 0, 1) := by decide +kernel
theorem dX7_leaves_34 : decode cX7_leaves 34 = .ok (.istore_n 3, 1) := by decide +kernel
theorem dX7_leaves_35 : decode cX7_leaves 35 = .ok (.iload_n 3, 1) := by decide +kernel
theorem dX7_leaves_36 : decode cX7_leaves 36 = .ok (.bipush 16, 2) := by decide +kernel
theorem dX7_leaves_38 : decode cX7_leaves 38 = .ok (.if_icmp .ge 21, 3) := by decide +kernel
theorem dX7_leaves_41 : decode cX7_leaves 41 = .ok (.aload_n 0, 1) := by decide +kernel
theorem dX7_leaves_42 : decode cX7_leaves 42 = .ok (.getfield 66, 3) := by decide +kernel
theorem dX7_leaves_45 : decode cX7_leaves 45 = .ok (.bipush 16, 2) := by decide +kernel
theorem dX7_leaves_47 : decode cX7_leaves 47 = .ok (.iload_n 1, 1) := by decide +kernel
theorem dX7_leaves_48 : decode cX7_leaves 48 = .ok (.imul, 1) := by decide +kernel
theorem dX7_leaves_49 : decode cX7_leaves 49 = .ok (.iload_n 3, 1) := by decide +kernel
theorem dX7_leaves_50 : decode cX7_leaves 50 = .ok (.iadd, 1) := by decide +kernel
theorem dX7_leaves_51 : decode cX7_leaves 51 = .ok (.iconst 0, 1) := by decide +kernel
theorem dX7_leaves_52 : decode cX7_leaves 52 = .ok (.bastore, 1) := by decide +kernel
theorem dX7_leaves_53 : decode cX7_leaves 53 = .ok (.iinc 3 1, 3) := by decide +kernel
theorem dX7_leaves_56 : decode cX7_leaves 56 = .ok (.goto (-21), 3) := by decide +kernel
theorem dX7_leaves_59 : decode cX7_leaves 59 = .ok (.iload_n 2, 1) := by decide +kernel
theorem dX7_leaves_60 : decode cX7_leaves 60 = .ok (.ireturn, 1) := by decide +kernel
theorem cvX7_leaves : CV yX7_leaves cX7_leaves 4 (some .int) 8 2 := ⟨kw_1139, kw_1140, kw_6, kw_1141, ⟨_, _, rfl⟩, by decide, by decide +kernel, by decide +kernel, by decide +kernel⟩
def fX7_leaves_b35 (sh : Sh) : Nat → Nat → Int32 → Int32 → Int32 → Dt → Option (Int32 × Dt)
  | 0, _, _, _, _, _ => none
  | n + 1, x0, x1, x2, x3, d => if (16 : Int32) ≤ x3 then (some (x2, d)) else (bd (gR sh d 9 312 x0) fun v2 => bd v2 fun a3 => bd (sZ sh d 22 a3 (((16 : Int32) * x1) + x3) (0 : Int32)) fun d4 => fX7_leaves_b35 sh n x0 x1 x2 (x3 + 1) d4)

def fX7_leaves_b0 (sh : Sh) (x0 : Nat) (x1 : Int32) (x2 : Int32) (d : Dt) : Option (Int32 × Dt) := bd (kc sh 9 x0) fun _ => bd (fX7_isHand sh d x0 x1) fun r3 => if (bI r3) = 0 then (some ((-1 : Int32), d)) else (if x2 ≤ (16 : Int32) then (if 0 ≤ x2 then (bd (gR sh d 9 311 x0) fun v7 => bd v7 fun a8 => bd (sI sh d 20 a8 x1 x2) fun d9 => fX7_leaves_b35 sh fu x0 x1 x2 (0 : Int32) d9) else (bd2 (fX7_meets sh d x0 (5 : Int32)) fun r11 d12 => some (r11, d12))) else (some ((-1 : Int32), d)))

def fX7_leaves (sh : Sh) (d : Dt) (x0 : Nat) (x1 : Int32) (x2 : Int32) : Option (Int32 × Dt) := fX7_leaves_b0 sh x0 x1 x2 d

set_option maxRecDepth 100000 in
set_option maxHeartbeats 4000000 in
theorem wX7_leaves_b35 (C : mx p s m args meth c yX7_leaves cX7_leaves 4 (some .int) A D cy st) {r : Int32} {d9 : Dt} : ∀ (n : Nat) (x0 : Nat) (x1 : Int32) (x2 : Int32) (x3 : Int32) (d : Dt), fX7_leaves_b35 sh n x0 x1 x2 x3 d = some (r, d9) → ∀ {H : Heap} {locs : List Loc} {ls : Array Slot}, HW A D cy sz sh d H → va_S A s.heap H locs → lv_has ls 4 [(0, .ref x0), (1, .int x1), (2, .int x2), (3, .int x3)] → GL p l e s m args below meth c 2 43 A D cy (some (.int r)) sz sh d9 H locs 35 ls [] := by
  have hx := C.1
  have hb := C.2.1
  intro n
  induction n with
  | zero => intro x0 x1 x2 x3 d hf; cases hf
  | succ n ih =>
    intro x0 x1 x2 x3 d hf H locs ls hw hS hl
    rw [fX7_leaves_b35] at hf
    refine lv_iload_n hx hb dX7_leaves_35 rfl (lv_at hl 3 rfl) ?_
    refine lv_bipush (v := 16) hx hb dX7_leaves_36 (by decide) ?_
    refine lv_icmp_ge (tgt := 59) hx hb dX7_leaves_38 (by decide) (fun c_1 => ?_) (fun c_1 => ?_)
    · have hf := if_t c_1 hf
      refine lv_iload_n hx hb dX7_leaves_59 rfl (lv_at hl 2 rfl) ?_
      cases hf
      exact rt_i C hw hS dX7_leaves_60
    · have hf := if_f c_1 hf
      refine lv_aload_n hx hb dX7_leaves_41 rfl (lv_at hl 0 rfl) ?_
      obtain ⟨v2, hv2, hf⟩ := bd_s hf
      refine gt_312 C hw hv2 kw_821 dX7_leaves_42 ?_
      refine lv_bipush (v := 16) hx hb dX7_leaves_45 (by decide) ?_
      refine lv_iload_n hx hb dX7_leaves_47 rfl (lv_at hl 1 rfl) ?_
      refine lv_imul hx hb dX7_leaves_48 ?_
      refine lv_iload_n hx hb dX7_leaves_49 rfl (lv_at hl 3 rfl) ?_
      refine lv_iadd hx hb dX7_leaves_50 ?_
      refine lv_iconst (v := 0) hx hb dX7_leaves_51 (by decide) ?_
      obtain ⟨a3, ea3, hg⟩ := bd_s hf
      clear hf
      subst ea3
      have hf := hg
      clear hg
      obtain ⟨d4, hd4, hf⟩ := bd_s hf
      refine w_zast C hw hS hd4 dX7_leaves_52 (fun H locs hw hS => ?_)
      refine lv_iinc (v := (x3 + 1)) (lv' := [(3, .int (x3 + 1)), (0, .ref x0), (1, .int x1), (2, .int x2)]) hx hb dX7_leaves_53 hl (k := 3) rfl rfl (by decide) rfl (fun ls hl => ?_)
      refine lv_goto (tgt := 35) hx hb dX7_leaves_56 (by decide) ?_
      exact ih x0 x1 x2 (x3 + 1) d4 hf hw hS (lv_sub hl [1, 2, 3, 0] rfl)

set_option maxRecDepth 100000 in
set_option maxHeartbeats 4000000 in
theorem wX7_leaves_b0 (C : mx p s m args meth c yX7_leaves cX7_leaves 4 (some .int) A D cy st) {r : Int32} {d9 : Dt} : ∀ (x0 : Nat) (x1 : Int32) (x2 : Int32) (d : Dt), fX7_leaves_b0 sh x0 x1 x2 d = some (r, d9) → ∀ {H : Heap} {locs : List Loc} {ls : Array Slot}, HW A D cy sz sh d H → va_S A s.heap H locs → lv_has ls 4 [(0, .ref x0), (1, .int x1), (2, .int x2)] → GL p l e s m args below meth c 2 43 A D cy (some (.int r)) sz sh d9 H locs 0 ls [] := by
  have hx := C.1
  have hb := C.2.1
  intro x0 x1 x2 d hf H locs ls hw hS hl
  unfold fX7_leaves_b0 at hf
  refine lv_aload_n hx hb dX7_leaves_0 rfl (lv_at hl 0 rfl) ?_
  refine lv_iload_n hx hb dX7_leaves_1 rfl (lv_at hl 1 rfl) ?_
  obtain ⟨_, h1, hf⟩ := bd_s hf
  obtain ⟨r3, h2, hf⟩ := bd_s hf
  refine cl_V0 C hw hS (tX7_isHand l A D cy st sz sh d x0 x1 h2) cvX7_isHand kw_917 (kc_k h1) ⟨Nat.le_of_ble_eq_true rfl, Nat.le_of_ble_eq_true rfl⟩ hl.1 rfl (Nat.le_of_ble_eq_true rfl) dX7_leaves_2 ⟨Nat.zero_le _, Nat.zero_le _⟩ (fun H locs hw hS => ?_)
  refine lv_if_eq (tgt := 14) hx hb dX7_leaves_5 (by decide) (fun c_4 => ?_) (fun c_4 => ?_)
  · have hf := if_t c_4 hf
    refine lv_iconst (v := -1) hx hb dX7_leaves_14 (by decide) ?_
    cases hf
    exact rt_i C hw hS dX7_leaves_15
  · have hf := if_f c_4 hf
    refine lv_iload_n hx hb dX7_leaves_8 rfl (lv_at hl 2 rfl) ?_
    refine lv_bipush (v := 16) hx hb dX7_leaves_9 (by decide) ?_
    refine lv_icmp_le (tgt := 16) hx hb dX7_leaves_11 (by decide) (fun c_5 => ?_) (fun c_5 => ?_)
    · have hf := if_t c_5 hf
      refine lv_iload_n hx hb dX7_leaves_16 rfl (lv_at hl 2 rfl) ?_
      refine lv_if_ge (tgt := 26) hx hb dX7_leaves_17 (by decide) (fun c_6 => ?_) (fun c_6 => ?_)
      · have hf := if_t c_6 hf
        refine lv_aload_n hx hb dX7_leaves_26 rfl (lv_at hl 0 rfl) ?_
        obtain ⟨v7, hv7, hf⟩ := bd_s hf
        refine gt_311 C hw hv7 kw_820 dX7_leaves_27 ?_
        refine lv_iload_n hx hb dX7_leaves_30 rfl (lv_at hl 1 rfl) ?_
        refine lv_iload_n hx hb dX7_leaves_31 rfl (lv_at hl 2 rfl) ?_
        obtain ⟨a8, ea8, hg⟩ := bd_s hf
        clear hf
        subst ea8
        have hf := hg
        clear hg
        obtain ⟨d9, hd9, hf⟩ := bd_s hf
        refine w_iast C hw hS hd9 dX7_leaves_32 (fun H locs hw hS => ?_)
        refine lv_iconst (v := 0) hx hb dX7_leaves_33 (by decide) ?_
        refine lv_istore_n (lv' := [(3, .int (0 : Int32)), (0, .ref x0), (1, .int x1), (2, .int x2)]) hx hb dX7_leaves_34 rfl hl (by decide) rfl (fun ls hl => ?_)
        exact wX7_leaves_b35 C fu x0 x1 x2 (0 : Int32) d9 hf hw hS (lv_sub hl [1, 2, 3, 0] rfl)
      · have hf := if_f c_6 hf
        refine lv_aload_n hx hb dX7_leaves_20 rfl (lv_at hl 0 rfl) ?_
        refine lv_iconst (v := 5) hx hb dX7_leaves_21 (by decide) ?_
        obtain ⟨r11, d12, h10, hf⟩ := bd2_s hf
        refine cl_V0 C hw hS (tX7_meets l A D cy st sz sh d x0 (5 : Int32) h10) cvX7_meets kw_940 (kc_k h1) ⟨Nat.le_of_ble_eq_true rfl, Nat.le_of_ble_eq_true rfl⟩ hl.1 rfl (Nat.le_of_ble_eq_true rfl) dX7_leaves_22 ⟨Nat.zero_le _, Nat.zero_le _⟩ (fun H locs hw hS => ?_)
        cases hf
        exact rt_i C hw hS dX7_leaves_25
    · have hf := if_f c_5 hf
      refine lv_iconst (v := -1) hx hb dX7_leaves_14 (by decide) ?_
      cases hf
      exact rt_i C hw hS dX7_leaves_15

set_option maxRecDepth 100000 in
set_option maxHeartbeats 4000000 in
theorem tX7_leaves (l : Launch) (A : Nat → Prop) (D : va_G) (cy : Nat → ClassId) (st : Nat → Nat) (sz : Nat) (sh : Sh) (d : Dt) (x0 : Nat) (x1 : Int32) (x2 : Int32) {r : Int32} {d9 : Dt} (hf : fX7_leaves sh d x0 x1 x2 = some (r, d9)) : Ct l yX7_leaves cX7_leaves 4 (some .int) 2 43 0 0 A D cy st [.ref x0, .int x1, .int x2] sz sh d (some (.int r)) sz sh d9 := ct_of (by decide) (Nat.le_of_ble_eq_true rfl) (fun p e s m args below meth c C hw hS ls hl => wX7_leaves_b0 C x0 x1 x2 d hf hw hS hl)
theorem dX7_save_0 : decode cX7_save 0 = .ok (.aload_n 0, 1) := by decide +kernel
theorem dX7_save_1 : decode cX7_save 1 = .ok (.iload_n 1, 1) := by decide +kernel
theorem dX7_save_2 : decode cX7_save 2 = .ok (.invokevirtual 109, 3) := by decide +kernel
theorem dX7_save_5 : decode cX7_save 5 = .ok (.ifCond .ne 5, 3) := by decide +kernel
theorem dX7_save_8 : decode cX7_save 8 = .ok (.iconst (-1), 1) := by decide +kernel
theorem dX7_save_9 : decode cX7_save 9 = .ok (.ireturn, 1) := by decide +kernel
theorem dX7_save_10 : decode cX7_save 10 = .ok (.iload_n 2, 1) := by decide +kernel
theorem dX7_save_11 : decode cX7_save 11 = .ok (.iconst 0, 1) := by decide +kernel
theorem dX7_save_12 : decode cX7_save 12 = .ok (.aload_n 0, 1) := by decide +kernel
theorem dX7_save_13 : decode cX7_save 13 = .ok (.getfield 63, 3) := by decide +kernel
theorem dX7_save_16 : decode cX7_save 16 = .ok (.iload_n 1, 1) := by decide +kernel
theorem dX7_save_17 : decode cX7_save 17 = .ok (.iaload, 1) := by decide +kernel
theorem dX7_save_18 : decode cX7_save 18 = .ok (.iconst 1, 1) := by decide +kernel
theorem dX7_save_19 : decode cX7_save 19 = .ok (.isub, 1) := by decide +kernel
theorem dX7_save_20 : decode cX7_save 20 = .ok (.invokestatic 82, 3) := by decide +kernel
theorem dX7_save_23 : decode cX7_save 23 = .ok (.ifCond .ne 9, 3) := by decide +kernel
theorem dX7_save_26 : decode cX7_save 26 = .ok (.aload_n 0, 1) := by decide +kernel
theorem dX7_save_27 : decode cX7_save 27 = .ok (.iconst 2, 1) := by decide +kernel
theorem dX7_save_28 : decode cX7_save 28 = .ok (.invokevirtual 120, 3) := by decide +kernel
theorem dX7_save_31 : decode cX7_save 31 = .ok (.ireturn, 1) := by decide +kernel
theorem dX7_save_32 : decode cX7_save 32 = .ok (.aload_n 0, 1) := by decide +kernel
theorem dX7_save_33 : decode cX7_save 33 = .ok (.getfield 66, 3) := by decide +kernel
theorem dX7_save_36 : decode cX7_save 36 = .ok (.bipush 16, 2) := by decide +kernel
theorem dX7_save_38 : decode cX7_save 38 = .ok (.iload_n 1, 1) := by decide +kernel
theorem dX7_save_39 : decode cX7_save 39 = .ok (.imul, 1) := by decide +kernel
theorem dX7_save_40 : decode cX7_save 40 = .ok (.iload_n 2, 1) := by decide +kernel
theorem dX7_save_41 : decode cX7_save 41 = .ok (.iadd, 1) := by decide +kernel
theorem dX7_save_42 : decode cX7_save 42 = .ok (.iconst 1, 1) := by decide +kernel
theorem dX7_save_43 : decode cX7_save 43 = .ok (.bastore, 1) := by decide +kernel
theorem dX7_save_44 : decode cX7_save 44 = .ok (.aload_n 0, 1) := by decide +kernel
theorem dX7_save_45 : decode cX7_save 45 = .ok (.getfield 69, 3) := by decide +kernel
theorem dX7_save_48 : decode cX7_save 48 = .ok (.bipush 16, 2) := by decide +kernel
theorem dX7_save_50 : decode cX7_save 50 = .ok (.iload_n 1, 1) := by decide +kernel
theorem dX7_save_51 : decode cX7_save 51 = .ok (.imul, 1) := by decide +kernel
theorem dX7_save_52 : decode cX7_save 52 = .ok (.iload_n 2, 1) := by decide +kernel
theorem dX7_save_53 : decode cX7_save 53 = .ok (.iadd, 1) := by decide +kernel
theorem dX7_save_54 : decode cX7_save 54 = .ok (.aload_n 0, 1) := by decide +kernel
theorem dX7_save_55 : decode cX7_save 55 = .ok (.getfield 204, 3) := by decide +kernel
theorem dX7_save_58 : decode cX7_save 58 = .ok (.lastore, 1) := by decide +kernel
theorem dX7_save_59 : decode cX7_save 59 = .ok (.iconst 1, 1) := by decide +kernel
theorem dX7_save_60 : decode cX7_save 60 = .ok (.ireturn, 1) := by decide +kernel
theorem cvX7_save : CV yX7_save cX7_save 3 (some .int) 8 2 := ⟨kw_1143, kw_1144, kw_6, kw_1145, ⟨_, _, rfl⟩, by decide, by decide +kernel, by decide +kernel, by decide +kernel⟩
def fX7_save_b0 (sh : Sh) (x0 : Nat) (x1 : Int32) (x2 : Int32) (d : Dt) : Option (Int32 × Dt) := bd (kc sh 9 x0) fun _ => bd (fX7_isHand sh d x0 x1) fun r3 => if (bI r3) = 0 then (some ((-1 : Int32), d)) else (bd (gR sh d 9 311 x0) fun v5 => bd v5 fun a6 => bd (aI sh d 20 a6 x1) fun v7 => bd (fX7_in sh d x2 (0 : Int32) (v7 - (1 : Int32))) fun r9 => if (bI r9) = 0 then (bd2 (fX7_meets sh d x0 (2 : Int32)) fun r19 d20 => some (r19, d20)) else (bd (gR sh d 9 312 x0) fun v11 => bd v11 fun a12 => bd (sZ sh d 22 a12 (((16 : Int32) * x1) + x2) (1 : Int32)) fun d13 => bd (gR sh d13 9 313 x0) fun v14 => bd (gL sh d13 9 306 x0) fun v15 => bd v14 fun a16 => bd (sL sh d13 21 a16 (((16 : Int32) * x1) + x2) v15) fun d17 => some ((1 : Int32), d17)))

def fX7_save (sh : Sh) (d : Dt) (x0 : Nat) (x1 : Int32) (x2 : Int32) : Option (Int32 × Dt) := fX7_save_b0 sh x0 x1 x2 d

set_option maxRecDepth 100000 in
set_option maxHeartbeats 4000000 in
theorem wX7_save_b0 (C : mx p s m args meth c yX7_save cX7_save 3 (some .int) A D cy st) {r : Int32} {d9 : Dt} : ∀ (x0 : Nat) (x1 : Int32) (x2 : Int32) (d : Dt), fX7_save_b0 sh x0 x1 x2 d = some (r, d9) → ∀ {H : Heap} {locs : List Loc} {ls : Array Slot}, HW A D cy sz sh d H → va_S A s.heap H locs → lv_has ls 3 [(0, .ref x0), (1, .int x1), (2, .int x2)] → GL p l e s m args below meth c 2 43 A D cy (some (.int r)) sz sh d9 H locs 0 ls [] := by
  have hx := C.1
  have hb := C.2.1
  intro x0 x1 x2 d hf H locs ls hw hS hl
  unfold fX7_save_b0 at hf
  refine lv_aload_n hx hb dX7_save_0 rfl (lv_at hl 0 rfl) ?_
  refine lv_iload_n hx hb dX7_save_1 rfl (lv_at hl 1 rfl) ?_
  obtain ⟨_, h1, hf⟩ := bd_s hf
  obtain ⟨r3, h2, hf⟩ := bd_s hf
  refine cl_V0 C hw hS (tX7_isHand l A D cy st sz sh d x0 x1 h2) cvX7_isHand kw_917 (kc_k h1) ⟨Nat.le_of_ble_eq_true rfl, Nat.le_of_ble_eq_true rfl⟩ hl.1 rfl (Nat.le_of_ble_eq_true rfl) dX7_save_2 ⟨Nat.zero_le _, Nat.zero_le _⟩ (fun H locs hw hS => ?_)
  refine lv_if_ne (tgt := 10) hx hb dX7_save_5 (by decide) (fun c_4 => ?_) (fun c_4 => ?_)
  · have hf := if_f c_4 hf
    refine lv_iload_n hx hb dX7_save_10 rfl (lv_at hl 2 rfl) ?_
    refine lv_iconst (v := 0) hx hb dX7_save_11 (by decide) ?_
    refine lv_aload_n hx hb dX7_save_12 rfl (lv_at hl 0 rfl) ?_
    obtain ⟨v5, hv5, hf⟩ := bd_s hf
    refine gt_311 C hw hv5 kw_820 dX7_save_13 ?_
    refine lv_iload_n hx hb dX7_save_16 rfl (lv_at hl 1 rfl) ?_
    obtain ⟨a6, ea6, hg⟩ := bd_s hf
    clear hf
    subst ea6
    have hf := hg
    clear hg
    obtain ⟨v7, hv7, hf⟩ := bd_s hf
    refine w_iald C hw hv7 dX7_save_17 ?_
    refine lv_iconst (v := 1) hx hb dX7_save_18 (by decide) ?_
    refine lv_isub hx hb dX7_save_19 ?_
    obtain ⟨r9, h8, hf⟩ := bd_s hf
    refine cl_S0 C hw hS (tX7_in l A D cy st sz sh d x2 (0 : Int32) (v7 - (1 : Int32)) h8) csX7_in kw_890 ⟨Nat.le_of_ble_eq_true rfl, Nat.le_of_ble_eq_true rfl⟩ hl.1 rfl (Nat.le_of_ble_eq_true rfl) dX7_save_20 ⟨Nat.zero_le _, Nat.zero_le _⟩ (fun H locs hw hS => ?_)
    refine lv_if_ne (tgt := 32) hx hb dX7_save_23 (by decide) (fun c_10 => ?_) (fun c_10 => ?_)
    · have hf := if_f c_10 hf
      refine lv_aload_n hx hb dX7_save_32 rfl (lv_at hl 0 rfl) ?_
      obtain ⟨v11, hv11, hf⟩ := bd_s hf
      refine gt_312 C hw hv11 kw_821 dX7_save_33 ?_
      refine lv_bipush (v := 16) hx hb dX7_save_36 (by decide) ?_
      refine lv_iload_n hx hb dX7_save_38 rfl (lv_at hl 1 rfl) ?_
      refine lv_imul hx hb dX7_save_39 ?_
      refine lv_iload_n hx hb dX7_save_40 rfl (lv_at hl 2 rfl) ?_
      refine lv_iadd hx hb dX7_save_41 ?_
      refine lv_iconst (v := 1) hx hb dX7_save_42 (by decide) ?_
      obtain ⟨a12, ea12, hg⟩ := bd_s hf
      clear hf
      subst ea12
      have hf := hg
      clear hg
      obtain ⟨d13, hd13, hf⟩ := bd_s hf
      refine w_zast C hw hS hd13 dX7_save_43 (fun H locs hw hS => ?_)
      refine lv_aload_n hx hb dX7_save_44 rfl (lv_at hl 0 rfl) ?_
      obtain ⟨v14, hv14, hf⟩ := bd_s hf
      refine gt_313 C hw hv14 kw_822 dX7_save_45 ?_
      refine lv_bipush (v := 16) hx hb dX7_save_48 (by decide) ?_
      refine lv_iload_n hx hb dX7_save_50 rfl (lv_at hl 1 rfl) ?_
      refine lv_imul hx hb dX7_save_51 ?_
      refine lv_iload_n hx hb dX7_save_52 rfl (lv_at hl 2 rfl) ?_
      refine lv_iadd hx hb dX7_save_53 ?_
      refine lv_aload_n hx hb dX7_save_54 rfl (lv_at hl 0 rfl) ?_
      obtain ⟨v15, hv15, hf⟩ := bd_s hf
      refine gt_306 C hw hv15 kw_815 dX7_save_55 ?_
      obtain ⟨a16, ea16, hg⟩ := bd_s hf
      clear hf
      subst ea16
      have hf := hg
      clear hg
      obtain ⟨d17, hd17, hf⟩ := bd_s hf
      refine w_last C hw hS hd17 dX7_save_58 (fun H locs hw hS => ?_)
      refine lv_iconst (v := 1) hx hb dX7_save_59 (by decide) ?_
      cases hf
      exact rt_i C hw hS dX7_save_60
    · have hf := if_t c_10 hf
      refine lv_aload_n hx hb dX7_save_26 rfl (lv_at hl 0 rfl) ?_
      refine lv_iconst (v := 2) hx hb dX7_save_27 (by decide) ?_
      obtain ⟨r19, d20, h18, hf⟩ := bd2_s hf
      refine cl_V0 C hw hS (tX7_meets l A D cy st sz sh d x0 (2 : Int32) h18) cvX7_meets kw_940 (gR_s hv5).1 ⟨Nat.le_of_ble_eq_true rfl, Nat.le_of_ble_eq_true rfl⟩ hl.1 rfl (Nat.le_of_ble_eq_true rfl) dX7_save_28 ⟨Nat.zero_le _, Nat.zero_le _⟩ (fun H locs hw hS => ?_)
      cases hf
      exact rt_i C hw hS dX7_save_31
  · have hf := if_t c_4 hf
    refine lv_iconst (v := -1) hx hb dX7_save_8 (by decide) ?_
    cases hf
    exact rt_i C hw hS dX7_save_9

set_option maxRecDepth 100000 in
set_option maxHeartbeats 4000000 in
theorem tX7_save (l : Launch) (A : Nat → Prop) (D : va_G) (cy : Nat → ClassId) (st : Nat → Nat) (sz : Nat) (sh : Sh) (d : Dt) (x0 : Nat) (x1 : Int32) (x2 : Int32) {r : Int32} {d9 : Dt} (hf : fX7_save sh d x0 x1 x2 = some (r, d9)) : Ct l yX7_save cX7_save 3 (some .int) 2 43 0 0 A D cy st [.ref x0, .int x1, .int x2] sz sh d (some (.int r)) sz sh d9 := ct_of (by decide) (Nat.le_of_ble_eq_true rfl) (fun p e s m args below meth c C hw hS ls hl => wX7_save_b0 C x0 x1 x2 d hf hw hS hl)
theorem dX7_lacksLeaf_0 : decode cX7_lacksLeaf 0 = .ok (.iload_n 2, 1) := by decide +kernel
theorem dX7_lacksLeaf_1 : decode cX7_lacksLeaf 1 = .ok (.iconst 0, 1) := by decide +kernel
theorem dX7_lacksLeaf_2 : decode cX7_lacksLeaf 2 = .ok (.aload_n 0, 1) := by decide +kernel
theorem dX7_lacksLeaf_3 : decode cX7_lacksLeaf 3 = .ok (.getfield 63, 3) := by decide +kernel
theorem dX7_lacksLeaf_6 : decode cX7_lacksLeaf 6 = .ok (.iload_n 1, 1) := by decide +kernel
theorem dX7_lacksLeaf_7 : decode cX7_lacksLeaf 7 = .ok (.iaload, 1) := by decide +kernel
theorem dX7_lacksLeaf_8 : decode cX7_lacksLeaf 8 = .ok (.iconst 1, 1) := by decide +kernel
theorem dX7_lacksLeaf_9 : decode cX7_lacksLeaf 9 = .ok (.isub, 1) := by decide +kernel
theorem dX7_lacksLeaf_10 : decode cX7_lacksLeaf 10 = .ok (.invokestatic 82, 3) := by decide +kernel
theorem dX7_lacksLeaf_13 : decode cX7_lacksLeaf 13 = .ok (.ifCond .ne 7, 3) := by decide +kernel
theorem dX7_lacksLeaf_16 : decode cX7_lacksLeaf 16 = .ok (.iconst 2, 1) := by decide +kernel
theorem dX7_lacksLeaf_17 : decode cX7_lacksLeaf 17 = .ok (.goto 22, 3) := by decide +kernel
theorem dX7_lacksLeaf_20 : decode cX7_lacksLeaf 20 = .ok (.aload_n 0, 1) := by decide +kernel
theorem dX7_lacksLeaf_21 : decode cX7_lacksLeaf 21 = .ok (.getfield 66, 3) := by decide +kernel
theorem dX7_lacksLeaf_24 : decode cX7_lacksLeaf 24 = .ok (.bipush 16, 2) := by decide +kernel
theorem dX7_lacksLeaf_26 : decode cX7_lacksLeaf 26 = .ok (.iload_n 1, 1) := by decide +kernel
theorem dX7_lacksLeaf_27 : decode cX7_lacksLeaf 27 = .ok (.imul, 1) := by decide +kernel
theorem dX7_lacksLeaf_28 : decode cX7_lacksLeaf 28 = .ok (.iload_n 2, 1) := by decide +kernel
theorem dX7_lacksLeaf_29 : decode cX7_lacksLeaf 29 = .ok (.iadd, 1) := by decide +kernel
theorem dX7_lacksLeaf_30 : decode cX7_lacksLeaf 30 = .ok (.baload, 1) := by decide +kernel
theorem dX7_lacksLeaf_31 : decode cX7_lacksLeaf 31 = .ok (.ifCond .eq 7, 3) := by decide +kernel
theorem dX7_lacksLeaf_34 : decode cX7_lacksLeaf 34 = .ok (.iconst 0, 1) := by decide +kernel
theorem dX7_lacksLeaf_35 : decode cX7_lacksLeaf 35 = .ok (.goto 4, 3) := by decide +kernel
theorem dX7_lacksLeaf_38 : decode cX7_lacksLeaf 38 = .ok (.iconst 1, 1) := by decide +kernel
theorem dX7_lacksLeaf_39 : decode cX7_lacksLeaf 39 = .ok (.ireturn, 1) := by decide +kernel
theorem cvX7_lacksLeaf : CV yX7_lacksLeaf cX7_lacksLeaf 3 (some .int) 8 2 := ⟨kw_1152, ks_49, kw_6, kw_1153, ⟨_, _, rfl⟩, by decide, by decide +kernel, by decide +kernel, by decide +kernel⟩
def fX7_lacksLeaf_b0 (sh : Sh) (d : Dt) (x0 : Nat) (x1 : Int32) (x2 : Int32) : Option (Int32) := bd (gR sh d 9 311 x0) fun v1 => bd v1 fun a2 => bd (aI sh d 20 a2 x1) fun v3 => bd (fX7_in sh d x2 (0 : Int32) (v3 - (1 : Int32))) fun r5 => if (bI r5) = 0 then (some (2 : Int32)) else (bd (gR sh d 9 312 x0) fun v7 => bd v7 fun a8 => bd (aI sh d 22 a8 (((16 : Int32) * x1) + x2)) fun v9 => if v9 = 0 then (some (1 : Int32)) else (some (0 : Int32)))

def fX7_lacksLeaf (sh : Sh) (d : Dt) (x0 : Nat) (x1 : Int32) (x2 : Int32) : Option (Int32) := fX7_lacksLeaf_b0 sh d x0 x1 x2

set_option maxRecDepth 100000 in
set_option maxHeartbeats 4000000 in
theorem wX7_lacksLeaf_b0 (C : mx p s m args meth c yX7_lacksLeaf cX7_lacksLeaf 3 (some .int) A D cy st) {r : Int32} {d : Dt} : ∀ (x0 : Nat) (x1 : Int32) (x2 : Int32), fX7_lacksLeaf_b0 sh d x0 x1 x2 = some r → ∀ {H : Heap} {locs : List Loc} {ls : Array Slot}, HW A D cy sz sh d H → va_S A s.heap H locs → lv_has ls 3 [(0, .ref x0), (1, .int x1), (2, .int x2)] → GL p l e s m args below meth c 1 22 A D cy (some (.int r)) sz sh d H locs 0 ls [] := by
  have hx := C.1
  have hb := C.2.1
  intro x0 x1 x2 hf H locs ls hw hS hl
  unfold fX7_lacksLeaf_b0 at hf
  refine lv_iload_n hx hb dX7_lacksLeaf_0 rfl (lv_at hl 2 rfl) ?_
  refine lv_iconst (v := 0) hx hb dX7_lacksLeaf_1 (by decide) ?_
  refine lv_aload_n hx hb dX7_lacksLeaf_2 rfl (lv_at hl 0 rfl) ?_
  obtain ⟨v1, hv1, hf⟩ := bd_s hf
  refine gt_311 C hw hv1 kw_820 dX7_lacksLeaf_3 ?_
  refine lv_iload_n hx hb dX7_lacksLeaf_6 rfl (lv_at hl 1 rfl) ?_
  obtain ⟨a2, ea2, hg⟩ := bd_s hf
  clear hf
  subst ea2
  have hf := hg
  clear hg
  obtain ⟨v3, hv3, hf⟩ := bd_s hf
  refine w_iald C hw hv3 dX7_lacksLeaf_7 ?_
  refine lv_iconst (v := 1) hx hb dX7_lacksLeaf_8 (by decide) ?_
  refine lv_isub hx hb dX7_lacksLeaf_9 ?_
  obtain ⟨r5, h4, hf⟩ := bd_s hf
  refine cl_S0 C hw hS (tX7_in l A D cy st sz sh d x2 (0 : Int32) (v3 - (1 : Int32)) h4) csX7_in kw_890 ⟨Nat.le_of_ble_eq_true rfl, Nat.le_of_ble_eq_true rfl⟩ hl.1 rfl (Nat.le_of_ble_eq_true rfl) dX7_lacksLeaf_10 ⟨Nat.zero_le _, Nat.zero_le _⟩ (fun H locs hw hS => ?_)
  refine lv_if_ne (tgt := 20) hx hb dX7_lacksLeaf_13 (by decide) (fun c_6 => ?_) (fun c_6 => ?_)
  · have hf := if_f c_6 hf
    refine lv_aload_n hx hb dX7_lacksLeaf_20 rfl (lv_at hl 0 rfl) ?_
    obtain ⟨v7, hv7, hf⟩ := bd_s hf
    refine gt_312 C hw hv7 kw_821 dX7_lacksLeaf_21 ?_
    refine lv_bipush (v := 16) hx hb dX7_lacksLeaf_24 (by decide) ?_
    refine lv_iload_n hx hb dX7_lacksLeaf_26 rfl (lv_at hl 1 rfl) ?_
    refine lv_imul hx hb dX7_lacksLeaf_27 ?_
    refine lv_iload_n hx hb dX7_lacksLeaf_28 rfl (lv_at hl 2 rfl) ?_
    refine lv_iadd hx hb dX7_lacksLeaf_29 ?_
    obtain ⟨a8, ea8, hg⟩ := bd_s hf
    clear hf
    subst ea8
    have hf := hg
    clear hg
    obtain ⟨v9, hv9, hf⟩ := bd_s hf
    refine w_zald C hw hv9 dX7_lacksLeaf_30 ?_
    refine lv_if_eq (tgt := 38) hx hb dX7_lacksLeaf_31 (by decide) (fun c_10 => ?_) (fun c_10 => ?_)
    · have hf := if_t c_10 hf
      refine lv_iconst (v := 1) hx hb dX7_lacksLeaf_38 (by decide) ?_
      cases hf
      exact rt_i C hw hS dX7_lacksLeaf_39
    · have hf := if_f c_10 hf
      refine lv_iconst (v := 0) hx hb dX7_lacksLeaf_34 (by decide) ?_
      refine lv_goto (tgt := 39) hx hb dX7_lacksLeaf_35 (by decide) ?_
      cases hf
      exact rt_i C hw hS dX7_lacksLeaf_39
  · have hf := if_t c_6 hf
    refine lv_iconst (v := 2) hx hb dX7_lacksLeaf_16 (by decide) ?_
    refine lv_goto (tgt := 39) hx hb dX7_lacksLeaf_17 (by decide) ?_
    cases hf
    exact rt_i C hw hS dX7_lacksLeaf_39

set_option maxRecDepth 100000 in
set_option maxHeartbeats 4000000 in
theorem tX7_lacksLeaf (l : Launch) (A : Nat → Prop) (D : va_G) (cy : Nat → ClassId) (st : Nat → Nat) (sz : Nat) (sh : Sh) (d : Dt) (x0 : Nat) (x1 : Int32) (x2 : Int32) {r : Int32} (hf : fX7_lacksLeaf sh d x0 x1 x2 = some r) : Ct l yX7_lacksLeaf cX7_lacksLeaf 3 (some .int) 1 22 0 0 A D cy st [.ref x0, .int x1, .int x2] sz sh d (some (.int r)) sz sh d := ct_of (by decide) (Nat.le_of_ble_eq_true rfl) (fun p e s m args below meth c C hw hS ls hl => wX7_lacksLeaf_b0 C x0 x1 x2 hf hw hS hl)
theorem dX7_tear_0 : decode cX7_tear 0 = .ok (.aload_n 0, 1) := by decide +kernel
theorem dX7_tear_1 : decode cX7_tear 1 = .ok (.iload_n 1, 1) := by decide +kernel
theorem dX7_tear_2 : decode cX7_tear 2 = .ok (.invokevirtual 109, 3) := by decide +kernel
theorem dX7_tear_5 : decode cX7_tear 5 = .ok (.ifCond .ne 5, 3) := by decide +kernel
theorem dX7_tear_8 : decode cX7_tear 8 = .ok (.iconst (-1), 1) := by decide +kernel
theorem dX7_tear_9 : decode cX7_tear 9 = .ok (.ireturn, 1) := by decide +kernel
theorem dX7_tear_10 : decode cX7_tear 10 = .ok (.aload_n 0, 1) := by decide +kernel
theorem dX7_tear_11 : decode cX7_tear 11 = .ok (.iload_n 1, 1) := by decide +kernel
theorem dX7_tear_12 : decode cX7_tear 12 = .ok (.iload_n 2, 1) := by decide +kernel
theorem dX7_tear_13 : decode cX7_tear 13 = .ok (.invokevirtual 226, 3) := by decide +kernel
theorem dX7_tear_16 : decode cX7_tear 16 = .ok (.istore_n 3, 1) := by decide +kernel
theorem dX7_tear_17 : decode cX7_tear 17 = .ok (.iload_n 3, 1) := by decide +kernel
theorem dX7_tear_18 : decode cX7_tear 18 = .ok (.ifCond .le 9, 3) := by decide +kernel
theorem dX7_tear_21 : decode cX7_tear 21 = .ok (.aload_n 0, 1) := by decide +kernel
theorem dX7_tear_22 : decode cX7_tear 22 = .ok (.iload_n 3, 1) := by decide +kernel
theorem dX7_tear_23 : decode cX7_tear 23 = .ok (.invokevirtual 120, 3) := by decide +kernel
theorem dX7_tear_26 : decode cX7_tear 26 = .ok (.ireturn, 1) := by decide +kernel
theorem dX7_tear_27 : decode cX7_tear 27 = .ok (.aload_n 0, 1) := by decide +kernel
theorem dX7_tear_28 : decode cX7_tear 28 = .ok (.getfield 66, 3) := by decide +kernel
theorem dX7_tear_31 : decode cX7_tear 31 = .ok (.bipush 16, 2) := by decide +kernel
theorem dX7_tear_33 : decode cX7_tear 33 = .ok (.iload_n 1, 1) := by decide +kernel
theorem dX7_tear_34 : decode cX7_tear 34 = .ok (.imul, 1) := by decide +kernel
theorem dX7_tear_35 : decode cX7_tear 35 = .ok (.iload_n 2, 1) := by decide +kernel
theorem dX7_tear_36 : decode cX7_tear 36 = .ok (.iadd, 1) := by decide +kernel
theorem dX7_tear_37 : decode cX7_tear 37 = .ok (.iconst 0, 1) := by decide +kernel
theorem dX7_tear_38 : decode cX7_tear 38 = .ok (.bastore, 1) := by decide +kernel
theorem dX7_tear_39 : decode cX7_tear 39 = .ok (.iconst 1, 1) := by decide +kernel
theorem dX7_tear_40 : decode cX7_tear 40 = .ok (.ireturn, 1) := by decide +kernel
theorem cvX7_tear : CV yX7_tear cX7_tear 4 (some .int) 8 2 := ⟨kw_1147, kw_1148, kw_6, kw_1149, ⟨_, _, rfl⟩, by decide, by decide +kernel, by decide +kernel, by decide +kernel⟩
def fX7_tear_b0 (sh : Sh) (x0 : Nat) (x1 : Int32) (x2 : Int32) (d : Dt) : Option (Int32 × Dt) := bd (kc sh 9 x0) fun _ => bd (fX7_isHand sh d x0 x1) fun r3 => if (bI r3) = 0 then (some ((-1 : Int32), d)) else (bd (fX7_lacksLeaf sh d x0 x1 x2) fun r6 => if r6 ≤ 0 then (bd (gR sh d 9 312 x0) fun v8 => bd v8 fun a9 => bd (sZ sh d 22 a9 (((16 : Int32) * x1) + x2) (0 : Int32)) fun d10 => some ((1 : Int32), d10)) else (bd2 (fX7_meets sh d x0 r6) fun r12 d13 => some (r12, d13)))

def fX7_tear (sh : Sh) (d : Dt) (x0 : Nat) (x1 : Int32) (x2 : Int32) : Option (Int32 × Dt) := fX7_tear_b0 sh x0 x1 x2 d

set_option maxRecDepth 100000 in
set_option maxHeartbeats 4000000 in
theorem wX7_tear_b0 (C : mx p s m args meth c yX7_tear cX7_tear 4 (some .int) A D cy st) {r : Int32} {d9 : Dt} : ∀ (x0 : Nat) (x1 : Int32) (x2 : Int32) (d : Dt), fX7_tear_b0 sh x0 x1 x2 d = some (r, d9) → ∀ {H : Heap} {locs : List Loc} {ls : Array Slot}, HW A D cy sz sh d H → va_S A s.heap H locs → lv_has ls 4 [(0, .ref x0), (1, .int x1), (2, .int x2)] → GL p l e s m args below meth c 2 44 A D cy (some (.int r)) sz sh d9 H locs 0 ls [] := by
  have hx := C.1
  have hb := C.2.1
  intro x0 x1 x2 d hf H locs ls hw hS hl
  unfold fX7_tear_b0 at hf
  refine lv_aload_n hx hb dX7_tear_0 rfl (lv_at hl 0 rfl) ?_
  refine lv_iload_n hx hb dX7_tear_1 rfl (lv_at hl 1 rfl) ?_
  obtain ⟨_, h1, hf⟩ := bd_s hf
  obtain ⟨r3, h2, hf⟩ := bd_s hf
  refine cl_V0 C hw hS (tX7_isHand l A D cy st sz sh d x0 x1 h2) cvX7_isHand kw_917 (kc_k h1) ⟨Nat.le_of_ble_eq_true rfl, Nat.le_of_ble_eq_true rfl⟩ hl.1 rfl (Nat.le_of_ble_eq_true rfl) dX7_tear_2 ⟨Nat.zero_le _, Nat.zero_le _⟩ (fun H locs hw hS => ?_)
  refine lv_if_ne (tgt := 10) hx hb dX7_tear_5 (by decide) (fun c_4 => ?_) (fun c_4 => ?_)
  · have hf := if_f c_4 hf
    refine lv_aload_n hx hb dX7_tear_10 rfl (lv_at hl 0 rfl) ?_
    refine lv_iload_n hx hb dX7_tear_11 rfl (lv_at hl 1 rfl) ?_
    refine lv_iload_n hx hb dX7_tear_12 rfl (lv_at hl 2 rfl) ?_
    obtain ⟨r6, h5, hf⟩ := bd_s hf
    refine cl_V0 C hw hS (tX7_lacksLeaf l A D cy st sz sh d x0 x1 x2 h5) cvX7_lacksLeaf kw_1150 (kc_k h1) ⟨Nat.le_of_ble_eq_true rfl, Nat.le_of_ble_eq_true rfl⟩ hl.1 rfl (Nat.le_of_ble_eq_true rfl) dX7_tear_13 ⟨Nat.zero_le _, Nat.zero_le _⟩ (fun H locs hw hS => ?_)
    refine lv_istore_n (lv' := [(3, .int r6), (0, .ref x0), (1, .int x1), (2, .int x2)]) hx hb dX7_tear_16 rfl hl (by decide) rfl (fun ls hl => ?_)
    refine lv_iload_n hx hb dX7_tear_17 rfl (lv_at hl 0 rfl) ?_
    refine lv_if_le (tgt := 27) hx hb dX7_tear_18 (by decide) (fun c_7 => ?_) (fun c_7 => ?_)
    · have hf := if_t c_7 hf
      refine lv_aload_n hx hb dX7_tear_27 rfl (lv_at hl 1 rfl) ?_
      obtain ⟨v8, hv8, hf⟩ := bd_s hf
      refine gt_312 C hw hv8 kw_821 dX7_tear_28 ?_
      refine lv_bipush (v := 16) hx hb dX7_tear_31 (by decide) ?_
      refine lv_iload_n hx hb dX7_tear_33 rfl (lv_at hl 2 rfl) ?_
      refine lv_imul hx hb dX7_tear_34 ?_
      refine lv_iload_n hx hb dX7_tear_35 rfl (lv_at hl 3 rfl) ?_
      refine lv_iadd hx hb dX7_tear_36 ?_
      refine lv_iconst (v := 0) hx hb dX7_tear_37 (by decide) ?_
      obtain ⟨a9, ea9, hg⟩ := bd_s hf
      clear hf
      subst ea9
      have hf := hg
      clear hg
      obtain ⟨d10, hd10, hf⟩ := bd_s hf
      refine w_zast C hw hS hd10 dX7_tear_38 (fun H locs hw hS => ?_)
      refine lv_iconst (v := 1) hx hb dX7_tear_39 (by decide) ?_
      cases hf
      exact rt_i C hw hS dX7_tear_40
    · have hf := if_f c_7 hf
      refine lv_aload_n hx hb dX7_tear_21 rfl (lv_at hl 1 rfl) ?_
      refine lv_iload_n hx hb dX7_tear_22 rfl (lv_at hl 0 rfl) ?_
      obtain ⟨r12, d13, h11, hf⟩ := bd2_s hf
      refine cl_V0 C hw hS (tX7_meets l A D cy st sz sh d x0 r6 h11) cvX7_meets kw_940 (kc_k h1) ⟨Nat.le_of_ble_eq_true rfl, Nat.le_of_ble_eq_true rfl⟩ hl.1 rfl (Nat.le_of_ble_eq_true rfl) dX7_tear_23 ⟨Nat.zero_le _, Nat.zero_le _⟩ (fun H locs hw hS => ?_)
      cases hf
      exact rt_i C hw hS dX7_tear_26
  · have hf := if_t c_4 hf
    refine lv_iconst (v := -1) hx hb dX7_tear_8 (by decide) ?_
    cases hf
    exact rt_i C hw hS dX7_tear_9

set_option maxRecDepth 100000 in
set_option maxHeartbeats 4000000 in
theorem tX7_tear (l : Launch) (A : Nat → Prop) (D : va_G) (cy : Nat → ClassId) (st : Nat → Nat) (sz : Nat) (sh : Sh) (d : Dt) (x0 : Nat) (x1 : Int32) (x2 : Int32) {r : Int32} {d9 : Dt} (hf : fX7_tear sh d x0 x1 x2 = some (r, d9)) : Ct l yX7_tear cX7_tear 4 (some .int) 2 44 0 0 A D cy st [.ref x0, .int x1, .int x2] sz sh d (some (.int r)) sz sh d9 := ct_of (by decide) (Nat.le_of_ble_eq_true rfl) (fun p e s m args below meth c C hw hS ls hl => wX7_tear_b0 C x0 x1 x2 d hf hw hS hl)
theorem dX7_leaf_0 : decode cX7_leaf 0 = .ok (.aload_n 0, 1) := by decide +kernel
theorem dX7_leaf_1 : decode cX7_leaf 1 = .ok (.iload_n 1, 1) := by decide +kernel
theorem dX7_leaf_2 : decode cX7_leaf 2 = .ok (.invokevirtual 109, 3) := by decide +kernel
theorem dX7_leaf_5 : decode cX7_leaf 5 = .ok (.ifCond .ne 5, 3) := by decide +kernel
theorem dX7_leaf_8 : decode cX7_leaf 8 = .ok (.iconst (-1), 1) := by decide +kernel
theorem dX7_leaf_9 : decode cX7_leaf 9 = .ok (.ireturn, 1) := by decide +kernel
theorem dX7_leaf_10 : decode cX7_leaf 10 = .ok (.aload_n 0, 1) := by decide +kernel
theorem dX7_leaf_11 : decode cX7_leaf 11 = .ok (.iload_n 1, 1) := by decide +kernel
theorem dX7_leaf_12 : decode cX7_leaf 12 = .ok (.iload_n 2, 1) := by decide +kernel
theorem dX7_leaf_13 : decode cX7_leaf 13 = .ok (.invokevirtual 226, 3) := by decide +kernel
theorem dX7_leaf_16 : decode cX7_leaf 16 = .ok (.istore_n 3, 1) := by decide +kernel
theorem dX7_leaf_17 : decode cX7_leaf 17 = .ok (.iload_n 3, 1) := by decide +kernel
theorem dX7_leaf_18 : decode cX7_leaf 18 = .ok (.ifCond .le 9, 3) := by decide +kernel
theorem dX7_leaf_21 : decode cX7_leaf 21 = .ok (.aload_n 0, 1) := by decide +kernel
theorem dX7_leaf_22 : decode cX7_leaf 22 = .ok (.iload_n 3, 1) := by decide +kernel
theorem dX7_leaf_23 : decode cX7_leaf 23 = .ok (.invokevirtual 120, 3) := by decide +kernel
theorem dX7_leaf_26 : decode cX7_leaf 26 = .ok (.ireturn, 1) := by decide +kernel
theorem dX7_leaf_27 : decode cX7_leaf 27 = .ok (.aload_n 0, 1) := by decide +kernel
theorem dX7_leaf_28 : decode cX7_leaf 28 = .ok (.aload_n 0, 1) := by decide +kernel
theorem dX7_leaf_29 : decode cX7_leaf 29 = .ok (.getfield 69, 3) := by decide +kernel
theorem dX7_leaf_32 : decode cX7_leaf 32 = .ok (.bipush 16, 2) := by decide +kernel
theorem dX7_leaf_34 : decode cX7_leaf 34 = .ok (.iload_n 1, 1) := by decide +kernel
theorem dX7_leaf_35 : decode cX7_leaf 35 = .ok (.imul, 1) := by decide +kernel
theorem dX7_leaf_36 : decode cX7_leaf 36 = .ok (.iload_n 2, 1) := by decide +kernel
theorem dX7_leaf_37 : decode cX7_leaf 37 = .ok (.iadd, 1) := by decide +kernel
theorem dX7_leaf_38 : decode cX7_leaf 38 = .ok (.laload, 1) := by decide +kernel
theorem dX7_leaf_39 : decode cX7_leaf 39 = .ok (.putfield 204, 3) := by decide +kernel
theorem dX7_leaf_42 : decode cX7_leaf 42 = .ok (.iconst 1, 1) := by decide +kernel
theorem dX7_leaf_43 : decode cX7_leaf 43 = .ok (.ireturn, 1) := by decide +kernel
theorem cvX7_leaf : CV yX7_leaf cX7_leaf 4 (some .int) 8 2 := ⟨kw_1155, kw_1156, kw_6, kw_1157, ⟨_, _, rfl⟩, by decide, by decide +kernel, by decide +kernel, by decide +kernel⟩
def fX7_leaf_b0 (sh : Sh) (x0 : Nat) (x1 : Int32) (x2 : Int32) (d : Dt) : Option (Int32 × Dt) := bd (kc sh 9 x0) fun _ => bd (fX7_isHand sh d x0 x1) fun r3 => if (bI r3) = 0 then (some ((-1 : Int32), d)) else (bd (fX7_lacksLeaf sh d x0 x1 x2) fun r6 => if r6 ≤ 0 then (bd (gR sh d 9 313 x0) fun v8 => bd v8 fun a9 => bd (aL sh d 21 a9 (((16 : Int32) * x1) + x2)) fun v10 => bd (pL sh d 9 306 x0 v10) fun d11 => some ((1 : Int32), d11)) else (bd2 (fX7_meets sh d x0 r6) fun r13 d14 => some (r13, d14)))

def fX7_leaf (sh : Sh) (d : Dt) (x0 : Nat) (x1 : Int32) (x2 : Int32) : Option (Int32 × Dt) := fX7_leaf_b0 sh x0 x1 x2 d

set_option maxRecDepth 100000 in
set_option maxHeartbeats 4000000 in
theorem wX7_leaf_b0 (C : mx p s m args meth c yX7_leaf cX7_leaf 4 (some .int) A D cy st) {r : Int32} {d9 : Dt} : ∀ (x0 : Nat) (x1 : Int32) (x2 : Int32) (d : Dt), fX7_leaf_b0 sh x0 x1 x2 d = some (r, d9) → ∀ {H : Heap} {locs : List Loc} {ls : Array Slot}, HW A D cy sz sh d H → va_S A s.heap H locs → lv_has ls 4 [(0, .ref x0), (1, .int x1), (2, .int x2)] → GL p l e s m args below meth c 2 44 A D cy (some (.int r)) sz sh d9 H locs 0 ls [] := by
  have hx := C.1
  have hb := C.2.1
  intro x0 x1 x2 d hf H locs ls hw hS hl
  unfold fX7_leaf_b0 at hf
  refine lv_aload_n hx hb dX7_leaf_0 rfl (lv_at hl 0 rfl) ?_
  refine lv_iload_n hx hb dX7_leaf_1 rfl (lv_at hl 1 rfl) ?_
  obtain ⟨_, h1, hf⟩ := bd_s hf
  obtain ⟨r3, h2, hf⟩ := bd_s hf
  refine cl_V0 C hw hS (tX7_isHand l A D cy st sz sh d x0 x1 h2) cvX7_isHand kw_917 (kc_k h1) ⟨Nat.le_of_ble_eq_true rfl, Nat.le_of_ble_eq_true rfl⟩ hl.1 rfl (Nat.le_of_ble_eq_true rfl) dX7_leaf_2 ⟨Nat.zero_le _, Nat.zero_le _⟩ (fun H locs hw hS => ?_)
  refine lv_if_ne (tgt := 10) hx hb dX7_leaf_5 (by decide) (fun c_4 => ?_) (fun c_4 => ?_)
  · have hf := if_f c_4 hf
    refine lv_aload_n hx hb dX7_leaf_10 rfl (lv_at hl 0 rfl) ?_
    refine lv_iload_n hx hb dX7_leaf_11 rfl (lv_at hl 1 rfl) ?_
    refine lv_iload_n hx hb dX7_leaf_12 rfl (lv_at hl 2 rfl) ?_
    obtain ⟨r6, h5, hf⟩ := bd_s hf
    refine cl_V0 C hw hS (tX7_lacksLeaf l A D cy st sz sh d x0 x1 x2 h5) cvX7_lacksLeaf kw_1150 (kc_k h1) ⟨Nat.le_of_ble_eq_true rfl, Nat.le_of_ble_eq_true rfl⟩ hl.1 rfl (Nat.le_of_ble_eq_true rfl) dX7_leaf_13 ⟨Nat.zero_le _, Nat.zero_le _⟩ (fun H locs hw hS => ?_)
    refine lv_istore_n (lv' := [(3, .int r6), (0, .ref x0), (1, .int x1), (2, .int x2)]) hx hb dX7_leaf_16 rfl hl (by decide) rfl (fun ls hl => ?_)
    refine lv_iload_n hx hb dX7_leaf_17 rfl (lv_at hl 0 rfl) ?_
    refine lv_if_le (tgt := 27) hx hb dX7_leaf_18 (by decide) (fun c_7 => ?_) (fun c_7 => ?_)
    · have hf := if_t c_7 hf
      refine lv_aload_n hx hb dX7_leaf_27 rfl (lv_at hl 1 rfl) ?_
      refine lv_aload_n hx hb dX7_leaf_28 rfl (lv_at hl 1 rfl) ?_
      obtain ⟨v8, hv8, hf⟩ := bd_s hf
      refine gt_313 C hw hv8 kw_822 dX7_leaf_29 ?_
      refine lv_bipush (v := 16) hx hb dX7_leaf_32 (by decide) ?_
      refine lv_iload_n hx hb dX7_leaf_34 rfl (lv_at hl 2 rfl) ?_
      refine lv_imul hx hb dX7_leaf_35 ?_
      refine lv_iload_n hx hb dX7_leaf_36 rfl (lv_at hl 3 rfl) ?_
      refine lv_iadd hx hb dX7_leaf_37 ?_
      obtain ⟨a9, ea9, hg⟩ := bd_s hf
      clear hf
      subst ea9
      have hf := hg
      clear hg
      obtain ⟨v10, hv10, hf⟩ := bd_s hf
      refine w_lald C hw hv10 dX7_leaf_38 ?_
      obtain ⟨d11, hd11, hf⟩ := bd_s hf
      refine pt_306 C hw hS hd11 kw_815 dX7_leaf_39 (fun H locs hw hS => ?_)
      refine lv_iconst (v := 1) hx hb dX7_leaf_42 (by decide) ?_
      cases hf
      exact rt_i C hw hS dX7_leaf_43
    · have hf := if_f c_7 hf
      refine lv_aload_n hx hb dX7_leaf_21 rfl (lv_at hl 1 rfl) ?_
      refine lv_iload_n hx hb dX7_leaf_22 rfl (lv_at hl 0 rfl) ?_
      obtain ⟨r13, d14, h12, hf⟩ := bd2_s hf
      refine cl_V0 C hw hS (tX7_meets l A D cy st sz sh d x0 r6 h12) cvX7_meets kw_940 (kc_k h1) ⟨Nat.le_of_ble_eq_true rfl, Nat.le_of_ble_eq_true rfl⟩ hl.1 rfl (Nat.le_of_ble_eq_true rfl) dX7_leaf_23 ⟨Nat.zero_le _, Nat.zero_le _⟩ (fun H locs hw hS => ?_)
      cases hf
      exact rt_i C hw hS dX7_leaf_26
  · have hf := if_t c_4 hf
    refine lv_iconst (v := -1) hx hb dX7_leaf_8 (by decide) ?_
    cases hf
    exact rt_i C hw hS dX7_leaf_9

set_option maxRecDepth 100000 in
set_option maxHeartbeats 4000000 in
theorem tX7_leaf (l : Launch) (A : Nat → Prop) (D : va_G) (cy : Nat → ClassId) (st : Nat → Nat) (sz : Nat) (sh : Sh) (d : Dt) (x0 : Nat) (x1 : Int32) (x2 : Int32) {r : Int32} {d9 : Dt} (hf : fX7_leaf sh d x0 x1 x2 = some (r, d9)) : Ct l yX7_leaf cX7_leaf 4 (some .int) 2 44 0 0 A D cy st [.ref x0, .int x1, .int x2] sz sh d (some (.int r)) sz sh d9 := ct_of (by decide) (Nat.le_of_ble_eq_true rfl) (fun p e s m args below meth c C hw hS ls hl => wX7_leaf_b0 C x0 x1 x2 d hf hw hS hl)
theorem dX7_copy_0 : decode cX7_copy 0 = .ok (.aload_n 0, 1) := by decide +kernel
theorem dX7_copy_1 : decode cX7_copy 1 = .ok (.iload_n 1, 1) := by decide +kernel
theorem dX7_copy_2 : decode cX7_copy 2 = .ok (.invokevirtual 109, 3) := by decide +kernel
theorem dX7_copy_5 : decode cX7_copy 5 = .ok (.ifCond .eq 11, 3) := by decide +kernel
theorem dX7_copy_8 : decode cX7_copy 8 = .ok (.aload_n 0, 1) := by decide +kernel
theorem dX7_copy_9 : decode cX7_copy 9 = .ok (.iload_n 3, 1) := by decide +kernel
theorem dX7_copy_10 : decode cX7_copy 10 = .ok (.invokevirtual 109, 3) := by decide +kernel
theorem dX7_copy_13 : decode cX7_copy 13 = .ok (.ifCond .ne 5, 3) := by decide +kernel
theorem dX7_copy_16 : decode cX7_copy 16 = .ok (.iconst (-1), 1) := by decide +kernel
theorem dX7_copy_17 : decode cX7_copy 17 = .ok (.ireturn, 1) := by decide +kernel
theorem dX7_copy_18 : decode cX7_copy 18 = .ok (.iload_n 2, 1) := by decide +kernel
theorem dX7_copy_19 : decode cX7_copy 19 = .ok (.ifCond .lt 48, 3) := by decide +kernel
theorem dX7_copy_22 : decode cX7_copy 22 = .ok (.iload 4, 2) := by decide +kernel
theorem dX7_copy_24 : decode cX7_copy 24 = .ok (.ifCond .lt 43, 3) := by decide +kernel
theorem dX7_copy_27 : decode cX7_copy 27 = .ok (.iload 5, 2) := by decide +kernel
theorem dX7_copy_29 : decode cX7_copy 29 = .ok (.ifCond .lt 38, 3) := by decide +kernel
theorem dX7_copy_32 : decode cX7_copy 32 = .ok (.iload_n 2, 1) := by decide +kernel
theorem dX7_copy_33 : decode cX7_copy 33 = .ok (.i2l, 1) := by decide +kernel
theorem dX7_copy_34 : decode cX7_copy 34 = .ok (.iload 5, 2) := by decide +kernel
theorem dX7_copy_36 : decode cX7_copy 36 = .ok (.i2l, 1) := by decide +kernel
theorem dX7_copy_37 : decode cX7_copy 37 = .ok (.ladd, 1) := by decide +kernel
theorem dX7_copy_38 : decode cX7_copy 38 = .ok (.aload_n 0, 1) := by decide +kernel
theorem dX7_copy_39 : decode cX7_copy 39 = .ok (.getfield 63, 3) := by decide +kernel
theorem dX7_copy_42 : decode cX7_copy 42 = .ok (.iload_n 1, 1) := by decide +kernel
theorem dX7_copy_43 : decode cX7_copy 43 = .ok (.iaload, 1) := by decide +kernel
theorem dX7_copy_44 : decode cX7_copy 44 = .ok (.i2l, 1) := by decide +kernel
theorem dX7_copy_45 : decode cX7_copy 45 = .ok (.lcmp, 1) := by decide +kernel
theorem dX7_copy_46 : decode cX7_copy 46 = .ok (.ifCond .gt 21, 3) := by decide +kernel
theorem dX7_copy_49 : decode cX7_copy 49 = .ok (.iload 4, 2) := by decide +kernel
theorem dX7_copy_51 : decode cX7_copy 51 = .ok (.i2l, 1) := by decide +kernel
theorem dX7_copy_52 : decode cX7_copy 52 = .ok (.iload 5, 2) := by decide +kernel
theorem dX7_copy_54 : decode cX7_copy 54 = .ok (.i2l, 1) := by decide +kernel
theorem dX7_copy_55 : decode cX7_copy 55 = .ok (.ladd, 1) := by decide +kernel
theorem dX7_copy_56 : decode cX7_copy 56 = .ok (.aload_n 0, 1) := by decide +kernel
theorem dX7_copy_57 : decode cX7_copy 57 = .ok (.getfield 63, 3) := by decide +kernel
theorem dX7_copy_60 : decode cX7_copy 60 = .ok (.iload_n 3, 1) := by decide +kernel
theorem dX7_copy_61 : decode cX7_copy 61 = .ok (.iaload, 1) := by decide +kernel
theorem dX7_copy_62 : decode cX7_copy 62 = .ok (.i2l, 1) := by decide +kernel
theorem dX7_copy_63 : decode cX7_copy 63 = .ok (.lcmp, 1) := by decide +kernel
theorem dX7_copy_64 : decode cX7_copy 64 = .ok (.ifCond .le 9, 3) := by decide +kernel
theorem dX7_copy_67 : decode cX7_copy 67 = .ok (.aload_n 0, 1) := by decide +kernel
theorem dX7_copy_68 : decode cX7_copy 68 = .ok (.iconst 2, 1) := by decide +kernel
theorem dX7_copy_69 : decode cX7_copy 69 = .ok (.invokevirtual 120, 3) := by decide +kernel
theorem dX7_copy_72 : decode cX7_copy 72 = .ok (.ireturn, 1) := by decide +kernel
theorem dX7_copy_73 : decode cX7_copy 73 = .ok (.iconst 0, 1) := by decide +kernel
theorem dX7_copy_74 : decode cX7_copy 74 = .ok (.istore 6, 2) := by decide +kernel
theorem dX7_copy_76 : decode cX7_copy 76 = .ok (.iload 6, 2) := by decide +kernel
theorem dX7_copy_78 : decode cX7_copy 78 = .ok (.iload 5, 2) := by decide +kernel
theorem dX7_copy_80 : decode cX7_copy 80 = .ok (.if_icmp .ge 51, 3) := by decide +kernel
theorem dX7_copy_83 : decode cX7_copy 83 = .ok (.aload_n 0, 1) := by decide +kernel
theorem dX7_copy_84 : decode cX7_copy 84 = .ok (.getfield 72, 3) := by decide +kernel
theorem dX7_copy_87 : decode cX7_copy 87 = .ok (.iload 6, 2) := by decide +kernel
theorem dX7_copy_89 : decode cX7_copy 89 = .ok (.aload_n 0, 1) := by decide +kernel
theorem dX7_copy_90 : decode cX7_copy 90 = .ok (.getfield 69, 3) := by decide +kernel
theorem dX7_copy_93 : decode cX7_copy 93 = .ok (.bipush 16, 2) := by decide +kernel
theorem dX7_copy_95 : decode cX7_copy 95 = .ok (.iload_n 1, 1) := by decide +kernel
theorem dX7_copy_96 : decode cX7_copy 96 = .ok (.imul, 1) := by decide +kernel
theorem dX7_copy_97 : decode cX7_copy 97 = .ok (.iload_n 2, 1) := by decide +kernel
theorem dX7_copy_98 : decode cX7_copy 98 = .ok (.iadd, 1) := by decide +kernel
theorem dX7_copy_99 : decode cX7_copy 99 = .ok (.iload 6, 2) := by decide +kernel
theorem dX7_copy_101 : decode cX7_copy 101 = .ok (.iadd, 1) := by decide +kernel
theorem dX7_copy_102 : decode cX7_copy 102 = .ok (.laload, 1) := by decide +kernel
theorem dX7_copy_103 : decode cX7_copy 103 = .ok (.lastore, 1) := by decide +kernel
theorem dX7_copy_104 : decode cX7_copy 104 = .ok (.aload_n 0, 1) := by decide +kernel
theorem dX7_copy_105 : decode cX7_copy 105 = .ok (.getfield 75, 3) := by decide +kernel
theorem dX7_copy_108 : decode cX7_copy 108 = .ok (.iload 6, 2) := by decide +kernel
theorem dX7_copy_110 : decode cX7_copy 110 = .ok (.aload_n 0, 1) := by decide +kernel
theorem dX7_copy_111 : decode cX7_copy 111 = .ok (.getfield 66, 3) := by decide +kernel
theorem dX7_copy_114 : decode cX7_copy 114 = .ok (.bipush 16, 2) := by decide +kernel
theorem dX7_copy_116 : decode cX7_copy 116 = .ok (.iload_n 1, 1) := by decide +kernel
theorem dX7_copy_117 : decode cX7_copy 117 = .ok (.imul, 1) := by decide +kernel
theorem dX7_copy_118 : decode cX7_copy 118 = .ok (.iload_n 2, 1) := by decide +kernel
theorem dX7_copy_119 : decode cX7_copy 119 = .ok (.iadd, 1) := by decide +kernel
theorem dX7_copy_120 : decode cX7_copy 120 = .ok (.iload 6, 2) := by decide +kernel
theorem dX7_copy_122 : decode cX7_copy 122 = .ok (.iadd, 1) := by decide +kernel
theorem dX7_copy_123 : decode cX7_copy 123 = .ok (.baload, 1) := by decide +kernel
theorem dX7_copy_124 : decode cX7_copy 124 = .ok (.bastore, 1) := by decide +kernel
theorem dX7_copy_125 : decode cX7_copy 125 = .ok (.iinc 6 1, 3) := by decide +kernel
theorem dX7_copy_128 : decode cX7_copy 128 = .ok (.goto (-52), 3) := by decide +kernel
theorem dX7_copy_131 : decode cX7_copy 131 = .ok (.iconst 0, 1) := by decide +kernel
theorem dX7_copy_132 : decode cX7_copy 132 = .ok (.istore 6, 2) := by decide +kernel
theorem dX7_copy_134 : decode cX7_copy 134 = .ok (.iload 6, 2) := by decide +kernel
theorem dX7_copy_136 : decode cX7_copy 136 = .ok (.iload 5, 2) := by decide +kernel
theorem dX7_copy_138 : decode cX7_copy 138 = .ok (.if_icmp .ge 53, 3) := by decide +kernel
theorem dX7_copy_141 : decode cX7_copy 141 = .ok (.aload_n 0, 1) := by decide +kernel
theorem dX7_copy_142 : decode cX7_copy 142 = .ok (.getfield 69, 3) := by decide +kernel
theorem dX7_copy_145 : decode cX7_copy 145 = .ok (.bipush 16, 2) := by decide +kernel
theorem dX7_copy_147 : decode cX7_copy 147 = .ok (.iload_n 3, 1) := by decide +kernel
theorem dX7_copy_148 : decode cX7_copy 148 = .ok (.imul, 1) := by decide +kernel
theorem dX7_copy_149 : decode cX7_copy 149 = .ok (.iload 4, 2) := by decide +kernel
theorem dX7_copy_151 : decode cX7_copy 151 = .ok (.iadd, 1) := by decide +kernel
theorem dX7_copy_152 : decode cX7_copy 152 = .ok (.iload 6, 2) := by decide +kernel
theorem dX7_copy_154 : decode cX7_copy 154 = .ok (.iadd, 1) := by decide +kernel
theorem dX7_copy_155 : decode cX7_copy 155 = .ok (.aload_n 0, 1) := by decide +kernel
theorem dX7_copy_156 : decode cX7_copy 156 = .ok (.getfield 72, 3) := by decide +kernel
theorem dX7_copy_159 : decode cX7_copy 159 = .ok (.iload 6, 2) := by decide +kernel
theorem dX7_copy_161 : decode cX7_copy 161 = .ok (.laload, 1) := by decide +kernel
theorem dX7_copy_162 : decode cX7_copy 162 = .ok (.lastore, 1) := by decide +kernel
theorem dX7_copy_163 : decode cX7_copy 163 = .ok (.aload_n 0, 1) := by decide +kernel
theorem dX7_copy_164 : decode cX7_copy 164 = .ok (.getfield 66, 3) := by decide +kernel
theorem dX7_copy_167 : decode cX7_copy 167 = .ok (.bipush 16, 2) := by decide +kernel
theorem dX7_copy_169 : decode cX7_copy 169 = .ok (.iload_n 3, 1) := by decide +kernel
theorem dX7_copy_170 : decode cX7_copy 170 = .ok (.imul, 1) := by decide +kernel
theorem dX7_copy_171 : decode cX7_copy 171 = .ok (.iload 4, 2) := by decide +kernel
theorem dX7_copy_173 : decode cX7_copy 173 = .ok (.iadd, 1) := by decide +kernel
theorem dX7_copy_174 : decode cX7_copy 174 = .ok (.iload 6, 2) := by decide +kernel
theorem dX7_copy_176 : decode cX7_copy 176 = .ok (.iadd, 1) := by decide +kernel
theorem dX7_copy_177 : decode cX7_copy 177 = .ok (.aload_n 0, 1) := by decide +kernel
theorem dX7_copy_178 : decode cX7_copy 178 = .ok (.getfield 75, 3) := by decide +kernel
theorem dX7_copy_181 : decode cX7_copy 181 = .ok (.iload 6, 2) := by decide +kernel
theorem dX7_copy_183 : decode cX7_copy 183 = .ok (.baload, 1) := by decide +kernel
theorem dX7_copy_184 : decode cX7_copy 184 = .ok (.bastore, 1) := by decide +kernel
theorem dX7_copy_185 : decode cX7_copy 185 = .ok (.iinc 6 1, 3) := by decide +kernel
theorem dX7_copy_188 : decode cX7_copy 188 = .ok (.goto (-54), 3) := by decide +kernel
theorem dX7_copy_191 : decode cX7_copy 191 = .ok (.iconst 1, 1) := by decide +kernel
theorem dX7_copy_192 : decode cX7_copy 192 = .ok (.ireturn, 1) := by decide +kernel
theorem cvX7_copy : CV yX7_copy cX7_copy 7 (some .int) 8 5 := ⟨kw_1159, kw_1160, kw_6, kw_1161, ⟨_, _, rfl⟩, by decide, by decide +kernel, by decide +kernel, by decide +kernel⟩
def fX7_copy_b67 (sh : Sh) (x0 : Nat) (d : Dt) : Option (Int32 × Dt) := bd (kc sh 9 x0) fun _ => bd2 (fX7_meets sh d x0 (2 : Int32)) fun r3 d4 => some (r3, d4)

def fX7_copy_b134 (sh : Sh) : Nat → Nat → Int32 → Int32 → Int32 → Int32 → Dt → Option (Int32 × Dt)
  | 0, _, _, _, _, _, _ => none
  | n + 1, x0, x3, x4, x5, x6, d => if x5 ≤ x6 then (some ((1 : Int32), d)) else (bd (gR sh d 9 313 x0) fun v2 => bd (gR sh d 9 314 x0) fun v3 => bd v3 fun a4 => bd (aL sh d 21 a4 x6) fun v5 => bd v2 fun a6 => bd (sL sh d 21 a6 ((((16 : Int32) * x3) + x4) + x6) v5) fun d7 => bd (gR sh d7 9 312 x0) fun v8 => bd (gR sh d7 9 315 x0) fun v9 => bd v9 fun a10 => bd (aI sh d7 22 a10 x6) fun v11 => bd v8 fun a12 => bd (sZ sh d7 22 a12 ((((16 : Int32) * x3) + x4) + x6) v11) fun d13 => fX7_copy_b134 sh n x0 x3 x4 x5 (x6 + 1) d13)

def fX7_copy_b76 (sh : Sh) : Nat → Nat → Int32 → Int32 → Int32 → Int32 → Int32 → Int32 → Dt → Option (Int32 × Dt)
  | 0, _, _, _, _, _, _, _, _ => none
  | n + 1, x0, x1, x2, x3, x4, x5, x6, d => if x5 ≤ x6 then (fX7_copy_b134 sh fu x0 x3 x4 x5 (0 : Int32) d) else (bd (gR sh d 9 314 x0) fun v2 => bd (gR sh d 9 313 x0) fun v3 => bd v3 fun a4 => bd (aL sh d 21 a4 ((((16 : Int32) * x1) + x2) + x6)) fun v5 => bd v2 fun a6 => bd (sL sh d 21 a6 x6 v5) fun d7 => bd (gR sh d7 9 315 x0) fun v8 => bd (gR sh d7 9 312 x0) fun v9 => bd v9 fun a10 => bd (aI sh d7 22 a10 ((((16 : Int32) * x1) + x2) + x6)) fun v11 => bd v8 fun a12 => bd (sZ sh d7 22 a12 x6 v11) fun d13 => fX7_copy_b76 sh n x0 x1 x2 x3 x4 x5 (x6 + 1) d13)

def fX7_copy_b0 (sh : Sh) (x0 : Nat) (x1 : Int32) (x2 : Int32) (x3 : Int32) (x4 : Int32) (x5 : Int32) (d : Dt) : Option (Int32 × Dt) := bd (kc sh 9 x0) fun _ => bd (fX7_isHand sh d x0 x1) fun r3 => if (bI r3) = 0 then (some ((-1 : Int32), d)) else (bd (fX7_isHand sh d x0 x3) fun r6 => if (bI r6) = 0 then (some ((-1 : Int32), d)) else (if x2 < 0 then (fX7_copy_b67 sh x0 d) else (if x4 < 0 then (fX7_copy_b67 sh x0 d) else (if x5 < 0 then (fX7_copy_b67 sh x0 d) else (bd (gR sh d 9 311 x0) fun v11 => bd v11 fun a12 => bd (aI sh d 20 a12 x1) fun v13 => if 0 < (lg_cmp (x2.toInt64 + x5.toInt64) v13.toInt64) then (fX7_copy_b67 sh x0 d) else (bd (gR sh d 9 311 x0) fun v15 => bd v15 fun a16 => bd (aI sh d 20 a16 x3) fun v17 => if (lg_cmp (x4.toInt64 + x5.toInt64) v17.toInt64) ≤ 0 then (fX7_copy_b76 sh fu x0 x1 x2 x3 x4 x5 (0 : Int32) d) else (fX7_copy_b67 sh x0 d)))))))

def fX7_copy (sh : Sh) (d : Dt) (x0 : Nat) (x1 : Int32) (x2 : Int32) (x3 : Int32) (x4 : Int32) (x5 : Int32) : Option (Int32 × Dt) := fX7_copy_b0 sh x0 x1 x2 x3 x4 x5 d

set_option maxRecDepth 100000 in
set_option maxHeartbeats 4000000 in
theorem wX7_copy_b67 (C : mx p s m args meth c yX7_copy cX7_copy 7 (some .int) A D cy st) {r : Int32} {d9 : Dt} : ∀ (x0 : Nat) (d : Dt), fX7_copy_b67 sh x0 d = some (r, d9) → ∀ {H : Heap} {locs : List Loc} {ls : Array Slot}, HW A D cy sz sh d H → va_S A s.heap H locs → lv_has ls 7 [(0, .ref x0)] → GL p l e s m args below meth c 2 43 A D cy (some (.int r)) sz sh d9 H locs 67 ls [] := by
  have hx := C.1
  have hb := C.2.1
  intro x0 d hf H locs ls hw hS hl
  unfold fX7_copy_b67 at hf
  refine lv_aload_n hx hb dX7_copy_67 rfl (lv_at hl 0 rfl) ?_
  refine lv_iconst (v := 2) hx hb dX7_copy_68 (by decide) ?_
  obtain ⟨_, h1, hf⟩ := bd_s hf
  obtain ⟨r3, d4, h2, hf⟩ := bd2_s hf
  refine cl_V0 C hw hS (tX7_meets l A D cy st sz sh d x0 (2 : Int32) h2) cvX7_meets kw_940 (kc_k h1) ⟨Nat.le_of_ble_eq_true rfl, Nat.le_of_ble_eq_true rfl⟩ hl.1 rfl (Nat.le_of_ble_eq_true rfl) dX7_copy_69 ⟨Nat.zero_le _, Nat.zero_le _⟩ (fun H locs hw hS => ?_)
  cases hf
  exact rt_i C hw hS dX7_copy_72

set_option maxRecDepth 100000 in
set_option maxHeartbeats 4000000 in
theorem wX7_copy_b134 (C : mx p s m args meth c yX7_copy cX7_copy 7 (some .int) A D cy st) {r : Int32} {d9 : Dt} : ∀ (n : Nat) (x0 : Nat) (x3 : Int32) (x4 : Int32) (x5 : Int32) (x6 : Int32) (d : Dt), fX7_copy_b134 sh n x0 x3 x4 x5 x6 d = some (r, d9) → ∀ {H : Heap} {locs : List Loc} {ls : Array Slot}, HW A D cy sz sh d H → va_S A s.heap H locs → lv_has ls 7 [(0, .ref x0), (3, .int x3), (4, .int x4), (5, .int x5), (6, .int x6)] → GL p l e s m args below meth c 2 43 A D cy (some (.int r)) sz sh d9 H locs 134 ls [] := by
  have hx := C.1
  have hb := C.2.1
  intro n
  induction n with
  | zero => intro x0 x3 x4 x5 x6 d hf; cases hf
  | succ n ih =>
    intro x0 x3 x4 x5 x6 d hf H locs ls hw hS hl
    rw [fX7_copy_b134] at hf
    refine lv_iload hx hb dX7_copy_134 (lv_at hl 4 rfl) ?_
    refine lv_iload hx hb dX7_copy_136 (lv_at hl 3 rfl) ?_
    refine lv_icmp_ge (tgt := 191) hx hb dX7_copy_138 (by decide) (fun c_1 => ?_) (fun c_1 => ?_)
    · have hf := if_t c_1 hf
      refine lv_iconst (v := 1) hx hb dX7_copy_191 (by decide) ?_
      cases hf
      exact rt_i C hw hS dX7_copy_192
    · have hf := if_f c_1 hf
      refine lv_aload_n hx hb dX7_copy_141 rfl (lv_at hl 0 rfl) ?_
      obtain ⟨v2, hv2, hf⟩ := bd_s hf
      refine gt_313 C hw hv2 kw_822 dX7_copy_142 ?_
      refine lv_bipush (v := 16) hx hb dX7_copy_145 (by decide) ?_
      refine lv_iload_n hx hb dX7_copy_147 rfl (lv_at hl 1 rfl) ?_
      refine lv_imul hx hb dX7_copy_148 ?_
      refine lv_iload hx hb dX7_copy_149 (lv_at hl 2 rfl) ?_
      refine lv_iadd hx hb dX7_copy_151 ?_
      refine lv_iload hx hb dX7_copy_152 (lv_at hl 4 rfl) ?_
      refine lv_iadd hx hb dX7_copy_154 ?_
      refine lv_aload_n hx hb dX7_copy_155 rfl (lv_at hl 0 rfl) ?_
      obtain ⟨v3, hv3, hf⟩ := bd_s hf
      refine gt_314 C hw hv3 kw_823 dX7_copy_156 ?_
      refine lv_iload hx hb dX7_copy_159 (lv_at hl 4 rfl) ?_
      obtain ⟨a4, ea4, hg⟩ := bd_s hf
      clear hf
      subst ea4
      have hf := hg
      clear hg
      obtain ⟨v5, hv5, hf⟩ := bd_s hf
      refine w_lald C hw hv5 dX7_copy_161 ?_
      obtain ⟨a6, ea6, hg⟩ := bd_s hf
      clear hf
      subst ea6
      have hf := hg
      clear hg
      obtain ⟨d7, hd7, hf⟩ := bd_s hf
      refine w_last C hw hS hd7 dX7_copy_162 (fun H locs hw hS => ?_)
      refine lv_aload_n hx hb dX7_copy_163 rfl (lv_at hl 0 rfl) ?_
      obtain ⟨v8, hv8, hf⟩ := bd_s hf
      refine gt_312 C hw hv8 kw_821 dX7_copy_164 ?_
      refine lv_bipush (v := 16) hx hb dX7_copy_167 (by decide) ?_
      refine lv_iload_n hx hb dX7_copy_169 rfl (lv_at hl 1 rfl) ?_
      refine lv_imul hx hb dX7_copy_170 ?_
      refine lv_iload hx hb dX7_copy_171 (lv_at hl 2 rfl) ?_
      refine lv_iadd hx hb dX7_copy_173 ?_
      refine lv_iload hx hb dX7_copy_174 (lv_at hl 4 rfl) ?_
      refine lv_iadd hx hb dX7_copy_176 ?_
      refine lv_aload_n hx hb dX7_copy_177 rfl (lv_at hl 0 rfl) ?_
      obtain ⟨v9, hv9, hf⟩ := bd_s hf
      refine gt_315 C hw hv9 kw_824 dX7_copy_178 ?_
      refine lv_iload hx hb dX7_copy_181 (lv_at hl 4 rfl) ?_
      obtain ⟨a10, ea10, hg⟩ := bd_s hf
      clear hf
      subst ea10
      have hf := hg
      clear hg
      obtain ⟨v11, hv11, hf⟩ := bd_s hf
      refine w_zald C hw hv11 dX7_copy_183 ?_
      obtain ⟨a12, ea12, hg⟩ := bd_s hf
      clear hf
      subst ea12
      have hf := hg
      clear hg
      obtain ⟨d13, hd13, hf⟩ := bd_s hf
      refine w_zast C hw hS hd13 dX7_copy_184 (fun H locs hw hS => ?_)
      refine lv_iinc (v := (x6 + 1)) (lv' := [(6, .int (x6 + 1)), (0, .ref x0), (3, .int x3), (4, .int x4), (5, .int x5)]) hx hb dX7_copy_185 hl (k := 4) rfl rfl (by decide) rfl (fun ls hl => ?_)
      refine lv_goto (tgt := 134) hx hb dX7_copy_188 (by decide) ?_
      exact ih x0 x3 x4 x5 (x6 + 1) d13 hf hw hS (lv_sub hl [1, 2, 3, 4, 0] rfl)

set_option maxRecDepth 100000 in
set_option maxHeartbeats 4000000 in
theorem wX7_copy_b76 (C : mx p s m args meth c yX7_copy cX7_copy 7 (some .int) A D cy st) {r : Int32} {d9 : Dt} : ∀ (n : Nat) (x0 : Nat) (x1 : Int32) (x2 : Int32) (x3 : Int32) (x4 : Int32) (x5 : Int32) (x6 : Int32) (d : Dt), fX7_copy_b76 sh n x0 x1 x2 x3 x4 x5 x6 d = some (r, d9) → ∀ {H : Heap} {locs : List Loc} {ls : Array Slot}, HW A D cy sz sh d H → va_S A s.heap H locs → lv_has ls 7 [(0, .ref x0), (1, .int x1), (2, .int x2), (3, .int x3), (4, .int x4), (5, .int x5), (6, .int x6)] → GL p l e s m args below meth c 2 43 A D cy (some (.int r)) sz sh d9 H locs 76 ls [] := by
  have hx := C.1
  have hb := C.2.1
  intro n
  induction n with
  | zero => intro x0 x1 x2 x3 x4 x5 x6 d hf; cases hf
  | succ n ih =>
    intro x0 x1 x2 x3 x4 x5 x6 d hf H locs ls hw hS hl
    rw [fX7_copy_b76] at hf
    refine lv_iload hx hb dX7_copy_76 (lv_at hl 6 rfl) ?_
    refine lv_iload hx hb dX7_copy_78 (lv_at hl 5 rfl) ?_
    refine lv_icmp_ge (tgt := 131) hx hb dX7_copy_80 (by decide) (fun c_1 => ?_) (fun c_1 => ?_)
    · have hf := if_t c_1 hf
      refine lv_iconst (v := 0) hx hb dX7_copy_131 (by decide) ?_
      refine lv_istore (lv' := [(6, .int (0 : Int32)), (0, .ref x0), (1, .int x1), (2, .int x2), (3, .int x3), (4, .int x4), (5, .int x5)]) hx hb dX7_copy_132 hl (by decide) rfl (fun ls hl => ?_)
      exact wX7_copy_b134 C fu x0 x3 x4 x5 (0 : Int32) d hf hw hS (lv_sub hl [1, 4, 5, 6, 0] rfl)
    · have hf := if_f c_1 hf
      refine lv_aload_n hx hb dX7_copy_83 rfl (lv_at hl 0 rfl) ?_
      obtain ⟨v2, hv2, hf⟩ := bd_s hf
      refine gt_314 C hw hv2 kw_823 dX7_copy_84 ?_
      refine lv_iload hx hb dX7_copy_87 (lv_at hl 6 rfl) ?_
      refine lv_aload_n hx hb dX7_copy_89 rfl (lv_at hl 0 rfl) ?_
      obtain ⟨v3, hv3, hf⟩ := bd_s hf
      refine gt_313 C hw hv3 kw_822 dX7_copy_90 ?_
      refine lv_bipush (v := 16) hx hb dX7_copy_93 (by decide) ?_
      refine lv_iload_n hx hb dX7_copy_95 rfl (lv_at hl 1 rfl) ?_
      refine lv_imul hx hb dX7_copy_96 ?_
      refine lv_iload_n hx hb dX7_copy_97 rfl (lv_at hl 2 rfl) ?_
      refine lv_iadd hx hb dX7_copy_98 ?_
      refine lv_iload hx hb dX7_copy_99 (lv_at hl 6 rfl) ?_
      refine lv_iadd hx hb dX7_copy_101 ?_
      obtain ⟨a4, ea4, hg⟩ := bd_s hf
      clear hf
      subst ea4
      have hf := hg
      clear hg
      obtain ⟨v5, hv5, hf⟩ := bd_s hf
      refine w_lald C hw hv5 dX7_copy_102 ?_
      obtain ⟨a6, ea6, hg⟩ := bd_s hf
      clear hf
      subst ea6
      have hf := hg
      clear hg
      obtain ⟨d7, hd7, hf⟩ := bd_s hf
      refine w_last C hw hS hd7 dX7_copy_103 (fun H locs hw hS => ?_)
      refine lv_aload_n hx hb dX7_copy_104 rfl (lv_at hl 0 rfl) ?_
      obtain ⟨v8, hv8, hf⟩ := bd_s hf
      refine gt_315 C hw hv8 kw_824 dX7_copy_105 ?_
      refine lv_iload hx hb dX7_copy_108 (lv_at hl 6 rfl) ?_
      refine lv_aload_n hx hb dX7_copy_110 rfl (lv_at hl 0 rfl) ?_
      obtain ⟨v9, hv9, hf⟩ := bd_s hf
      refine gt_312 C hw hv9 kw_821 dX7_copy_111 ?_
      refine lv_bipush (v := 16) hx hb dX7_copy_114 (by decide) ?_
      refine lv_iload_n hx hb dX7_copy_116 rfl (lv_at hl 1 rfl) ?_
      refine lv_imul hx hb dX7_copy_117 ?_
      refine lv_iload_n hx hb dX7_copy_118 rfl (lv_at hl 2 rfl) ?_
      refine lv_iadd hx hb dX7_copy_119 ?_
      refine lv_iload hx hb dX7_copy_120 (lv_at hl 6 rfl) ?_
      refine lv_iadd hx hb dX7_copy_122 ?_
      obtain ⟨a10, ea10, hg⟩ := bd_s hf
      clear hf
      subst ea10
      have hf := hg
      clear hg
      obtain ⟨v11, hv11, hf⟩ := bd_s hf
      refine w_zald C hw hv11 dX7_copy_123 ?_
      obtain ⟨a12, ea12, hg⟩ := bd_s hf
      clear hf
      subst ea12
      have hf := hg
      clear hg
      obtain ⟨d13, hd13, hf⟩ := bd_s hf
      refine w_zast C hw hS hd13 dX7_copy_124 (fun H locs hw hS => ?_)
      refine lv_iinc (v := (x6 + 1)) (lv' := [(6, .int (x6 + 1)), (0, .ref x0), (1, .int x1), (2, .int x2), (3, .int x3), (4, .int x4), (5, .int x5)]) hx hb dX7_copy_125 hl (k := 6) rfl rfl (by decide) rfl (fun ls hl => ?_)
      refine lv_goto (tgt := 76) hx hb dX7_copy_128 (by decide) ?_
      exact ih x0 x1 x2 x3 x4 x5 (x6 + 1) d13 hf hw hS (lv_sub hl [1, 2, 3, 4, 5, 6, 0] rfl)

set_option maxRecDepth 100000 in
set_option maxHeartbeats 4000000 in
theorem wX7_copy_b0 (C : mx p s m args meth c yX7_copy cX7_copy 7 (some .int) A D cy st) {r : Int32} {d9 : Dt} : ∀ (x0 : Nat) (x1 : Int32) (x2 : Int32) (x3 : Int32) (x4 : Int32) (x5 : Int32) (d : Dt), fX7_copy_b0 sh x0 x1 x2 x3 x4 x5 d = some (r, d9) → ∀ {H : Heap} {locs : List Loc} {ls : Array Slot}, HW A D cy sz sh d H → va_S A s.heap H locs → lv_has ls 7 [(0, .ref x0), (1, .int x1), (2, .int x2), (3, .int x3), (4, .int x4), (5, .int x5)] → GL p l e s m args below meth c 2 43 A D cy (some (.int r)) sz sh d9 H locs 0 ls [] := by
  have hx := C.1
  have hb := C.2.1
  intro x0 x1 x2 x3 x4 x5 d hf H locs ls hw hS hl
  unfold fX7_copy_b0 at hf
  refine lv_aload_n hx hb dX7_copy_0 rfl (lv_at hl 0 rfl) ?_
  refine lv_iload_n hx hb dX7_copy_1 rfl (lv_at hl 1 rfl) ?_
  obtain ⟨_, h1, hf⟩ := bd_s hf
  obtain ⟨r3, h2, hf⟩ := bd_s hf
  refine cl_V0 C hw hS (tX7_isHand l A D cy st sz sh d x0 x1 h2) cvX7_isHand kw_917 (kc_k h1) ⟨Nat.le_of_ble_eq_true rfl, Nat.le_of_ble_eq_true rfl⟩ hl.1 rfl (Nat.le_of_ble_eq_true rfl) dX7_copy_2 ⟨Nat.zero_le _, Nat.zero_le _⟩ (fun H locs hw hS => ?_)
  refine lv_if_eq (tgt := 16) hx hb dX7_copy_5 (by decide) (fun c_4 => ?_) (fun c_4 => ?_)
  · have hf := if_t c_4 hf
    refine lv_iconst (v := -1) hx hb dX7_copy_16 (by decide) ?_
    cases hf
    exact rt_i C hw hS dX7_copy_17
  · have hf := if_f c_4 hf
    refine lv_aload_n hx hb dX7_copy_8 rfl (lv_at hl 0 rfl) ?_
    refine lv_iload_n hx hb dX7_copy_9 rfl (lv_at hl 3 rfl) ?_
    obtain ⟨r6, h5, hf⟩ := bd_s hf
    refine cl_V0 C hw hS (tX7_isHand l A D cy st sz sh d x0 x3 h5) cvX7_isHand kw_917 (kc_k h1) ⟨Nat.le_of_ble_eq_true rfl, Nat.le_of_ble_eq_true rfl⟩ hl.1 rfl (Nat.le_of_ble_eq_true rfl) dX7_copy_10 ⟨Nat.zero_le _, Nat.zero_le _⟩ (fun H locs hw hS => ?_)
    refine lv_if_ne (tgt := 18) hx hb dX7_copy_13 (by decide) (fun c_7 => ?_) (fun c_7 => ?_)
    · have hf := if_f c_7 hf
      refine lv_iload_n hx hb dX7_copy_18 rfl (lv_at hl 2 rfl) ?_
      refine lv_if_lt (tgt := 67) hx hb dX7_copy_19 (by decide) (fun c_8 => ?_) (fun c_8 => ?_)
      · have hf := if_t c_8 hf
        exact wX7_copy_b67 C x0 d hf hw hS (lv_sub hl [0] rfl)
      · have hf := if_f c_8 hf
        refine lv_iload hx hb dX7_copy_22 (lv_at hl 4 rfl) ?_
        refine lv_if_lt (tgt := 67) hx hb dX7_copy_24 (by decide) (fun c_9 => ?_) (fun c_9 => ?_)
        · have hf := if_t c_9 hf
          exact wX7_copy_b67 C x0 d hf hw hS (lv_sub hl [0] rfl)
        · have hf := if_f c_9 hf
          refine lv_iload hx hb dX7_copy_27 (lv_at hl 5 rfl) ?_
          refine lv_if_lt (tgt := 67) hx hb dX7_copy_29 (by decide) (fun c_10 => ?_) (fun c_10 => ?_)
          · have hf := if_t c_10 hf
            exact wX7_copy_b67 C x0 d hf hw hS (lv_sub hl [0] rfl)
          · have hf := if_f c_10 hf
            refine lv_iload_n hx hb dX7_copy_32 rfl (lv_at hl 2 rfl) ?_
            refine lv_i2l hx hb dX7_copy_33 rfl ?_
            refine lv_iload hx hb dX7_copy_34 (lv_at hl 5 rfl) ?_
            refine lv_i2l hx hb dX7_copy_36 rfl ?_
            refine lv_ladd hx hb dX7_copy_37 ?_
            refine lv_aload_n hx hb dX7_copy_38 rfl (lv_at hl 0 rfl) ?_
            obtain ⟨v11, hv11, hf⟩ := bd_s hf
            refine gt_311 C hw hv11 kw_820 dX7_copy_39 ?_
            refine lv_iload_n hx hb dX7_copy_42 rfl (lv_at hl 1 rfl) ?_
            obtain ⟨a12, ea12, hg⟩ := bd_s hf
            clear hf
            subst ea12
            have hf := hg
            clear hg
            obtain ⟨v13, hv13, hf⟩ := bd_s hf
            refine w_iald C hw hv13 dX7_copy_43 ?_
            refine lv_i2l hx hb dX7_copy_44 rfl ?_
            refine W.lcmp hx hb dX7_copy_45 ?_
            refine lv_if_gt (tgt := 67) hx hb dX7_copy_46 (by decide) (fun c_14 => ?_) (fun c_14 => ?_)
            · have hf := if_t c_14 hf
              exact wX7_copy_b67 C x0 d hf hw hS (lv_sub hl [0] rfl)
            · have hf := if_f c_14 hf
              refine lv_iload hx hb dX7_copy_49 (lv_at hl 4 rfl) ?_
              refine lv_i2l hx hb dX7_copy_51 rfl ?_
              refine lv_iload hx hb dX7_copy_52 (lv_at hl 5 rfl) ?_
              refine lv_i2l hx hb dX7_copy_54 rfl ?_
              refine lv_ladd hx hb dX7_copy_55 ?_
              refine lv_aload_n hx hb dX7_copy_56 rfl (lv_at hl 0 rfl) ?_
              obtain ⟨v15, hv15, hf⟩ := bd_s hf
              refine gt_311 C hw hv15 kw_820 dX7_copy_57 ?_
              refine lv_iload_n hx hb dX7_copy_60 rfl (lv_at hl 3 rfl) ?_
              obtain ⟨a16, ea16, hg⟩ := bd_s hf
              clear hf
              subst ea16
              have hf := hg
              clear hg
              obtain ⟨v17, hv17, hf⟩ := bd_s hf
              refine w_iald C hw hv17 dX7_copy_61 ?_
              refine lv_i2l hx hb dX7_copy_62 rfl ?_
              refine W.lcmp hx hb dX7_copy_63 ?_
              refine lv_if_le (tgt := 73) hx hb dX7_copy_64 (by decide) (fun c_18 => ?_) (fun c_18 => ?_)
              · have hf := if_t c_18 hf
                refine lv_iconst (v := 0) hx hb dX7_copy_73 (by decide) ?_
                refine lv_istore (lv' := [(6, .int (0 : Int32)), (0, .ref x0), (1, .int x1), (2, .int x2), (3, .int x3), (4, .int x4), (5, .int x5)]) hx hb dX7_copy_74 hl (by decide) rfl (fun ls hl => ?_)
                exact wX7_copy_b76 C fu x0 x1 x2 x3 x4 x5 (0 : Int32) d hf hw hS (lv_sub hl [1, 2, 3, 4, 5, 6, 0] rfl)
              · have hf := if_f c_18 hf
                exact wX7_copy_b67 C x0 d hf hw hS (lv_sub hl [0] rfl)
    · have hf := if_t c_7 hf
      refine lv_iconst (v := -1) hx hb dX7_copy_16 (by decide) ?_
      cases hf
      exact rt_i C hw hS dX7_copy_17

set_option maxRecDepth 100000 in
set_option maxHeartbeats 4000000 in
theorem tX7_copy (l : Launch) (A : Nat → Prop) (D : va_G) (cy : Nat → ClassId) (st : Nat → Nat) (sz : Nat) (sh : Sh) (d : Dt) (x0 : Nat) (x1 : Int32) (x2 : Int32) (x3 : Int32) (x4 : Int32) (x5 : Int32) {r : Int32} {d9 : Dt} (hf : fX7_copy sh d x0 x1 x2 x3 x4 x5 = some (r, d9)) : Ct l yX7_copy cX7_copy 7 (some .int) 2 43 0 0 A D cy st [.ref x0, .int x1, .int x2, .int x3, .int x4, .int x5] sz sh d (some (.int r)) sz sh d9 := ct_of (by decide) (Nat.le_of_ble_eq_true rfl) (fun p e s m args below meth c C hw hS ls hl => wX7_copy_b0 C x0 x1 x2 x3 x4 x5 d hf hw hS hl)
theorem dX7_asked_0 : decode cX7_asked 0 = .ok (.aload_n 0, 1) := by decide +kernel
theorem dX7_asked_1 : decode cX7_asked 1 = .ok (.getfield 204, 3) := by decide +kernel
theorem dX7_asked_4 : decode cX7_asked 4 = .ok (.lreturn, 1) := by decide +kernel
theorem cvX7_asked : CV yX7_asked cX7_asked 1 (some .long) 8 0 := ⟨kw_1163, kw_1164, kw_6, kw_1165, ⟨_, _, rfl⟩, by decide, by decide +kernel, by decide +kernel, by decide +kernel⟩
def fX7_asked_b0 (sh : Sh) (d : Dt) (x0 : Nat) : Option (Int64) := bd (gL sh d 9 306 x0) fun v1 => some v1

def fX7_asked (sh : Sh) (d : Dt) (x0 : Nat) : Option (Int64) := fX7_asked_b0 sh d x0

set_option maxRecDepth 100000 in
set_option maxHeartbeats 4000000 in
theorem wX7_asked_b0 (C : mx p s m args meth c yX7_asked cX7_asked 1 (some .long) A D cy st) {r : Int64} {d : Dt} : ∀ (x0 : Nat), fX7_asked_b0 sh d x0 = some r → ∀ {H : Heap} {locs : List Loc} {ls : Array Slot}, HW A D cy sz sh d H → va_S A s.heap H locs → lv_has ls 1 [(0, .ref x0)] → GL p l e s m args below meth c 0 0 A D cy (some (.long r)) sz sh d H locs 0 ls [] := by
  have hx := C.1
  have hb := C.2.1
  intro x0 hf H locs ls hw hS hl
  unfold fX7_asked_b0 at hf
  refine lv_aload_n hx hb dX7_asked_0 rfl (lv_at hl 0 rfl) ?_
  obtain ⟨v1, hv1, hf⟩ := bd_s hf
  refine gt_306 C hw hv1 kw_815 dX7_asked_1 ?_
  cases hf
  exact rt_l C hw hS dX7_asked_4

set_option maxRecDepth 100000 in
set_option maxHeartbeats 4000000 in
theorem tX7_asked (l : Launch) (A : Nat → Prop) (D : va_G) (cy : Nat → ClassId) (st : Nat → Nat) (sz : Nat) (sh : Sh) (d : Dt) (x0 : Nat) {r : Int64} (hf : fX7_asked sh d x0 = some r) : Ct l yX7_asked cX7_asked 1 (some .long) 0 0 0 0 A D cy st [.ref x0] sz sh d (some (.long r)) sz sh d := ct_of (by decide) (Nat.le_of_ble_eq_true rfl) (fun p e s m args below meth c C hw hS ls hl => wX7_asked_b0 C x0 hf hw hS hl)
theorem dX7_count_0 : decode cX7_count 0 = .ok (.iload_n 1, 1) := by decide +kernel
theorem dX7_count_1 : decode cX7_count 1 = .ok (.ifCond .ne 10, 3) := by decide +kernel
theorem dX7_count_4 : decode cX7_count 4 = .ok (.aload_n 0, 1) := by decide +kernel
theorem dX7_count_5 : decode cX7_count 5 = .ok (.getfield 95, 3) := by decide +kernel
theorem dX7_count_8 : decode cX7_count 8 = .ok (.goto 28, 3) := by decide +kernel
theorem dX7_count_11 : decode cX7_count 11 = .ok (.iload_n 1, 1) := by decide +kernel
theorem dX7_count_12 : decode cX7_count 12 = .ok (.iconst 1, 1) := by decide +kernel
theorem dX7_count_13 : decode cX7_count 13 = .ok (.if_icmp .ne 10, 3) := by decide +kernel
theorem dX7_count_16 : decode cX7_count 16 = .ok (.aload_n 0, 1) := by decide +kernel
theorem dX7_count_17 : decode cX7_count 17 = .ok (.getfield 98, 3) := by decide +kernel
theorem dX7_count_20 : decode cX7_count 20 = .ok (.goto 16, 3) := by decide +kernel
theorem dX7_count_23 : decode cX7_count 23 = .ok (.iload_n 1, 1) := by decide +kernel
theorem dX7_count_24 : decode cX7_count 24 = .ok (.iconst 2, 1) := by decide +kernel
theorem dX7_count_25 : decode cX7_count 25 = .ok (.if_icmp .ne 10, 3) := by decide +kernel
theorem dX7_count_28 : decode cX7_count 28 = .ok (.aload_n 0, 1) := by decide +kernel
theorem dX7_count_29 : decode cX7_count 29 = .ok (.getfield 88, 3) := by decide +kernel
theorem dX7_count_32 : decode cX7_count 32 = .ok (.goto 4, 3) := by decide +kernel
theorem dX7_count_35 : decode cX7_count 35 = .ok (.iconst (-1), 1) := by decide +kernel
theorem dX7_count_36 : decode cX7_count 36 = .ok (.ireturn, 1) := by decide +kernel
theorem cvX7_count : CV yX7_count cX7_count 2 (some .int) 8 1 := ⟨kw_1167, kw_1168, kw_6, kw_1169, ⟨_, _, rfl⟩, by decide, by decide +kernel, by decide +kernel, by decide +kernel⟩
def fX7_count_b0 (sh : Sh) (d : Dt) (x0 : Nat) (x1 : Int32) : Option (Int32) := if x1 = 0 then (bd (gI sh d 9 290 x0) fun v6 => some v6) else (if x1 = (1 : Int32) then (bd (gI sh d 9 295 x0) fun v5 => some v5) else (if x1 = (2 : Int32) then (bd (gI sh d 9 297 x0) fun v4 => some v4) else (some (-1 : Int32))))

def fX7_count (sh : Sh) (d : Dt) (x0 : Nat) (x1 : Int32) : Option (Int32) := fX7_count_b0 sh d x0 x1

set_option maxRecDepth 100000 in
set_option maxHeartbeats 4000000 in
theorem wX7_count_b0 (C : mx p s m args meth c yX7_count cX7_count 2 (some .int) A D cy st) {r : Int32} {d : Dt} : ∀ (x0 : Nat) (x1 : Int32), fX7_count_b0 sh d x0 x1 = some r → ∀ {H : Heap} {locs : List Loc} {ls : Array Slot}, HW A D cy sz sh d H → va_S A s.heap H locs → lv_has ls 2 [(0, .ref x0), (1, .int x1)] → GL p l e s m args below meth c 0 0 A D cy (some (.int r)) sz sh d H locs 0 ls [] := by
  have hx := C.1
  have hb := C.2.1
  intro x0 x1 hf H locs ls hw hS hl
  unfold fX7_count_b0 at hf
  refine lv_iload_n hx hb dX7_count_0 rfl (lv_at hl 1 rfl) ?_
  refine lv_if_ne (tgt := 11) hx hb dX7_count_1 (by decide) (fun c_1 => ?_) (fun c_1 => ?_)
  · have hf := if_f c_1 hf
    refine lv_iload_n hx hb dX7_count_11 rfl (lv_at hl 1 rfl) ?_
    refine lv_iconst (v := 1) hx hb dX7_count_12 (by decide) ?_
    refine lv_icmp_ne (tgt := 23) hx hb dX7_count_13 (by decide) (fun c_2 => ?_) (fun c_2 => ?_)
    · have hf := if_f c_2 hf
      refine lv_iload_n hx hb dX7_count_23 rfl (lv_at hl 1 rfl) ?_
      refine lv_iconst (v := 2) hx hb dX7_count_24 (by decide) ?_
      refine lv_icmp_ne (tgt := 35) hx hb dX7_count_25 (by decide) (fun c_3 => ?_) (fun c_3 => ?_)
      · have hf := if_f c_3 hf
        refine lv_iconst (v := -1) hx hb dX7_count_35 (by decide) ?_
        cases hf
        exact rt_i C hw hS dX7_count_36
      · have hf := if_t c_3 hf
        refine lv_aload_n hx hb dX7_count_28 rfl (lv_at hl 0 rfl) ?_
        obtain ⟨v4, hv4, hf⟩ := bd_s hf
        refine gt_297 C hw hv4 kw_806 dX7_count_29 ?_
        refine lv_goto (tgt := 36) hx hb dX7_count_32 (by decide) ?_
        cases hf
        exact rt_i C hw hS dX7_count_36
    · have hf := if_t c_2 hf
      refine lv_aload_n hx hb dX7_count_16 rfl (lv_at hl 0 rfl) ?_
      obtain ⟨v5, hv5, hf⟩ := bd_s hf
      refine gt_295 C hw hv5 kw_804 dX7_count_17 ?_
      refine lv_goto (tgt := 36) hx hb dX7_count_20 (by decide) ?_
      cases hf
      exact rt_i C hw hS dX7_count_36
  · have hf := if_t c_1 hf
    refine lv_aload_n hx hb dX7_count_4 rfl (lv_at hl 0 rfl) ?_
    obtain ⟨v6, hv6, hf⟩ := bd_s hf
    refine gt_290 C hw hv6 kw_799 dX7_count_5 ?_
    refine lv_goto (tgt := 36) hx hb dX7_count_8 (by decide) ?_
    cases hf
    exact rt_i C hw hS dX7_count_36

set_option maxRecDepth 100000 in
set_option maxHeartbeats 4000000 in
theorem tX7_count (l : Launch) (A : Nat → Prop) (D : va_G) (cy : Nat → ClassId) (st : Nat → Nat) (sz : Nat) (sh : Sh) (d : Dt) (x0 : Nat) (x1 : Int32) {r : Int32} (hf : fX7_count sh d x0 x1 = some r) : Ct l yX7_count cX7_count 2 (some .int) 0 0 0 0 A D cy st [.ref x0, .int x1] sz sh d (some (.int r)) sz sh d := ct_of (by decide) (Nat.le_of_ble_eq_true rfl) (fun p e s m args below meth c C hw hS ls hl => wX7_count_b0 C x0 x1 hf hw hS hl)
theorem dX7_digest_0 : decode cX7_digest 0 = .ok (.aload_n 0, 1) := by decide +kernel
theorem dX7_digest_1 : decode cX7_digest 1 = .ok (.iload_n 1, 1) := by decide +kernel
theorem dX7_digest_2 : decode cX7_digest 2 = .ok (.invokevirtual 109, 3) := by decide +kernel
theorem dX7_digest_5 : decode cX7_digest 5 = .ok (.ifCond .ne 5, 3) := by decide +kernel
theorem dX7_digest_8 : decode cX7_digest 8 = .ok (.lconst 0, 1) := by decide +kernel
theorem dX7_digest_9 : decode cX7_digest 9 = .ok (.lreturn, 1) := by decide +kernel
theorem dX7_digest_10 : decode cX7_digest 10 = .ok (.ldc2_w 229, 3) := by decide +kernel
theorem dX7_digest_13 : decode cX7_digest 13 = .ok (.lstore_n 2, 1) := by decide +kernel
theorem dX7_digest_14 : decode cX7_digest 14 = .ok (.iconst 0, 1) := by decide +kernel
theorem dX7_digest_15 : decode cX7_digest 15 = .ok (.istore 4, 2) := by decide +kernel
theorem dX7_digest_17 : decode cX7_digest 17 = .ok (.iload 4, 2) := by decide +kernel
theorem dX7_digest_19 : decode cX7_digest 19 = .ok (.iconst 5, 1) := by decide +kernel
theorem dX7_digest_20 : decode cX7_digest 20 = .ok (.if_icmp .ge 24, 3) := by decide +kernel
theorem dX7_digest_23 : decode cX7_digest 23 = .ok (.ldc2_w 231, 3) := by decide +kernel
theorem dX7_digest_26 : decode cX7_digest 26 = .ok (.lload_n 2, 1) := by decide +kernel
theorem dX7_digest_27 : decode cX7_digest 27 = .ok (.lmul, 1) := by decide +kernel
theorem dX7_digest_28 : decode cX7_digest 28 = .ok (.aload_n 0, 1) := by decide +kernel
theorem dX7_digest_29 : decode cX7_digest 29 = .ok (.iload_n 1, 1) := by decide +kernel
theorem dX7_digest_30 : decode cX7_digest 30 = .ok (.iload 4, 2) := by decide +kernel
theorem dX7_digest_32 : decode cX7_digest 32 = .ok (.invokevirtual 233, 3) := by decide +kernel
theorem dX7_digest_35 : decode cX7_digest 35 = .ok (.i2l, 1) := by decide +kernel
theorem dX7_digest_36 : decode cX7_digest 36 = .ok (.ladd, 1) := by decide +kernel
theorem dX7_digest_37 : decode cX7_digest 37 = .ok (.lstore_n 2, 1) := by decide +kernel
theorem dX7_digest_38 : decode cX7_digest 38 = .ok (.iinc 4 1, 3) := by decide +kernel
theorem dX7_digest_41 : decode cX7_digest 41 = .ok (.goto (-24), 3) := by decide +kernel
theorem dX7_digest_44 : decode cX7_digest 44 = .ok (.iconst 0, 1) := by decide +kernel
theorem dX7_digest_45 : decode cX7_digest 45 = .ok (.istore 4, 2) := by decide +kernel
theorem dX7_digest_47 : decode cX7_digest 47 = .ok (.iload 4, 2) := by decide +kernel
theorem dX7_digest_49 : decode cX7_digest 49 = .ok (.aload_n 0, 1) := by decide +kernel
theorem dX7_digest_50 : decode cX7_digest 50 = .ok (.getfield 98, 3) := by decide +kernel
theorem dX7_digest_53 : decode cX7_digest 53 = .ok (.if_icmp .ge 92, 3) := by decide +kernel
theorem dX7_digest_56 : decode cX7_digest 56 = .ok (.ldc2_w 231, 3) := by decide +kernel
theorem dX7_digest_59 : decode cX7_digest 59 = .ok (.ldc2_w 231, 3) := by decide +kernel
theorem dX7_digest_62 : decode cX7_digest 62 = .ok (.lload_n 2, 1) := by decide +kernel
theorem dX7_digest_63 : decode cX7_digest 63 = .ok (.lmul, 1) := by decide +kernel
theorem dX7_digest_64 : decode cX7_digest 64 = .ok (.aload_n 0, 1) := by decide +kernel
theorem dX7_digest_65 : decode cX7_digest 65 = .ok (.getfield 27, 3) := by decide +kernel
theorem dX7_digest_68 : decode cX7_digest 68 = .ok (.iload 4, 2) := by decide +kernel
theorem dX7_digest_70 : decode cX7_digest 70 = .ok (.iaload, 1) := by decide +kernel
theorem dX7_digest_71 : decode cX7_digest 71 = .ok (.i2l, 1) := by decide +kernel
theorem dX7_digest_72 : decode cX7_digest 72 = .ok (.ladd, 1) := by decide +kernel
theorem dX7_digest_73 : decode cX7_digest 73 = .ok (.lmul, 1) := by decide +kernel
theorem dX7_digest_74 : decode cX7_digest 74 = .ok (.aload_n 0, 1) := by decide +kernel
theorem dX7_digest_75 : decode cX7_digest 75 = .ok (.getfield 20, 3) := by decide +kernel
theorem dX7_digest_78 : decode cX7_digest 78 = .ok (.bipush 10, 2) := by decide +kernel
theorem dX7_digest_80 : decode cX7_digest 80 = .ok (.iload_n 1, 1) := by decide +kernel
theorem dX7_digest_81 : decode cX7_digest 81 = .ok (.imul, 1) := by decide +kernel
theorem dX7_digest_82 : decode cX7_digest 82 = .ok (.iload 4, 2) := by decide +kernel
theorem dX7_digest_84 : decode cX7_digest 84 = .ok (.iadd, 1) := by decide +kernel
theorem dX7_digest_85 : decode cX7_digest 85 = .ok (.baload, 1) := by decide +kernel
theorem dX7_digest_86 : decode cX7_digest 86 = .ok (.ifCond .eq 7, 3) := by decide +kernel
theorem dX7_digest_89 : decode cX7_digest 89 = .ok (.lconst 0, 1) := by decide +kernel
theorem dX7_digest_90 : decode cX7_digest 90 = .ok (.goto 4, 3) := by decide +kernel
theorem dX7_digest_93 : decode cX7_digest 93 = .ok (.lconst 1, 1) := by decide +kernel
theorem dX7_digest_94 : decode cX7_digest 94 = .ok (.ladd, 1) := by decide +kernel
theorem dX7_digest_95 : decode cX7_digest 95 = .ok (.lstore_n 2, 1) := by decide +kernel
theorem dX7_digest_96 : decode cX7_digest 96 = .ok (.aload_n 0, 1) := by decide +kernel
theorem dX7_digest_97 : decode cX7_digest 97 = .ok (.iload_n 1, 1) := by decide +kernel
theorem dX7_digest_98 : decode cX7_digest 98 = .ok (.iload 4, 2) := by decide +kernel
theorem dX7_digest_100 : decode cX7_digest 100 = .ok (.aload_n 0, 1) := by decide +kernel
theorem dX7_digest_101 : decode cX7_digest 101 = .ok (.getfield 57, 3) := by decide +kernel
theorem dX7_digest_104 : decode cX7_digest 104 = .ok (.invokevirtual 222, 3) := by decide +kernel
theorem dX7_digest_107 : decode cX7_digest 107 = .ok (.istore 5, 2) := by decide +kernel
theorem dX7_digest_109 : decode cX7_digest 109 = .ok (.iconst 0, 1) := by decide +kernel
theorem dX7_digest_110 : decode cX7_digest 110 = .ok (.istore 6, 2) := by decide +kernel
theorem dX7_digest_112 : decode cX7_digest 112 = .ok (.iload 6, 2) := by decide +kernel
theorem dX7_digest_114 : decode cX7_digest 114 = .ok (.iload 5, 2) := by decide +kernel
theorem dX7_digest_116 : decode cX7_digest 116 = .ok (.if_icmp .ge 23, 3) := by decide +kernel
theorem dX7_digest_119 : decode cX7_digest 119 = .ok (.ldc2_w 231, 3) := by decide +kernel
theorem dX7_digest_122 : decode cX7_digest 122 = .ok (.lload_n 2, 1) := by decide +kernel
theorem dX7_digest_123 : decode cX7_digest 123 = .ok (.lmul, 1) := by decide +kernel
theorem dX7_digest_124 : decode cX7_digest 124 = .ok (.aload_n 0, 1) := by decide +kernel
theorem dX7_digest_125 : decode cX7_digest 125 = .ok (.getfield 57, 3) := by decide +kernel
theorem dX7_digest_128 : decode cX7_digest 128 = .ok (.iload 6, 2) := by decide +kernel
theorem dX7_digest_130 : decode cX7_digest 130 = .ok (.laload, 1) := by decide +kernel
theorem dX7_digest_131 : decode cX7_digest 131 = .ok (.ladd, 1) := by decide +kernel
theorem dX7_digest_132 : decode cX7_digest 132 = .ok (.lstore_n 2, 1) := by decide +kernel
theorem dX7_digest_133 : decode cX7_digest 133 = .ok (.iinc 6 1, 3) := by decide +kernel
theorem dX7_digest_136 : decode cX7_digest 136 = .ok (.goto (-24), 3) := by decide +kernel
theorem dX7_digest_139 : decode cX7_digest 139 = .ok (.iinc 4 1, 3) := by decide +kernel
theorem dX7_digest_142 : decode cX7_digest 142 = .ok (.goto (-95), 3) := by decide +kernel
theorem dX7_digest_145 : decode cX7_digest 145 = .ok (.iconst 0, 1) := by decide +kernel
theorem dX7_digest_146 : decode cX7_digest 146 = .ok (.istore 4, 2) := by decide +kernel
theorem dX7_digest_148 : decode cX7_digest 148 = .ok (.iload 4, 2) := by decide +kernel
theorem dX7_digest_150 : decode cX7_digest 150 = .ok (.aload_n 0, 1) := by decide +kernel
theorem dX7_digest_151 : decode cX7_digest 151 = .ok (.getfield 63, 3) := by decide +kernel
theorem dX7_digest_154 : decode cX7_digest 154 = .ok (.iload_n 1, 1) := by decide +kernel
theorem dX7_digest_155 : decode cX7_digest 155 = .ok (.iaload, 1) := by decide +kernel
theorem dX7_digest_156 : decode cX7_digest 156 = .ok (.if_icmp .ge 59, 3) := by decide +kernel
theorem dX7_digest_159 : decode cX7_digest 159 = .ok (.aload_n 0, 1) := by decide +kernel
theorem dX7_digest_160 : decode cX7_digest 160 = .ok (.getfield 66, 3) := by decide +kernel
theorem dX7_digest_163 : decode cX7_digest 163 = .ok (.bipush 16, 2) := by decide +kernel
theorem dX7_digest_165 : decode cX7_digest 165 = .ok (.iload_n 1, 1) := by decide +kernel
theorem dX7_digest_166 : decode cX7_digest 166 = .ok (.imul, 1) := by decide +kernel
theorem dX7_digest_167 : decode cX7_digest 167 = .ok (.iload 4, 2) := by decide +kernel
theorem dX7_digest_169 : decode cX7_digest 169 = .ok (.iadd, 1) := by decide +kernel
theorem dX7_digest_170 : decode cX7_digest 170 = .ok (.baload, 1) := by decide +kernel
theorem dX7_digest_171 : decode cX7_digest 171 = .ok (.ifCond .eq 30, 3) := by decide +kernel
theorem dX7_digest_174 : decode cX7_digest 174 = .ok (.ldc2_w 231, 3) := by decide +kernel
theorem dX7_digest_177 : decode cX7_digest 177 = .ok (.ldc2_w 231, 3) := by decide +kernel
theorem dX7_digest_180 : decode cX7_digest 180 = .ok (.lload_n 2, 1) := by decide +kernel
theorem dX7_digest_181 : decode cX7_digest 181 = .ok (.lmul, 1) := by decide +kernel
theorem dX7_digest_182 : decode cX7_digest 182 = .ok (.lconst 1, 1) := by decide +kernel
theorem dX7_digest_183 : decode cX7_digest 183 = .ok (.ladd, 1) := by decide +kernel
theorem dX7_digest_184 : decode cX7_digest 184 = .ok (.lmul, 1) := by decide +kernel
theorem dX7_digest_185 : decode cX7_digest 185 = .ok (.aload_n 0, 1) := by decide +kernel
theorem dX7_digest_186 : decode cX7_digest 186 = .ok (.getfield 69, 3) := by decide +kernel
theorem dX7_digest_189 : decode cX7_digest 189 = .ok (.bipush 16, 2) := by decide +kernel
theorem dX7_digest_191 : decode cX7_digest 191 = .ok (.iload_n 1, 1) := by decide +kernel
theorem dX7_digest_192 : decode cX7_digest 192 = .ok (.imul, 1) := by decide +kernel
theorem dX7_digest_193 : decode cX7_digest 193 = .ok (.iload 4, 2) := by decide +kernel
theorem dX7_digest_195 : decode cX7_digest 195 = .ok (.iadd, 1) := by decide +kernel
theorem dX7_digest_196 : decode cX7_digest 196 = .ok (.laload, 1) := by decide +kernel
theorem dX7_digest_197 : decode cX7_digest 197 = .ok (.ladd, 1) := by decide +kernel
theorem dX7_digest_198 : decode cX7_digest 198 = .ok (.goto 10, 3) := by decide +kernel
theorem dX7_digest_201 : decode cX7_digest 201 = .ok (.ldc2_w 231, 3) := by decide +kernel
theorem dX7_digest_204 : decode cX7_digest 204 = .ok (.lload_n 2, 1) := by decide +kernel
theorem dX7_digest_205 : decode cX7_digest 205 = .ok (.lmul, 1) := by decide +kernel
theorem dX7_digest_206 : decode cX7_digest 206 = .ok (.lconst 1, 1) := by decide +kernel
theorem dX7_digest_207 : decode cX7_digest 207 = .ok (.lsub, 1) := by decide +kernel
theorem dX7_digest_208 : decode cX7_digest 208 = .ok (.lstore_n 2, 1) := by decide +kernel
theorem dX7_digest_209 : decode cX7_digest 209 = .ok (.iinc 4 1, 3) := by decide +kernel
theorem dX7_digest_212 : decode cX7_digest 212 = .ok (.goto (-64), 3) := by decide +kernel
theorem dX7_digest_215 : decode cX7_digest 215 = .ok (.lload_n 2, 1) := by decide +kernel
theorem dX7_digest_216 : decode cX7_digest 216 = .ok (.lreturn, 1) := by decide +kernel
theorem cvX7_digest : CV yX7_digest cX7_digest 7 (some .long) 8 1 := ⟨kw_1171, kw_1172, kw_6, kw_1173, ⟨_, _, rfl⟩, by decide, by decide +kernel, by decide +kernel, by decide +kernel⟩
def fX7_digest_b112 (sh : Sh) (k47 : Nat → Int32 → Int64 → Int32 → Dt → Option (Int64 × Dt)) : Nat → Nat → Int32 → Int64 → Int32 → Int32 → Int32 → Dt → Option (Int64 × Dt)
  | 0, _, _, _, _, _, _, _ => none
  | n + 1, x0, x1, x2, x4, x5, x6, d => if x5 ≤ x6 then (k47 x0 x1 x2 (x4 + 1) d) else (bd (gR sh d 9 309 x0) fun v2 => bd v2 fun a3 => bd (aL sh d 21 a3 x6) fun v4 => fX7_digest_b112 sh k47 n x0 x1 (((31 : Int64) * x2) + v4) x4 x5 (x6 + 1) d)

def fX7_digest_b94 (sh : Sh) (k47 : Nat → Int32 → Int64 → Int32 → Dt → Option (Int64 × Dt)) (x0 : Nat) (x1 : Int32) (x4 : Int32) (t0 : Int64) (t1 : Int64) (d : Dt) : Option (Int64 × Dt) := bd (gR sh d 9 309 x0) fun v1 => bd2 (fX7_lay sh d x0 x1 x4 v1) fun r3 d4 => fX7_digest_b112 sh k47 fu x0 x1 (t0 + t1) x4 r3 (0 : Int32) d4

def fX7_digest_b148 (sh : Sh) : Nat → Nat → Int32 → Int64 → Int32 → Dt → Option (Int64 × Dt)
  | 0, _, _, _, _, _ => none
  | n + 1, x0, x1, x2, x4, d => bd (gR sh d 9 311 x0) fun v1 => bd v1 fun a2 => bd (aI sh d 20 a2 x1) fun v3 => if v3 ≤ x4 then (some (x2, d)) else (bd (gR sh d 9 312 x0) fun v5 => bd v5 fun a6 => bd (aI sh d 22 a6 (((16 : Int32) * x1) + x4)) fun v7 => if v7 = 0 then (fX7_digest_b148 sh n x0 x1 (((31 : Int64) * x2) - (1 : Int64)) (x4 + 1) d) else (bd (gR sh d 9 313 x0) fun v9 => bd v9 fun a10 => bd (aL sh d 21 a10 (((16 : Int32) * x1) + x4)) fun v11 => fX7_digest_b148 sh n x0 x1 (((31 : Int64) * (((31 : Int64) * x2) + (1 : Int64))) + v11) (x4 + 1) d))

def fX7_digest_b47 (sh : Sh) : Nat → Nat → Int32 → Int64 → Int32 → Dt → Option (Int64 × Dt)
  | 0, _, _, _, _, _ => none
  | n + 1, x0, x1, x2, x4, d => bd (gI sh d 9 295 x0) fun v1 => if v1 ≤ x4 then (fX7_digest_b148 sh fu x0 x1 x2 (0 : Int32) d) else (bd (gR sh d 9 296 x0) fun v3 => bd v3 fun a4 => bd (aI sh d 20 a4 x4) fun v5 => bd (gR sh d 9 293 x0) fun v6 => bd v6 fun a7 => bd (aI sh d 22 a7 (((10 : Int32) * x1) + x4)) fun v8 => if v8 = 0 then (fX7_digest_b94 sh (fX7_digest_b47 sh n) x0 x1 x4 ((31 : Int64) * (((31 : Int64) * x2) + v5.toInt64)) (1 : Int64) d) else (fX7_digest_b94 sh (fX7_digest_b47 sh n) x0 x1 x4 ((31 : Int64) * (((31 : Int64) * x2) + v5.toInt64)) (0 : Int64) d))

def fX7_digest_b17 (sh : Sh) : Nat → Nat → Int32 → Int64 → Int32 → Dt → Option (Int64 × Dt)
  | 0, _, _, _, _, _ => none
  | n + 1, x0, x1, x2, x4, d => if (5 : Int32) ≤ x4 then (fX7_digest_b47 sh fu x0 x1 x2 (0 : Int32) d) else (bd (kc sh 9 x0) fun _ => bd (fX7_told sh d x0 x1 x4) fun r4 => fX7_digest_b17 sh n x0 x1 (((31 : Int64) * x2) + r4.toInt64) (x4 + 1) d)

def fX7_digest_b0 (sh : Sh) (x0 : Nat) (x1 : Int32) (d : Dt) : Option (Int64 × Dt) := bd (kc sh 9 x0) fun _ => bd (fX7_isHand sh d x0 x1) fun r3 => if (bI r3) = 0 then (some ((0 : Int64), d)) else (fX7_digest_b17 sh fu x0 x1 (17 : Int64) (0 : Int32) d)

def fX7_digest (sh : Sh) (d : Dt) (x0 : Nat) (x1 : Int32) : Option (Int64 × Dt) := fX7_digest_b0 sh x0 x1 d

set_option maxRecDepth 100000 in
set_option maxHeartbeats 4000000 in
theorem wX7_digest_b112 (C : mx p s m args meth c yX7_digest cX7_digest 7 (some .long) A D cy st) {k47 : Nat → Int32 → Int64 → Int32 → Dt → Option (Int64 × Dt)} {r : Int64} {d9 : Dt} (Hk47 : ∀ (x0 : Nat) (x1 : Int32) (x2 : Int64) (x4 : Int32) (d : Dt), k47 x0 x1 x2 x4 d = some (r, d9) → ∀ {H : Heap} {locs : List Loc} {ls : Array Slot}, HW A D cy sz sh d H → va_S A s.heap H locs → lv_has ls 7 [(0, .ref x0), (1, .int x1), (2, .long x2), (4, .int x4)] → GL p l e s m args below meth c 5 123 A D cy (some (.long r)) sz sh d9 H locs 47 ls []) : ∀ (n : Nat) (x0 : Nat) (x1 : Int32) (x2 : Int64) (x4 : Int32) (x5 : Int32) (x6 : Int32) (d : Dt), fX7_digest_b112 sh k47 n x0 x1 x2 x4 x5 x6 d = some (r, d9) → ∀ {H : Heap} {locs : List Loc} {ls : Array Slot}, HW A D cy sz sh d H → va_S A s.heap H locs → lv_has ls 7 [(0, .ref x0), (1, .int x1), (2, .long x2), (4, .int x4), (5, .int x5), (6, .int x6)] → GL p l e s m args below meth c 5 123 A D cy (some (.long r)) sz sh d9 H locs 112 ls [] := by
  have hx := C.1
  have hb := C.2.1
  intro n
  induction n with
  | zero => intro x0 x1 x2 x4 x5 x6 d hf; cases hf
  | succ n ih =>
    intro x0 x1 x2 x4 x5 x6 d hf H locs ls hw hS hl
    rw [fX7_digest_b112] at hf
    refine lv_iload hx hb dX7_digest_112 (lv_at hl 5 rfl) ?_
    refine lv_iload hx hb dX7_digest_114 (lv_at hl 4 rfl) ?_
    refine lv_icmp_ge (tgt := 139) hx hb dX7_digest_116 (by decide) (fun c_1 => ?_) (fun c_1 => ?_)
    · have hf := if_t c_1 hf
      refine lv_iinc (v := (x4 + 1)) (lv' := [(4, .int (x4 + 1)), (0, .ref x0), (1, .int x1), (2, .long x2), (5, .int x5), (6, .int x6)]) hx hb dX7_digest_139 hl (k := 3) rfl rfl (by decide) rfl (fun ls hl => ?_)
      refine lv_goto (tgt := 47) hx hb dX7_digest_142 (by decide) ?_
      exact Hk47 x0 x1 x2 (x4 + 1) d hf hw hS (lv_sub hl [1, 2, 3, 0] rfl)
    · have hf := if_f c_1 hf
      refine lv_ldc2 (v := 31) hx hb C.2.2.2.2.2.1 (C.2.2.2.2.1 _ kw_1175) dX7_digest_119 ?_
      refine lv_lload_n hx hb dX7_digest_122 rfl (lv_at hl 2 rfl) ?_
      refine lv_lmul hx hb dX7_digest_123 ?_
      refine lv_aload_n hx hb dX7_digest_124 rfl (lv_at hl 0 rfl) ?_
      obtain ⟨v2, hv2, hf⟩ := bd_s hf
      refine gt_309 C hw hv2 kw_818 dX7_digest_125 ?_
      refine lv_iload hx hb dX7_digest_128 (lv_at hl 5 rfl) ?_
      obtain ⟨a3, ea3, hg⟩ := bd_s hf
      clear hf
      subst ea3
      have hf := hg
      clear hg
      obtain ⟨v4, hv4, hf⟩ := bd_s hf
      refine w_lald C hw hv4 dX7_digest_130 ?_
      refine lv_ladd hx hb dX7_digest_131 ?_
      refine lv_lstore_n (lv' := [(2, .long (((31 : Int64) * x2) + v4)), (0, .ref x0), (1, .int x1), (4, .int x4), (5, .int x5), (6, .int x6)]) hx hb dX7_digest_132 rfl hl (by decide) rfl (fun ls hl => ?_)
      refine lv_iinc (v := (x6 + 1)) (lv' := [(6, .int (x6 + 1)), (2, .long (((31 : Int64) * x2) + v4)), (0, .ref x0), (1, .int x1), (4, .int x4), (5, .int x5)]) hx hb dX7_digest_133 hl (k := 5) rfl rfl (by decide) rfl (fun ls hl => ?_)
      refine lv_goto (tgt := 112) hx hb dX7_digest_136 (by decide) ?_
      exact ih x0 x1 (((31 : Int64) * x2) + v4) x4 x5 (x6 + 1) d hf hw hS (lv_sub hl [2, 3, 1, 4, 5, 0] rfl)

set_option maxRecDepth 100000 in
set_option maxHeartbeats 4000000 in
theorem wX7_digest_b94 (C : mx p s m args meth c yX7_digest cX7_digest 7 (some .long) A D cy st) {k47 : Nat → Int32 → Int64 → Int32 → Dt → Option (Int64 × Dt)} {r : Int64} {d9 : Dt} (Hk47 : ∀ (x0 : Nat) (x1 : Int32) (x2 : Int64) (x4 : Int32) (d : Dt), k47 x0 x1 x2 x4 d = some (r, d9) → ∀ {H : Heap} {locs : List Loc} {ls : Array Slot}, HW A D cy sz sh d H → va_S A s.heap H locs → lv_has ls 7 [(0, .ref x0), (1, .int x1), (2, .long x2), (4, .int x4)] → GL p l e s m args below meth c 5 123 A D cy (some (.long r)) sz sh d9 H locs 47 ls []) : ∀ (x0 : Nat) (x1 : Int32) (x4 : Int32) (t0 : Int64) (t1 : Int64) (d : Dt), fX7_digest_b94 sh k47 x0 x1 x4 t0 t1 d = some (r, d9) → ∀ {H : Heap} {locs : List Loc} {ls : Array Slot}, HW A D cy sz sh d H → va_S A s.heap H locs → lv_has ls 7 [(0, .ref x0), (1, .int x1), (4, .int x4)] → GL p l e s m args below meth c 5 123 A D cy (some (.long r)) sz sh d9 H locs 94 ls [.long t1, .long t0] := by
  have hx := C.1
  have hb := C.2.1
  intro x0 x1 x4 t0 t1 d hf H locs ls hw hS hl
  unfold fX7_digest_b94 at hf
  refine lv_ladd hx hb dX7_digest_94 ?_
  refine lv_lstore_n (lv' := [(2, .long (t0 + t1)), (0, .ref x0), (1, .int x1), (4, .int x4)]) hx hb dX7_digest_95 rfl hl (by decide) rfl (fun ls hl => ?_)
  refine lv_aload_n hx hb dX7_digest_96 rfl (lv_at hl 1 rfl) ?_
  refine lv_iload_n hx hb dX7_digest_97 rfl (lv_at hl 2 rfl) ?_
  refine lv_iload hx hb dX7_digest_98 (lv_at hl 3 rfl) ?_
  refine lv_aload_n hx hb dX7_digest_100 rfl (lv_at hl 1 rfl) ?_
  obtain ⟨v1, hv1, hf⟩ := bd_s hf
  refine gt_309 C hw hv1 kw_818 dX7_digest_101 ?_
  obtain ⟨r3, d4, h2, hf⟩ := bd2_s hf
  refine cl_V0 C hw hS (tX7_lay l A D cy st sz sh d x0 x1 x4 v1 h2) cvX7_lay kw_1134 (gR_s hv1).1 ⟨Nat.le_of_ble_eq_true rfl, Nat.le_of_ble_eq_true rfl⟩ hl.1 rfl (Nat.le_of_ble_eq_true rfl) dX7_digest_104 ⟨Nat.zero_le _, Nat.zero_le _⟩ (fun H locs hw hS => ?_)
  refine lv_istore (lv' := [(5, .int r3), (2, .long (t0 + t1)), (0, .ref x0), (1, .int x1), (4, .int x4)]) hx hb dX7_digest_107 hl (by decide) rfl (fun ls hl => ?_)
  refine lv_iconst (v := 0) hx hb dX7_digest_109 (by decide) ?_
  refine lv_istore (lv' := [(6, .int (0 : Int32)), (5, .int r3), (2, .long (t0 + t1)), (0, .ref x0), (1, .int x1), (4, .int x4)]) hx hb dX7_digest_110 hl (by decide) rfl (fun ls hl => ?_)
  exact wX7_digest_b112 C Hk47 fu x0 x1 (t0 + t1) x4 r3 (0 : Int32) d4 hf hw hS (lv_sub hl [3, 4, 2, 5, 1, 0] rfl)

set_option maxRecDepth 100000 in
set_option maxHeartbeats 4000000 in
theorem wX7_digest_b148 (C : mx p s m args meth c yX7_digest cX7_digest 7 (some .long) A D cy st) {r : Int64} {d9 : Dt} : ∀ (n : Nat) (x0 : Nat) (x1 : Int32) (x2 : Int64) (x4 : Int32) (d : Dt), fX7_digest_b148 sh n x0 x1 x2 x4 d = some (r, d9) → ∀ {H : Heap} {locs : List Loc} {ls : Array Slot}, HW A D cy sz sh d H → va_S A s.heap H locs → lv_has ls 7 [(0, .ref x0), (1, .int x1), (2, .long x2), (4, .int x4)] → GL p l e s m args below meth c 5 123 A D cy (some (.long r)) sz sh d9 H locs 148 ls [] := by
  have hx := C.1
  have hb := C.2.1
  intro n
  induction n with
  | zero => intro x0 x1 x2 x4 d hf; cases hf
  | succ n ih =>
    intro x0 x1 x2 x4 d hf H locs ls hw hS hl
    rw [fX7_digest_b148] at hf
    refine lv_iload hx hb dX7_digest_148 (lv_at hl 3 rfl) ?_
    refine lv_aload_n hx hb dX7_digest_150 rfl (lv_at hl 0 rfl) ?_
    obtain ⟨v1, hv1, hf⟩ := bd_s hf
    refine gt_311 C hw hv1 kw_820 dX7_digest_151 ?_
    refine lv_iload_n hx hb dX7_digest_154 rfl (lv_at hl 1 rfl) ?_
    obtain ⟨a2, ea2, hg⟩ := bd_s hf
    clear hf
    subst ea2
    have hf := hg
    clear hg
    obtain ⟨v3, hv3, hf⟩ := bd_s hf
    refine w_iald C hw hv3 dX7_digest_155 ?_
    refine lv_icmp_ge (tgt := 215) hx hb dX7_digest_156 (by decide) (fun c_4 => ?_) (fun c_4 => ?_)
    · have hf := if_t c_4 hf
      refine lv_lload_n hx hb dX7_digest_215 rfl (lv_at hl 2 rfl) ?_
      cases hf
      exact rt_l C hw hS dX7_digest_216
    · have hf := if_f c_4 hf
      refine lv_aload_n hx hb dX7_digest_159 rfl (lv_at hl 0 rfl) ?_
      obtain ⟨v5, hv5, hf⟩ := bd_s hf
      refine gt_312 C hw hv5 kw_821 dX7_digest_160 ?_
      refine lv_bipush (v := 16) hx hb dX7_digest_163 (by decide) ?_
      refine lv_iload_n hx hb dX7_digest_165 rfl (lv_at hl 1 rfl) ?_
      refine lv_imul hx hb dX7_digest_166 ?_
      refine lv_iload hx hb dX7_digest_167 (lv_at hl 3 rfl) ?_
      refine lv_iadd hx hb dX7_digest_169 ?_
      obtain ⟨a6, ea6, hg⟩ := bd_s hf
      clear hf
      subst ea6
      have hf := hg
      clear hg
      obtain ⟨v7, hv7, hf⟩ := bd_s hf
      refine w_zald C hw hv7 dX7_digest_170 ?_
      refine lv_if_eq (tgt := 201) hx hb dX7_digest_171 (by decide) (fun c_8 => ?_) (fun c_8 => ?_)
      · have hf := if_t c_8 hf
        refine lv_ldc2 (v := 31) hx hb C.2.2.2.2.2.1 (C.2.2.2.2.1 _ kw_1175) dX7_digest_201 ?_
        refine lv_lload_n hx hb dX7_digest_204 rfl (lv_at hl 2 rfl) ?_
        refine lv_lmul hx hb dX7_digest_205 ?_
        refine lv_lconst (v := 1) hx hb dX7_digest_206 (by decide) ?_
        refine lv_lsub hx hb dX7_digest_207 ?_
        refine lv_lstore_n (lv' := [(2, .long (((31 : Int64) * x2) - (1 : Int64))), (0, .ref x0), (1, .int x1), (4, .int x4)]) hx hb dX7_digest_208 rfl hl (by decide) rfl (fun ls hl => ?_)
        refine lv_iinc (v := (x4 + 1)) (lv' := [(4, .int (x4 + 1)), (2, .long (((31 : Int64) * x2) - (1 : Int64))), (0, .ref x0), (1, .int x1)]) hx hb dX7_digest_209 hl (k := 3) rfl rfl (by decide) rfl (fun ls hl => ?_)
        refine lv_goto (tgt := 148) hx hb dX7_digest_212 (by decide) ?_
        exact ih x0 x1 (((31 : Int64) * x2) - (1 : Int64)) (x4 + 1) d hf hw hS (lv_sub hl [2, 3, 1, 0] rfl)
      · have hf := if_f c_8 hf
        refine lv_ldc2 (v := 31) hx hb C.2.2.2.2.2.1 (C.2.2.2.2.1 _ kw_1175) dX7_digest_174 ?_
        refine lv_ldc2 (v := 31) hx hb C.2.2.2.2.2.1 (C.2.2.2.2.1 _ kw_1175) dX7_digest_177 ?_
        refine lv_lload_n hx hb dX7_digest_180 rfl (lv_at hl 2 rfl) ?_
        refine lv_lmul hx hb dX7_digest_181 ?_
        refine lv_lconst (v := 1) hx hb dX7_digest_182 (by decide) ?_
        refine lv_ladd hx hb dX7_digest_183 ?_
        refine lv_lmul hx hb dX7_digest_184 ?_
        refine lv_aload_n hx hb dX7_digest_185 rfl (lv_at hl 0 rfl) ?_
        obtain ⟨v9, hv9, hf⟩ := bd_s hf
        refine gt_313 C hw hv9 kw_822 dX7_digest_186 ?_
        refine lv_bipush (v := 16) hx hb dX7_digest_189 (by decide) ?_
        refine lv_iload_n hx hb dX7_digest_191 rfl (lv_at hl 1 rfl) ?_
        refine lv_imul hx hb dX7_digest_192 ?_
        refine lv_iload hx hb dX7_digest_193 (lv_at hl 3 rfl) ?_
        refine lv_iadd hx hb dX7_digest_195 ?_
        obtain ⟨a10, ea10, hg⟩ := bd_s hf
        clear hf
        subst ea10
        have hf := hg
        clear hg
        obtain ⟨v11, hv11, hf⟩ := bd_s hf
        refine w_lald C hw hv11 dX7_digest_196 ?_
        refine lv_ladd hx hb dX7_digest_197 ?_
        refine lv_goto (tgt := 208) hx hb dX7_digest_198 (by decide) ?_
        refine lv_lstore_n (lv' := [(2, .long (((31 : Int64) * (((31 : Int64) * x2) + (1 : Int64))) + v11)), (0, .ref x0), (1, .int x1), (4, .int x4)]) hx hb dX7_digest_208 rfl hl (by decide) rfl (fun ls hl => ?_)
        refine lv_iinc (v := (x4 + 1)) (lv' := [(4, .int (x4 + 1)), (2, .long (((31 : Int64) * (((31 : Int64) * x2) + (1 : Int64))) + v11)), (0, .ref x0), (1, .int x1)]) hx hb dX7_digest_209 hl (k := 3) rfl rfl (by decide) rfl (fun ls hl => ?_)
        refine lv_goto (tgt := 148) hx hb dX7_digest_212 (by decide) ?_
        exact ih x0 x1 (((31 : Int64) * (((31 : Int64) * x2) + (1 : Int64))) + v11) (x4 + 1) d hf hw hS (lv_sub hl [2, 3, 1, 0] rfl)

set_option maxRecDepth 100000 in
set_option maxHeartbeats 4000000 in
theorem wX7_digest_b47 (C : mx p s m args meth c yX7_digest cX7_digest 7 (some .long) A D cy st) {r : Int64} {d9 : Dt} : ∀ (n : Nat) (x0 : Nat) (x1 : Int32) (x2 : Int64) (x4 : Int32) (d : Dt), fX7_digest_b47 sh n x0 x1 x2 x4 d = some (r, d9) → ∀ {H : Heap} {locs : List Loc} {ls : Array Slot}, HW A D cy sz sh d H → va_S A s.heap H locs → lv_has ls 7 [(0, .ref x0), (1, .int x1), (2, .long x2), (4, .int x4)] → GL p l e s m args below meth c 5 123 A D cy (some (.long r)) sz sh d9 H locs 47 ls [] := by
  have hx := C.1
  have hb := C.2.1
  intro n
  induction n with
  | zero => intro x0 x1 x2 x4 d hf; cases hf
  | succ n ih =>
    intro x0 x1 x2 x4 d hf H locs ls hw hS hl
    rw [fX7_digest_b47] at hf
    refine lv_iload hx hb dX7_digest_47 (lv_at hl 3 rfl) ?_
    refine lv_aload_n hx hb dX7_digest_49 rfl (lv_at hl 0 rfl) ?_
    obtain ⟨v1, hv1, hf⟩ := bd_s hf
    refine gt_295 C hw hv1 kw_804 dX7_digest_50 ?_
    refine lv_icmp_ge (tgt := 145) hx hb dX7_digest_53 (by decide) (fun c_2 => ?_) (fun c_2 => ?_)
    · have hf := if_t c_2 hf
      refine lv_iconst (v := 0) hx hb dX7_digest_145 (by decide) ?_
      refine lv_istore (lv' := [(4, .int (0 : Int32)), (0, .ref x0), (1, .int x1), (2, .long x2)]) hx hb dX7_digest_146 hl (by decide) rfl (fun ls hl => ?_)
      exact wX7_digest_b148 C fu x0 x1 x2 (0 : Int32) d hf hw hS (lv_sub hl [1, 2, 3, 0] rfl)
    · have hf := if_f c_2 hf
      refine lv_ldc2 (v := 31) hx hb C.2.2.2.2.2.1 (C.2.2.2.2.1 _ kw_1175) dX7_digest_56 ?_
      refine lv_ldc2 (v := 31) hx hb C.2.2.2.2.2.1 (C.2.2.2.2.1 _ kw_1175) dX7_digest_59 ?_
      refine lv_lload_n hx hb dX7_digest_62 rfl (lv_at hl 2 rfl) ?_
      refine lv_lmul hx hb dX7_digest_63 ?_
      refine lv_aload_n hx hb dX7_digest_64 rfl (lv_at hl 0 rfl) ?_
      obtain ⟨v3, hv3, hf⟩ := bd_s hf
      refine gt_296 C hw hv3 kw_805 dX7_digest_65 ?_
      refine lv_iload hx hb dX7_digest_68 (lv_at hl 3 rfl) ?_
      obtain ⟨a4, ea4, hg⟩ := bd_s hf
      clear hf
      subst ea4
      have hf := hg
      clear hg
      obtain ⟨v5, hv5, hf⟩ := bd_s hf
      refine w_iald C hw hv5 dX7_digest_70 ?_
      refine lv_i2l hx hb dX7_digest_71 rfl ?_
      refine lv_ladd hx hb dX7_digest_72 ?_
      refine lv_lmul hx hb dX7_digest_73 ?_
      refine lv_aload_n hx hb dX7_digest_74 rfl (lv_at hl 0 rfl) ?_
      obtain ⟨v6, hv6, hf⟩ := bd_s hf
      refine gt_293 C hw hv6 kw_802 dX7_digest_75 ?_
      refine lv_bipush (v := 10) hx hb dX7_digest_78 (by decide) ?_
      refine lv_iload_n hx hb dX7_digest_80 rfl (lv_at hl 1 rfl) ?_
      refine lv_imul hx hb dX7_digest_81 ?_
      refine lv_iload hx hb dX7_digest_82 (lv_at hl 3 rfl) ?_
      refine lv_iadd hx hb dX7_digest_84 ?_
      obtain ⟨a7, ea7, hg⟩ := bd_s hf
      clear hf
      subst ea7
      have hf := hg
      clear hg
      obtain ⟨v8, hv8, hf⟩ := bd_s hf
      refine w_zald C hw hv8 dX7_digest_85 ?_
      refine lv_if_eq (tgt := 93) hx hb dX7_digest_86 (by decide) (fun c_9 => ?_) (fun c_9 => ?_)
      · have hf := if_t c_9 hf
        refine lv_lconst (v := 1) hx hb dX7_digest_93 (by decide) ?_
        exact wX7_digest_b94 C ih x0 x1 x4 ((31 : Int64) * (((31 : Int64) * x2) + v5.toInt64)) (1 : Int64) d hf hw hS (lv_sub hl [0, 1, 3] rfl)
      · have hf := if_f c_9 hf
        refine lv_lconst (v := 0) hx hb dX7_digest_89 (by decide) ?_
        refine lv_goto (tgt := 94) hx hb dX7_digest_90 (by decide) ?_
        exact wX7_digest_b94 C ih x0 x1 x4 ((31 : Int64) * (((31 : Int64) * x2) + v5.toInt64)) (0 : Int64) d hf hw hS (lv_sub hl [0, 1, 3] rfl)

set_option maxRecDepth 100000 in
set_option maxHeartbeats 4000000 in
theorem wX7_digest_b17 (C : mx p s m args meth c yX7_digest cX7_digest 7 (some .long) A D cy st) {r : Int64} {d9 : Dt} : ∀ (n : Nat) (x0 : Nat) (x1 : Int32) (x2 : Int64) (x4 : Int32) (d : Dt), fX7_digest_b17 sh n x0 x1 x2 x4 d = some (r, d9) → ∀ {H : Heap} {locs : List Loc} {ls : Array Slot}, HW A D cy sz sh d H → va_S A s.heap H locs → lv_has ls 7 [(0, .ref x0), (1, .int x1), (2, .long x2), (4, .int x4)] → GL p l e s m args below meth c 5 123 A D cy (some (.long r)) sz sh d9 H locs 17 ls [] := by
  have hx := C.1
  have hb := C.2.1
  intro n
  induction n with
  | zero => intro x0 x1 x2 x4 d hf; cases hf
  | succ n ih =>
    intro x0 x1 x2 x4 d hf H locs ls hw hS hl
    rw [fX7_digest_b17] at hf
    refine lv_iload hx hb dX7_digest_17 (lv_at hl 3 rfl) ?_
    refine lv_iconst (v := 5) hx hb dX7_digest_19 (by decide) ?_
    refine lv_icmp_ge (tgt := 44) hx hb dX7_digest_20 (by decide) (fun c_1 => ?_) (fun c_1 => ?_)
    · have hf := if_t c_1 hf
      refine lv_iconst (v := 0) hx hb dX7_digest_44 (by decide) ?_
      refine lv_istore (lv' := [(4, .int (0 : Int32)), (0, .ref x0), (1, .int x1), (2, .long x2)]) hx hb dX7_digest_45 hl (by decide) rfl (fun ls hl => ?_)
      exact wX7_digest_b47 C fu x0 x1 x2 (0 : Int32) d hf hw hS (lv_sub hl [1, 2, 3, 0] rfl)
    · have hf := if_f c_1 hf
      refine lv_ldc2 (v := 31) hx hb C.2.2.2.2.2.1 (C.2.2.2.2.1 _ kw_1175) dX7_digest_23 ?_
      refine lv_lload_n hx hb dX7_digest_26 rfl (lv_at hl 2 rfl) ?_
      refine lv_lmul hx hb dX7_digest_27 ?_
      refine lv_aload_n hx hb dX7_digest_28 rfl (lv_at hl 0 rfl) ?_
      refine lv_iload_n hx hb dX7_digest_29 rfl (lv_at hl 1 rfl) ?_
      refine lv_iload hx hb dX7_digest_30 (lv_at hl 3 rfl) ?_
      obtain ⟨_, h2, hf⟩ := bd_s hf
      obtain ⟨r4, h3, hf⟩ := bd_s hf
      refine cl_V0 C hw hS (tX7_told l A D cy st sz sh d x0 x1 x4 h3) cvX7_told kw_1176 (kc_k h2) ⟨Nat.le_of_ble_eq_true rfl, Nat.le_of_ble_eq_true rfl⟩ hl.1 rfl (Nat.le_of_ble_eq_true rfl) dX7_digest_32 ⟨Nat.zero_le _, Nat.zero_le _⟩ (fun H locs hw hS => ?_)
      refine lv_i2l hx hb dX7_digest_35 rfl ?_
      refine lv_ladd hx hb dX7_digest_36 ?_
      refine lv_lstore_n (lv' := [(2, .long (((31 : Int64) * x2) + r4.toInt64)), (0, .ref x0), (1, .int x1), (4, .int x4)]) hx hb dX7_digest_37 rfl hl (by decide) rfl (fun ls hl => ?_)
      refine lv_iinc (v := (x4 + 1)) (lv' := [(4, .int (x4 + 1)), (2, .long (((31 : Int64) * x2) + r4.toInt64)), (0, .ref x0), (1, .int x1)]) hx hb dX7_digest_38 hl (k := 3) rfl rfl (by decide) rfl (fun ls hl => ?_)
      refine lv_goto (tgt := 17) hx hb dX7_digest_41 (by decide) ?_
      exact ih x0 x1 (((31 : Int64) * x2) + r4.toInt64) (x4 + 1) d hf hw hS (lv_sub hl [2, 3, 1, 0] rfl)

set_option maxRecDepth 100000 in
set_option maxHeartbeats 4000000 in
theorem wX7_digest_b0 (C : mx p s m args meth c yX7_digest cX7_digest 7 (some .long) A D cy st) {r : Int64} {d9 : Dt} : ∀ (x0 : Nat) (x1 : Int32) (d : Dt), fX7_digest_b0 sh x0 x1 d = some (r, d9) → ∀ {H : Heap} {locs : List Loc} {ls : Array Slot}, HW A D cy sz sh d H → va_S A s.heap H locs → lv_has ls 7 [(0, .ref x0), (1, .int x1)] → GL p l e s m args below meth c 5 123 A D cy (some (.long r)) sz sh d9 H locs 0 ls [] := by
  have hx := C.1
  have hb := C.2.1
  intro x0 x1 d hf H locs ls hw hS hl
  unfold fX7_digest_b0 at hf
  refine lv_aload_n hx hb dX7_digest_0 rfl (lv_at hl 0 rfl) ?_
  refine lv_iload_n hx hb dX7_digest_1 rfl (lv_at hl 1 rfl) ?_
  obtain ⟨_, h1, hf⟩ := bd_s hf
  obtain ⟨r3, h2, hf⟩ := bd_s hf
  refine cl_V0 C hw hS (tX7_isHand l A D cy st sz sh d x0 x1 h2) cvX7_isHand kw_917 (kc_k h1) ⟨Nat.le_of_ble_eq_true rfl, Nat.le_of_ble_eq_true rfl⟩ hl.1 rfl (Nat.le_of_ble_eq_true rfl) dX7_digest_2 ⟨Nat.zero_le _, Nat.zero_le _⟩ (fun H locs hw hS => ?_)
  refine lv_if_ne (tgt := 10) hx hb dX7_digest_5 (by decide) (fun c_4 => ?_) (fun c_4 => ?_)
  · have hf := if_f c_4 hf
    refine lv_ldc2 (v := 17) hx hb C.2.2.2.2.2.1 (C.2.2.2.2.1 _ kw_1174) dX7_digest_10 ?_
    refine lv_lstore_n (lv' := [(2, .long (17 : Int64)), (0, .ref x0), (1, .int x1)]) hx hb dX7_digest_13 rfl hl (by decide) rfl (fun ls hl => ?_)
    refine lv_iconst (v := 0) hx hb dX7_digest_14 (by decide) ?_
    refine lv_istore (lv' := [(4, .int (0 : Int32)), (2, .long (17 : Int64)), (0, .ref x0), (1, .int x1)]) hx hb dX7_digest_15 hl (by decide) rfl (fun ls hl => ?_)
    exact wX7_digest_b17 C fu x0 x1 (17 : Int64) (0 : Int32) d hf hw hS (lv_sub hl [2, 3, 1, 0] rfl)
  · have hf := if_t c_4 hf
    refine lv_lconst (v := 0) hx hb dX7_digest_8 (by decide) ?_
    cases hf
    exact rt_l C hw hS dX7_digest_9

set_option maxRecDepth 100000 in
set_option maxHeartbeats 4000000 in
theorem tX7_digest (l : Launch) (A : Nat → Prop) (D : va_G) (cy : Nat → ClassId) (st : Nat → Nat) (sz : Nat) (sh : Sh) (d : Dt) (x0 : Nat) (x1 : Int32) {r : Int64} {d9 : Dt} (hf : fX7_digest sh d x0 x1 = some (r, d9)) : Ct l yX7_digest cX7_digest 7 (some .long) 5 123 0 0 A D cy st [.ref x0, .int x1] sz sh d (some (.long r)) sz sh d9 := ct_of (by decide) (Nat.le_of_ble_eq_true rfl) (fun p e s m args below meth c C hw hS ls hl => wX7_digest_b0 C x0 x1 d hf hw hS hl)
end
