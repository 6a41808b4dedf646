/-! the class: leaves; what a COPY tells; digest -/
section
variable {sh : Sh} {d : Dt} {x : Nat} {σ : St} {G : Gh} {em sz ns : Nat}
theorem c_spans (S : CZ σ G x em sz ns sh) (D : CD σ G x d) (B : WB σ) {h : Nat} (hh : h < nh σ) (a b : Int32) : fX2_spans sh d (HA G h + 6) a b = some (decide (0 ≤ a.toInt ∧ 0 ≤ b.toInt ∧ a.toInt + b.toInt ≤ lm σ h)) := by
  have b1 := B.1
  have b2 := (B.2.2.2.2.2 h (by omega)).1
  unfold fX2_spans fX2_spans_b0
  rw [cf_130 S D hh]
  simp only [bd_v, lt0]
  by_cases g1 : a.toInt < 0
  · rw [if_pos g1, decide_eq_false (by omega)]
  · rw [if_neg g1]
    by_cases g2 : b.toInt < 0
    · rw [if_pos g2, decide_eq_false (by omega)]
    · rw [if_neg g2]
      by_cases g3 : nI (lm σ h) < b
      · rw [if_pos g3]
        rw [Int32.lt_iff_toInt_lt, nI_toInt (by omega)] at g3
        rw [decide_eq_false (by omega)]
      · rw [if_neg g3]
        rw [Int32.lt_iff_toInt_lt, nI_toInt (by omega)] at g3
        obtain ⟨n, hn, rfl⟩ := inN_t (x := b) (n := 17) (by unfold inN; simp; omega)
        rw [nI_toInt (by omega)] at g3 g2
        have hlt : nI (lm σ h - n) < a ↔ ((lm σ h - n : Nat) : Int) < a.toInt := by rw [Int32.lt_iff_toInt_lt, nI_toInt (by omega)]
        have en : (nI n).toInt = (n : Int) := nI_toInt (by omega)
        rw [pk_sub (by omega), en]
        by_cases g4 : ((lm σ h - n : Nat) : Int) < a.toInt
        · rw [if_pos (hlt.mpr g4), decide_eq_false (by omega)]
        · rw [if_neg (fun q => g4 (hlt.mp q)), decide_eq_true (by omega)]
theorem c_spans1 (S : CZ σ G x em sz ns sh) (D : CD σ G x d) (B : WB σ) {h : Nat} (hh : h < nh σ) (a : Int32) : fX2_spans sh d (HA G h + 6) a 1 = some (inN a (lm σ h)) := by
  rw [c_spans S D B hh]
  unfold inN
  have e1 : (1 : Int32).toInt = 1 := rfl
  rw [e1]
  congr 1
  rw [Bool.eq_iff_iff]
  simp
  omega
theorem mkI_1 (b : Bool) : mkI b = 1 ↔ b = true := by cases b <;> decide
theorem c_save (S : CZ σ G x em sz ns sh) (D : CD σ G x d) (B : WB σ) (a1 a2 : Int32) : OKc (fX6_save sh d x a1 a2) G x (saveV σ a1 a2) := by
  have b1 := B.1
  unfold fX6_save fX6_save_b0 saveV
  rw [kX_0 S, bd_v, c_handAt S D B, bd_v]
  cases h1 : inN a1 (nh σ) with
  | false => exact ⟨d, rfl, D⟩
  | true =>
    obtain ⟨h, e1, rfl⟩ := inN_t h1
    have b2 := (B.2.2.2.2.2 h (by omega)).1
    rw [if_pos rfl, if_pos rfl, cl_nI (by omega), on_v, cf_101 S D e1, bd_v, bd_v, kH_6 S e1, bd_v, c_spans1 S D B e1, bd_v]
    cases h2 : inN a2 (lm σ h) with
    | false => exact okc_id (c_found S D (f := 2) (by decide))
    | true =>
      obtain ⟨i, e2, rfl⟩ := inN_t h2
      have D1 := cd_leaf S D (i := i) e1 (v := ask σ)
      have S1 : CZ (s_lf σ (u2 (lf σ) h i (ask σ))) G x em sz ns sh := S
      have D2 := cd_mark S1 D1 (i := i) e1 (b := true)
      rw [if_neg (by decide), if_pos rfl, cf_265 S D, bd_v, bd_v, bd_v, kH_6 S e1, bd_v, cl_nI (by omega)]
      refine ⟨_, ?_, D2⟩
      unfold fX2_store fX2_store_b0
      rw [cf_128 S D e1, bd_v, bd_v, sL_v (sH_7 S e1) (by rw [nH_7 S e1]; omega) (by omega), bd_v, cf_129 S1 D1 e1, bd_v, bd_v, sI_v (sH_8 S e1) (by rw [nH_8 S e1]; omega) (by omega), bd_v]
      rfl
theorem c_read (S : CZ σ G x em sz ns sh) (D : CD σ G x d) (B : WB σ) {h : Nat} (hh : h < nh σ) (a2 : Int32) {K : Int32 → Dt → Option (Int32 × Dt)} {q : Int32 × St} (hK : ∀ i, i < lm σ h → a2 = nI i → thr σ h i = true → OKc (K 0 d) G x q) : OKc (bd2 (fX6_refusalToRead sh d x (some (HA G h + 6)) a2) (fun r d1 => if r = 0 then K r d1 else some (r, d1))) G x (if inN a2 (lm σ h) then (if thr σ h (cl a2) then q else (-3, mtS σ 1)) else (-3, mtS σ 2)) := by
  have b1 := B.1
  have b2 := (B.2.2.2.2.2 h (by omega)).1
  unfold fX6_refusalToRead fX6_refusalToRead_b0
  rw [bd_v, kH_6 S hh, bd_v, c_spans1 S D B hh, bd_v]
  cases h2 : inN a2 (lm σ h) with
  | false =>
    obtain ⟨d', e1, e2⟩ := c_found S D (f := 2) (by decide)
    refine ⟨d', ?_, e2⟩
    have e1 : fX6_found sh d x 2 = some (-3, d') := e1
    rw [if_pos (show bI false = 0 from rfl), kX_0 S, bd_v, e1, bd2_v, bd2_v, if_neg (by decide)]; rfl
  | true =>
    obtain ⟨i, e2, rfl⟩ := inN_t h2
    rw [if_neg (by decide), if_pos rfl, cl_nI (by omega)]
    unfold fX2_isThere fX2_isThere_b0
    rw [cf_129 S D hh, bd_v, bd_v, ca_h8 S D B hh e2, bd_v]
    have hK := hK i e2 rfl
    cases h3 : thr σ h i with
    | false =>
      obtain ⟨d', e1, e2⟩ := c_found S D (f := 1) (by decide)
      refine ⟨d', ?_, e2⟩
      have e1 : fX6_found sh d x 1 = some (-3, d') := e1
      rw [if_neg (show ¬ mkI false = 1 by decide), bd_v, if_pos (show bI false = 0 from rfl), kX_0 S, bd_v, e1, bd2_v, bd2_v, if_neg (by decide)]; rfl
    | true =>
      have := hK h3
      rw [if_pos (show mkI true = 1 from rfl), bd_v, if_neg (by decide), bd2_v, if_pos rfl, if_pos rfl]
      exact this
theorem c_tear (S : CZ σ G x em sz ns sh) (D : CD σ G x d) (B : WB σ) (a1 a2 : Int32) : OKc (fX6_tear sh d x a1 a2) G x (tearV σ a1 a2) := by
  have b1 := B.1
  unfold fX6_tear fX6_tear_b0 tearV
  rw [kX_0 S, bd_v, c_handAt S D B, bd_v]
  cases h1 : inN a1 (nh σ) with
  | false => exact ⟨d, rfl, D⟩
  | true =>
    obtain ⟨h, e1, rfl⟩ := inN_t h1
    have b2 := (B.2.2.2.2.2 h (by omega)).1
    rw [if_pos rfl, if_pos rfl, cl_nI (by omega), on_v, cf_101 S D e1, bd_v]
    refine c_read S D B e1 a2 (fun i e2 z h3 => ?_)
    subst z
    rw [cf_101 S D e1, bd_v, bd_v, kH_6 S e1, bd_v, cl_nI (by omega)]
    refine ⟨_, ?_, cd_mark S D (i := i) e1 (b := false)⟩
    unfold fX2_drop fX2_drop_b0
    rw [cf_129 S D e1, bd_v, bd_v, sI_v (sH_8 S e1) (by rw [nH_8 S e1]; omega) (by omega), bd_v]
    rfl
theorem c_leaf (S : CZ σ G x em sz ns sh) (D : CD σ G x d) (B : WB σ) (a1 a2 : Int32) : OKc (fX6_leaf sh d x a1 a2) G x (leafV σ a1 a2) := by
  have b1 := B.1
  unfold fX6_leaf fX6_leaf_b0 leafV
  rw [kX_0 S, bd_v, c_handAt S D B, bd_v]
  cases h1 : inN a1 (nh σ) with
  | false => exact ⟨d, rfl, D⟩
  | true =>
    obtain ⟨h, e1, rfl⟩ := inN_t h1
    have b2 := (B.2.2.2.2.2 h (by omega)).1
    rw [if_pos rfl, if_pos rfl, cl_nI (by omega), on_v, cf_101 S D e1, bd_v]
    refine c_read S D B e1 a2 (fun i e2 z h3 => ?_)
    subst z
    rw [cf_101 S D e1, bd_v, bd_v, cf_128 S D e1, bd_v, bd_v, ca_h7 S D e1 (by omega), bd_v, cl_nI (by omega)]
    exact okc_id (c_tellAnd S D _ _)
theorem c_leaves (S : CZ σ G x em sz ns sh) (D : CD σ G x d) (B : WB σ) (a1 a2 : Int32) : OKc (fX6_leaves sh d x a1 a2) G x (leavesV σ a1 a2) := by
  have b1 := B.1
  unfold fX6_leaves fX6_leaves_b0 leavesV
  rw [kX_0 S, bd_v, c_handAt S D B, bd_v]
  cases h1 : inN a1 (nh σ) with
  | false => exact ⟨d, rfl, D⟩
  | true =>
    obtain ⟨h, e1, rfl⟩ := inN_t h1
    rw [if_pos rfl, if_pos rfl, cl_nI (by omega), on_v]
    have c16 : a2 ≤ 16 ↔ a2.toInt ≤ 16 := by rw [Int32.le_iff_toInt_le]; rfl
    by_cases h2 : a2.toInt ≤ 16
    · rw [if_pos (c16.mpr h2), if_pos h2]
      by_cases h3 : 0 ≤ a2.toInt
      · rw [if_pos ((ge0 a2).mpr h3), if_pos h3]
        obtain ⟨k, hk, rfl⟩ := inN_t (x := a2) (n := 17) (by unfold inN; simp; omega)
        rw [cl_nI (by omega), cf_101 S D e1, bd_v, bd_v, kH_6 S e1, bd_v]
        have key : ∀ m j n (F : Nat → Int32), j + m = 16 → m < n → (∀ i, i < j → F i = -1) → ∃ F2, (∀ i, i < 16 → F2 i = -1) ∧ fX2_renew_b7 sh n (HA G h + 6) (nI j) (uCI (uI d 130 (HA G h + 6) (nI k)) (HA G h + 8) F) = some (uCI (uI d 130 (HA G h + 6) (nI k)) (HA G h + 8) F2) := by
          intro m
          induction m with
          | zero =>
            intro j n F hj hn hF
            cases n with
            | zero => omega
            | succ n =>
              have : j = 16 := by omega
              subst this
              refine ⟨F, hF, ?_⟩
              simp only [fX2_renew_b7]
              rw [if_pos (by decide)]
          | succ m ih =>
            intro j n F hj hn hF
            cases n with
            | zero => omega
            | succ n =>
              have g1 : gR sh (uCI (uI d 130 (HA G h + 6) (nI k)) (HA G h + 8) F) 4 129 (HA G h + 6) = some (some (HA G h + 8)) := cf_129 S D e1
              have g2 := sI_v (d := uCI (uI d 130 (HA G h + 6) (nI k)) (HA G h + 8) F) (k := j) (v := -1) (sH_8 S e1) (by rw [nH_8 S e1]; omega) (by omega)
              simp (disch := omega) only [fX2_renew_b7, g1, bd_v, g2, z_16, nI_leI, nI_1]
              rw [if_neg (by omega), uAI_C, uCI_2]
              refine ih (j + 1) n _ (by omega) (by omega) (fun i hi => ?_)
              by_cases e : i = j
              · exact if_pos e
              · exact (if_neg e).trans (uCs.trans (hF i (by omega)))
        obtain ⟨F2, q1, q2⟩ := key 16 0 fu (dai (uI d 130 (HA G h + 6) (nI k)) (HA G h + 8)) (by omega) (by decide) (fun i hi => by omega)
        rw [uCI_0] at q2
        refine ⟨_, ?_, cd_marks S D (n := k) (tt := fun _ => false) e1 (fun i hi => q1 i (by omega))⟩
        unfold fX2_renew fX2_renew_b0
        rw [pI_v (sH_6 S e1), bd_v]
        have q2 : fX2_renew_b7 sh fu (HA G h + 6) 0 (uI d 130 (HA G h + 6) (nI k)) = _ := q2
        rw [q2, bd_v]
      · rw [if_neg (fun q => h3 ((ge0 a2).mp q)), if_neg h3]
        exact okc_id (c_found S D (f := 5) (by omega))
    · rw [if_neg (fun q => h2 (c16.mp q)), if_neg h2]; exact ⟨d, rfl, D⟩
theorem c_copy (S : CZ σ G x em sz ns sh) (D : CD σ G x d) (B : WB σ) (a1 a2 a3 a4 a5 : Int32) : OKc (fX6_copy sh d x a1 a2 a3 a4 a5) G x (copyV σ a1 a2 a3 a4 a5) := by
  have b1 := B.1
  have bad : OKc (fX6_copy_b55 sh x d) G x (-3, mtS σ 2) := by
    unfold fX6_copy_b55
    rw [kX_0 S, bd_v]
    exact okc_id (c_found S D (f := 2) (by omega))
  unfold fX6_copy fX6_copy_b0 copyV
  rw [kX_0 S, bd_v, c_handAt S D B, bd_v, c_handAt S D B, bd_v]
  cases h1 : inN a1 (nh σ) with
  | false => exact ⟨d, rfl, D⟩
  | true =>
    cases h2 : inN a3 (nh σ) with
    | false => exact ⟨d, rfl, D⟩
    | true =>
      obtain ⟨h, e1, rfl⟩ := inN_t h1
      obtain ⟨o, e2, rfl⟩ := inN_t h2
      have hl := (B.2.2.2.2.2 h (by omega)).1
      have hl2 := (B.2.2.2.2.2 o (by omega)).1
      rw [if_pos rfl, if_pos rfl, if_pos (show (true && true) = true from rfl), cl_nI (by omega), cl_nI (by omega), on_v, on_v, cf_101 S D e1, bd_v, bd_v, kH_6 S e1, bd_v, c_spans S D B e1, bd_v, cf_101 S D e2]
      simp only [bd_v, kH_6 S e2, c_spans S D B e2, bI_0]
      by_cases g1 : 0 ≤ a2.toInt ∧ 0 ≤ a5.toInt ∧ a2.toInt + a5.toInt ≤ lm σ h
      · rw [decide_eq_true g1, if_neg (by decide)]
        by_cases g2 : 0 ≤ a4.toInt ∧ 0 ≤ a5.toInt ∧ a4.toInt + a5.toInt ≤ lm σ o
        · rw [decide_eq_true g2, if_neg (by decide), if_pos (by omega), kH_6 S e1, bd_v]
          obtain ⟨i, hi, rfl⟩ := inN_t (x := a2) (n := 17) (by unfold inN; simp; omega)
          obtain ⟨j, hj, rfl⟩ := inN_t (x := a4) (n := 17) (by unfold inN; simp; omega)
          obtain ⟨n, hn, rfl⟩ := inN_t (x := a5) (n := 17) (by unfold inN; simp; omega)
          simp (disch := omega) only [nI_toInt] at g1 g2
          simp (disch := omega) only [cl_nI]
          unfold fX2_copyTo fX2_copyTo_b0 cpL cpI cpk
          rw [cf_128 S D e1, bd_v, bd_v, cf_128 S D e2, bd_v, bd_v, bd_v]
          simp (disch := omega) only [sH_7 S e1, sH_7 S e2, nH_7 S e1, nH_7 S e2, sH_8 S e1, sH_8 S e2, nH_8 S e1, nH_8 S e2, nI_clamp, nI_pos, not_false_eq_true, decide_true, Bool.true_and]
          rw [if_pos (by simp; omega), bd_v]
          have r1 : gR sh (uCL d (HA G o + 7) (va_cpy (dal d (HA G h + 7)) (dal d (HA G o + 7)) i j n)) 4 129 (HA G h + 6) = some (some (HA G h + 8)) := cf_129 S D e1
          have r2 : gR sh (uCL d (HA G o + 7) (va_cpy (dal d (HA G h + 7)) (dal d (HA G o + 7)) i j n)) 4 129 (HA G o + 6) = some (some (HA G o + 8)) := cf_129 S D e2
          rw [r1, bd_v, r2, bd_v, bd_v, bd_v]
          simp (disch := omega) only [sH_8 S e1, sH_8 S e2, nH_8 S e1, nH_8 S e2, nI_clamp, nI_pos, not_false_eq_true, decide_true, Bool.true_and]
          rw [if_pos (by simp; omega), bd_v, bd_v]
          refine ⟨_, rfl, ?_⟩
          have tA := t_h S e2 (j := 8) (by decide)
          have tL := t_h S e2 (j := 7) (by decide)
          refine ⟨D.1, D.2.1, D.2.2.1, ⟨fun k hk => (uCn (tne (t_x S (j := 4) (by decide)) tA (by omega))).trans (D.2.2.2.1.1 k hk), fun v hv => ⟨fun k hk => (uCn (tne (t_h S hv (j := 2) (by decide)) tA (by omega))).trans ((D.2.2.2.1.2.1 v hv).1 k hk), fun k hk => (uCn (tne (t_h S hv (j := 5) (by decide)) tA (by omega))).trans ((D.2.2.2.1.2.1 v hv).2.1 k hk), fun k hk => ?_⟩, fun c hc k hk => (uCn (tne (t_e S hc (j := 2) (by decide)) tA (by omega))).trans (D.2.2.2.1.2.2 c hc k hk)⟩, fun v hv k hk => ?_, D.2.2.2.2.2⟩
          · show _ = mkI (if v = o ∧ j ≤ k ∧ k < j + n then thr σ h (i + (k - j)) else thr σ v k)
            have hk : k < lm σ v := hk
            by_cases z : v = o
            · subst z
              rw [uCs]
              by_cases y : j ≤ k ∧ k < j + n
              · rw [pk_cpy_in y.1 y.2, if_pos ⟨rfl, y⟩]
                exact (D.2.2.2.1.2.1 h e1).2.2 _ (by omega)
              · rw [pk_cpy_out (by omega), if_neg (fun q => y q.2)]
                exact (D.2.2.2.1.2.1 v hv).2.2 k hk
            · rw [uCn (tne (t_h S hv (j := 8) (by decide)) tA (by omega)), if_neg (fun q => z q.1)]
              exact (D.2.2.2.1.2.1 v hv).2.2 k hk
          · show dal (uCL d (HA G o + 7) _) (HA G v + 7) k = (if v = o ∧ j ≤ k ∧ k < j + n then lf σ h (i + (k - j)) else lf σ v k)
            by_cases z : v = o
            · subst z
              rw [uLs]
              by_cases y : j ≤ k ∧ k < j + n
              · rw [pk_cpy_in y.1 y.2, if_pos ⟨rfl, y⟩]
                exact D.2.2.2.2.1 h e1 _ (by omega)
              · rw [pk_cpy_out (by omega), if_neg (fun q => y q.2)]
                exact D.2.2.2.2.1 v hv k hk
            · rw [uLn (tne (t_h S hv (j := 7) (by decide)) tL (by omega)), if_neg (fun q => z q.1)]
              exact D.2.2.2.2.1 v hv k hk
        · rw [decide_eq_false g2, if_pos rfl, if_neg (by omega)]; exact bad
      · rw [decide_eq_false g1, if_pos rfl, if_neg (by omega)]; exact bad
end
