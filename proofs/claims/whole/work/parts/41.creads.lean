/-! the class's reads: reaches, entries -/
section
variable {d : Dt}
theorem uCI_ai (a b : Nat) (f : Nat → Int32) : dai (uCI d a f) b = if b = a then f else dai d b := rfl
theorem uCI_0 (a : Nat) : uCI d a (dai d a) = d := by
  show (d.1, d.2.1, d.2.2.1, (fun b => if b = a then dai d a else dai d b), d.2.2.2.2) = d
  have : (fun b => if b = a then dai d a else dai d b) = dai d := by
    funext b
    by_cases e : b = a
    · rw [if_pos e, e]
    · rw [if_neg e]
  rw [this]; rfl
theorem uCI_2 (a : Nat) (f g : Nat → Int32) : uCI (uCI d a f) a g = uCI d a g := by
  show (d.1, d.2.1, d.2.2.1, (fun b => if b = a then g else (if b = a then f else dai d b)), d.2.2.2.2) = (d.1, d.2.1, d.2.2.1, (fun b => if b = a then g else dai d b), d.2.2.2.2)
  have : (fun b => if b = a then g else (if b = a then f else dai d b)) = (fun b => if b = a then g else dai d b) := by
    funext b
    by_cases e : b = a
    · rw [if_pos e, if_pos e]
    · rw [if_neg e, if_neg e, if_neg e]
  rw [this]
theorem uAI_C (a j : Nat) (v : Int32) : uAI d a j v = uCI d a (fun k => if k = j then v else dai d a k) := by
  show (d.1, d.2.1, d.2.2.1, u3 (dai d) a j v, d.2.2.2.2) = (d.1, d.2.1, d.2.2.1, (fun b => if b = a then (fun k => if k = j then v else dai d a k) else dai d b), d.2.2.2.2)
  have : u3 (dai d) a j v = (fun b => if b = a then (fun k => if k = j then v else dai d a k) else dai d b) := by
    funext b k
    unfold u3
    by_cases e : b = a
    · subst e
      rw [if_pos rfl]
      by_cases g : k = j
      · rw [if_pos ⟨rfl, g⟩, if_pos g]
      · rw [if_neg (fun q => g q.2), if_neg g]
    · rw [if_neg (fun q => e q.1), if_neg e]
  rw [this]
def kW (d : Dt) (a : Nat) (f : Nat → Nat) : Dt := uCI d a (fun k => if k < 6 then nI (f k) else dai d a k)
theorem kW_2 (a : Nat) (f g : Nat → Nat) : kW (kW d a f) a g = kW d a g := by
  unfold kW
  rw [uCI_2]
  congr 1
  funext k
  by_cases h : k < 6
  · rw [if_pos h, if_pos h]
  · rw [if_neg h, if_neg h, uCI_ai, if_pos rfl, if_neg h]
theorem kW_s {a k : Nat} {f : Nat → Nat} (h : k < 6) : dai (kW d a f) a k = nI (f k) := by
  unfold kW; rw [uCI_ai, if_pos rfl, if_pos h]
theorem kW_n {a b : Nat} {f : Nat → Nat} (h : b ≠ a) : dai (kW d a f) b = dai d b := by
  unfold kW; rw [uCI_ai, if_neg h]
end
def RCH (sh : Sh) (d : Dt) (r a : Nat) (f : Nat → Nat) : Prop := sh.1 r = 6 ∧ dfr d 192 r = some a ∧ sh.1 a = 20 ∧ sh.2 a = 6 ∧ ∀ k, k < 6 → dai d a k = nI (f k) ∧ f k < 2 ^ 30
section
variable {sh : Sh} {d : Dt} {x : Nat} {σ : St} {G : Gh} {em sz ns : Nat} {r a r2 a2 : Nat} {f g : Nat → Nat}
theorem rc_k (R : RCH sh d r a f) : kc sh 6 r = some () := kc_v R.1
theorem rc_g (R : RCH sh d r a f) : gR sh d 6 192 r = some (some a) := (gR_v R.1).trans (congrArg some R.2.1)
theorem rc_a (R : RCH sh d r a f) {k : Nat} (hk : k < 6) : aI sh d 20 a (nI k) = some (nI (f k)) := (aI_v R.2.2.1 (by rw [R.2.2.2.1]; exact hk) (by omega)).trans (congrArg some (R.2.2.2.2 k hk).1)
theorem rc_n (R : RCH sh d r a f) {b : Nat} {F : Nat → Int32} (h : a ≠ b) : RCH sh (uCI d b F) r a f := ⟨R.1, R.2.1, R.2.2.1, R.2.2.2.1, fun k hk => by rw [uCI_ai, if_neg h]; exact R.2.2.2.2 k hk⟩
theorem rc_w (R : RCH sh d r a f) (hg : ∀ k, k < 6 → g k < 2 ^ 30) : RCH sh (kW d a g) r a g := ⟨R.1, R.2.1, R.2.2.1, R.2.2.2.1, fun k hk => ⟨kW_s hk, hg k hk⟩⟩
theorem c_covers (R : RCH sh d r a f) (R2 : RCH sh d r2 a2 g) : ∃ b, fX4_covers sh d r (some r2) = some b ∧ (b = true ↔ ∀ k, k < 6 → g k ≤ f k) := by
  have key : ∀ m j n, j + m = 6 → m < n → ∃ b, fX4_covers_b2 sh d n r (some r2) (nI j) = some b ∧ (b = true ↔ ∀ k, j ≤ k → k < 6 → g k ≤ f k) := by
    intro m
    induction m with
    | zero =>
      intro j n hj hn
      cases n with
      | zero => omega
      | succ n =>
        have : j = 6 := by omega
        subst this
        refine ⟨true, ?_, fun _ k h1 h2 => by omega, fun _ => rfl⟩
        simp only [fX4_covers_b2]
        rw [if_pos (by decide)]
    | succ m ih =>
      intro j n hj hn
      cases n with
      | zero => omega
      | succ n =>
        have q1 := (R.2.2.2.2 j (by omega)).2
        have q2 := (R2.2.2.2.2 j (by omega)).2
        simp (disch := omega) only [fX4_covers_b2, bd_v, rc_g R, rc_g R2, rc_a R, rc_a R2, z_0, z_1, z_2, z_3, z_4, z_5, z_6, z_7, z_8, z_10, z_16, z_17, z_31, z_63, z_64, z_400, nI_add, pk_mul, nI_eq, nI_leI, nI_ltI, bI_z, nI_m9, bI_m9]
        rw [if_neg (by omega)]
        by_cases h : g j ≤ f j
        · rw [if_pos h]
          obtain ⟨b, h1, h2⟩ := ih (j + 1) n (by omega) (by omega)
          refine ⟨b, h1, h2.trans ⟨fun q k k1 k2 => ?_, fun q k k1 k2 => q k (by omega) k2⟩⟩
          by_cases e : k = j
          · rw [e]; exact h
          · exact q k (by omega) k2
        · rw [if_neg h]
          exact ⟨false, rfl, ⟨fun q => Bool.noConfusion q, fun q => absurd (q j (Nat.le_refl _) (by omega)) h⟩⟩
  obtain ⟨b, h1, h2⟩ := key 6 0 fu (by omega) (by decide)
  exact ⟨b, h1, h2.trans ⟨fun q k k2 => q k (Nat.zero_le _) k2, fun q k _ k2 => q k k2⟩⟩
theorem c_rsize (R : RCH sh d r a f) : fX4_size sh d r = some (nI (sm6 f)) := by
  have e : sm6 f = fo (fun k a => a + f k) 0 6 := by unfold sm6; simp [fo]
  rw [e]
  refine lp_for (fun n a x => fX4_size_b4 sh d n r (nI a) x) (fun a => some (nI a)) (fun k a => a + f k) 6 (fun _ _ => True) (fun _ _ _ _ => trivial) ?_ ?_ 0 trivial fu (by decide)
  · intro n b _
    simp only [fX4_size_b4]
    rw [if_pos (by decide)]
  · intro n j b hj _
    simp (disch := omega) only [fX4_size_b4, bd_v, rc_g R, rc_a R, z_0, z_1, z_2, z_3, z_4, z_5, z_6, z_7, z_8, z_10, z_16, z_17, z_31, z_63, z_64, z_400, nI_add, pk_mul, nI_eq, nI_leI, nI_ltI, bI_z, nI_m9, bI_m9]
    rw [if_neg (by omega)]
theorem c_empty0 (R1 : sh.1 r = 6) (R2 : dfr d 192 r = some a) (R3 : sh.1 a = 20) (R4 : sh.2 a = 6) : fX4_empty sh d r = some (kW d a (fun _ => 0)) := by
  have key : ∀ m j n (F : Nat → Int32), j + m = 6 → m < n → (∀ k, k < j → F k = nI 0) → (∀ k, 6 ≤ k → F k = dai d a k) → fX4_empty_b2 sh n r (nI j) (uCI d a F) = some (kW d a (fun _ => 0)) := by
    intro m
    induction m with
    | zero =>
      intro j n F hj hn h1 h2
      cases n with
      | zero => omega
      | succ n =>
        have : j = 6 := by omega
        subst this
        simp only [fX4_empty_b2]
        rw [if_pos (by decide)]
        unfold kW
        congr 2
        funext k
        by_cases h : k < 6
        · rw [if_pos h]; exact h1 k h
        · rw [if_neg h]; exact h2 k (by omega)
    | succ m ih =>
      intro j n F hj hn h1 h2
      cases n with
      | zero => omega
      | succ n =>
        have e1 : gR sh (uCI d a F) 6 192 r = some (some a) := (gR_v R1).trans (congrArg some R2)
        have e2 : sI sh (uCI d a F) 20 a (nI j) (nI 0) = some (uAI (uCI d a F) a j (nI 0)) := sI_v R3 (by rw [R4]; omega) (by omega)
        simp (disch := omega) only [fX4_empty_b2, bd_v, e1, z_0, z_1, z_2, z_3, z_4, z_5, z_6, z_7, z_8, z_10, z_16, z_17, z_31, z_63, z_64, z_400, nI_add, pk_mul, nI_eq, nI_leI, nI_ltI, bI_z, nI_m9, bI_m9]
        rw [if_neg (by omega), e2, bd_v, uAI_C, uCI_2]
        refine ih (j + 1) n _ (by omega) (by omega) (fun k hk => ?_) (fun k hk => ?_)
        · by_cases e : k = j
          · exact if_pos e
          · show (if k = j then nI 0 else dai (uCI d a F) a k) = nI 0
            rw [if_neg e, uCI_ai, if_pos rfl]; exact h1 k (by omega)
        · show (if k = j then nI 0 else dai (uCI d a F) a k) = _
          rw [if_neg (by omega), uCI_ai, if_pos rfl]; exact h2 k hk
  have := key 6 0 fu (dai d a) (by omega) (by decide) (fun k hk => by omega) (fun k _ => rfl)
  rw [uCI_0] at this
  exact this
theorem c_empty (R : RCH sh d r a f) : fX4_empty sh d r = some (kW d a (fun _ => 0)) := c_empty0 R.1 R.2.1 R.2.2.1 R.2.2.2.1
theorem c_widen (R : RCH sh d r a f) (R2 : RCH sh d r2 a2 g) (hna : a2 ≠ a) : fX4_widen sh d r (some r2) = some (kW d a (fun k => max (f k) (g k))) := by
  have key : ∀ m j n (F : Nat → Int32), j + m = 6 → m < n → (∀ k, k < j → F k = nI (max (f k) (g k))) → (∀ k, j ≤ k → F k = dai d a k) → fX4_widen_b2 sh n r (some r2) (nI j) (uCI d a F) = some (kW d a (fun k => max (f k) (g k))) := by
    intro m
    induction m with
    | zero =>
      intro j n F hj hn h1 h2
      cases n with
      | zero => omega
      | succ n =>
        have : j = 6 := by omega
        subst this
        simp only [fX4_widen_b2]
        rw [if_pos (by decide)]
        unfold kW
        congr 2
        funext k
        by_cases h : k < 6
        · rw [if_pos h]; exact h1 k h
        · rw [if_neg h]; exact h2 k (by omega)
    | succ m ih =>
      intro j n F hj hn h1 h2
      cases n with
      | zero => omega
      | succ n =>
        have q1 := R.2.2.2.2 j (by omega)
        have q2 := (R2.2.2.2.2 j (by omega)).2
        have R3 : RCH sh (uCI d a F) r2 a2 g := rc_n R2 hna
        have e1 : gR sh (uCI d a F) 6 192 r = some (some a) := (gR_v R.1).trans (congrArg some R.2.1)
        have e3 : aI sh (uCI d a F) 20 a (nI j) = some (nI (f j)) := (aI_v R.2.2.1 (by rw [R.2.2.2.1]; omega) (by omega)).trans (congrArg some (by rw [uCI_ai, if_pos rfl, h2 j (Nat.le_refl _)]; exact q1.1))
        have e2 : sI sh (uCI d a F) 20 a (nI j) (nI (g j)) = some (uAI (uCI d a F) a j (nI (g j))) := sI_v R.2.2.1 (by rw [R.2.2.2.1]; omega) (by omega)
        have q1 := q1.2
        simp (disch := omega) only [fX4_widen_b2, bd_v, e1, e3, e2, rc_g R3, rc_a R3, z_0, z_1, z_2, z_3, z_4, z_5, z_6, z_7, z_8, z_10, z_16, z_17, z_31, z_63, z_64, z_400, nI_add, pk_mul, nI_eq, nI_leI, nI_ltI, bI_z, nI_m9, bI_m9]
        rw [if_neg (by omega)]
        by_cases h : g j ≤ f j
        · rw [if_pos h]
          refine ih (j + 1) n F (by omega) (by omega) (fun k hk => ?_) (fun k hk => h2 k (by omega))
          by_cases e : k = j
          · subst e
            rw [h2 k (Nat.le_refl _), (R.2.2.2.2 k (by omega)).1, Nat.max_eq_left h]
          · exact h1 k (by omega)
        · rw [if_neg h, uAI_C, uCI_2]
          refine ih (j + 1) n _ (by omega) (by omega) (fun k hk => ?_) (fun k hk => ?_)
          · by_cases e : k = j
            · subst e
              rw [Nat.max_eq_right (by omega)]; exact if_pos rfl
            · show (if k = j then nI (g j) else dai (uCI d a F) a k) = _
              rw [if_neg e, uCI_ai, if_pos rfl]; exact h1 k (by omega)
          · show (if k = j then nI (g j) else dai (uCI d a F) a k) = _
            rw [if_neg (by omega), uCI_ai, if_pos rfl]; exact h2 k (by omega)
  have := key 6 0 fu (dai d a) (by omega) (by decide) (fun k hk => by omega) (fun k _ => rfl)
  rw [uCI_0] at this
  exact this
theorem b_up (B : WB σ) (w : Wel σ) {h k : Nat} (hh : h < 6) (hk : k < 6) : up σ h k ≤ 400 := Nat.le_trans ((w.2.1 h hh).2.2 k hk) (B.2.2.2.2.2 k hk).2
theorem b_ku (B : WB σ) (w : Wel σ) {c k : Nat} (hc : c < nc σ) (hk : k < 6) : ku σ c k ≤ 400 := by
  have h1 := (w.1 c hc).2.1 k hk
  have h2 : mb σ k c ≤ c := cnt_le _ _
  have := B.2.2.1
  omega
theorem b_od (B : WB σ) (w : Wel σ) {c : Nat} (hc : c < nc σ) : 1 ≤ od σ c ∧ od σ c ≤ 400 := by
  have h1 := w_od w hc
  have h2 : mb σ (mk σ c) c ≤ c := cnt_le _ _
  have := B.2.2.1
  omega
theorem rc_h (S : CZ σ G x em sz ns sh) (D : CD σ G x d) (B : WB σ) (w : Wel σ) {h : Nat} (hh : h < nh σ) : RCH sh d (HA G h + 1) (HA G h + 2) (up σ h) := by
  have b1 := B.1
  exact ⟨sH_1 S hh, (D.2.2.1.2.1 h hh).2.2.2.2.2.1, sH_2 S hh, nH_2 S hh, fun k hk => ⟨(D.2.2.2.1.2.1 h hh).1 k hk, by have := b_up B w (show h < 6 by omega) hk; omega⟩⟩
theorem rc_e (S : CZ σ G x em sz ns sh) (D : CD σ G x d) (B : WB σ) (w : Wel σ) {c : Nat} (hc : c < nc σ) : RCH sh d (EA G c + 1) (EA G c + 2) (ku σ c) :=
  ⟨sE_1 S hc, (D.2.2.1.2.2.2.1 c hc).2.1, sE_2 S hc, nE_2 S hc, fun k hk => ⟨D.2.2.2.1.2.2 c hc k hk, by have := b_ku B w hc hk; omega⟩⟩
theorem c_holds (S : CZ σ G x em sz ns sh) (D : CD σ G x d) (B : WB σ) (w : Wel σ) (R : RCH sh d r a f) {c : Nat} (hc : c < nc σ) : fX4_holds sh d r (some (EA G c)) = some (decide (od σ c ≤ f (mk σ c))) := by
  have b1 := wb_c B hc
  have b2 := b_od B w hc
  have b3 := w_mk B hc
  have b4 := (R.2.2.2.2 _ b3).2
  unfold fX4_holds fX4_holds_b0
  simp (disch := omega) only [bd_v, cf_71 S D, cf_65 S D, rc_g R, rc_a R, z_0, z_1, z_2, z_3, z_4, z_5, z_6, z_7, z_8, z_10, z_16, z_17, z_31, z_63, z_64, z_400, nI_add, pk_mul, nI_eq, nI_leI, nI_ltI, bI_z, nI_m9, bI_m9]
  by_cases h : od σ c ≤ f (mk σ c)
  · rw [if_neg (by omega), decide_eq_true h]
  · rw [if_pos (by omega), decide_eq_false h]
theorem c_holds_h (S : CZ σ G x em sz ns sh) (D : CD σ G x d) (B : WB σ) (w : Wel σ) {h c : Nat} (hh : h < nh σ) (hc : c < nc σ) : fX4_holds sh d (HA G h + 1) (some (EA G c)) = some (has σ h c) := by
  rw [c_holds S D B w (rc_h S D B w hh) hc]
  unfold has
  rw [decide_eq_true hc, Bool.true_and]
theorem kn_lt (w : Wel σ) (B : WB σ) {c e : Nat} (hc : c < nc σ) (he : e < nc σ) : kn σ c e = decide (od σ e ≤ ku σ c (mk σ e)) := by
  unfold kn
  by_cases h : od σ e ≤ ku σ c (mk σ e)
  · rw [decide_eq_true h, Bool.and_true, decide_eq_true_eq]
    have h1 := (w.1 c hc).2.1 (mk σ e) (w_mk B he)
    have h2 := w_od w he
    rcases Nat.lt_or_ge e c with g | g
    · exact g
    · have := mb_mono σ (mk σ e) g; omega
  · rw [decide_eq_false h, Bool.and_false]
theorem c_holds_e (S : CZ σ G x em sz ns sh) (D : CD σ G x d) (B : WB σ) (w : Wel σ) {c e : Nat} (hc : c < nc σ) (he : e < nc σ) : fX4_holds sh d (EA G c + 1) (some (EA G e)) = some (kn σ c e) := by
  rw [c_holds S D B w (rc_e S D B w hc) he, kn_lt w B hc he]
theorem c_isBelow (S : CZ σ G x em sz ns sh) (D : CD σ G x d) (B : WB σ) {c e : Nat} (hc : c < nc σ) (he : e < nc σ) : fX0_isBelow sh d (EA G c) (some (EA G e)) = some (aft σ e c) := by
  have b0 := B.2.2.1
  have b9 := B.1
  have b1 := wb_c B hc
  have b2 := wb_c B he
  unfold fX0_isBelow fX0_isBelow_b0
  simp (disch := omega) only [bd_v, cf_70 S D, cf_65 S D, z_0, z_1, z_2, z_3, z_4, z_5, z_6, z_7, z_8, z_10, z_16, z_17, z_31, z_63, z_64, z_400, nI_add, pk_mul, nI_eq, nI_leI, nI_ltI, bI_z, nI_m9, bI_m9]
  unfold aft
  by_cases h1 : ct σ c < ct σ e
  · rw [if_pos h1, decide_eq_true h1]; rfl
  · rw [if_neg h1, decide_eq_false h1, Bool.false_or]
    by_cases h2 : ct σ c = ct σ e
    · rw [if_pos h2, decide_eq_true h2.symm, Bool.true_and]
      by_cases h3 : mk σ e ≤ mk σ c
      · rw [if_pos h3, decide_eq_false (by omega)]
      · rw [if_neg h3, decide_eq_true (by omega)]
    · rw [if_neg h2, decide_eq_false (fun q => h2 q.symm), Bool.false_and]
theorem c_isUnder (S : CZ σ G x em sz ns sh) (D : CD σ G x d) (B : WB σ) {p k : Nat} (hp : p < np σ) (hk : k < 8) : fX3_isUnder sh d (PA G p) (nI k) = some (isOfB (kin σ p) k) := by
  have hkp := B.2.2.2.1 p hp
  unfold fX3_isUnder fX3_isUnder_b0
  simp (disch := omega) only [bd_v, cf_161 S D]
  generalize kin σ p = q at hkp ⊢
  clear hp S D B
  revert q k
  decide +kernel
theorem c_oneIf (b : Bool) : fX6_oneIf sh d (bI b) = some (bI b) := by cases b <;> rfl
theorem c_isKind (a : Int32) : fX6_isKind sh d a = some (inN a 8) := by
  unfold fX6_isKind fX6_isKind_b0
  rw [← m_in07 (sh := sh) (d := d)]
  rfl
theorem c_isThing (a : Int32) : fX6_isThing sh d a = some (inN a 64) := by
  unfold fX6_isThing fX6_isThing_b0 inN
  have e0 : (0 : Int32).toInt = 0 := rfl
  have e1 : (64 : Int32).toInt = 64 := rfl
  by_cases h : a < 0
  · rw [if_pos h]; rw [Int32.lt_iff_toInt_lt] at h
    rw [decide_eq_false (by omega)]; rfl
  · rw [if_neg h]; rw [Int32.lt_iff_toInt_lt] at h
    rw [decide_eq_true (show 0 ≤ a.toInt by omega)]
    by_cases g : (64 : Int32) ≤ a
    · rw [if_pos g]; rw [Int32.le_iff_toInt_le] at g; rw [decide_eq_false (by omega)]; rfl
    · rw [if_neg g]; rw [Int32.le_iff_toInt_le] at g; rw [decide_eq_true (by omega)]; rfl
theorem c_isAmount (v : Int64) : fX6_isAmount sh d v = some (shr v) := by
  rw [← m_isShare (sh := sh) (d := d)]
  rfl
theorem c_shelfOf (S : CZ σ G x em sz ns sh) (D : CD σ G x d) (B : WB σ) {p : Nat} (hp : p < np σ) (k : Nat) : fX3_shelfOf sh d (PA G p) (nI k) = some (nI (shl σ p k)) := by
  have hkp := B.2.2.2.1 p hp
  unfold fX3_shelfOf fX3_shelfOf_b0 shl
  simp (disch := omega) only [bd_v, cf_161 S D, z_0, z_1, z_2, z_3, z_4, z_5, z_6, z_7, z_8, z_10, z_16, z_17, z_31, z_63, z_64, z_400, nI_add, pk_mul, nI_eq, nI_leI, nI_ltI, bI_z, nI_m9, bI_m9]
  by_cases h : kin σ p = 3
  · rw [if_pos h, if_pos h]
  · rw [if_neg h, if_neg h]
theorem shl_lt {p a : Nat} (ha : a < 64) : shl σ p a < shn (kin σ p) := by
  unfold shl shn
  by_cases h : kin σ p = 3
  · rw [if_pos h, if_pos h]; exact ha
  · rw [if_neg h, if_neg h]; decide
theorem shl_0 {p a : Nat} (h : kin σ p ≠ 3) : shl σ p a = 0 := if_neg h
theorem shn_0 {k : Nat} : 0 < shn k := by unfold shn; split <;> omega
end
