/-! the reference: HEADS -/
/-- a row of all the HEADS among the first n, the least STAMP first -/
def HL (σ : St) (h p n m : Nat) (g : Nat → Nat) : Prop := (∀ i, i < m → g i < n ∧ hdB σ h p (g i) = true) ∧ (∀ i j, i < j → j < m → aft σ (g j) (g i) = true) ∧ (∀ e, e < n → hdB σ h p e = true → ∃ i, i < m ∧ g i = e) ∧ m = cnt (hdB σ h p) n
def HR (d : Dt) (mm m : Nat) (g : Nat → Nat) : Prop := dfi d 308 mm = nI m ∧ ∀ i, i < m → dai d (mm + 15) i = nI (g i)
theorem HL_hdk {σ : St} {h p : Nat} {m : Nat} {g : Nat → Nat} (w : Wel σ) (H : HL σ h p (nc σ) m g) : ∀ i, i < m → hdk σ h p i = some (g i) := by
  obtain ⟨h1, h2, h3, h4⟩ := H
  intro i
  induction i with
  | zero =>
    intro hi
    have b := nxh_b w h p none
    refine lst_u (fun c => hdB σ h p c && flo σ none c) b ⟨(h1 0 hi).1, by simp [flo, (h1 0 hi).2], fun e he hp => ?_⟩
    have hp : hdB σ h p e = true := by simpa [flo] using hp
    obtain ⟨j, j1, j2⟩ := h3 e he hp
    by_cases z : j = 0
    · left; rw [← j2, z]
    · right; rw [← j2]; exact h2 0 j (by omega) j1
  | succ i ih =>
    intro hi
    have b := nxh_b w h p (some (g i))
    show (match hdk σ h p i with
      | none => none
      | some b => nxh σ h p (some b)) = _
    rw [ih (by omega)]
    refine lst_u (fun c => hdB σ h p c && flo σ (some (g i)) c) b ⟨(h1 _ hi).1, by simp [flo, (h1 _ hi).2, h2 i (i + 1) (by omega) hi], fun e he hp => ?_⟩
    have hp : hdB σ h p e = true ∧ aft σ e (g i) = true := by simpa [flo] using hp
    obtain ⟨j, j1, j2⟩ := h3 e he hp.1
    by_cases z : j = i + 1
    · left; rw [← j2, z]
    · right
      rw [← j2]
      refine h2 (i + 1) j ?_ j1
      rcases Nat.lt_trichotomy j i with y | y | y
      · have := h2 j i y (by omega)
        rw [← j2, aft_asy this] at hp; cases hp.2
      · rw [← j2, y, aft_irr] at hp; cases hp.2
      · omega
section
variable {sh : Sh} {d : Dt} {mm : Nat} {σ : St}
theorem rm_308 {v : Int32} (R : RM σ d mm) : RM σ (uI d 308 mm v) mm := rm_w_308 R
theorem m_lay_l (S : MS sh mm) (B : WB σ) (w : Wel σ) {h p : Nat} (hh : h < 6) (hp : p < np σ) : ∀ (k j n : Nat) (d : Dt) (m : Nat) (g : Nat → Nat), j + k = nc σ → k < n → MD d mm → RM σ d mm → HL σ h p j m g → HR d mm m g → ∃ e m2 g2, fX7_layHeads_b7 sh n mm (nI h) (nI p) (nI j) d = some e ∧ MD e mm ∧ RM σ e mm ∧ HL σ h p (nc σ) m2 g2 ∧ HR e mm m2 g2 ∧ dal e = dal d := by
  have b2 := B.2.1
  have b3 := B.2.2.1
  intro k
  induction k with
  | zero =>
    intro j n d m g hj hn E R H1 H2
    cases n with
    | zero => omega
    | succ n =>
      have : j = nc σ := by omega
      subst this
      refine ⟨d, m, g, ?_, E, R, H1, H2, rfl⟩
      simp (disch := omega) only [fX7_layHeads_b7, mi_297 S, bd_v, rm_nc R, nI_leI]
      rw [if_pos (Nat.le_refl _)]
  | succ k ih =>
    intro j n d m g hj hn E R H1 H2
    cases n with
    | zero => omega
    | succ n =>
      have hmj : m ≤ j := by rw [H1.2.2.2]; exact cnt_le _ _
      have skip : hdB σ h p j = false → HL σ h p (j + 1) m g := by
        intro hz
        refine ⟨fun i hi => ⟨by have := (H1.1 i hi).1; omega, (H1.1 i hi).2⟩, H1.2.1, fun e he hpe => ?_, by rw [cnt_s, hz, ← H1.2.2.2]; rfl⟩
        by_cases y : e = j
        · rw [y, hz] at hpe; cases hpe
        · exact H1.2.2.1 e (by omega) hpe
      simp (disch := omega) only [fX7_layHeads_b7, mi_297 S, bd_v, rm_nc R, nI_leI, z_0, m_isOn S E R B, m_isKnown S E R B, mi_308 S, H2.1, nI_1, bI_z]
      rw [if_neg (by omega)]
      cases h1 : onB σ h p j 0 with
      | false =>
        rw [if_pos rfl]
        exact ih (j + 1) n d m g (by omega) (by omega) E R (skip (by unfold hdB; rw [h1]; rfl)) H2
      | true =>
        rw [if_neg (by decide)]
        cases h2 : knw σ h p j 0 with
        | true =>
          rw [if_neg (by decide)]
          exact ih (j + 1) n d m g (by omega) (by omega) E R (skip (by unfold hdB; rw [h1, h2]; rfl)) H2
        | false =>
          rw [if_pos rfl]
          have hdj : hdB σ h p j = true := by unfold hdB; rw [h1, h2]; rfl
          -- the place of the new one
          have ins : ∀ (q fuel : Nat) (e : Dt), q ≤ m → q < fuel → MD e mm → RM σ e mm → dal e = dal d → dfi e 308 mm = nI m → (∀ i, i < q → dai e (mm + 15) i = nI (g i)) → (∀ i, q ≤ i → i < m → dai e (mm + 15) (i + 1) = nI (g i) ∧ aft σ (g i) j = true) → ∃ e2 m2 g2, fX7_layHeads_b43 sh (fX7_layHeads_b7 sh n) fuel mm (nI h) (nI p) (nI j) (nI q) e = some e2 ∧ MD e2 mm ∧ RM σ e2 mm ∧ HL σ h p (nc σ) m2 g2 ∧ HR e2 mm m2 g2 ∧ dal e2 = dal d := by
            have fin : ∀ (q : Nat) (e : Dt), q ≤ m → MD e mm → RM σ e mm → dal e = dal d → dfi e 308 mm = nI m → (∀ i, i < q → dai e (mm + 15) i = nI (g i)) → (∀ i, q ≤ i → i < m → dai e (mm + 15) (i + 1) = nI (g i) ∧ aft σ (g i) j = true) → (∀ i, i < q → aft σ j (g i) = true) → ∃ e2 m2 g2, fX7_layHeads_b87 sh (fX7_layHeads_b7 sh n) mm (nI h) (nI p) (nI j) (nI q) e = some e2 ∧ MD e2 mm ∧ RM σ e2 mm ∧ HL σ h p (nc σ) m2 g2 ∧ HR e2 mm m2 g2 ∧ dal e2 = dal d := by
              intro q e hq Ee Re hal h308 hlo hhi hbl
              have E2 : MD (uI (uAI e (mm + 15) q (nI j)) 308 mm (nI (m + 1))) mm := Ee
              have R2 : RM σ (uI (uAI e (mm + 15) q (nI j)) 308 mm (nI (m + 1))) mm := rm_w_308 (rm_w_15 Re)
              have E1 : MD (uAI e (mm + 15) q (nI j)) mm := Ee
              have r308 : gI sh (uAI e (mm + 15) q (nI j)) 9 308 mm = some (nI m) := (gI_v S.1).trans (congrArg some h308)
              unfold fX7_layHeads_b87
              rw [mg_307 S Ee, bd_v, bd_v, mW_15 S e (nI j) (by omega), bd_v, r308, bd_v, nI_1, pI_v S.1, bd_v, nI_1]
              have hg : ∀ i, i < m → g i ≠ j := fun i hi z => by have := (H1.1 i hi).1; omega
              have HLn : HL σ h p (j + 1) (m + 1) (fun i => if i < q then g i else if i = q then j else g (i - 1)) := by
                refine ⟨fun i hi => ?_, fun a b hab hb => ?_, fun e he hpe => ?_, by rw [cnt_s, hdj, ← H1.2.2.2]; rfl⟩
                · show (if i < q then g i else if i = q then j else g (i - 1)) < j + 1 ∧ hdB σ h p (if i < q then g i else if i = q then j else g (i - 1)) = true
                  by_cases y : i < q
                  · rw [if_pos y]; have := H1.1 i (by omega); exact ⟨by omega, this.2⟩
                  · rw [if_neg y]
                    by_cases z : i = q
                    · rw [if_pos z]; exact ⟨by omega, hdj⟩
                    · rw [if_neg z]; have := H1.1 (i - 1) (by omega); exact ⟨by omega, this.2⟩
                · show aft σ (if b < q then g b else if b = q then j else g (b - 1)) (if a < q then g a else if a = q then j else g (a - 1)) = true
                  by_cases y : b < q
                  · rw [if_pos y, if_pos (by omega)]; exact H1.2.1 a b hab (by omega)
                  · rw [if_neg y]
                    by_cases z : b = q
                    · rw [if_pos z, if_pos (by omega)]; exact hbl a (by omega)
                    · rw [if_neg z]
                      by_cases v : a < q
                      · rw [if_pos v]; exact H1.2.1 a (b - 1) (by omega) (by omega)
                      · rw [if_neg v]
                        by_cases u : a = q
                        · rw [if_pos u]; exact (hhi (b - 1) (by omega) (by omega)).2
                        · rw [if_neg u]; exact H1.2.1 (a - 1) (b - 1) (by omega) (by omega)
                · by_cases y : e = j
                  · exact ⟨q, by omega, by show (if q < q then g q else if q = q then j else g (q - 1)) = e; rw [if_neg (by omega), if_pos rfl, y]⟩
                  · obtain ⟨i, i1, i2⟩ := H1.2.2.1 e (by omega) hpe
                    by_cases v : i < q
                    · exact ⟨i, by omega, by show (if i < q then g i else if i = q then j else g (i - 1)) = e; rw [if_pos v]; exact i2⟩
                    · exact ⟨i + 1, by omega, by show (if i + 1 < q then g (i + 1) else if i + 1 = q then j else g (i + 1 - 1)) = e; rw [if_neg (by omega), if_neg (by omega), show i + 1 - 1 = i by omega]; exact i2⟩
              have HRn : HR (uI (uAI e (mm + 15) q (nI j)) 308 mm (nI (m + 1))) mm (m + 1) (fun i => if i < q then g i else if i = q then j else g (i - 1)) := by
                refine ⟨fi_eq, fun i hi => ?_⟩
                · show dai (uAI e (mm + 15) q (nI j)) (mm + 15) i = nI (if i < q then g i else if i = q then j else g (i - 1))
                  by_cases y : i = q
                  · rw [y, ai_eq, if_neg (by omega), if_pos rfl]
                  · rw [ai_n2 y]
                    by_cases v : i < q
                    · rw [if_pos v]; exact hlo i v
                    · rw [if_neg v, if_neg y]
                      have := (hhi (i - 1) (by omega) (by omega)).1
                      rwa [show i - 1 + 1 = i by omega] at this
              obtain ⟨e2, m2, g2, t1, t2, t3, t4, t5, t6⟩ := ih (j + 1) n (uI (uAI e (mm + 15) q (nI j)) 308 mm (nI (m + 1))) (m + 1) (fun i => if i < q then g i else if i = q then j else g (i - 1)) (by omega) (by omega) E2 R2 HLn HRn
              exact ⟨e2, m2, g2, t1, t2, t3, t4, t5, t6.trans hal⟩
            intro q
            induction q with
            | zero =>
              intro fuel e hq hf Ee Re hal h308 hlo hhi
              cases fuel with
              | zero => omega
              | succ fuel =>
                simp only [fX7_layHeads_b43]
                rw [if_pos (by decide)]
                exact fin 0 e (by omega) Ee Re hal h308 hlo hhi (fun i hi => by omega)
            | succ q ihq =>
              intro fuel e hq hf Ee Re hal h308 hlo hhi
              cases fuel with
              | zero => omega
              | succ fuel =>
                have gq := H1.1 q (by omega)
                have r1 : aI sh e 20 (mm + 15) (nI q) = some (nI (g q)) := (mA_15 S e (show q < 400 by omega)).trans (congrArg some (hlo q (by omega)))
                simp only [fX7_layHeads_b43]
                rw [if_neg (nI_nle (by omega) (by omega)), mg_307 S Ee, bd_v, bd_v, nI_pred, r1, bd_v, m_isAfter S Ee Re B (show g q < nc σ by omega) (show j < nc σ by omega), bd_v]
                cases ha : aft σ (g q) j with
                | false =>
                  rw [if_pos (show bI false = 0 from rfl)]
                  have hjq : aft σ j (g q) = true := (aft_tot w (show g q < nc σ by omega) (show j < nc σ by omega) ha).elim (fun z => by omega) id
                  exact fin (q + 1) e hq Ee Re hal h308 hlo hhi (fun i hi => by
                    by_cases y : i = q
                    · rw [y]; exact hjq
                    · exact aft_tr hjq (H1.2.1 i q (by omega) (by omega)))
                | true =>
                  rw [if_neg (by decide), bd_v, bd_v, bd_v, r1, bd_v, bd_v, mW_15 S e (nI (g q)) (by omega), bd_v, show nI (q + 1) + -1 = nI q from pk_m1 q]
                  refine ihq fuel (uAI e (mm + 15) (q + 1) (nI (g q))) (by omega) (by omega) Ee (rm_w_15 Re) hal h308 (fun i hi => ?_) (fun i i1 i2 => ?_)
                  · rw [ai_n2 (by omega)]; exact hlo i (by omega)
                  · by_cases y : i = q
                    · rw [y]; exact ⟨ai_eq, ha⟩
                    · rw [ai_n2 (by omega)]; exact hhi i (by omega) i2
          exact ins m fu d (Nat.le_refl _) (by show m < 100000; omega) E R rfl H2.1 (fun i hi => H2.2 i hi) (fun i i1 i2 => by omega)
theorem m_layHeads (S : MS sh mm) (E : MD d mm) (R : RM σ d mm) (B : WB σ) (w : Wel σ) {h p : Nat} (hh : h < 6) (hp : p < np σ) : ∃ e, fX7_layHeads sh d mm (nI h) (nI p) = some e ∧ MD e mm ∧ RM σ e mm ∧ dfi e 308 mm = nI (hdn σ h p) ∧ (∀ i, i < hdn σ h p → ∃ c, c < nc σ ∧ hdk σ h p i = some c ∧ dai e (mm + 15) i = nI c) ∧ dal e = dal d := by
  obtain ⟨e, m, g, t1, t2, t3, t4, t5, t6⟩ := m_lay_l S B w hh hp (nc σ) 0 fu (uI d 308 mm (nI 0)) 0 (fun _ => 0) (by omega) (by have := B.2.2.1; show nc σ < 100000; omega) E (rm_w_308 R) ⟨fun i hi => by omega, fun i j _ hj => by omega, fun e he => by omega, rfl⟩ ⟨fi_eq, fun i hi => by omega⟩
  have hm : m = hdn σ h p := t4.2.2.2
  refine ⟨e, ?_, t2, t3, by rw [← hm]; exact t5.1, fun i hi => ⟨g i, (t4.1 i (by omega)).1, HL_hdk w t4 i (by omega), t5.2 i (by omega)⟩, t6⟩
  unfold fX7_layHeads fX7_layHeads_b0
  rw [mp_308 S d 0, bd_v]
  exact t1
theorem m_heads (S : MS sh mm) (E : MD d mm) (R : RM σ d mm) (B : WB σ) (w : Wel σ) (a1 a2 : Int32) : OKm (fX7_heads sh d mm a1 a2) mm (headsV σ a1 a2) := by
  have b1 := B.1
  have b2 := B.2.1
  unfold fX7_heads fX7_heads_b0 headsV
  rw [mk_9 S, bd_v]
  refine gate_m (m_need S E R B true a1 a2 (k := 4) (by omega)) fun hg => ?_
  obtain ⟨-, h, p, h1, h2, rfl, rfl, h5⟩ := needG_none hg
  obtain ⟨e, t1, t2, t3, t4, t5, t6⟩ := m_layHeads S E R B w (show h < 6 by omega) h2
  rw [t1, bd_v, gI_v S.1, bd_v, t4, cl_nI (by omega), cl_nI (by omega)]
  exact ⟨e, rfl, t2, t3⟩
theorem m_head (S : MS sh mm) (E : MD d mm) (R : RM σ d mm) (B : WB σ) (w : Wel σ) (a1 a2 a3 : Int32) : OKm (fX7_head sh d mm a1 a2 a3) mm (headV σ a1 a2 a3) := by
  have b1 := B.1
  have b2 := B.2.1
  have b3 := B.2.2.1
  unfold fX7_head fX7_head_b0 headV
  rw [mk_9 S, bd_v]
  refine gate_m (m_need S E R B true a1 a2 (k := 4) (by omega)) fun hg => ?_
  obtain ⟨-, h, p, h1, h2, rfl, rfl, h5⟩ := needG_none hg
  obtain ⟨e, t1, t2, t3, t4, t5, t6⟩ := m_layHeads S E R B w (show h < 6 by omega) h2
  have h6 := hd_6 B w h p
  rw [t1, bd_v, gI_v S.1, bd_v, t4, cl_nI (by omega), cl_nI (by omega), m_inN a3 _ (by omega), bd_v]
  cases h3 : inN a3 (hdn σ h p) with
  | false =>
    rw [if_pos (show bI false = 0 from rfl)]
    exact ok_id (m_meets S t2 t3 (f := 2) (by omega))
  | true =>
    obtain ⟨i, e3, rfl⟩ := inN_t h3
    obtain ⟨c, c1, c2, c3⟩ := t5 i e3
    have r1 : aI sh e 20 (mm + 15) (nI i) = some (nI c) := (mA_15 S e (show i < 400 by omega)).trans (congrArg some c3)
    have E2 : MD (uL e 306 mm (vl σ c)) mm := t2
    have r2 : aI sh (uL e 306 mm (vl σ c)) 20 (mm + 15) (nI i) = some (nI c) := (mA_15 S _ (show i < 400 by omega)).trans (congrArg some c3)
    rw [if_neg (by decide), if_pos rfl, cl_nI (by omega), c2, mg_304 S t2, bd_v, mg_307 S t2, bd_v, bd_v, r1, bd_v, bd_v, mA_13 S e (show c < 400 by omega), bd_v, rm_vl t3 c1, mp_306 S, bd_v, mg_307 S E2, bd_v, bd_v, r2, bd_v]
    exact ⟨_, rfl, E2, rm_w_ask t3⟩
end
