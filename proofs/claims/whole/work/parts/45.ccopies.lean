/-! the class's calls on copies and leaves -/
section
variable {σ : St}
theorem isOfB_v : ∀ q, q < 8 → ((isOfB q 0 = true → q = 0 ∨ q = 1 ∨ q = 4) ∧ (isOfB q 2 = true → q = 2 ∨ q = 5) ∧ (isOfB q 3 = true → q = 3) ∧ (isOfB q 4 = true → q = 4) ∧ (isOfB q 5 = true → q = 5) ∧ (isOfB q 6 = true → q = 6 ∨ q = 7)) := by decide
theorem of_l (B : WB σ) {h p : Nat} (hp : p < np σ) (g : seeG σ h p 0 = none) : kin σ p = 0 ∨ kin σ p = 1 ∨ kin σ p = 4 := (isOfB_v _ (B.2.2.2.1 p hp)).1 (seeG_none g).2
theorem of_t (B : WB σ) {h p : Nat} (hp : p < np σ) (g : seeG σ h p 2 = none) : kin σ p = 2 ∨ kin σ p = 5 := (isOfB_v _ (B.2.2.2.1 p hp)).2.1 (seeG_none g).2
theorem of_b (B : WB σ) {h p : Nat} (hp : p < np σ) (g : seeG σ h p 3 = none) : kin σ p = 3 := (isOfB_v _ (B.2.2.2.1 p hp)).2.2.1 (seeG_none g).2
theorem of_m (B : WB σ) {h p : Nat} (hp : p < np σ) (g : seeG σ h p 4 = none) : kin σ p = 4 := (isOfB_v _ (B.2.2.2.1 p hp)).2.2.2.1 (seeG_none g).2
theorem of_p (B : WB σ) {h p : Nat} (hp : p < np σ) (g : seeG σ h p 5 = none) : kin σ p = 5 := (isOfB_v _ (B.2.2.2.1 p hp)).2.2.2.2.1 (seeG_none g).2
theorem of_f (B : WB σ) {h p : Nat} (hp : p < np σ) (g : seeG σ h p 6 = none) : kin σ p = 6 ∨ kin σ p = 7 := (isOfB_v _ (B.2.2.2.1 p hp)).2.2.2.2.2 (seeG_none g).2
end
section
variable {sh : Sh} {d : Dt} {x : Nat} {σ : St} {G : Gh} {em sz ns : Nat}
theorem ea_i (S : CZ σ G x em sz ns sh) {c e : Nat} (hc : c < nc σ) (he : e < nc σ) : EA G c = EA G e ↔ c = e := ⟨fun q => by
    have h1 := t_e0 S hc
    have h2 := t_e0 S he
    rw [q, h2] at h1; omega, fun q => by rw [q]⟩
theorem ha_i (S : CZ σ G x em sz ns sh) {c e : Nat} (hc : c < nh σ) (he : e < nh σ) : HA G c = HA G e ↔ c = e := ⟨fun q => by
    have h1 := t_h0 S hc
    have h2 := t_h0 S he
    rw [q, h2] at h1; omega, fun q => by rw [q]⟩
theorem c_awaits (S : CZ σ G x em sz ns sh) (D : CD σ G x d) (B : WB σ) (w : Wel σ) {h c : Nat} (hh : h < nh σ) (hc : c < nc σ) : fX1_awaits sh d (HA G h) (some (EA G c)) = some (wt σ h c) := by
  have b1 := B.1
  have b3 := wn_nc B h
  have b4 := B.2.2.1
  have q := S.2.2.2.2.2.2 h hh
  have hw : ∀ i, i < wn σ h → ws G h i < nc σ := fun i hi => (w.2.2.2.2.1 h (by omega) _ (q.1 i hi)).1
  have key : ∀ m j n, j + m = wn σ h → m < n → ∃ b, fX1_awaits_b2 sh d n (HA G h) (some (EA G c)) (nI j) = some b ∧ (b = true ↔ ∃ i, j ≤ i ∧ i < wn σ h ∧ ws G h i = c) := by
    intro m
    induction m with
    | zero =>
      intro j n hj hn
      cases n with
      | zero => omega
      | succ n =>
        refine ⟨false, ?_, fun z => Bool.noConfusion z, fun ⟨i, z1, z2, _⟩ => by omega⟩
        simp (disch := omega) only [fX1_awaits_b2, bd_v, cf_99 S D, kH_4 S, c_size_w S D, z_0, z_1, z_2, z_3, z_4, z_5, z_6, z_7, z_8, z_10, z_16, z_17, z_31, z_63, z_64, z_400, nI_add, pk_mul, nI_eq, nI_leI, nI_ltI, bI_z, nI_m9, bI_m9]
        rw [if_pos (by omega)]
    | succ m ih =>
      intro j n hj hn
      cases n with
      | zero => omega
      | succ n =>
        have hj2 := hw j (by omega)
        simp (disch := omega) only [fX1_awaits_b2, bd_v, cf_99 S D, kH_4 S, c_size_w S D, c_get_w S D B, cst_e S, cf_64 S D, z_0, z_1, z_2, z_3, z_4, z_5, z_6, z_7, z_8, z_10, z_16, z_17, z_31, z_63, z_64, z_400, nI_add, pk_mul, nI_eq, nI_leI, nI_ltI, bI_z, nI_m9, bI_m9]
        rw [if_neg (by omega)]
        by_cases e : ws G h j = c
        · rw [if_pos e]
          exact ⟨true, rfl, fun _ => ⟨j, Nat.le_refl _, by omega, e⟩, fun _ => rfl⟩
        · rw [if_neg e]
          obtain ⟨b, h2, h3⟩ := ih (j + 1) n (by omega) (by omega)
          refine ⟨b, h2, h3.trans ⟨fun ⟨i, z1, z2⟩ => ⟨i, by omega, z2⟩, fun ⟨i, z1, z2, z3⟩ => ⟨i, ?_, z2, z3⟩⟩⟩
          rcases Nat.lt_or_ge j i with g | g
          · exact g
          · exact (e (by rw [show j = i by omega]; exact z3)).elim
  obtain ⟨b, h1, h2⟩ := key (wn σ h) 0 fu (by omega) (by show wn σ h < 100000; omega)
  refine (show _ = some b from h1).trans ?_
  congr 1
  rw [Bool.eq_iff_iff, h2]
  constructor
  · rintro ⟨i, _, z2, z3⟩
    rw [← z3]; exact q.1 i z2
  · intro z
    obtain ⟨i, z1, z2⟩ := q.2.2 c z
    exact ⟨i, Nat.zero_le _, z1, z2⟩
theorem c_has (S : CZ σ G x em sz ns sh) (D : CD σ G x d) (B : WB σ) (w : Wel σ) (a1 a2 : Int32) : fX6_has sh d x a1 a2 = some (hasV σ a1 a2) := by
  have b1 := B.1
  have b2 := B.2.2.1
  unfold fX6_has fX6_has_b0 hasV
  rw [kX_0 S, bd_v, c_handAt S D B, bd_v, c_entryAt S D B, bd_v]
  cases h1 : inN a1 (nh σ) with
  | false => rfl
  | true =>
    cases h2 : inN a2 (nc σ) with
    | false => rfl
    | true =>
      obtain ⟨h, e1, rfl⟩ := inN_t h1
      obtain ⟨c, e2, rfl⟩ := inN_t h2
      rw [if_pos rfl, if_pos rfl, cl_nI (by omega), cl_nI (by omega), on_v, on_v]
      simp only [bd_v, cf_97 S D e1, kH_1 S e1, c_holds_h S D B w e1 e2, c_awaits S D B w e1 e2]
      cases has σ h c <;> cases wt σ h c <;> rfl
theorem c_keep (S : CZ σ G x em sz ns sh) (D : CD σ G x d) (B : WB σ) (a1 a2 : Int32) (b : Bool) : OKc (fX6_keep sh d x a1 a2 (bI b)) G x (keepV σ a1 a2 b) := by
  have b1 := B.1
  have b2 := B.2.1
  unfold fX6_keep fX6_keep_b0 keepV
  rw [kX_0 S, bd_v, c_handAt S D B, bd_v, c_pageAt S D B, bd_v]
  cases h1 : inN a1 (nh σ) with
  | false => exact ⟨d, rfl, D⟩
  | true =>
    cases h2 : inN a2 (np σ) with
    | false => exact ⟨d, rfl, D⟩
    | true =>
      obtain ⟨h, e1, rfl⟩ := inN_t h1
      obtain ⟨p, e2, rfl⟩ := inN_t h2
      rw [if_pos rfl, if_pos rfl, cl_nI (by omega), cl_nI (by omega), on_v, on_v]
      refine ⟨_, ?_, cd_skp S D e1 (b := !b)⟩
      have sz : ∀ b : Bool, sZ sh d 22 (HA G h + 5) (nI p) (bI b) = some (uAI d (HA G h + 5) p (bI b)) := fun b => (sZ_v (sH_5 S e1) (by rw [nH_5 S e1]; omega) (by omega)).trans (by rw [nar_z])
      have s1 : sZ sh d 22 (HA G h + 5) (nI p) 1 = some (uAI d (HA G h + 5) p (bI true)) := sz true
      have s0 : sZ sh d 22 (HA G h + 5) (nI p) 0 = some (uAI d (HA G h + 5) p (bI false)) := sz false
      have o1 : ∀ d, fX6_oneIf sh d 1 = some 1 := fun d => rfl
      have o0 : ∀ d, fX6_oneIf sh d 0 = some 0 := fun d => rfl
      simp (disch := omega) only [fX6_keep_b45, fX6_keep_b66, bd_v, cf_100 S D, cf_160 S D, ca_h5 S D, bI_0, s1, s0, o1, o0]
      cases skp σ h p <;> cases b <;> rfl
theorem c_value (S : CZ σ G x em sz ns sh) (D : CD σ G x d) (B : WB σ) (w : Wel σ) (a1 a2 : Int32) : OKc (fX6_value sh d x a1 a2) G x (valueV σ a1 a2) := by
  have b1 := B.1
  have b2 := B.2.1
  unfold fX6_value fX6_value_b0 valueV
  rw [kX_0 S, bd_v, c_handAt S D B, bd_v, c_pageAt S D B, bd_v]
  refine on_hp D B fun h p e1 e2 g1 g2 => ?_
  subst g1 g2
  rw [if_pos rfl, cl_nI (by omega), cl_nI (by omega)]
  refine see2 S D B (k := 0) e1 e2 (by decide) fun hg => ?_
  have hk : kin σ p = 0 ∨ kin σ p = 1 ∨ kin σ p = 4 := of_l B e2 hg
  rw [cf_97 S D e1, bd_v, kP_0 S e2, bd_v, c_foremost S D B w e1 e2 hk, bd_v]
  cases ht : tel σ h p with
  | none => exact ⟨d, rfl, D⟩
  | some c =>
    have hc := tel_lt B ht
    rw [Option.map_some, on_v, cf_69 S D hc, bd_v, cf_64 S D hc, bd_v]
    exact okc_id (c_tellAnd S D _ _)
theorem c_sum (S : CZ σ G x em sz ns sh) (D : CD σ G x d) (B : WB σ) (w : Wel σ) (a1 a2 : Int32) : OKc (fX6_sum sh d x a1 a2) G x (sumV σ a1 a2) := by
  have b1 := B.1
  have b2 := B.2.1
  unfold fX6_sum fX6_sum_b0 sumV
  rw [kX_0 S, bd_v, c_handAt S D B, bd_v, c_pageAt S D B, bd_v]
  refine on_hp D B fun h p e1 e2 g1 g2 => ?_
  subst g1 g2
  rw [if_pos rfl, cl_nI (by omega), cl_nI (by omega)]
  refine see2 S D B (k := 2) e1 e2 (by decide) fun hg => ?_
  have hk : kin σ p = 2 ∨ kin σ p = 5 := of_t B e2 hg
  rw [cf_97 S D e1, bd_v, kP_0 S e2, bd_v, c_total S D B w e1 e2 hk, bd_v, bd_v, c_psize S D B w e1 e2 (by omega), bd_v]
  exact okc_id (c_tellAnd S D _ _)
theorem c_mean (S : CZ σ G x em sz ns sh) (D : CD σ G x d) (B : WB σ) (w : Wel σ) (a1 a2 : Int32) : OKc (fX6_mean sh d x a1 a2) G x (meanV σ a1 a2) := by
  have b1 := B.1
  have b2 := B.2.1
  have b3 := B.2.2.1
  unfold fX6_mean fX6_mean_b0 meanV
  rw [kX_0 S, bd_v, c_handAt S D B, bd_v, c_pageAt S D B, bd_v]
  refine on_hp D B fun h p e1 e2 g1 g2 => ?_
  subst g1 g2
  rw [if_pos rfl, cl_nI (by omega), cl_nI (by omega)]
  refine see2 S D B (k := 2) e1 e2 (by decide) fun hg => ?_
  have hk : kin σ p = 2 ∨ kin σ p = 5 := of_t B e2 hg
  have hm : mny σ h p ≤ nc σ := cnt_le _ _
  rw [cf_97 S D e1, bd_v, kP_0 S e2, bd_v, c_psize S D B w e1 e2 (by omega), bd_v]
  by_cases g : mny σ h p = 0
  · rw [g, if_pos (show nI 0 = 0 from rfl), if_pos rfl]
    exact okc_id (c_found S D (f := 4) (by decide))
  · rw [if_neg (nI_ne0 (by omega) (by omega)), if_neg g, bd_v, c_total S D B w e1 e2 hk, bd_v, if_neg (fun q => by
      have := congrArg Int64.toInt q
      rw [Int32.toInt_toInt64, nI_toInt (by omega)] at this
      have z : (0 : Int64).toInt = 0 := rfl
      omega)]
    exact okc_id (c_tellAnd S D _ _)
theorem c_rights (S : CZ σ G x em sz ns sh) (D : CD σ G x d) (B : WB σ) (w : Wel σ) (a1 a2 a3 : Int32) : OKc (fX6_rights sh d x a1 a2 a3) G x (rightsV σ a1 a2 a3) := by
  have b1 := B.1
  have b2 := B.2.1
  unfold fX6_rights fX6_rights_b0 rightsV
  rw [kX_0 S, bd_v, c_handAt S D B, bd_v, c_pageAt S D B, bd_v]
  refine on_hp D B fun h p e1 e2 g1 g2 => ?_
  subst g1 g2
  rw [cl_nI (by omega), cl_nI (by omega), c_handAt S D B, bd_v]
  cases h3 : inN a3 (nh σ) with
  | false => exact ⟨d, rfl, D⟩
  | true =>
    obtain ⟨o, e3, rfl⟩ := inN_t h3
    rw [if_pos rfl, if_pos rfl, cl_nI (by omega), on_v]
    refine see2 S D B (k := 5) e1 e2 (by decide) fun hg => ?_
    have hk : kin σ p = 5 := of_p B e2 hg
    rw [cf_97 S D e1, bd_v, kP_0 S e2, bd_v, c_rightsOf S D B w e1 e2 (by omega) (by omega), bd_v]
    exact okc_id (c_tellAnd S D _ _)
theorem c_often (S : CZ σ G x em sz ns sh) (D : CD σ G x d) (B : WB σ) (w : Wel σ) (a1 a2 a3 : Int32) : OKc (fX6_often sh d x a1 a2 a3) G x (oftenV σ a1 a2 a3) := by
  have b1 := B.1
  have b2 := B.2.1
  unfold fX6_often fX6_often_b0 oftenV
  rw [kX_0 S, bd_v, c_handAt S D B, bd_v, c_pageAt S D B, bd_v]
  refine on_hp D B fun h p e1 e2 g1 g2 => ?_
  subst g1 g2
  rw [cl_nI (by omega), cl_nI (by omega), c_isThing, bd_v]
  cases h3 : inN a3 64 with
  | false => exact ⟨d, rfl, D⟩
  | true =>
    obtain ⟨k, e3, rfl⟩ := inN_t h3
    rw [if_pos rfl, if_neg (by decide), cl_nI (by omega)]
    refine see2 S D B (k := 3) e1 e2 (by decide) fun hg => ?_
    have hk : kin σ p = 3 := of_b B e2 hg
    rw [cf_97 S D e1, bd_v, kP_0 S e2, bd_v, c_timesIn S D B w e1 e2 e3 hk, bd2_v]
    exact ⟨_, rfl, cd_kn S D e2 _⟩
theorem c_up (S : CZ σ G x em sz ns sh) (D : CD σ G x d) (B : WB σ) (w : Wel σ) (a1 a2 : Int32) : OKc (fX6_up sh d x a1 a2) G x (upV σ a1 a2) := by
  have b1 := B.1
  have b2 := B.2.1
  unfold fX6_up fX6_up_b0 upV
  rw [kX_0 S, bd_v, c_handAt S D B, bd_v, c_pageAt S D B, bd_v]
  refine on_hp D B fun h p e1 e2 g1 g2 => ?_
  subst g1 g2
  rw [if_pos rfl, cl_nI (by omega), cl_nI (by omega)]
  refine see2 S D B (k := 6) e1 e2 (by decide) fun hg => ?_
  have hk : kin σ p = 6 ∨ kin σ p = 7 := of_f B e2 hg
  obtain ⟨F, hF⟩ := c_isUp S D B w e1 e2 (by omega)
  rw [cf_97 S D e1, bd_v, kP_0 S e2, bd_v, hF, bd2_v, c_oneIf, bd_v]
  exact ⟨_, rfl, cd_kn S D e2 _⟩
theorem c_heads (S : CZ σ G x em sz ns sh) (D : CD σ G x d) (B : WB σ) (w : Wel σ) (a1 a2 : Int32) : OKc (fX6_heads sh d x a1 a2) G x (headsV σ a1 a2) := by
  have b1 := B.1
  have b2 := B.2.1
  unfold fX6_heads fX6_heads_b0 headsV
  rw [kX_0 S, bd_v, c_handAt S D B, bd_v, c_pageAt S D B, bd_v]
  refine on_hp D B fun h p e1 e2 g1 g2 => ?_
  subst g1 g2
  rw [if_pos rfl, cl_nI (by omega), cl_nI (by omega)]
  refine see2 S D B (k := 4) e1 e2 (by decide) fun hg => ?_
  have hk : kin σ p = 4 := of_m B e2 hg
  rw [cf_97 S D e1, bd_v, kP_0 S e2, bd_v, c_headCount S D B w e1 e2 (by omega), bd2_v]
  exact ⟨_, rfl, cd_kn S D e2 _⟩
theorem c_thingAt (S : CZ σ G x em sz ns sh) (D : CD σ G x d) (B : WB σ) (w : Wel σ) {h p i : Nat} (hh : h < nh σ) (hp : p < np σ) (h3 : kin σ p = 3) {a : Int32} (ha : ∀ b, b ≤ 64 → (nI b = a ↔ b = i)) : ∃ F, fX3_thingAt sh d (PA G p) (some (HA G h + 1)) a = some (oc (insO σ h p i 64), uCI d (PA G p + 2) F) := by
  have b3 := B.2.2.1
  have key : ∀ m j n F, j + m = 64 → m < n → insO σ h p i j = none → ∃ F2, fX3_thingAt_b5 sh n (PA G p) (some (HA G h + 1)) a (nI (cnt (bgq σ h p) j)) (nI j) (uCI d (PA G p + 2) F) = some (oc (insO σ h p i 64), uCI d (PA G p + 2) F2) := by
    intro m
    induction m with
    | zero =>
      intro j n F hj hn q1
      cases n with
      | zero => omega
      | succ n =>
        have : j = 64 := by omega
        subst this
        refine ⟨F, ?_⟩
        simp only [fX3_thingAt_b5]
        rw [if_pos (by decide), q1]; rfl
    | succ m ih =>
      intro j n F hj hn q1
      cases n with
      | zero => omega
      | succ n =>
        have D1 : CD σ G x (uCI d (PA G p + 2) F) := cd_kn S D hp _
        have hc : cin σ h p j ≤ nc σ := cnt_le _ _
        have hs := cnt_s (bgq σ h p) j
        have hb : cnt (bgq σ h p) j ≤ j := cnt_le _ _
        have e1 := c_timesIn S D1 B w hh hp (show j < 64 by omega) h3
        simp (disch := omega) only [fX3_thingAt_b5, kP_0 S, bd_v, e1, bd2_v, z_0, z_1, z_2, z_3, z_4, z_5, z_6, z_7, z_8, z_10, z_16, z_17, z_31, z_63, z_64, z_400, nI_add, pk_mul, nI_eq, nI_leI, nI_ltI, bI_z, nI_m9, bI_m9]
        rw [if_neg (by omega)]
        unfold kW
        rw [uCI_2]
        have hn1 : insO σ h p i (j + 1) = if bgq σ h p j && decide (cnt (bgq σ h p) j = i) then some j else none := by
          show (match insO σ h p i j with
            | some y => some y
            | none => if bgq σ h p j && decide (cnt (bgq σ h p) j = i) then some j else none) = _
          rw [q1]
        by_cases c1 : cin σ h p j ≤ 0
        · rw [if_pos c1]
          have hq : bgq σ h p j = false := by unfold bgq; simp; omega
          rw [hq] at hs hn1
          have := ih (j + 1) n (fun k => if k < 6 then nI (kno σ h p j 3 k) else dai (uCI d (PA G p + 2) F) (PA G p + 2) k) (by omega) (by omega) hn1
          rw [hs] at this
          exact this
        · rw [if_neg c1]
          have hq : bgq σ h p j = true := by unfold bgq; simp; omega
          rw [hq] at hs hn1
          by_cases c2 : cnt (bgq σ h p) j = i
          · rw [if_pos ((ha _ (by omega)).mpr c2)]
            rw [if_pos (by simp [c2])] at hn1
            rw [insO_mono hn1 (by omega)]
            exact ⟨_, rfl⟩
          · rw [if_neg (fun z => c2 ((ha _ (by omega)).mp z))]
            rw [if_neg (by simp [c2])] at hn1
            have := ih (j + 1) n (fun k => if k < 6 then nI (kno σ h p j 3 k) else dai (uCI d (PA G p + 2) F) (PA G p + 2) k) (by omega) (by omega) hn1
            rw [hs] at this
            exact this
  have := key 64 0 fu (dai d (PA G p + 2)) (by omega) (by decide) rfl
  rw [uCI_0] at this
  exact this
theorem c_inside (S : CZ σ G x em sz ns sh) (D : CD σ G x d) (B : WB σ) (w : Wel σ) (a1 a2 a3 : Int32) : OKc (fX6_inside sh d x a1 a2 a3) G x (insideV σ a1 a2 a3) := by
  have b1 := B.1
  have b2 := B.2.1
  unfold fX6_inside fX6_inside_b0 insideV
  rw [kX_0 S, bd_v, c_handAt S D B, bd_v, c_pageAt S D B, bd_v]
  refine on_hp D B fun h p e1 e2 g1 g2 => ?_
  subst g1 g2
  rw [if_pos rfl, cl_nI (by omega), cl_nI (by omega)]
  refine see2 S D B (k := 3) e1 e2 (by decide) fun hg => ?_
  have hk : kin σ p = 3 := of_b B e2 hg
  have ins_lt : ∀ i n y, insO σ h p i n = some y → y < n := by
    intro i n
    induction n with
    | zero => intro y hy; cases hy
    | succ n ih =>
      intro y hy
      have hy : (match insO σ h p i n with
            | some y => some y
            | none => if bgq σ h p n && decide (cnt (bgq σ h p) n = i) then some n else none) = some y := hy
      cases hz : insO σ h p i n with
      | some z => rw [hz] at hy; cases hy; have := ih _ hz; omega
      | none =>
        rw [hz] at hy
        cases hb : (bgq σ h p n && decide (cnt (bgq σ h p) n = i)) with
        | false => rw [hb] at hy; cases hy
        | true => rw [hb] at hy; cases hy; omega
  have fin : ∀ (i : Nat), (∀ b, b ≤ 64 → (nI b = a3 ↔ b = i)) → OKc (bd2 (fX3_thingAt sh d (PA G p) (some (HA G h + 1)) a3) (fun r15 d16 => if r15 = (-9 : Int32) then (bd2 (fX6_found sh d16 x (2 : Int32)) fun r19 d20 => some (r19, d20)) else (some (r15, d16)))) G x (match insO σ h p i 64 with
      | some x => (nI x, σ)
      | none => (-3, mtS σ 2)) := by
    intro i hi
    obtain ⟨F, hF⟩ := c_thingAt S D B w e1 e2 hk hi
    have D1 : CD σ G x (uCI d (PA G p + 2) F) := cd_kn S D e2 _
    rw [hF, bd2_v]
    cases hz : insO σ h p i 64 with
    | none =>
      rw [if_pos (show oc none = -9 from rfl)]
      exact okc_id (c_found S D1 (f := 2) (by decide))
    | some y =>
      have := ins_lt _ _ _ hz
      show OKc (if nI y = -9 then _ else some (nI y, _)) G x (nI y, σ)
      rw [if_neg (fun q => ((nI_m9 (by omega)).mp q).elim)]
      exact ⟨_, rfl, D1⟩
  rw [cf_97 S D e1, bd_v, kP_0 S e2, bd_v]
  by_cases g : 0 ≤ a3.toInt
  · rw [if_pos g]
    have g2 : ¬ a3 < 0 := by rw [lt0]; omega
    obtain ⟨i, hi, rfl⟩ := nI_of g2
    rw [cl_nI hi]
    exact fin i (fun b hb => nI_eq (by omega) hi)
  · rw [if_neg g]
    have hn : insO σ h p 100 64 = none := by
      cases hz : insO σ h p 100 64 with
      | none => rfl
      | some y =>
        have key : ∀ n, n ≤ 64 → insO σ h p 100 n = none := by
          intro n
          induction n with
          | zero => intro _; rfl
          | succ n ih =>
            intro hn
            have hb : cnt (bgq σ h p) n ≤ n := cnt_le _ _
            show (match insO σ h p 100 n with
              | some y => some y
              | none => if bgq σ h p n && decide (cnt (bgq σ h p) n = 100) then some n else none) = none
            rw [ih (by omega), decide_eq_false (by omega), Bool.and_false]; rfl
        rw [key 64 (Nat.le_refl _)] at hz; cases hz
    have := fin 100 (fun b hb => ⟨fun q => by
        rw [← q, nI_toInt (by omega)] at g; omega, fun q => by omega⟩)
    rw [hn] at this
    exact this
theorem c_headAt (S : CZ σ G x em sz ns sh) (D : CD σ G x d) (B : WB σ) (w : Wel σ) {h p : Nat} (hh : h < nh σ) (hp : p < np σ) (h4 : kin σ p = 4) (a : Int32) : ∃ F, fX3_headAt sh d (PA G p) (some (HA G h + 1)) a = some ((if inN a (hdn σ h p) then hdk σ h p (cl a) else none).map (EA G), uCI d (PA G p + 2) F) := by
  have h6 := hd_6 B w h p
  unfold fX3_headAt fX3_headAt_b0 fX3_headAt_b13
  by_cases g0 : a < 0
  · rw [if_pos g0]
    have : inN a (hdn σ h p) = false := by
      unfold inN; rw [lt0] at g0; rw [decide_eq_false (by omega)]; rfl
    rw [this]
    exact ⟨dai d (PA G p + 2), by rw [uCI_0]; rfl⟩
  · rw [if_neg g0]
    obtain ⟨i, hi, rfl⟩ := nI_of g0
    rw [kP_0 S hp, bd_v, c_headCount S D B w hh hp (by omega), bd2_v, inN_nI (by omega), cl_nI hi]
    simp (disch := omega) only [nI_ltI]
    by_cases g1 : i < hdn σ h p
    · rw [if_pos g1, if_pos (by simpa using g1)]
      have key : ∀ m j n F pv, j + m = i + 1 → m < n → (∀ b, pv = some b → b < nc σ) → (j = 0 → pv = none) → (∀ j2, j = j2 + 1 → pv = hdk σ h p j2) → ∃ F2, fX3_headAt_b20 sh n (PA G p) (some (HA G h + 1)) (nI i) (pv.map (EA G)) (nI j) (uCI d (PA G p + 2) F) = some ((hdk σ h p i).map (EA G), uCI d (PA G p + 2) F2) := by
        intro m
        induction m with
        | zero =>
          intro j n F pv hj hn q0 q1 q2
          cases n with
          | zero => omega
          | succ n =>
            have : j = i + 1 := by omega
            subst this
            simp (disch := omega) only [fX3_headAt_b20, nI_ltI]
            rw [if_pos (by omega), q2 i rfl]
            exact ⟨F, rfl⟩
        | succ m ih =>
          intro j n F pv hj hn q0 q1 q2
          cases n with
          | zero => omega
          | succ n =>
            have D1 : CD σ G x (uCI d (PA G p + 2) F) := cd_kn S D hp _
            obtain ⟨cc, k1, k2, -, -⟩ := (hdk_r w h p j).1 (by omega)
            have hnx : nxh σ h p pv = hdk σ h p j := by
              cases j with
              | zero => rw [q1 rfl]; rfl
              | succ j =>
                rw [q2 j rfl]
                obtain ⟨c2, k3, -, -, -⟩ := (hdk_r w h p j).1 (by omega)
                show _ = (match hdk σ h p j with
                  | none => none
                  | some b => nxh σ h p (some b))
                rw [k3]
            simp (disch := omega) only [fX3_headAt_b20, nI_ltI, kP_0 S, bd_v, c_headAbove S D1 B w hh hp h4 q0, bd2_v, nI_1]
            rw [if_neg (by omega), hnx]
            unfold kW
            rw [uCI_2]
            exact ih (j + 1) n _ _ (by omega) (by omega) (fun b hb => by rw [k1] at hb; cases hb; exact k2) (fun z => by omega) (fun j2 z => by rw [show j = j2 by omega])
      exact key (i + 1) 0 fu _ none (by omega) (by show i + 1 < 100000; omega) (fun b hb => by cases hb) (fun _ => rfl) (fun j2 z => by omega)
    · rw [if_neg g1, if_neg (by simpa using g1)]
      exact ⟨_, rfl⟩
theorem c_head (S : CZ σ G x em sz ns sh) (D : CD σ G x d) (B : WB σ) (w : Wel σ) (a1 a2 a3 : Int32) : OKc (fX6_head sh d x a1 a2 a3) G x (headV σ a1 a2 a3) := by
  have b1 := B.1
  have b2 := B.2.1
  unfold fX6_head fX6_head_b0 headV
  rw [kX_0 S, bd_v, c_handAt S D B, bd_v, c_pageAt S D B, bd_v]
  refine on_hp D B fun h p e1 e2 g1 g2 => ?_
  subst g1 g2
  rw [if_pos rfl, cl_nI (by omega), cl_nI (by omega)]
  refine see2 S D B (k := 4) e1 e2 (by decide) fun hg => ?_
  have hk : kin σ p = 4 := of_m B e2 hg
  obtain ⟨F, hF⟩ := c_headAt S D B w e1 e2 hk a3
  have D1 : CD σ G x (uCI d (PA G p + 2) F) := cd_kn S D e2 _
  have h6 := hd_6 B w h p
  rw [cf_97 S D e1, bd_v, kP_0 S e2, bd_v, hF, bd2_v]
  cases h3 : inN a3 (hdn σ h p) with
  | false => exact okc_id (c_found S D1 (f := 2) (by decide))
  | true =>
    obtain ⟨i, e3, rfl⟩ := inN_t h3
    obtain ⟨c, k1, k2, -, -⟩ := (hdk_r w h p i).1 e3
    rw [if_pos rfl, if_pos rfl, cl_nI (by omega), k1, Option.map_some, on_v, cf_69 S D1 k2, bd_v, cf_64 S D1 k2, bd_v]
    exact okc_id (c_tellAnd S D1 _ _)
end
