/-! the class: the calls that make -/
section
variable {sh : Sh} {d e : Dt} {x : Nat} {σ : St} {G : Gh} {em mi sz ns : Nat}
/-- an answer that ends the call -/
def RF (σ : St) (G : Gh) (x em sz ns : Nat) (sh : Sh) (d : Dt) (o : Option (Int32 × Dt)) (g : Option (Int32 × St)) : Prop := match g with
  | none => o = some (0, d)
  | some q => q.1 ≠ 0 ∧ ∃ e, o = some (q.1, e) ∧ CZ q.2 G x em sz ns sh ∧ CD q.2 G x e
theorem rf_see (S : CZ σ G x em sz ns sh) (D : CD σ G x d) (B : WB σ) {h p k : Nat} (hh : h < nh σ) (hp : p < np σ) (hk : k < 8) : RF σ G x em sz ns sh d (fX6_refusalToSee sh d x (some (HA G h)) (some (PA G p)) (nI k)) (seeG σ h p k) := by
  have b2 := B.2.1
  unfold fX6_refusalToSee fX6_refusalToSee_b0 seeG
  simp (disch := omega) only [bd_v, cf_100 S D, cf_160 S D, ca_h5 S D, c_isUnder S D B hp hk, kX_0 S, bI_0]
  cases h1 : skp σ h p with
  | true =>
    obtain ⟨e, e1, e2⟩ := c_found S D (f := 1) (by decide)
    have e1 : fX6_found sh d x 1 = some (-3, e) := e1
    refine ⟨(by decide : (-3 : Int32) ≠ 0), e, ?_, S, e2⟩
    rw [if_neg (by decide), e1, bd2_v]
  | false =>
    cases h2 : isOfB (kin σ p) k with
    | false =>
      obtain ⟨e, e1, e2⟩ := c_found S D (f := 3) (by decide)
      have e1 : fX6_found sh d x 3 = some (-3, e) := e1
      refine ⟨(by decide : (-3 : Int32) ≠ 0), e, ?_, S, e2⟩
      rw [if_pos rfl, if_pos rfl, e1, bd2_v]
    | true =>
      show _ = some (0, d)
      rw [if_pos rfl, if_neg (by decide)]
theorem rf_chg (S : CZ σ G x em sz ns sh) (D : CD σ G x d) (B : WB σ) (w : Wel σ) {h p k : Nat} (hh : h < nh σ) (hp : p < np σ) (hk : k < 8) : RF σ G x em sz ns sh d (fX6_refusalToChange sh d x (some (HA G h)) (some (PA G p)) (nI k)) (chgG σ h p k) := by
  have b1 := B.1
  have b3 := B.2.2.1
  have hu := (w.2.1 h (by omega)).2.2 h (by omega)
  have hm := (B.2.2.2.2.2 h (by omega)).2
  have own : fX1_hasAllOwn sh d (HA G h) = some (decide (md σ h ≤ up σ h h)) := by
    unfold fX1_hasAllOwn fX1_hasAllOwn_b0
    simp (disch := omega) only [bd_v, cf_97 S D, cf_192h S D, cf_96 S D, ca_h2 S D, cf_98 S D, kH_3 S, c_size_o S D, nI_eq]
    by_cases g : up σ h h = md σ h
    · rw [if_pos g, decide_eq_true (by omega)]
    · rw [if_neg g, decide_eq_false (by omega)]
  have see := rf_see S D B hh hp hk
  unfold fX6_refusalToChange fX6_refusalToChange_b0 chgG
  rw [cf_258 S D, bd_v, bd_v, kX_3 S, bd_v, c_size_x S D, bd_v]
  by_cases g : nc σ = 400
  · rw [if_pos g, g, if_neg (by decide)]
    exact ⟨(by decide : (-2 : Int32) ≠ 0), d, rfl, S, D⟩
  · rw [if_neg g, if_pos (show nI (nc σ) < (400 : Int32) from nI_lt (b := 400) (by omega) (by decide)), bd_v, kH_0 S hh, bd_v, own, bd_v]
    by_cases g2 : md σ h ≤ up σ h h
    · rw [if_pos g2, decide_eq_true g2, if_neg (by decide)]
      cases hs : seeG σ h p k with
      | none =>
        rw [hs] at see
        have see : fX6_refusalToSee sh d x (some (HA G h)) (some (PA G p)) (nI k) = some (0, d) := see
        show _ = some (0, d)
        rw [see, bd2_v]
      | some q =>
        rw [hs] at see
        obtain ⟨s1, e, s2, s3⟩ := see
        exact ⟨s1, e, by rw [s2, bd2_v], s3⟩
    · rw [if_neg g2, decide_eq_false g2, if_pos (show bI false = 0 from rfl)]
      exact ⟨(by decide : (-4 : Int32) ≠ 0), d, rfl, S, D⟩
theorem on_hpA {a1 a2 : Int32} {K : Nat → Nat → Option (Int32 × Wl)} {good : Bool} {k : Nat} {q : Int32 × St} (S : CZ σ G x em sz ns sh) (D : CD σ G x d) (h13 : cap G 13 = 0) (hB : WB σ) (hK : ∀ h p, h < nh σ → p < np σ → a1 = nI h → a2 = nI p → OKA (K (HA G h) (PA G p)) x em (gte (if good then chgG σ h p k else some (-1, σ)) q)) : OKA (on (if inN a1 (nh σ) then some (HA G (cl a1)) else none) (some ((-1 : Int32), sz, ns, sh, d)) (fun a6 => on (if inN a2 (np σ) then some (PA G (cl a2)) else none) (some ((-1 : Int32), sz, ns, sh, d)) (fun a7 => K a6 a7))) x em (gte (nmkG σ good a1 a2 k) q) := by
  have b1 := hB.1
  have b2 := hB.2.1
  unfold nmkG
  cases h1 : inN a1 (nh σ) with
  | false => exact ⟨_, _, _, d, G, rfl, S, D, h13⟩
  | true =>
    cases h2 : inN a2 (np σ) with
    | false => exact ⟨_, _, _, d, G, rfl, S, D, h13⟩
    | true =>
      obtain ⟨h, e1, rfl⟩ := inN_t h1
      obtain ⟨p, e2, rfl⟩ := inN_t h2
      have := hK h p e1 e2 rfl rfl
      simp (disch := omega) only [cl_nI, Bool.true_and, if_true, on_v]
      exact this
theorem chg2 {g : Option (Int32 × St)} {o : Option (Int32 × Dt)} (R : RF σ G x em sz ns sh d o g) (h13 : cap G 13 = 0) {K : Int32 → Dt → Option (Int32 × Wl)} {q : Int32 × St} (hK : g = none → OKA (K 0 d) x em q) : OKA (bd2 o (fun r d1 => if r = 0 then K r d1 else some (r, sz, ns, sh, d1))) x em (gte g q) := by
  cases g with
  | none =>
    have R : o = some (0, d) := R
    rw [R, bd2_v, if_pos rfl]
    exact hK rfl
  | some p =>
    obtain ⟨r1, e, r2, r3, r4⟩ := R
    rw [r2, bd2_v, if_neg r1]
    exact ⟨_, _, _, e, G, rfl, r3, r4, h13⟩
theorem oka_id {o : Option (Int32 × Wl)} {q : Int32 × St} (h : OKA o x em q) : OKA (bw2 o (fun r s n t u => some (r, s, n, t, u))) x em q := by
  obtain ⟨s, n, t, u, G, h1, h2⟩ := h
  rw [h1]; exact ⟨s, n, t, u, G, rfl, h2⟩
theorem oka_c {o : Option (Int32 × Dt)} {q : Int32 × St} (h13 : cap G 13 = 0) (hS : CZ q.2 G x em sz ns sh) (h : OKc o G x q) : OKA (bd2 o (fun r u => some (r, sz, ns, sh, u))) x em q := by
  obtain ⟨u, h1, h2⟩ := h
  rw [h1]; exact ⟨_, _, _, u, G, rfl, hS, h2, h13⟩
theorem chgG_n {h p k : Nat} (B : WB σ) (g : chgG σ h p k = none) : nc σ < 400 ∧ md σ h ≤ up σ h h ∧ seeG σ h p k = none := by
  have b3 := B.2.2.1
  unfold chgG at g
  by_cases z : nc σ = 400
  · rw [if_pos z] at g; cases g
  · rw [if_neg z] at g
    by_cases y : md σ h ≤ up σ h h
    · rw [if_pos y] at g; exact ⟨by omega, y, g⟩
    · rw [if_neg y] at g; cases g
theorem c_write (S : CZ σ G x em sz ns sh) (D : CD σ G x d) (B : WB σ) (w : Wel σ) (h13 : cap G 13 = 0) (a1 a2 : Int32) (v : Int64) : OKA (fX6_write em mi x a1 a2 v sz ns sh d) x em (writeV σ a1 a2 v) := by
  have b1 := B.1
  have b2 := B.2.1
  unfold fX6_write fX6_write_b0 fX6_write_b58 writeV
  rw [kX_0 S, bd_v, c_handAt S D B, bd_v, c_pageAt S D B, bd_v]
  refine on_hpA S D h13 B fun h p e1 e2 g1 g2 => ?_
  subst g1 g2
  rw [if_pos rfl, cl_nI (by omega), cl_nI (by omega)]
  refine chg2 (rf_chg S D B w (k := 0) e1 e2 (by decide)) h13 fun hg => ?_
  exact oka_id (c_make S D B w h13 (w := 0) (a := 0) e1 e2 (chgG_n B hg).1 (by decide) (by decide) v)
theorem c_add (S : CZ σ G x em sz ns sh) (D : CD σ G x d) (B : WB σ) (w : Wel σ) (h13 : cap G 13 = 0) (a1 a2 : Int32) (v : Int64) : OKA (fX6_add em mi x a1 a2 v sz ns sh d) x em (addV σ a1 a2 v) := by
  have b1 := B.1
  have b2 := B.2.1
  unfold fX6_add fX6_add_b0 fX6_add_b67 fX6_add_b78 addV
  rw [kX_0 S, bd_v, c_handAt S D B, bd_v, c_pageAt S D B, bd_v]
  refine on_hpA S D h13 B fun h p e1 e2 g1 g2 => ?_
  subst g1 g2
  rw [if_pos rfl, cl_nI (by omega), cl_nI (by omega)]
  refine chg2 (rf_chg S D B w (k := 2) e1 e2 (by decide)) h13 fun hg => ?_
  have hkp := B.2.2.2.1 p e2
  have mkk : OKA (bd (some ()) fun _ => bw2 (fX6_make em mi x (some (HA G h)) (some (PA G p)) 1 0 v sz ns sh d) fun r3 szq4 nsq4 shq4 dq4 => some (r3, szq4, nsq4, shq4, dq4)) x em (nI (nc σ), makeS σ h p 1 0 v) := oka_id (c_make S D B w h13 (w := 1) (a := 0) e1 e2 (chgG_n B hg).1 (by decide) (by decide) v)
  simp only [bd_v] at mkk
  rw [cf_161 S D e2, bd_v, c_isAmount]
  simp (disch := omega) only [bd_v, z_0, z_1, z_2, z_3, z_4, z_5, z_6, z_7, z_8, z_10, z_16, z_17, z_31, z_63, z_64, z_400, nI_add, pk_mul, nI_eq, nI_leI, nI_ltI, bI_z, nI_m9, bI_m9, show (5 : Int32) = nI 5 from rfl]
  by_cases g : kin σ p = 5
  · cases hs : shr v with
    | false =>
      rw [if_pos g, if_pos rfl, if_pos ⟨g, rfl⟩]
      exact oka_c h13 S (c_found S D (f := 2) (by decide))
    | true =>
      rw [if_pos g, if_neg (by decide), if_neg (fun q => Bool.noConfusion q.2)]
      exact mkk
  · rw [if_neg g, if_neg (fun q => g q.1)]
    exact mkk
theorem c_put (S : CZ σ G x em sz ns sh) (D : CD σ G x d) (B : WB σ) (w : Wel σ) (h13 : cap G 13 = 0) (a1 a2 a3 : Int32) : OKA (fX6_put em mi x a1 a2 a3 sz ns sh d) x em (putV σ a1 a2 a3) := by
  have b1 := B.1
  have b2 := B.2.1
  unfold fX6_put fX6_put_b0 fX6_put_b65 putV
  rw [kX_0 S, bd_v, c_handAt S D B, bd_v, c_pageAt S D B, bd_v]
  refine on_hpA S D h13 B fun h p e1 e2 g1 g2 => ?_
  subst g1 g2
  rw [cl_nI (by omega), cl_nI (by omega), c_isThing, bd_v]
  cases h3 : inN a3 64 with
  | false => exact ⟨_, _, _, d, G, rfl, S, D, h13⟩
  | true =>
    obtain ⟨k, e3, rfl⟩ := inN_t h3
    rw [if_pos rfl, if_neg (by decide), cl_nI (by omega)]
    refine chg2 (rf_chg S D B w (k := 3) e1 e2 (by decide)) h13 fun hg => ?_
    exact oka_id (c_make S D B w h13 (w := 2) (a := k) e1 e2 (chgG_n B hg).1 e3 (by decide) 0)
theorem c_take (S : CZ σ G x em sz ns sh) (D : CD σ G x d) (B : WB σ) (w : Wel σ) (h13 : cap G 13 = 0) (a1 a2 a3 : Int32) : OKA (fX6_take em mi x a1 a2 a3 sz ns sh d) x em (takeV σ a1 a2 a3) := by
  have b1 := B.1
  have b2 := B.2.1
  have b3 := B.2.2.1
  unfold fX6_take fX6_take_b0 fX6_take_b83 takeV
  rw [kX_0 S, bd_v, c_handAt S D B, bd_v, c_pageAt S D B, bd_v]
  refine on_hpA S D h13 B fun h p e1 e2 g1 g2 => ?_
  subst g1 g2
  rw [cl_nI (by omega), cl_nI (by omega), c_isThing, bd_v]
  cases h3 : inN a3 64 with
  | false => exact ⟨_, _, _, d, G, rfl, S, D, h13⟩
  | true =>
    obtain ⟨k, e3, rfl⟩ := inN_t h3
    rw [if_pos rfl, if_neg (by decide), cl_nI (by omega)]
    refine chg2 (rf_chg S D B w (k := 3) e1 e2 (by decide)) h13 fun hg => ?_
    have hk : kin σ p = 3 := of_b B e2 (chgG_n B hg).2.2
    have hm : cin σ h p k ≤ nc σ := cnt_le _ _
    have D1 : CD σ G x (kW d (PA G p + 2) (kno σ h p k 3)) := cd_kn S D e2 _
    rw [cf_97 S D e1, bd_v, kP_0 S e2, bd_v, c_timesIn S D B w e1 e2 e3 hk, bd2_v]
    by_cases g : cin σ h p k = 0
    · rw [g, if_pos (show nI 0 = 0 from rfl), if_pos rfl]
      exact oka_c h13 S (c_found S D1 (f := 2) (by decide))
    · rw [if_neg (nI_ne0 (by omega) (by omega)), if_neg g]
      exact oka_id (c_make S D1 B w h13 (w := 3) (a := k) e1 e2 (chgG_n B hg).1 e3 (by decide) 0)
theorem c_mor (S : CZ σ G x em sz ns sh) (D : CD σ G x d) (B : WB σ) (w : Wel σ) (h13 : cap G 13 = 0) {h p k a : Nat} (e1 : h < nh σ) (e2 : p < np σ) (hk : k < 8) (ha : a < 64) (v : Int64) : OKA (fX6_makeOfRights em mi x (some (HA G h)) (some (PA G p)) (nI (acC k)) (nI a) v sz ns sh d) x em (gte (chgG σ h p 5) (if v.toInt ≤ (rgt σ h p h).toInt then (nI (nc σ), makeS σ h p k a v) else (-3, mtS σ 2))) := by
  have b1 := B.1
  unfold fX6_makeOfRights fX6_makeOfRights_b0 fX6_makeOfRights_b52
  rw [kX_0 S, bd_v]
  refine chg2 (rf_chg S D B w (k := 5) e1 e2 (by decide)) h13 fun hg => ?_
  have hk5 : kin σ p = 5 := of_p B e2 (chgG_n B hg).2.2
  rw [bd_v, cf_97 S D e1, bd_v, cf_96 S D e1, bd_v, bd_v, kP_0 S e2, bd_v, c_rightsOf S D B w e1 e2 (by omega) (Or.inr hk5), bd_v]
  by_cases g : v.toInt ≤ (rgt σ h p h).toInt
  · rw [if_pos ((lg_ge0 _ _).mpr g), if_pos g]
    exact oka_id (c_make S D B w h13 e1 e2 (chgG_n B hg).1 ha hk v)
  · rw [if_neg (fun q => g ((lg_ge0 _ _).mp q)), if_neg g]
    exact oka_c h13 S (c_found S D (f := 2) (by decide))
theorem c_spend (S : CZ σ G x em sz ns sh) (D : CD σ G x d) (B : WB σ) (w : Wel σ) (h13 : cap G 13 = 0) (a1 a2 : Int32) (v : Int64) : OKA (fX6_spend em mi x a1 a2 v sz ns sh d) x em (spendV σ a1 a2 v) := by
  have b1 := B.1
  have b2 := B.2.1
  unfold fX6_spend fX6_spend_b0 fX6_spend_b44 spendV
  rw [kX_0 S, bd_v, c_handAt S D B, bd_v, c_pageAt S D B, bd_v]
  refine on_hpA S D h13 B fun h p e1 e2 g1 g2 => ?_
  subst g1 g2
  rw [cl_nI (by omega), cl_nI (by omega), c_isAmount, bd_v]
  cases hs : shr v with
  | false => exact ⟨_, _, _, d, G, rfl, S, D, h13⟩
  | true =>
    rw [if_neg (by decide), if_pos rfl]
    exact oka_id (c_mor S D B w h13 (k := 5) (a := 0) e1 e2 (by decide) (by decide) v)
theorem c_give (S : CZ σ G x em sz ns sh) (D : CD σ G x d) (B : WB σ) (w : Wel σ) (h13 : cap G 13 = 0) (a1 a2 a3 : Int32) (v : Int64) : OKA (fX6_give em mi x a1 a2 a3 v sz ns sh d) x em (giveV σ a1 a2 a3 v) := by
  have b1 := B.1
  have b2 := B.2.1
  unfold fX6_give fX6_give_b0 fX6_give_b59 giveV
  rw [kX_0 S, bd_v, c_handAt S D B, bd_v, c_pageAt S D B, bd_v]
  refine on_hpA S D h13 B fun h p e1 e2 g1 g2 => ?_
  subst g1 g2
  rw [cl_nI (by omega), cl_nI (by omega), c_handAt S D B, bd_v]
  cases h3 : inN a3 (nh σ) with
  | false => exact ⟨_, _, _, d, G, rfl, S, D, h13⟩
  | true =>
    obtain ⟨o, e3, rfl⟩ := inN_t h3
    rw [if_pos rfl, cl_nI (by omega), on_v, c_isAmount, bd_v]
    simp (disch := omega) only [nI_eq, Bool.true_and]
    by_cases g : h = o
    · rw [if_pos g, decide_eq_true g.symm]
      exact ⟨_, _, _, d, G, rfl, S, D, h13⟩
    · rw [if_neg g, decide_eq_false (fun q => g q.symm)]
      cases hs : shr v with
      | false => exact ⟨_, _, _, d, G, rfl, S, D, h13⟩
      | true =>
        rw [if_neg (by decide), if_pos (by decide)]
        exact oka_id (c_mor S D B w h13 (k := 4) (a := o) e1 e2 (by decide) (by omega) v)
theorem c_raise (S : CZ σ G x em sz ns sh) (D : CD σ G x d) (B : WB σ) (w : Wel σ) (h13 : cap G 13 = 0) (a1 a2 : Int32) (b : Bool) : OKA (fX6_raise em mi x a1 a2 (bI b) sz ns sh d) x em (raiseV σ a1 a2 b) := by
  have b1 := B.1
  have b2 := B.2.1
  unfold fX6_raise fX6_raise_b0 fX6_raise_b64 fX6_raise_b69 raiseV
  rw [kX_0 S, bd_v, c_handAt S D B, bd_v, c_pageAt S D B, bd_v]
  refine on_hpA S D h13 B fun h p e1 e2 g1 g2 => ?_
  subst g1 g2
  rw [if_pos rfl, cl_nI (by omega), cl_nI (by omega)]
  refine chg2 (rf_chg S D B w (k := 6) e1 e2 (by decide)) h13 fun hg => ?_
  cases b with
  | false =>
    rw [if_pos (show bI false = 0 from rfl), bd_v, if_neg (by decide)]
    exact oka_id (c_make S D B w h13 (w := 7) (a := 0) e1 e2 (chgG_n B hg).1 (by decide) (by decide) 0)
  | true =>
    rw [if_neg (by decide), bd_v, if_pos rfl]
    exact oka_id (c_make S D B w h13 (w := 6) (a := 0) e1 e2 (chgG_n B hg).1 (by decide) (by decide) 0)
end
