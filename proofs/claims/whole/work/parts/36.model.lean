/-! the reference's calls that change -/
section
variable {sh : Sh} {d : Dt}
theorem gR_uI {kd k a c b : Nat} {v : Int32} : gR sh (uI d c b v) kd k a = gR sh d kd k a := rfl
theorem gR_uL {kd k a c b : Nat} {v : Int64} : gR sh (uL d c b v) kd k a = gR sh d kd k a := rfl
theorem gR_uAI {kd k a c b : Nat} {v : Int32} : gR sh (uAI d c b v) kd k a = gR sh d kd k a := rfl
theorem gR_uAL {kd k a c b : Nat} {v : Int64} : gR sh (uAL d c b v) kd k a = gR sh d kd k a := rfl
theorem gI_uL {kd k a c b : Nat} {v : Int64} : gI sh (uL d c b v) kd k a = gI sh d kd k a := rfl
theorem gI_uAI {kd k a c b : Nat} {v : Int32} : gI sh (uAI d c b v) kd k a = gI sh d kd k a := rfl
theorem gI_uAL {kd k a c b : Nat} {v : Int64} : gI sh (uAL d c b v) kd k a = gI sh d kd k a := rfl
theorem gL_uI {kd k a c b : Nat} {v : Int32} : gL sh (uI d c b v) kd k a = gL sh d kd k a := rfl
theorem gL_uAI {kd k a c b : Nat} {v : Int32} : gL sh (uAI d c b v) kd k a = gL sh d kd k a := rfl
theorem gL_uAL {kd k a c b : Nat} {v : Int64} : gL sh (uAL d c b v) kd k a = gL sh d kd k a := rfl
end
theorem lt_m1 : (-1 : Int32) < 0 := by decide
theorem lt_m2 : (-2 : Int32) < 0 := by decide
theorem lt_m3 : (-3 : Int32) < 0 := by decide
theorem lt_m4 : (-4 : Int32) < 0 := by decide
def cl (x : Int32) : Nat := x.toNatClampNeg
theorem cl_nI {k : Nat} (h : k < 2 ^ 31) : cl (nI k) = k := nI_clamp h
def OKm (o : Option (Int32 × Dt)) (mm : Nat) (q : Int32 × St) : Prop := ∃ d', o = some (q.1, d') ∧ MD d' mm ∧ RM q.2 d' mm
def GT (o : Option (Int32 × Dt)) (d : Dt) (mm : Nat) (g : Option (Int32 × St)) : Prop := match g with
  | none => o = some (0, d)
  | some q => q.1 < 0 ∧ ∃ d', o = some (q.1, d') ∧ MD d' mm ∧ RM q.2 d' mm
def gte (g : Option (Int32 × St)) (k : Int32 × St) : Int32 × St := match g with
  | none => k
  | some q => q
theorem gate_m {o : Option (Int32 × Dt)} {d : Dt} {mm : Nat} {G : Option (Int32 × St)} {K : Int32 → Dt → Option (Int32 × Dt)} {q : Int32 × St} (g : GT o d mm G) (hK : G = none → OKm (K 0 d) mm q) : OKm (bd2 o (fun r d1 => if 0 ≤ r then K r d1 else some (r, d1))) mm (gte G q) := by
  cases G with
  | none =>
    have g : o = some (0, d) := g
    rw [g, bd2_v, if_pos (by decide)]
    exact hK rfl
  | some p =>
    obtain ⟨h1, d', h2, h3, h4⟩ := g
    rw [h2, bd2_v, if_neg (by rw [Int32.le_iff_toInt_le]; rw [Int32.lt_iff_toInt_lt] at h1; omega)]
    exact ⟨d', rfl, h3, h4⟩
theorem ok_id {o : Option (Int32 × Dt)} {mm : Nat} {q : Int32 × St} (h : OKm o mm q) : OKm (bd2 o (fun r d1 => some (r, d1))) mm q := by
  obtain ⟨d', h1, h2⟩ := h
  rw [h1]; exact ⟨d', rfl, h2⟩
def seeG (σ : St) (h p k : Nat) : Option (Int32 × St) := if skp σ h p then some (-3, mtS σ 1) else if isOfB (kin σ p) k then none else some (-3, mtS σ 3)
def needG (σ : St) (good : Bool) (a1 a2 : Int32) (k : Nat) : Option (Int32 × St) := if inN a1 (nh σ) && (inN a2 (np σ) && good) then seeG σ (cl a1) (cl a2) k else some (-1, σ)
def chgG (σ : St) (h p k : Nat) : Option (Int32 × St) := if nc σ = 400 then some (-2, σ) else if md σ h ≤ up σ h h then seeG σ h p k else some (-4, σ)
def nmkG (σ : St) (good : Bool) (a1 a2 : Int32) (k : Nat) : Option (Int32 × St) := if inN a1 (nh σ) && (inN a2 (np σ) && good) then chgG σ (cl a1) (cl a2) k else some (-1, σ)
theorem seeG_none {σ : St} {h p k : Nat} (g : seeG σ h p k = none) : skp σ h p = false ∧ isOfB (kin σ p) k = true := by
  unfold seeG at g
  cases h1 : skp σ h p with
  | true => rw [h1] at g; cases g
  | false =>
    rw [h1] at g
    cases h2 : isOfB (kin σ p) k with
    | false => rw [h2] at g; cases g
    | true => exact ⟨rfl, rfl⟩
theorem needG_none {σ : St} {good : Bool} {a1 a2 : Int32} {k : Nat} (g : needG σ good a1 a2 k = none) : good = true ∧ ∃ h p, h < nh σ ∧ p < np σ ∧ a1 = nI h ∧ a2 = nI p ∧ seeG σ (cl a1) (cl a2) k = none := by
  unfold needG at g
  cases h1 : inN a1 (nh σ) <;> cases h2 : inN a2 (np σ) <;> cases good <;> rw [h1, h2] at g <;> simp at g
  obtain ⟨h, e1, e2⟩ := inN_t h1
  obtain ⟨p, e3, e4⟩ := inN_t h2
  exact ⟨rfl, h, p, e1, e3, e2, e4, g⟩
theorem nmkG_none {σ : St} {good : Bool} {a1 a2 : Int32} {k : Nat} (g : nmkG σ good a1 a2 k = none) : good = true ∧ ∃ h p, h < nh σ ∧ p < np σ ∧ a1 = nI h ∧ a2 = nI p ∧ nc σ ≠ 400 ∧ md σ (cl a1) ≤ up σ (cl a1) (cl a1) ∧ seeG σ (cl a1) (cl a2) k = none := by
  unfold nmkG at g
  cases h1 : inN a1 (nh σ) <;> cases h2 : inN a2 (np σ) <;> cases good <;> rw [h1, h2] at g <;> simp at g
  obtain ⟨h, e1, e2⟩ := inN_t h1
  obtain ⟨p, e3, e4⟩ := inN_t h2
  unfold chgG at g
  by_cases h3 : nc σ = 400
  · rw [if_pos h3] at g; cases g
  · rw [if_neg h3] at g
    by_cases h4 : md σ (cl a1) ≤ up σ (cl a1) (cl a1)
    · rw [if_pos h4] at g
      exact ⟨rfl, h, p, e1, e3, e2, e4, h3, h4, g⟩
    · rw [if_neg h4] at g; cases g
def shr (v : Int64) : Bool := decide (0 ≤ v.toInt) && decide (v.toInt ≤ 1000000000)
theorem lg_lt0 (x y : Int64) : lg_cmp x y < 0 ↔ x.toInt < y.toInt := by
  unfold lg_cmp
  by_cases h1 : x > y
  · have h2 : y < x := h1
    rw [Int64.lt_iff_toInt_lt] at h2
    simp [h1]; omega
  · have h2 : ¬ y < x := h1
    rw [Int64.lt_iff_toInt_lt] at h2
    by_cases h3 : x = y
    · subst h3; simp
    · have h4 : x.toInt ≠ y.toInt := fun q => h3 (Int64.toInt_inj.mp q)
      simp [h1, h3]; omega
theorem lg_gt0 (x y : Int64) : 0 < lg_cmp x y ↔ y.toInt < x.toInt := by
  unfold lg_cmp
  by_cases h1 : x > y
  · have h2 : y < x := h1
    rw [Int64.lt_iff_toInt_lt] at h2
    simp [h1]; omega
  · have h2 : ¬ y < x := h1
    rw [Int64.lt_iff_toInt_lt] at h2
    by_cases h3 : x = y
    · subst h3; simp
    · simp [h1, h3]; omega
theorem lg_ge0 (x y : Int64) : 0 ≤ lg_cmp x y ↔ y.toInt ≤ x.toInt := by
  have := lg_lt0 x y
  rw [Int32.lt_iff_toInt_lt] at this
  rw [Int32.le_iff_toInt_le]
  have h0 : (0 : Int32).toInt = 0 := rfl
  rw [h0] at this ⊢
  omega
theorem lg_le0 (x y : Int64) : lg_cmp x y ≤ 0 ↔ x.toInt ≤ y.toInt := by
  have := lg_gt0 x y
  rw [Int32.lt_iff_toInt_lt] at this
  rw [Int32.le_iff_toInt_le]
  have h0 : (0 : Int32).toInt = 0 := rfl
  rw [h0] at this ⊢
  omega
section
variable {sh : Sh} {d : Dt} {mm : Nat} {σ : St}
theorem m_meets (S : MS sh mm) (E : MD d mm) (R : RM σ d mm) {f : Nat} (hf : f < 6) : OKm (fX7_meets sh d mm (nI f)) mm (-3, mtS σ f) := by
  refine ⟨uAI (uI d 288 mm (nI f)) (mm + 1) f (nI (cme σ f + 1)), ?_, E, ?_⟩
  · unfold fX7_meets fX7_meets_b0
    simp (disch := omega) only [bd_v, on_v, on_0, mk_9 S, mg_289 S E, mg_291 S E, mg_292 S E, mg_293 S E, mg_294 S E, mg_296 S E, mg_298 S E, mg_299 S E, mg_300 S E, mg_301 S E, mg_302 S E, mg_303 S E, mg_304 S E, mg_305 S E, mg_307 S E, mg_309 S E, mg_310 S E, mg_311 S E, mg_312 S E, mg_313 S E, mg_314 S E, mg_315 S E, mA_1 S, mA_2 S, mA_3 S, mA_4 S, mA_5 S, mA_6 S, mA_7 S, mA_8 S, mA_9 S, mA_10 S, mA_11 S, mA_12 S, mA_13 S, mA_14 S, mA_15 S, mA_16 S, mA_17 S, mA_18 S, mA_19 S, mA_20 S, mA_21 S, mA_22 S, mi_288 S, mi_290 S, mi_295 S, mi_297 S, mi_308 S, mi_306 S, rm_nh R, rm_np R, rm_nc R, rm_lat R, rm_ask R, rm_kin R, rm_mk R, rm_pg R, rm_ct R, rm_ac R, rm_ax R, rm_vl R, rm_skp R, rm_md R, rm_lm R, rm_thr R, rm_lf R, rm_cme R, z_0, z_1, z_2, z_3, z_4, z_5, z_6, z_7, z_8, z_10, z_16, z_17, z_31, z_63, z_64, z_400, nI_add, pk_mul, nI_eq, nI_leI, nI_ltI, bI_z, nI_m9, bI_m9, bd2_v, gR_uI, gR_uL, gR_uAI, gR_uAL, gI_uL, gI_uAI, gI_uAL, gL_uI, gL_uAI, gL_uAL, r_ai_I, r_ai_L, r_ai_AL, r_al_I, r_al_L, r_al_AI, r_fi_L, r_fi_AI, r_fi_AL, r_fl_I, r_fl_AI, r_fl_AL, fi_ne, fi_eq, fl_eq, ai_ne, ai_n2, ai_eq, al_ne, al_n2, al_eq, mW_1 S, mW_2 S, mW_3 S, mW_4 S, mW_5 S, mW_6 S, mW_7 S, mW_8 S, mW_9 S, mW_10 S, mW_11 S, mW_12 S, mW_13 S, mW_14 S, mW_15 S, mW_16 S, mW_17 S, mW_18 S, mW_19 S, mW_20 S, mW_21 S, mW_22 S, mp_288 S, mp_290 S, mp_295 S, mp_297 S, mp_308 S, mp_306 S]
  · exact rm_w_cme (rm_w_lat R)
theorem m_needSee (S : MS sh mm) (E : MD d mm) (R : RM σ d mm) (B : WB σ) {h p k : Nat} (hh : h < nh σ) (hp : p < np σ) (hk : k < 8) : GT (fX7_needSee sh d mm (nI h) (nI p) (nI k)) d mm (seeG σ h p k) := by
  have b1 := B.1
  have b2 := B.2.1
  obtain ⟨d1, e1, m1⟩ := m_meets S E R (f := 1) (by omega)
  obtain ⟨d3, e3, m3⟩ := m_meets S E R (f := 3) (by omega)
  unfold fX7_needSee fX7_needSee_b0 seeG
  simp (disch := omega) only [bd_v, on_v, on_0, mk_9 S, mg_289 S E, mg_291 S E, mg_292 S E, mg_293 S E, mg_294 S E, mg_296 S E, mg_298 S E, mg_299 S E, mg_300 S E, mg_301 S E, mg_302 S E, mg_303 S E, mg_304 S E, mg_305 S E, mg_307 S E, mg_309 S E, mg_310 S E, mg_311 S E, mg_312 S E, mg_313 S E, mg_314 S E, mg_315 S E, mA_1 S, mA_2 S, mA_3 S, mA_4 S, mA_5 S, mA_6 S, mA_7 S, mA_8 S, mA_9 S, mA_10 S, mA_11 S, mA_12 S, mA_13 S, mA_14 S, mA_15 S, mA_16 S, mA_17 S, mA_18 S, mA_19 S, mA_20 S, mA_21 S, mA_22 S, mi_288 S, mi_290 S, mi_295 S, mi_297 S, mi_308 S, mi_306 S, rm_nh R, rm_np R, rm_nc R, rm_lat R, rm_ask R, rm_kin R, rm_mk R, rm_pg R, rm_ct R, rm_ac R, rm_ax R, rm_vl R, rm_skp R, rm_md R, rm_lm R, rm_thr R, rm_lf R, rm_cme R, z_0, z_1, z_2, z_3, z_4, z_5, z_6, z_7, z_8, z_10, z_16, z_17, z_31, z_63, z_64, z_400, nI_add, pk_mul, nI_eq, nI_leI, nI_ltI, bI_z, nI_m9, bI_m9, bd2_v, gR_uI, gR_uL, gR_uAI, gR_uAL, gI_uL, gI_uAI, gI_uAL, gL_uI, gL_uAI, gL_uAL, r_ai_I, r_ai_L, r_ai_AL, r_al_I, r_al_L, r_al_AI, r_fi_L, r_fi_AI, r_fi_AL, r_fl_I, r_fl_AI, r_fl_AL, fi_ne, fi_eq, fl_eq, ai_ne, ai_n2, ai_eq, al_ne, al_n2, al_eq, mW_1 S, mW_2 S, mW_3 S, mW_4 S, mW_5 S, mW_6 S, mW_7 S, mW_8 S, mW_9 S, mW_10 S, mW_11 S, mW_12 S, mW_13 S, mW_14 S, mW_15 S, mW_16 S, mW_17 S, mW_18 S, mW_19 S, mW_20 S, mW_21 S, mW_22 S, mp_288 S, mp_290 S, mp_295 S, mp_297 S, mp_308 S, mp_306 S, m_isOf S E R B, e1, e3]
  cases h1 : skp σ h p with
  | true => simp only [if_true]; exact ⟨lt_m3, d1, rfl, m1⟩
  | false =>
    cases h2 : isOfB (kin σ p) k with
    | true => simp [GT, nI]
    | false => simp only [if_true]; exact ⟨lt_m3, d3, rfl, m3⟩
theorem m_need (S : MS sh mm) (E : MD d mm) (R : RM σ d mm) (B : WB σ) (good : Bool) (a1 a2 : Int32) {k : Nat} (hk : k < 8) : GT (fX7_need sh d mm (bI good) a1 a2 (nI k)) d mm (needG σ good a1 a2 k) := by
  have b1 := B.1
  have b2 := B.2.1
  unfold fX7_need fX7_need_b0 needG
  simp (disch := omega) only [bd_v, on_v, on_0, mk_9 S, mg_289 S E, mg_291 S E, mg_292 S E, mg_293 S E, mg_294 S E, mg_296 S E, mg_298 S E, mg_299 S E, mg_300 S E, mg_301 S E, mg_302 S E, mg_303 S E, mg_304 S E, mg_305 S E, mg_307 S E, mg_309 S E, mg_310 S E, mg_311 S E, mg_312 S E, mg_313 S E, mg_314 S E, mg_315 S E, mA_1 S, mA_2 S, mA_3 S, mA_4 S, mA_5 S, mA_6 S, mA_7 S, mA_8 S, mA_9 S, mA_10 S, mA_11 S, mA_12 S, mA_13 S, mA_14 S, mA_15 S, mA_16 S, mA_17 S, mA_18 S, mA_19 S, mA_20 S, mA_21 S, mA_22 S, mi_288 S, mi_290 S, mi_295 S, mi_297 S, mi_308 S, mi_306 S, rm_nh R, rm_np R, rm_nc R, rm_lat R, rm_ask R, rm_kin R, rm_mk R, rm_pg R, rm_ct R, rm_ac R, rm_ax R, rm_vl R, rm_skp R, rm_md R, rm_lm R, rm_thr R, rm_lf R, rm_cme R, z_0, z_1, z_2, z_3, z_4, z_5, z_6, z_7, z_8, z_10, z_16, z_17, z_31, z_63, z_64, z_400, nI_add, pk_mul, nI_eq, nI_leI, nI_ltI, bI_z, nI_m9, bI_m9, bd2_v, gR_uI, gR_uL, gR_uAI, gR_uAL, gI_uL, gI_uAI, gI_uAL, gL_uI, gL_uAI, gL_uAL, r_ai_I, r_ai_L, r_ai_AL, r_al_I, r_al_L, r_al_AI, r_fi_L, r_fi_AI, r_fi_AL, r_fl_I, r_fl_AI, r_fl_AL, fi_ne, fi_eq, fl_eq, ai_ne, ai_n2, ai_eq, al_ne, al_n2, al_eq, mW_1 S, mW_2 S, mW_3 S, mW_4 S, mW_5 S, mW_6 S, mW_7 S, mW_8 S, mW_9 S, mW_10 S, mW_11 S, mW_12 S, mW_13 S, mW_14 S, mW_15 S, mW_16 S, mW_17 S, mW_18 S, mW_19 S, mW_20 S, mW_21 S, mW_22 S, mp_288 S, mp_290 S, mp_295 S, mp_297 S, mp_308 S, mp_306 S, m_isHand S R B, m_isPage S R B]
  cases h1 : inN a1 (nh σ) with
  | false => exact ⟨lt_m1, d, rfl, E, R⟩
  | true =>
    cases h2 : inN a2 (np σ) with
    | false => exact ⟨lt_m1, d, rfl, E, R⟩
    | true =>
      cases good with
      | false => exact ⟨lt_m1, d, rfl, E, R⟩
      | true =>
        obtain ⟨h, e1, rfl⟩ := inN_t h1
        obtain ⟨p, e2, rfl⟩ := inN_t h2
        have g := m_needSee S E R B e1 e2 hk
        simp only [Bool.true_eq_false, if_false, Bool.and_self, if_true, cl_nI (show h < 2 ^ 31 by omega), cl_nI (show p < 2 ^ 31 by omega)]
        cases hg : seeG σ h p k with
        | none => rw [hg] at g; have g : _ = _ := g; rw [g]; rfl
        | some q =>
          rw [hg] at g
          obtain ⟨g1, d', g2, g3⟩ := g
          exact ⟨g1, d', by rw [g2]; rfl, g3⟩
theorem m_needMake (S : MS sh mm) (E : MD d mm) (R : RM σ d mm) (B : WB σ) (w : Wel σ) (good : Bool) (a1 a2 : Int32) {k : Nat} (hk : k < 8) : GT (fX7_needMake sh d mm (bI good) a1 a2 (nI k)) d mm (nmkG σ good a1 a2 k) := by
  have b1 := B.1
  have b2 := B.2.1
  have b3 := B.2.2.1
  unfold fX7_needMake fX7_needMake_b0 nmkG
  simp (disch := omega) only [bd_v, on_v, on_0, mk_9 S, mg_289 S E, mg_291 S E, mg_292 S E, mg_293 S E, mg_294 S E, mg_296 S E, mg_298 S E, mg_299 S E, mg_300 S E, mg_301 S E, mg_302 S E, mg_303 S E, mg_304 S E, mg_305 S E, mg_307 S E, mg_309 S E, mg_310 S E, mg_311 S E, mg_312 S E, mg_313 S E, mg_314 S E, mg_315 S E, mA_1 S, mA_2 S, mA_3 S, mA_4 S, mA_5 S, mA_6 S, mA_7 S, mA_8 S, mA_9 S, mA_10 S, mA_11 S, mA_12 S, mA_13 S, mA_14 S, mA_15 S, mA_16 S, mA_17 S, mA_18 S, mA_19 S, mA_20 S, mA_21 S, mA_22 S, mi_288 S, mi_290 S, mi_295 S, mi_297 S, mi_308 S, mi_306 S, rm_nh R, rm_np R, rm_nc R, rm_lat R, rm_ask R, rm_kin R, rm_mk R, rm_pg R, rm_ct R, rm_ac R, rm_ax R, rm_vl R, rm_skp R, rm_md R, rm_lm R, rm_thr R, rm_lf R, rm_cme R, z_0, z_1, z_2, z_3, z_4, z_5, z_6, z_7, z_8, z_10, z_16, z_17, z_31, z_63, z_64, z_400, nI_add, pk_mul, nI_eq, nI_leI, nI_ltI, bI_z, nI_m9, bI_m9, bd2_v, gR_uI, gR_uL, gR_uAI, gR_uAL, gI_uL, gI_uAI, gI_uAL, gL_uI, gL_uAI, gL_uAL, r_ai_I, r_ai_L, r_ai_AL, r_al_I, r_al_L, r_al_AI, r_fi_L, r_fi_AI, r_fi_AL, r_fl_I, r_fl_AI, r_fl_AL, fi_ne, fi_eq, fl_eq, ai_ne, ai_n2, ai_eq, al_ne, al_n2, al_eq, mW_1 S, mW_2 S, mW_3 S, mW_4 S, mW_5 S, mW_6 S, mW_7 S, mW_8 S, mW_9 S, mW_10 S, mW_11 S, mW_12 S, mW_13 S, mW_14 S, mW_15 S, mW_16 S, mW_17 S, mW_18 S, mW_19 S, mW_20 S, mW_21 S, mW_22 S, mp_288 S, mp_290 S, mp_295 S, mp_297 S, mp_308 S, mp_306 S, m_isHand S R B, m_isPage S R B]
  cases h1 : inN a1 (nh σ) with
  | false => exact ⟨lt_m1, d, rfl, E, R⟩
  | true =>
    cases h2 : inN a2 (np σ) with
    | false => exact ⟨lt_m1, d, rfl, E, R⟩
    | true =>
      cases good with
      | false => exact ⟨lt_m1, d, rfl, E, R⟩
      | true =>
        obtain ⟨h, e1, rfl⟩ := inN_t h1
        obtain ⟨p, e2, rfl⟩ := inN_t h2
        have g := m_needSee S E R B e1 e2 hk
        have hm := (B.2.2.2.2.2 h (by omega)).2
        have ho : up σ h h ≤ 400 := Nat.le_trans ((w.2.1 h (by omega)).2.2 h (by omega)) hm
        simp (disch := omega) only [Bool.true_eq_false, if_false, Bool.and_self, if_true, cl_nI, m_ownOf S E R B, own_up w, bd_v, on_v, on_0, mk_9 S, mg_289 S E, mg_291 S E, mg_292 S E, mg_293 S E, mg_294 S E, mg_296 S E, mg_298 S E, mg_299 S E, mg_300 S E, mg_301 S E, mg_302 S E, mg_303 S E, mg_304 S E, mg_305 S E, mg_307 S E, mg_309 S E, mg_310 S E, mg_311 S E, mg_312 S E, mg_313 S E, mg_314 S E, mg_315 S E, mA_1 S, mA_2 S, mA_3 S, mA_4 S, mA_5 S, mA_6 S, mA_7 S, mA_8 S, mA_9 S, mA_10 S, mA_11 S, mA_12 S, mA_13 S, mA_14 S, mA_15 S, mA_16 S, mA_17 S, mA_18 S, mA_19 S, mA_20 S, mA_21 S, mA_22 S, mi_288 S, mi_290 S, mi_295 S, mi_297 S, mi_308 S, mi_306 S, rm_nh R, rm_np R, rm_nc R, rm_lat R, rm_ask R, rm_kin R, rm_mk R, rm_pg R, rm_ct R, rm_ac R, rm_ax R, rm_vl R, rm_skp R, rm_md R, rm_lm R, rm_thr R, rm_lf R, rm_cme R, z_0, z_1, z_2, z_3, z_4, z_5, z_6, z_7, z_8, z_10, z_16, z_17, z_31, z_63, z_64, z_400, nI_add, pk_mul, nI_eq, nI_leI, nI_ltI, bI_z, nI_m9, bI_m9, bd2_v, gR_uI, gR_uL, gR_uAI, gR_uAL, gI_uL, gI_uAI, gI_uAL, gL_uI, gL_uAI, gL_uAL, r_ai_I, r_ai_L, r_ai_AL, r_al_I, r_al_L, r_al_AI, r_fi_L, r_fi_AI, r_fi_AL, r_fl_I, r_fl_AI, r_fl_AL, fi_ne, fi_eq, fl_eq, ai_ne, ai_n2, ai_eq, al_ne, al_n2, al_eq, mW_1 S, mW_2 S, mW_3 S, mW_4 S, mW_5 S, mW_6 S, mW_7 S, mW_8 S, mW_9 S, mW_10 S, mW_11 S, mW_12 S, mW_13 S, mW_14 S, mW_15 S, mW_16 S, mW_17 S, mW_18 S, mW_19 S, mW_20 S, mW_21 S, mW_22 S, mp_288 S, mp_290 S, mp_295 S, mp_297 S, mp_308 S, mp_306 S]
        unfold chgG
        by_cases h3 : nc σ = 400
        · rw [if_pos h3, if_pos h3]; exact ⟨lt_m2, d, rfl, E, R⟩
        · rw [if_neg h3, if_neg h3]
          by_cases h4 : md σ h ≤ up σ h h
          · rw [if_pos h4, if_pos h4]
            cases hg : seeG σ h p k with
            | none => rw [hg] at g; have g : _ = _ := g; rw [g]; rfl
            | some q =>
              rw [hg] at g
              obtain ⟨g1, d', g2, g3⟩ := g
              exact ⟨g1, d', by rw [g2]; rfl, g3⟩
          · rw [if_neg h4, if_neg h4]; exact ⟨lt_m4, d, rfl, E, R⟩
/-- entering -/
theorem m_enter {a s c : Nat} (h1 : sh.1 a = 21) (h2 : 7 * s + c / 64 < sh.2 a) (h3 : sh.2 a ≤ 2800) (hc : c < 448) : fX7_enter sh d (some a) (nI s) (nI c) = some (uAL d a (7 * s + c / 64) (dal d a (7 * s + c / 64) ||| ((1 : Int64) <<< ((nI (c % 64)).toInt64 &&& 63)))) := by
  unfold fX7_enter fX7_enter_b0
  rw [bd_v, ix7 hc, aL_v h1 h2 (by omega), bd_v, md7 hc, sL_v h1 h2 (by omega), bd_v]
theorem m_leave {a s c : Nat} (h1 : sh.1 a = 21) (h2 : 7 * s + c / 64 < sh.2 a) (h3 : sh.2 a ≤ 2800) (hc : c < 448) : fX7_leave sh d (some a) (nI s) (nI c) = some (uAL d a (7 * s + c / 64) (dal d a (7 * s + c / 64) &&& (((1 : Int64) <<< ((nI (c % 64)).toInt64 &&& 63)) ^^^ (-1 : Int64)))) := by
  unfold fX7_leave fX7_leave_b0
  rw [bd_v, ix7 hc, aL_v h1 h2 (by omega), bd_v, md7 hc, sL_v h1 h2 (by omega), bd_v]
/-- what a new CHANGE does to the sets -/
theorem has_make1 (w : Wel σ) {h p k a x : Nat} {v : Int64} (hh : h < 6) (hx : x < 6) (e : Nat) : has (make1 σ h p k a v) x e = has σ x e := by
  rw [Bool.eq_iff_iff, has_iff, has_iff]
  show (e < nc σ + 1 ∧ u1 (od σ) (nc σ) (md σ h + 1) e ≤ up σ x (u1 (mk σ) (nc σ) h e)) ↔ _
  by_cases he : e = nc σ
  · subst he
    rw [u1_s, u1_s]
    have := (w.2.1 x hx).2.2 h hh
    omega
  · rw [u1_n _ _ he, u1_n _ _ he]; omega
theorem kn_make1 {h p k a : Nat} {v : Int64} {c : Nat} (hc : c < nc σ) (e : Nat) : kn (make1 σ h p k a v) c e = kn σ c e := by
  rw [Bool.eq_iff_iff, kn_iff, kn_iff]
  show (e < c ∧ u1 (od σ) (nc σ) (md σ h + 1) e ≤ (if c = nc σ then up σ h (u1 (mk σ) (nc σ) h e) else ku σ c (u1 (mk σ) (nc σ) h e))) ↔ _
  rw [if_neg (by omega)]
  by_cases he : e < c
  · rw [u1_n _ _ (by omega), u1_n _ _ (by omega)]
  · exact ⟨fun q => absurd q.1 he, fun q => absurd q.1 he⟩
theorem kn_make2 {h p k a : Nat} {v : Int64} (e : Nat) : kn (make1 σ h p k a v) (nc σ) e = has σ h e := by
  rw [Bool.eq_iff_iff, kn_iff, has_iff]
  show (e < nc σ ∧ u1 (od σ) (nc σ) (md σ h + 1) e ≤ (if nc σ = nc σ then up σ h (u1 (mk σ) (nc σ) h e) else ku σ (nc σ) (u1 (mk σ) (nc σ) h e))) ↔ _
  rw [if_pos rfl]
  by_cases he : e < nc σ
  · rw [u1_n _ _ (by omega), u1_n _ _ (by omega)]
  · exact ⟨fun q => absurd q.1 he, fun q => absurd q.1 he⟩
theorem has_make (w : Wel σ) {h p k a x : Nat} {v : Int64} (hh : h < 6) (hx : x < 6) (hu : md σ h ≤ up σ h h) (e : Nat) : has (make2 σ h p k a v) x e = (has σ x e || decide (x = h ∧ e = nc σ)) := by
  rw [Bool.eq_iff_iff, Bool.or_eq_true, has_iff, has_iff, decide_eq_true_eq]
  show (e < nc σ + 1 ∧ u1 (od σ) (nc σ) (md σ h + 1) e ≤ (if x = h ∧ u1 (mk σ) (nc σ) h e = h then md σ h + 1 else up σ x (u1 (mk σ) (nc σ) h e))) ↔ _
  by_cases he : e = nc σ
  · subst he
    rw [u1_s, u1_s]
    by_cases hx2 : x = h
    · subst hx2; simp
    · have := (w.2.1 x hx).2.2 h hh
      rw [if_neg (fun q => hx2 q.1)]
      constructor
      · intro q; omega
      · intro q; omega
  · rw [u1_n _ _ he, u1_n _ _ he]
    by_cases hx2 : x = h ∧ mk σ e = h
    · obtain ⟨rfl, hm⟩ := hx2
      rw [if_pos ⟨rfl, hm⟩, hm]
      have h9 := (w.2.1 x hh).1
      by_cases he2 : e < nc σ
      · have h1 := w_od w he2
        have h2 := mb_lt σ he2 hm
        rw [hm] at h1
        omega
      · omega
    · rw [if_neg hx2]; omega
theorem rm_make1 (R : RM σ d mm) (w : Wel σ) {h p k a : Nat} {v : Int64} (hh : h < 6) (x7 : dai d (mm + 7) (nc σ) = nI h) (x8 : dai d (mm + 8) (nc σ) = nI p) (x9 : dai d (mm + 9) (nc σ) = nI (1 + gc σ h)) (x10 : dai d (mm + 10) (nc σ) = nI k) (x11 : dai d (mm + 11) (nc σ) = nI a) (x13 : dal d (mm + 13) (nc σ) = v) (x14 : ∀ i, i < 7 → dal d (mm + 14) (7 * nc σ + i) = dal d (mm + 2) (7 * h + i)) : RM (make1 σ h p k a v) (uI d 297 mm (nI (nc σ + 1))) mm := by
  refine ⟨⟨(fi_ne (by decide)).trans R.1.1, (fi_ne (by decide)).trans R.1.2.1, fi_eq, (fi_ne (by decide)).trans R.1.2.2.2.1, R.1.2.2.2.2⟩, R.2.1, fun c hc => ?_, fun c hc e he => ?_, fun x hx e he => ?_, R.2.2.2.2.2.1, R.2.2.2.2.2.2.1, R.2.2.2.2.2.2.2.1, R.2.2.2.2.2.2.2.2⟩
  · show dai d (mm + 7) c = nI (u1 (mk σ) (nc σ) h c) ∧ dai d (mm + 8) c = nI (u1 (pg σ) (nc σ) p c) ∧ dai d (mm + 9) c = nI (u1 (ct σ) (nc σ) (1 + gc σ h) c) ∧ dai d (mm + 10) c = nI (u1 (ac σ) (nc σ) k c) ∧ dai d (mm + 11) c = nI (u1 (ax σ) (nc σ) a c) ∧ dal d (mm + 13) c = u1 (vl σ) (nc σ) v c
    by_cases e : c = nc σ
    · subst e
      simp only [u1_s]
      exact ⟨x7, x8, x9, x10, x11, x13⟩
    · have hc2 : c < nc σ := Nat.lt_of_le_of_ne (Nat.lt_succ_iff.mp hc) e
      simp only [u1_n _ _ e]
      exact R.2.2.1 c hc2
  · show bitL (dal d (mm + 14) (7 * c + e / 64)) (e % 64) = _
    by_cases g : c = nc σ
    · subst g
      rw [kn_make2, x14 (e / 64) (by omega)]
      exact R.2.2.2.2.1 h hh e he
    · have hc2 : c < nc σ := Nat.lt_of_le_of_ne (Nat.lt_succ_iff.mp hc) g
      rw [kn_make1 hc2]
      exact R.2.2.2.1 c hc2 e he
  · rw [has_make1 w hh hx]
    exact R.2.2.2.2.1 x hx e he
theorem m_make (S : MS sh mm) (E : MD d mm) (R : RM σ d mm) (B : WB σ) (w : Wel σ) {h p k a : Nat} (hh : h < nh σ) (hn : nc σ ≠ 400) (hu : md σ h ≤ up σ h h) (v : Int64) : OKm (fX7_make sh d mm (nI h) (nI p) (nI k) (nI a) (nI 0) v) mm (nI (nc σ), makeS σ h p k a v) := by
  have b1 := B.1
  have b3 := B.2.2.1
  have hgc := (w.2.1 h (by omega)).2.1
  unfold fX7_make fX7_make_b0
  simp (disch := omega) only [bd_v, on_v, on_0, mk_9 S, mg_289 S E, mg_291 S E, mg_292 S E, mg_293 S E, mg_294 S E, mg_296 S E, mg_298 S E, mg_299 S E, mg_300 S E, mg_301 S E, mg_302 S E, mg_303 S E, mg_304 S E, mg_305 S E, mg_307 S E, mg_309 S E, mg_310 S E, mg_311 S E, mg_312 S E, mg_313 S E, mg_314 S E, mg_315 S E, mA_1 S, mA_2 S, mA_3 S, mA_4 S, mA_5 S, mA_6 S, mA_7 S, mA_8 S, mA_9 S, mA_10 S, mA_11 S, mA_12 S, mA_13 S, mA_14 S, mA_15 S, mA_16 S, mA_17 S, mA_18 S, mA_19 S, mA_20 S, mA_21 S, mA_22 S, mi_288 S, mi_290 S, mi_295 S, mi_297 S, mi_308 S, mi_306 S, rm_nh R, rm_np R, rm_nc R, rm_lat R, rm_ask R, rm_kin R, rm_mk R, rm_pg R, rm_ct R, rm_ac R, rm_ax R, rm_vl R, rm_skp R, rm_md R, rm_lm R, rm_thr R, rm_lf R, rm_cme R, z_0, z_1, z_2, z_3, z_4, z_5, z_6, z_7, z_8, z_10, z_16, z_17, z_31, z_63, z_64, z_400, nI_add, pk_mul, nI_eq, nI_leI, nI_ltI, bI_z, nI_m9, bI_m9, bd2_v, gR_uI, gR_uL, gR_uAI, gR_uAL, gI_uL, gI_uAI, gI_uAL, gL_uI, gL_uAI, gL_uAL, r_ai_I, r_ai_L, r_ai_AL, r_al_I, r_al_L, r_al_AI, r_fi_L, r_fi_AI, r_fi_AL, r_fl_I, r_fl_AI, r_fl_AL, fi_ne, fi_eq, fl_eq, ai_ne, ai_n2, ai_eq, al_ne, al_n2, al_eq, mW_1 S, mW_2 S, mW_3 S, mW_4 S, mW_5 S, mW_6 S, mW_7 S, mW_8 S, mW_9 S, mW_10 S, mW_11 S, mW_12 S, mW_13 S, mW_14 S, mW_15 S, mW_16 S, mW_17 S, mW_18 S, mW_19 S, mW_20 S, mW_21 S, mW_22 S, mp_288 S, mp_290 S, mp_295 S, mp_297 S, mp_308 S, mp_306 S, m_greatestCount S E R B]
  rw [← hgc]
  generalize hd1 : uAL (uAI (uAI (uAI (uAI (uAI (uAI d (mm + 7) (nc σ) (nI h)) (mm + 8) (nc σ) (nI p)) (mm + 9) (nc σ) (nI (1 + gc σ h))) (mm + 10) (nc σ) (nI k)) (mm + 11) (nc σ) (nI a)) (mm + 12) (nc σ) (nI 0)) (mm + 13) (nc σ) v = d1
  have E1 : MD d1 mm := by rw [← hd1]; exact E
  have R1 : RM σ d1 mm := by
    rw [← hd1]
    exact rm_w_13 (by omega) (rm_w_12 (rm_w_11 (by omega) (rm_w_10 (by omega) (rm_w_9 (by omega) (rm_w_8 (by omega) (rm_w_7 (by omega) R))))))
  have x7 : dai d1 (mm + 7) (nc σ) = nI h := by rw [← hd1]; simp (disch := omega) only [bd2_v, gR_uI, gR_uL, gR_uAI, gR_uAL, gI_uL, gI_uAI, gI_uAL, gL_uI, gL_uAI, gL_uAL, r_ai_I, r_ai_L, r_ai_AL, r_al_I, r_al_L, r_al_AI, r_fi_L, r_fi_AI, r_fi_AL, r_fl_I, r_fl_AI, r_fl_AL, fi_ne, fi_eq, fl_eq, ai_ne, ai_n2, ai_eq, al_ne, al_n2, al_eq, mW_1 S, mW_2 S, mW_3 S, mW_4 S, mW_5 S, mW_6 S, mW_7 S, mW_8 S, mW_9 S, mW_10 S, mW_11 S, mW_12 S, mW_13 S, mW_14 S, mW_15 S, mW_16 S, mW_17 S, mW_18 S, mW_19 S, mW_20 S, mW_21 S, mW_22 S, mp_288 S, mp_290 S, mp_295 S, mp_297 S, mp_308 S, mp_306 S]
  have x8 : dai d1 (mm + 8) (nc σ) = nI p := by rw [← hd1]; simp (disch := omega) only [bd2_v, gR_uI, gR_uL, gR_uAI, gR_uAL, gI_uL, gI_uAI, gI_uAL, gL_uI, gL_uAI, gL_uAL, r_ai_I, r_ai_L, r_ai_AL, r_al_I, r_al_L, r_al_AI, r_fi_L, r_fi_AI, r_fi_AL, r_fl_I, r_fl_AI, r_fl_AL, fi_ne, fi_eq, fl_eq, ai_ne, ai_n2, ai_eq, al_ne, al_n2, al_eq, mW_1 S, mW_2 S, mW_3 S, mW_4 S, mW_5 S, mW_6 S, mW_7 S, mW_8 S, mW_9 S, mW_10 S, mW_11 S, mW_12 S, mW_13 S, mW_14 S, mW_15 S, mW_16 S, mW_17 S, mW_18 S, mW_19 S, mW_20 S, mW_21 S, mW_22 S, mp_288 S, mp_290 S, mp_295 S, mp_297 S, mp_308 S, mp_306 S]
  have x9 : dai d1 (mm + 9) (nc σ) = nI (1 + gc σ h) := by rw [← hd1]; simp (disch := omega) only [bd2_v, gR_uI, gR_uL, gR_uAI, gR_uAL, gI_uL, gI_uAI, gI_uAL, gL_uI, gL_uAI, gL_uAL, r_ai_I, r_ai_L, r_ai_AL, r_al_I, r_al_L, r_al_AI, r_fi_L, r_fi_AI, r_fi_AL, r_fl_I, r_fl_AI, r_fl_AL, fi_ne, fi_eq, fl_eq, ai_ne, ai_n2, ai_eq, al_ne, al_n2, al_eq, mW_1 S, mW_2 S, mW_3 S, mW_4 S, mW_5 S, mW_6 S, mW_7 S, mW_8 S, mW_9 S, mW_10 S, mW_11 S, mW_12 S, mW_13 S, mW_14 S, mW_15 S, mW_16 S, mW_17 S, mW_18 S, mW_19 S, mW_20 S, mW_21 S, mW_22 S, mp_288 S, mp_290 S, mp_295 S, mp_297 S, mp_308 S, mp_306 S]
  have x10 : dai d1 (mm + 10) (nc σ) = nI k := by rw [← hd1]; simp (disch := omega) only [bd2_v, gR_uI, gR_uL, gR_uAI, gR_uAL, gI_uL, gI_uAI, gI_uAL, gL_uI, gL_uAI, gL_uAL, r_ai_I, r_ai_L, r_ai_AL, r_al_I, r_al_L, r_al_AI, r_fi_L, r_fi_AI, r_fi_AL, r_fl_I, r_fl_AI, r_fl_AL, fi_ne, fi_eq, fl_eq, ai_ne, ai_n2, ai_eq, al_ne, al_n2, al_eq, mW_1 S, mW_2 S, mW_3 S, mW_4 S, mW_5 S, mW_6 S, mW_7 S, mW_8 S, mW_9 S, mW_10 S, mW_11 S, mW_12 S, mW_13 S, mW_14 S, mW_15 S, mW_16 S, mW_17 S, mW_18 S, mW_19 S, mW_20 S, mW_21 S, mW_22 S, mp_288 S, mp_290 S, mp_295 S, mp_297 S, mp_308 S, mp_306 S]
  have x11 : dai d1 (mm + 11) (nc σ) = nI a := by rw [← hd1]; simp (disch := omega) only [bd2_v, gR_uI, gR_uL, gR_uAI, gR_uAL, gI_uL, gI_uAI, gI_uAL, gL_uI, gL_uAI, gL_uAL, r_ai_I, r_ai_L, r_ai_AL, r_al_I, r_al_L, r_al_AI, r_fi_L, r_fi_AI, r_fi_AL, r_fl_I, r_fl_AI, r_fl_AL, fi_ne, fi_eq, fl_eq, ai_ne, ai_n2, ai_eq, al_ne, al_n2, al_eq, mW_1 S, mW_2 S, mW_3 S, mW_4 S, mW_5 S, mW_6 S, mW_7 S, mW_8 S, mW_9 S, mW_10 S, mW_11 S, mW_12 S, mW_13 S, mW_14 S, mW_15 S, mW_16 S, mW_17 S, mW_18 S, mW_19 S, mW_20 S, mW_21 S, mW_22 S, mp_288 S, mp_290 S, mp_295 S, mp_297 S, mp_308 S, mp_306 S]
  have x13 : dal d1 (mm + 13) (nc σ) = v := by rw [← hd1]; simp (disch := omega) only [bd2_v, gR_uI, gR_uL, gR_uAI, gR_uAL, gI_uL, gI_uAI, gI_uAL, gL_uI, gL_uAI, gL_uAL, r_ai_I, r_ai_L, r_ai_AL, r_al_I, r_al_L, r_al_AI, r_fi_L, r_fi_AI, r_fi_AL, r_fl_I, r_fl_AI, r_fl_AL, fi_ne, fi_eq, fl_eq, ai_ne, ai_n2, ai_eq, al_ne, al_n2, al_eq, mW_1 S, mW_2 S, mW_3 S, mW_4 S, mW_5 S, mW_6 S, mW_7 S, mW_8 S, mW_9 S, mW_10 S, mW_11 S, mW_12 S, mW_13 S, mW_14 S, mW_15 S, mW_16 S, mW_17 S, mW_18 S, mW_19 S, mW_20 S, mW_21 S, mW_22 S, mp_288 S, mp_290 S, mp_295 S, mp_297 S, mp_308 S, mp_306 S]
  clear hd1 R E
  have key : ∀ (m j n : Nat) (d2 : Dt), j + m = 7 → m < n → MD d2 mm → RM σ d2 mm → dai d2 (mm + 7) (nc σ) = nI h → dai d2 (mm + 8) (nc σ) = nI p → dai d2 (mm + 9) (nc σ) = nI (1 + gc σ h) → dai d2 (mm + 10) (nc σ) = nI k → dai d2 (mm + 11) (nc σ) = nI a → dal d2 (mm + 13) (nc σ) = v → (∀ i, i < j → dal d2 (mm + 14) (7 * nc σ + i) = dal d2 (mm + 2) (7 * h + i)) → OKm (fX7_make_b78 sh n mm (nI h) (nI (nc σ)) (nI j) d2) mm (nI (nc σ), makeS σ h p k a v) := by
    intro m
    induction m with
    | zero =>
      intro j n d2 hj hn2 E2 R2 y7 y8 y9 y10 y11 y13 y14
      cases n with
      | zero => omega
      | succ n =>
        have e7 : j = 7 := by omega
        subst e7
        have M1 := rm_make1 R2 w (by omega) y7 y8 y9 y10 y11 y13 y14
        have q2 := S.2 2 (by decide) (by decide)
        have q2b : sh.2 (mm + 2) = 42 := q2.2
        have en : ∀ d : Dt, fX7_enter sh d (some (mm + 2)) (nI h) (nI (nc σ)) = _ := fun d => m_enter (d := d) q2.1 (by omega) (by omega) (show nc σ < 448 by omega)
        have M2 := rm_w_has (show nc σ < 448 by omega) (f := u2 (up σ) h h (md σ h + 1)) (h := h) (fun x hx e he => (has_make w (show h < 6 by omega) hx hu e).trans (by rw [has_make1 w (show h < 6 by omega) hx])) M1
        have M3 := rm_w_md (h := h) (v := md σ h + 1) M2
        refine ⟨_, ?_, ?_, rm_gc M3⟩
        rotate_left
        · exact E2
        simp only [fX7_make_b78]
        rw [if_pos (show (7 : Int32) ≤ nI 7 from by decide)]
        simp (disch := omega) only [mi_297 S, rm_nc R2, rm_md R2, bd_v, on_v, on_0, mk_9 S, mA_1 S, mA_2 S, mA_3 S, mA_4 S, mA_5 S, mA_6 S, mA_7 S, mA_8 S, mA_9 S, mA_10 S, mA_11 S, mA_12 S, mA_13 S, mA_14 S, mA_15 S, mA_16 S, mA_17 S, mA_18 S, mA_19 S, mA_20 S, mA_21 S, mA_22 S, mi_288 S, mi_290 S, mi_295 S, mi_297 S, mi_308 S, mi_306 S, z_0, z_1, z_2, z_3, z_4, z_5, z_6, z_7, z_8, z_10, z_16, z_17, z_31, z_63, z_64, z_400, nI_add, pk_mul, nI_eq, nI_leI, nI_ltI, bI_z, nI_m9, bI_m9, bd2_v, gR_uI, gR_uL, gR_uAI, gR_uAL, gI_uL, gI_uAI, gI_uAL, gL_uI, gL_uAI, gL_uAL, r_ai_I, r_ai_L, r_ai_AL, r_al_I, r_al_L, r_al_AI, r_fi_L, r_fi_AI, r_fi_AL, r_fl_I, r_fl_AI, r_fl_AL, fi_ne, fi_eq, fl_eq, ai_ne, ai_n2, ai_eq, al_ne, al_n2, al_eq, mW_1 S, mW_2 S, mW_3 S, mW_4 S, mW_5 S, mW_6 S, mW_7 S, mW_8 S, mW_9 S, mW_10 S, mW_11 S, mW_12 S, mW_13 S, mW_14 S, mW_15 S, mW_16 S, mW_17 S, mW_18 S, mW_19 S, mW_20 S, mW_21 S, mW_22 S, mp_288 S, mp_290 S, mp_295 S, mp_297 S, mp_308 S, mp_306 S, en, mg_291 S E2, mg_294 S E2]
    | succ m ih =>
      intro j n d2 hj hn2 E2 R2 y7 y8 y9 y10 y11 y13 y14
      cases n with
      | zero => omega
      | succ n =>
        simp (disch := omega) only [fX7_make_b78, bd_v, on_v, on_0, mk_9 S, mA_1 S, mA_2 S, mA_3 S, mA_4 S, mA_5 S, mA_6 S, mA_7 S, mA_8 S, mA_9 S, mA_10 S, mA_11 S, mA_12 S, mA_13 S, mA_14 S, mA_15 S, mA_16 S, mA_17 S, mA_18 S, mA_19 S, mA_20 S, mA_21 S, mA_22 S, mi_288 S, mi_290 S, mi_295 S, mi_297 S, mi_308 S, mi_306 S, z_0, z_1, z_2, z_3, z_4, z_5, z_6, z_7, z_8, z_10, z_16, z_17, z_31, z_63, z_64, z_400, nI_add, pk_mul, nI_eq, nI_leI, nI_ltI, bI_z, nI_m9, bI_m9, bd2_v, gR_uI, gR_uL, gR_uAI, gR_uAL, gI_uL, gI_uAI, gI_uAL, gL_uI, gL_uAI, gL_uAL, r_ai_I, r_ai_L, r_ai_AL, r_al_I, r_al_L, r_al_AI, r_fi_L, r_fi_AI, r_fi_AL, r_fl_I, r_fl_AI, r_fl_AL, fi_ne, fi_eq, fl_eq, ai_ne, ai_n2, ai_eq, al_ne, al_n2, al_eq, mW_1 S, mW_2 S, mW_3 S, mW_4 S, mW_5 S, mW_6 S, mW_7 S, mW_8 S, mW_9 S, mW_10 S, mW_11 S, mW_12 S, mW_13 S, mW_14 S, mW_15 S, mW_16 S, mW_17 S, mW_18 S, mW_19 S, mW_20 S, mW_21 S, mW_22 S, mp_288 S, mp_290 S, mp_295 S, mp_297 S, mp_308 S, mp_306 S, mg_291 S E2, mg_305 S E2]
        rw [if_neg (by omega)]
        refine ih (j + 1) n _ (by omega) (by omega) E2 (rm_w_14 (by omega) R2) y7 y8 y9 y10 y11 ((al_ne (by omega)).trans y13) (fun i hi => ?_)
        rw [al_ne (show mm + 2 ≠ mm + 14 by omega)]
        by_cases e : i = j
        · subst e; exact al_eq
        · rw [al_n2 (by omega)]; exact y14 i (by omega)
  exact key 7 0 fu d1 (by omega) (by decide) E1 R1 x7 x8 x9 x10 x11 x13 (fun i hi => by omega)
end
