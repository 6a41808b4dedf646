/-! what each call answers, and the reference's answers -/
def isV (σ : St) (a1 a2 : Int32) : Int32 := if inN a1 (np σ) && inN a2 8 then bI (isOfB (kin σ (cl a1)) (cl a2)) else -1
def allH (σ : St) (c : Nat) : Bool := !anyN (fun h => !has σ h c) (nh σ)
def changeV (σ : St) (a1 a2 : Int32) : Int32 := if inN a1 (nc σ) then (if a2 = 0 then nI (mk σ (cl a1)) else if a2 = 1 then nI (pg σ (cl a1)) else if a2 = 2 then nI (ct σ (cl a1)) else if a2 = 3 then nI (sm6 (ku σ (cl a1))) else if a2 = 4 then bI (allH σ (cl a1)) else -1) else -1
def knowsV (σ : St) (a1 a2 : Int32) : Int32 := if inN a1 (nc σ) && inN a2 (nc σ) then bI (kn σ (cl a1) (cl a2)) else -1
def toldV (σ : St) (a1 a2 : Int32) : Int32 := if inN a1 (nh σ) then (if a2 = 0 then nI (sm6 (up σ (cl a1))) else if a2 = 1 then nI (cnt (wt σ (cl a1)) (nc σ)) else if a2 = 2 then nI (gc σ (cl a1)) else if a2 = 3 then nI (up σ (cl a1) (cl a1)) else if a2 = 4 then nI (md σ (cl a1)) else -1) else -1
def hasV (σ : St) (a1 a2 : Int32) : Int32 := if inN a1 (nh σ) && inN a2 (nc σ) then (if has σ (cl a1) (cl a2) then 2 else if wt σ (cl a1) (cl a2) then 1 else 0) else -1
def compareV (σ : St) (a1 a2 : Int32) : Int32 := if inN a1 (nh σ) && inN a2 (nh σ) then (if sub4 (has σ (cl a1)) (has σ (cl a2)) then (if sub4 (has σ (cl a2)) (has σ (cl a1)) then 0 else 1) else (if sub4 (has σ (cl a2)) (has σ (cl a1)) then 2 else 3)) else -1
def countV (σ : St) (a1 : Int32) : Int32 := if a1 = 0 then nI (nh σ) else if a1 = 1 then nI (np σ) else if a1 = 2 then nI (nc σ) else -1
def findingsV (σ : St) (a1 : Int32) : Int32 := if inN a1 6 && !decide (a1 = 0) then nI (cme σ (cl a1)) else -1
def handV (σ : St) : Int32 × St := if nh σ = 6 then (-2, σ) else if 0 < nc σ then (-4, σ) else (nI (nh σ), handS σ)
def pageV (σ : St) (a1 : Int32) : Int32 × St := if inN a1 8 then (if np σ = 10 then (-2, σ) else (nI (np σ), pageS σ (cl a1))) else (-1, σ)
def keepV (σ : St) (a1 a2 : Int32) (b : Bool) : Int32 × St := if inN a1 (nh σ) && inN a2 (np σ) then (bI (!skp σ (cl a1) (cl a2)), keepS σ (cl a1) (cl a2) (!b)) else (-1, σ)
def writeV (σ : St) (a1 a2 : Int32) (v : Int64) : Int32 × St := gte (nmkG σ true a1 a2 0) (nI (nc σ), makeS σ (cl a1) (cl a2) 0 0 v)
def addV (σ : St) (a1 a2 : Int32) (v : Int64) : Int32 × St := gte (nmkG σ true a1 a2 2) (if kin σ (cl a2) = 5 ∧ shr v = false then (-3, mtS σ 2) else (nI (nc σ), makeS σ (cl a1) (cl a2) 1 0 v))
def putV (σ : St) (a1 a2 a3 : Int32) : Int32 × St := gte (nmkG σ (inN a3 64) a1 a2 3) (nI (nc σ), makeS σ (cl a1) (cl a2) 2 (cl a3) 0)
def takeV (σ : St) (a1 a2 a3 : Int32) : Int32 × St := gte (nmkG σ (inN a3 64) a1 a2 3) (if cin σ (cl a1) (cl a2) (cl a3) = 0 then (-3, mtS σ 2) else (nI (nc σ), makeS σ (cl a1) (cl a2) 3 (cl a3) 0))
def giveV (σ : St) (a1 a2 a3 : Int32) (v : Int64) : Int32 × St := gte (nmkG σ (inN a3 (nh σ) && (!decide (a3 = a1) && shr v)) a1 a2 5) (if v.toInt ≤ (rgt σ (cl a1) (cl a2) (cl a1)).toInt then (nI (nc σ), makeS σ (cl a1) (cl a2) 4 (cl a3) v) else (-3, mtS σ 2))
def spendV (σ : St) (a1 a2 : Int32) (v : Int64) : Int32 × St := gte (nmkG σ (shr v) a1 a2 5) (if v.toInt ≤ (rgt σ (cl a1) (cl a2) (cl a1)).toInt then (nI (nc σ), makeS σ (cl a1) (cl a2) 5 0 v) else (-3, mtS σ 2))
def raiseV (σ : St) (a1 a2 : Int32) (b : Bool) : Int32 × St := gte (nmkG σ true a1 a2 6) (nI (nc σ), makeS σ (cl a1) (cl a2) (if b then 6 else 7) 0 0)
def valueV (σ : St) (a1 a2 : Int32) : Int32 × St := gte (needG σ true a1 a2 0) (match tel σ (cl a1) (cl a2) with
  | none => (-9, σ)
  | some c => (nI c, s_ask σ (vl σ c)))
def sumV (σ : St) (a1 a2 : Int32) : Int32 × St := gte (needG σ true a1 a2 2) (nI (mny σ (cl a1) (cl a2)), s_ask σ (sumS σ (cl a1) (cl a2)))
def meanV (σ : St) (a1 a2 : Int32) : Int32 × St := gte (needG σ true a1 a2 2) (if mny σ (cl a1) (cl a2) = 0 then (-3, mtS σ 4) else (1, s_ask σ (sumS σ (cl a1) (cl a2) / (nI (mny σ (cl a1) (cl a2))).toInt64)))
def oftenV (σ : St) (a1 a2 a3 : Int32) : Int32 × St := gte (needG σ (inN a3 64) a1 a2 3) (nI (cin σ (cl a1) (cl a2) (cl a3)), σ)
def rightsV (σ : St) (a1 a2 a3 : Int32) : Int32 × St := gte (needG σ (inN a3 (nh σ)) a1 a2 5) (1, s_ask σ (rgt σ (cl a1) (cl a2) (cl a3)))
def upV (σ : St) (a1 a2 : Int32) : Int32 × St := gte (needG σ true a1 a2 6) (bI (upB σ (cl a1) (cl a2)), σ)
def leavesV (σ : St) (a1 a2 : Int32) : Int32 × St := if inN a1 (nh σ) then (if a2.toInt ≤ 16 then (if 0 ≤ a2.toInt then (a2, leavesS σ (cl a1) (cl a2)) else (-3, mtS σ 5)) else (-1, σ)) else (-1, σ)
def saveV (σ : St) (a1 a2 : Int32) : Int32 × St := if inN a1 (nh σ) then (if inN a2 (lm σ (cl a1)) then (1, saveS σ (cl a1) (cl a2)) else (-3, mtS σ 2)) else (-1, σ)
def tearV (σ : St) (a1 a2 : Int32) : Int32 × St := if inN a1 (nh σ) then (if inN a2 (lm σ (cl a1)) then (if thr σ (cl a1) (cl a2) then (1, tearS σ (cl a1) (cl a2)) else (-3, mtS σ 1)) else (-3, mtS σ 2)) else (-1, σ)
def leafV (σ : St) (a1 a2 : Int32) : Int32 × St := if inN a1 (nh σ) then (if inN a2 (lm σ (cl a1)) then (if thr σ (cl a1) (cl a2) then (1, s_ask σ (lf σ (cl a1) (cl a2))) else (-3, mtS σ 1)) else (-3, mtS σ 2)) else (-1, σ)
def loseV (σ : St) (a1 : Int32) : Int32 × St := if inN a1 (nh σ) then (nI (sm6 (up σ (cl a1))), loseS σ (cl a1)) else (-1, σ)
theorem ge0 (x : Int32) : 0 ≤ x ↔ 0 ≤ x.toInt := by rw [Int32.le_iff_toInt_le]; rfl
theorem lt0 (x : Int32) : x < 0 ↔ x.toInt < 0 := by rw [Int32.lt_iff_toInt_lt]; rfl
section
variable {sh : Sh} {d : Dt} {mm : Nat} {σ : St}
theorem m_in07 (x : Int32) : fX7_in sh d x (nI 0) (nI 7) = some (inN x 8) := by
  have := m_inN (sh := sh) (d := d) x 8 (by decide); exact this
theorem m_in63 (x : Int32) : fX7_in sh d x (nI 0) (nI 63) = some (inN x 64) := by
  have := m_inN (sh := sh) (d := d) x 64 (by decide); exact this
theorem m_in04 (x : Int32) : fX7_in sh d x (nI 0) (nI 4) = some (inN x 5) := by
  have := m_inN (sh := sh) (d := d) x 5 (by decide); exact this
theorem m_in15 (x : Int32) : fX7_in sh d x (nI 1) (nI 5) = some (inN x 6 && !decide (x = 0)) := by
  rw [m_in]
  congr 1
  have h1 : (nI 1).toInt = 1 := rfl
  have h5 : (nI 5).toInt = 5 := rfl
  rw [h1, h5, Bool.eq_iff_iff]
  unfold inN
  simp only [Bool.and_eq_true, decide_eq_true_eq, Bool.not_eq_true', decide_eq_false_iff_not]
  have h0 : x = 0 ↔ x.toInt = 0 := by
    rw [← Int32.toInt_inj]; rfl
  rw [h0]
  omega
theorem m_is (S : MS sh mm) (E : MD d mm) (R : RM σ d mm) (B : WB σ) (a1 a2 : Int32) : fX7_is sh d mm a1 a2 = some (isV σ a1 a2) := by
  have b2 := B.2.1
  unfold fX7_is fX7_is_b0 isV
  simp (disch := omega) only [bd_v, on_v, on_0, mk_9 S, mg_289 S E, mg_291 S E, mg_292 S E, mg_293 S E, mg_294 S E, mg_296 S E, mg_298 S E, mg_299 S E, mg_300 S E, mg_301 S E, mg_302 S E, mg_303 S E, mg_304 S E, mg_305 S E, mg_307 S E, mg_309 S E, mg_310 S E, mg_311 S E, mg_312 S E, mg_313 S E, mg_314 S E, mg_315 S E, mA_1 S, mA_2 S, mA_3 S, mA_4 S, mA_5 S, mA_6 S, mA_7 S, mA_8 S, mA_9 S, mA_10 S, mA_11 S, mA_12 S, mA_13 S, mA_14 S, mA_15 S, mA_16 S, mA_17 S, mA_18 S, mA_19 S, mA_20 S, mA_21 S, mA_22 S, mi_288 S, mi_290 S, mi_295 S, mi_297 S, mi_308 S, mi_306 S, rm_nh R, rm_np R, rm_nc R, rm_lat R, rm_ask R, rm_kin R, rm_mk R, rm_pg R, rm_ct R, rm_ac R, rm_ax R, rm_vl R, rm_skp R, rm_md R, rm_lm R, rm_thr R, rm_lf R, rm_cme R, z_0, z_1, z_2, z_3, z_4, z_5, z_6, z_7, z_8, z_10, z_16, z_17, z_31, z_63, z_64, z_400, nI_add, pk_mul, nI_eq, nI_leI, nI_ltI, bI_z, nI_m9, bI_m9, m_isPage S R B, m_in07]
  cases h1 : inN a1 (np σ) <;> cases h2 : inN a2 8 <;> (try rfl)
  obtain ⟨p, e1, rfl⟩ := inN_t h1
  obtain ⟨k, e2, rfl⟩ := inN_t h2
  simp (disch := omega) only [m_isOf S E R B, bd_v, cl_nI]
  cases isOfB (kin σ p) k <;> rfl
theorem m_change (S : MS sh mm) (E : MD d mm) (R : RM σ d mm) (B : WB σ) (w : Wel σ) (a1 a2 : Int32) : fX7_change sh d mm a1 a2 = some (changeV σ a1 a2) := by
  have b1 := B.1
  have b3 := B.2.2.1
  unfold fX7_change fX7_change_b0 changeV
  simp (disch := omega) only [bd_v, on_v, on_0, mk_9 S, mg_289 S E, mg_291 S E, mg_292 S E, mg_293 S E, mg_294 S E, mg_296 S E, mg_298 S E, mg_299 S E, mg_300 S E, mg_301 S E, mg_302 S E, mg_303 S E, mg_304 S E, mg_305 S E, mg_307 S E, mg_309 S E, mg_310 S E, mg_311 S E, mg_312 S E, mg_313 S E, mg_314 S E, mg_315 S E, mA_1 S, mA_2 S, mA_3 S, mA_4 S, mA_5 S, mA_6 S, mA_7 S, mA_8 S, mA_9 S, mA_10 S, mA_11 S, mA_12 S, mA_13 S, mA_14 S, mA_15 S, mA_16 S, mA_17 S, mA_18 S, mA_19 S, mA_20 S, mA_21 S, mA_22 S, mi_288 S, mi_290 S, mi_295 S, mi_297 S, mi_308 S, mi_306 S, rm_nh R, rm_np R, rm_nc R, rm_lat R, rm_ask R, rm_kin R, rm_mk R, rm_pg R, rm_ct R, rm_ac R, rm_ax R, rm_vl R, rm_skp R, rm_md R, rm_lm R, rm_thr R, rm_lf R, rm_cme R, z_0, z_1, z_2, z_3, z_4, z_5, z_6, z_7, z_8, z_10, z_16, z_17, z_31, z_63, z_64, z_400, nI_add, pk_mul, nI_eq, nI_leI, nI_ltI, bI_z, nI_m9, bI_m9, m_isChange S R B, m_in04]
  cases h1 : inN a1 (nc σ) with
  | false => rfl
  | true =>
    obtain ⟨c, e1, rfl⟩ := inN_t h1
    cases h2 : inN a2 5 with
    | false =>
      have hn : ∀ k, k < 5 → a2 ≠ nI k := by
        rintro k hk rfl
        rw [inN_nI (by omega)] at h2
        simp at h2; omega
      simp [hn 0 (by omega), hn 1 (by omega), hn 2 (by omega), hn 3 (by omega), hn 4 (by omega)]
    | true =>
      obtain ⟨k, e2, rfl⟩ := inN_t h2
      have hl : fX7_change_b88 sh d fu mm (nI c) (nI 1) (nI 0) = some (bI (allH σ c)) := by
        have key : ∀ (m j n : Nat), j + m = nh σ → m < n → fX7_change_b88 sh d n mm (nI c) (bI (!anyN (fun h => !has σ h c) j)) (nI j) = some (bI (allH σ c)) := by
          intro m
          induction m with
          | zero =>
            intro j n hj hn
            cases n with
            | zero => omega
            | succ n =>
              have : j = nh σ := by omega
              subst this
              simp (disch := omega) only [fX7_change_b88, bd_v, on_v, on_0, mk_9 S, mg_289 S E, mg_291 S E, mg_292 S E, mg_293 S E, mg_294 S E, mg_296 S E, mg_298 S E, mg_299 S E, mg_300 S E, mg_301 S E, mg_302 S E, mg_303 S E, mg_304 S E, mg_305 S E, mg_307 S E, mg_309 S E, mg_310 S E, mg_311 S E, mg_312 S E, mg_313 S E, mg_314 S E, mg_315 S E, mA_1 S, mA_2 S, mA_3 S, mA_4 S, mA_5 S, mA_6 S, mA_7 S, mA_8 S, mA_9 S, mA_10 S, mA_11 S, mA_12 S, mA_13 S, mA_14 S, mA_15 S, mA_16 S, mA_17 S, mA_18 S, mA_19 S, mA_20 S, mA_21 S, mA_22 S, mi_288 S, mi_290 S, mi_295 S, mi_297 S, mi_308 S, mi_306 S, rm_nh R, rm_np R, rm_nc R, rm_lat R, rm_ask R, rm_kin R, rm_mk R, rm_pg R, rm_ct R, rm_ac R, rm_ax R, rm_vl R, rm_skp R, rm_md R, rm_lm R, rm_thr R, rm_lf R, rm_cme R, z_0, z_1, z_2, z_3, z_4, z_5, z_6, z_7, z_8, z_10, z_16, z_17, z_31, z_63, z_64, z_400, nI_add, pk_mul, nI_eq, nI_leI, nI_ltI, bI_z, nI_m9, bI_m9]
              unfold allH
              cases anyN (fun h => !has σ h c) (nh σ) <;> simp [bI, nI]
          | succ m ih =>
            intro j n hj hn
            cases n with
            | zero => omega
            | succ n =>
              have g := ih (j + 1) n (by omega) (by omega)
              rw [show anyN (fun h => !has σ h c) (j + 1) = (anyN (fun h => !has σ h c) j || !has σ j c) from rfl] at g
              simp (disch := omega) only [fX7_change_b88, bd_v, on_v, on_0, mk_9 S, mg_289 S E, mg_291 S E, mg_292 S E, mg_293 S E, mg_294 S E, mg_296 S E, mg_298 S E, mg_299 S E, mg_300 S E, mg_301 S E, mg_302 S E, mg_303 S E, mg_304 S E, mg_305 S E, mg_307 S E, mg_309 S E, mg_310 S E, mg_311 S E, mg_312 S E, mg_313 S E, mg_314 S E, mg_315 S E, mA_1 S, mA_2 S, mA_3 S, mA_4 S, mA_5 S, mA_6 S, mA_7 S, mA_8 S, mA_9 S, mA_10 S, mA_11 S, mA_12 S, mA_13 S, mA_14 S, mA_15 S, mA_16 S, mA_17 S, mA_18 S, mA_19 S, mA_20 S, mA_21 S, mA_22 S, mi_288 S, mi_290 S, mi_295 S, mi_297 S, mi_308 S, mi_306 S, rm_nh R, rm_np R, rm_nc R, rm_lat R, rm_ask R, rm_kin R, rm_mk R, rm_pg R, rm_ct R, rm_ac R, rm_ax R, rm_vl R, rm_skp R, rm_md R, rm_lm R, rm_thr R, rm_lf R, rm_cme R, z_0, z_1, z_2, z_3, z_4, z_5, z_6, z_7, z_8, z_10, z_16, z_17, z_31, z_63, z_64, z_400, nI_add, pk_mul, nI_eq, nI_leI, nI_ltI, bI_z, nI_m9, bI_m9, m_isIn_has S R]
              rw [if_neg (by omega)]
              cases h5 : anyN (fun h => !has σ h c) j <;> cases h6 : has σ j c <;> rw [h5, h6] at g <;> simpa [bI, nI] using g
        exact key (nh σ) 0 fu (by omega) (by show nh σ < 100000; omega)
      have : k = 0 ∨ k = 1 ∨ k = 2 ∨ k = 3 ∨ k = 4 := by omega
      rcases this with rfl | rfl | rfl | rfl | rfl <;> simp (disch := omega) [bd_v, on_v, on_0, mk_9 S, mg_289 S E, mg_291 S E, mg_292 S E, mg_293 S E, mg_294 S E, mg_296 S E, mg_298 S E, mg_299 S E, mg_300 S E, mg_301 S E, mg_302 S E, mg_303 S E, mg_304 S E, mg_305 S E, mg_307 S E, mg_309 S E, mg_310 S E, mg_311 S E, mg_312 S E, mg_313 S E, mg_314 S E, mg_315 S E, mA_1 S, mA_2 S, mA_3 S, mA_4 S, mA_5 S, mA_6 S, mA_7 S, mA_8 S, mA_9 S, mA_10 S, mA_11 S, mA_12 S, mA_13 S, mA_14 S, mA_15 S, mA_16 S, mA_17 S, mA_18 S, mA_19 S, mA_20 S, mA_21 S, mA_22 S, mi_288 S, mi_290 S, mi_295 S, mi_297 S, mi_308 S, mi_306 S, rm_nh R, rm_np R, rm_nc R, rm_lat R, rm_ask R, rm_kin R, rm_mk R, rm_pg R, rm_ct R, rm_ac R, rm_ax R, rm_vl R, rm_skp R, rm_md R, rm_lm R, rm_thr R, rm_lf R, rm_cme R, z_0, z_1, z_2, z_3, z_4, z_5, z_6, z_7, z_8, z_10, z_16, z_17, z_31, z_63, z_64, z_400, nI_add, pk_mul, nI_eq, nI_leI, nI_ltI, bI_z, nI_m9, bI_m9, m_size_kn S R B, size_kn B w, hl, cl_nI, nI_eq]
theorem m_knows (S : MS sh mm) (E : MD d mm) (R : RM σ d mm) (B : WB σ) (a1 a2 : Int32) : fX7_knows sh d mm a1 a2 = some (knowsV σ a1 a2) := by
  have b3 := B.2.2.1
  unfold fX7_knows fX7_knows_b0 knowsV
  simp (disch := omega) only [bd_v, on_v, on_0, mk_9 S, mg_289 S E, mg_291 S E, mg_292 S E, mg_293 S E, mg_294 S E, mg_296 S E, mg_298 S E, mg_299 S E, mg_300 S E, mg_301 S E, mg_302 S E, mg_303 S E, mg_304 S E, mg_305 S E, mg_307 S E, mg_309 S E, mg_310 S E, mg_311 S E, mg_312 S E, mg_313 S E, mg_314 S E, mg_315 S E, mA_1 S, mA_2 S, mA_3 S, mA_4 S, mA_5 S, mA_6 S, mA_7 S, mA_8 S, mA_9 S, mA_10 S, mA_11 S, mA_12 S, mA_13 S, mA_14 S, mA_15 S, mA_16 S, mA_17 S, mA_18 S, mA_19 S, mA_20 S, mA_21 S, mA_22 S, mi_288 S, mi_290 S, mi_295 S, mi_297 S, mi_308 S, mi_306 S, rm_nh R, rm_np R, rm_nc R, rm_lat R, rm_ask R, rm_kin R, rm_mk R, rm_pg R, rm_ct R, rm_ac R, rm_ax R, rm_vl R, rm_skp R, rm_md R, rm_lm R, rm_thr R, rm_lf R, rm_cme R, z_0, z_1, z_2, z_3, z_4, z_5, z_6, z_7, z_8, z_10, z_16, z_17, z_31, z_63, z_64, z_400, nI_add, pk_mul, nI_eq, nI_leI, nI_ltI, bI_z, nI_m9, bI_m9, m_isChange S R B]
  cases h1 : inN a1 (nc σ) <;> cases h2 : inN a2 (nc σ) <;> (try rfl)
  obtain ⟨c, e1, rfl⟩ := inN_t h1
  obtain ⟨e, e2, rfl⟩ := inN_t h2
  simp (disch := omega) only [m_isIn_kn S R B, bd_v, cl_nI]
  cases kn σ c e <;> rfl
theorem m_told (S : MS sh mm) (E : MD d mm) (R : RM σ d mm) (B : WB σ) (w : Wel σ) (a1 a2 : Int32) : fX7_told sh d mm a1 a2 = some (toldV σ a1 a2) := by
  have b1 := B.1
  unfold fX7_told fX7_told_b0 toldV
  simp (disch := omega) only [mk_9 S, bd_v, m_isHand S R B]
  cases h1 : inN a1 (nh σ) with
  | false => rfl
  | true =>
    obtain ⟨h, e1, rfl⟩ := inN_t h1
    simp (disch := omega) only [bd_v, on_v, on_0, mk_9 S, mg_289 S E, mg_291 S E, mg_292 S E, mg_293 S E, mg_294 S E, mg_296 S E, mg_298 S E, mg_299 S E, mg_300 S E, mg_301 S E, mg_302 S E, mg_303 S E, mg_304 S E, mg_305 S E, mg_307 S E, mg_309 S E, mg_310 S E, mg_311 S E, mg_312 S E, mg_313 S E, mg_314 S E, mg_315 S E, mA_1 S, mA_2 S, mA_3 S, mA_4 S, mA_5 S, mA_6 S, mA_7 S, mA_8 S, mA_9 S, mA_10 S, mA_11 S, mA_12 S, mA_13 S, mA_14 S, mA_15 S, mA_16 S, mA_17 S, mA_18 S, mA_19 S, mA_20 S, mA_21 S, mA_22 S, mi_288 S, mi_290 S, mi_295 S, mi_297 S, mi_308 S, mi_306 S, rm_nh R, rm_np R, rm_nc R, rm_lat R, rm_ask R, rm_kin R, rm_mk R, rm_pg R, rm_ct R, rm_ac R, rm_ax R, rm_vl R, rm_skp R, rm_md R, rm_lm R, rm_thr R, rm_lf R, rm_cme R, z_0, z_1, z_2, z_3, z_4, z_5, z_6, z_7, z_8, z_10, z_16, z_17, z_31, z_63, z_64, z_400, nI_add, pk_mul, nI_eq, nI_leI, nI_ltI, bI_z, nI_m9, bI_m9, m_size_has S R B, m_size_wt S R B, m_greatestCount S E R B, m_ownOf S E R B, own_up w, size_has B w, cl_nI]
    rw [← (w.2.1 h (by omega)).2.1]
    simp only [Bool.true_eq_false, if_false, if_true]
    split
    · rfl
    · split
      · rfl
      · split
        · rfl
        · split
          · rfl
          · split <;> rfl
theorem m_has (S : MS sh mm) (E : MD d mm) (R : RM σ d mm) (B : WB σ) (a1 a2 : Int32) : fX7_has sh d mm a1 a2 = some (hasV σ a1 a2) := by
  have b1 := B.1
  have b3 := B.2.2.1
  unfold fX7_has fX7_has_b0 hasV
  simp (disch := omega) only [bd_v, on_v, on_0, mk_9 S, mg_289 S E, mg_291 S E, mg_292 S E, mg_293 S E, mg_294 S E, mg_296 S E, mg_298 S E, mg_299 S E, mg_300 S E, mg_301 S E, mg_302 S E, mg_303 S E, mg_304 S E, mg_305 S E, mg_307 S E, mg_309 S E, mg_310 S E, mg_311 S E, mg_312 S E, mg_313 S E, mg_314 S E, mg_315 S E, mA_1 S, mA_2 S, mA_3 S, mA_4 S, mA_5 S, mA_6 S, mA_7 S, mA_8 S, mA_9 S, mA_10 S, mA_11 S, mA_12 S, mA_13 S, mA_14 S, mA_15 S, mA_16 S, mA_17 S, mA_18 S, mA_19 S, mA_20 S, mA_21 S, mA_22 S, mi_288 S, mi_290 S, mi_295 S, mi_297 S, mi_308 S, mi_306 S, rm_nh R, rm_np R, rm_nc R, rm_lat R, rm_ask R, rm_kin R, rm_mk R, rm_pg R, rm_ct R, rm_ac R, rm_ax R, rm_vl R, rm_skp R, rm_md R, rm_lm R, rm_thr R, rm_lf R, rm_cme R, z_0, z_1, z_2, z_3, z_4, z_5, z_6, z_7, z_8, z_10, z_16, z_17, z_31, z_63, z_64, z_400, nI_add, pk_mul, nI_eq, nI_leI, nI_ltI, bI_z, nI_m9, bI_m9, m_isHand S R B, m_isChange S R B]
  cases h1 : inN a1 (nh σ) <;> cases h2 : inN a2 (nc σ) <;> (try rfl)
  obtain ⟨h, e1, rfl⟩ := inN_t h1
  obtain ⟨c, e2, rfl⟩ := inN_t h2
  simp (disch := omega) only [m_isIn_has S R, m_isIn_wt S R, bd_v, cl_nI]
  cases has σ h c <;> cases wt σ h c <;> rfl
theorem m_compare (S : MS sh mm) (E : MD d mm) (R : RM σ d mm) (B : WB σ) (a1 a2 : Int32) : fX7_compare sh d mm a1 a2 = some (compareV σ a1 a2) := by
  have b1 := B.1
  unfold fX7_compare fX7_compare_b0 fX7_compare_b60 compareV
  simp (disch := omega) only [bd_v, on_v, on_0, mk_9 S, mg_289 S E, mg_291 S E, mg_292 S E, mg_293 S E, mg_294 S E, mg_296 S E, mg_298 S E, mg_299 S E, mg_300 S E, mg_301 S E, mg_302 S E, mg_303 S E, mg_304 S E, mg_305 S E, mg_307 S E, mg_309 S E, mg_310 S E, mg_311 S E, mg_312 S E, mg_313 S E, mg_314 S E, mg_315 S E, mA_1 S, mA_2 S, mA_3 S, mA_4 S, mA_5 S, mA_6 S, mA_7 S, mA_8 S, mA_9 S, mA_10 S, mA_11 S, mA_12 S, mA_13 S, mA_14 S, mA_15 S, mA_16 S, mA_17 S, mA_18 S, mA_19 S, mA_20 S, mA_21 S, mA_22 S, mi_288 S, mi_290 S, mi_295 S, mi_297 S, mi_308 S, mi_306 S, rm_nh R, rm_np R, rm_nc R, rm_lat R, rm_ask R, rm_kin R, rm_mk R, rm_pg R, rm_ct R, rm_ac R, rm_ax R, rm_vl R, rm_skp R, rm_md R, rm_lm R, rm_thr R, rm_lf R, rm_cme R, z_0, z_1, z_2, z_3, z_4, z_5, z_6, z_7, z_8, z_10, z_16, z_17, z_31, z_63, z_64, z_400, nI_add, pk_mul, nI_eq, nI_leI, nI_ltI, bI_z, nI_m9, bI_m9, m_isHand S R B]
  cases h1 : inN a1 (nh σ) <;> cases h2 : inN a2 (nh σ) <;> (try rfl)
  obtain ⟨h, e1, rfl⟩ := inN_t h1
  obtain ⟨o, e2, rfl⟩ := inN_t h2
  simp (disch := omega) only [m_within_hh S R, bd_v, cl_nI]
  cases sub4 (has σ h) (has σ o) <;> cases sub4 (has σ o) (has σ h) <;> rfl
theorem m_asked (S : MS sh mm) (R : RM σ d mm) : fX7_asked sh d mm = some (ask σ) := by
  unfold fX7_asked fX7_asked_b0
  rw [mi_306 S, bd_v, rm_ask R]
theorem m_finding (S : MS sh mm) (R : RM σ d mm) : fX7_finding sh d mm = some (nI (lat σ)) := by
  unfold fX7_finding fX7_finding_b0
  rw [mi_288 S, bd_v, rm_lat R]
theorem m_count (S : MS sh mm) (R : RM σ d mm) (a1 : Int32) : fX7_count sh d mm a1 = some (countV σ a1) := by
  unfold fX7_count fX7_count_b0 countV
  rw [mi_290 S, mi_295 S, mi_297 S, bd_v, bd_v, bd_v, rm_nh R, rm_np R, rm_nc R]
  split
  · rfl
  · split
    · rfl
    · split <;> rfl
theorem m_findings (S : MS sh mm) (E : MD d mm) (R : RM σ d mm) (a1 : Int32) : fX7_findings sh d mm a1 = some (findingsV σ a1) := by
  unfold fX7_findings fX7_findings_b0 findingsV
  simp (disch := omega) only [bd_v, on_v, on_0, mk_9 S, mg_289 S E, mg_291 S E, mg_292 S E, mg_293 S E, mg_294 S E, mg_296 S E, mg_298 S E, mg_299 S E, mg_300 S E, mg_301 S E, mg_302 S E, mg_303 S E, mg_304 S E, mg_305 S E, mg_307 S E, mg_309 S E, mg_310 S E, mg_311 S E, mg_312 S E, mg_313 S E, mg_314 S E, mg_315 S E, mA_1 S, mA_2 S, mA_3 S, mA_4 S, mA_5 S, mA_6 S, mA_7 S, mA_8 S, mA_9 S, mA_10 S, mA_11 S, mA_12 S, mA_13 S, mA_14 S, mA_15 S, mA_16 S, mA_17 S, mA_18 S, mA_19 S, mA_20 S, mA_21 S, mA_22 S, mi_288 S, mi_290 S, mi_295 S, mi_297 S, mi_308 S, mi_306 S, rm_nh R, rm_np R, rm_nc R, rm_lat R, rm_ask R, rm_kin R, rm_mk R, rm_pg R, rm_ct R, rm_ac R, rm_ax R, rm_vl R, rm_skp R, rm_md R, rm_lm R, rm_thr R, rm_lf R, rm_cme R, z_0, z_1, z_2, z_3, z_4, z_5, z_6, z_7, z_8, z_10, z_16, z_17, z_31, z_63, z_64, z_400, nI_add, pk_mul, nI_eq, nI_leI, nI_ltI, bI_z, nI_m9, bI_m9, m_in15]
  cases h1 : inN a1 6 with
  | false => rfl
  | true =>
    obtain ⟨f, e1, rfl⟩ := inN_t h1
    simp (disch := omega) only [bd_v, on_v, on_0, mk_9 S, mg_289 S E, mg_291 S E, mg_292 S E, mg_293 S E, mg_294 S E, mg_296 S E, mg_298 S E, mg_299 S E, mg_300 S E, mg_301 S E, mg_302 S E, mg_303 S E, mg_304 S E, mg_305 S E, mg_307 S E, mg_309 S E, mg_310 S E, mg_311 S E, mg_312 S E, mg_313 S E, mg_314 S E, mg_315 S E, mA_1 S, mA_2 S, mA_3 S, mA_4 S, mA_5 S, mA_6 S, mA_7 S, mA_8 S, mA_9 S, mA_10 S, mA_11 S, mA_12 S, mA_13 S, mA_14 S, mA_15 S, mA_16 S, mA_17 S, mA_18 S, mA_19 S, mA_20 S, mA_21 S, mA_22 S, mi_288 S, mi_290 S, mi_295 S, mi_297 S, mi_308 S, mi_306 S, rm_nh R, rm_np R, rm_nc R, rm_lat R, rm_ask R, rm_kin R, rm_mk R, rm_pg R, rm_ct R, rm_ac R, rm_ax R, rm_vl R, rm_skp R, rm_md R, rm_lm R, rm_thr R, rm_lf R, rm_cme R, z_0, z_1, z_2, z_3, z_4, z_5, z_6, z_7, z_8, z_10, z_16, z_17, z_31, z_63, z_64, z_400, nI_add, pk_mul, nI_eq, nI_leI, nI_ltI, bI_z, nI_m9, bI_m9, Bool.true_and, cl_nI]
    by_cases h0 : f = 0
    · simp [h0]
    · simp [h0]
theorem m_isShare (v : Int64) : fX7_isShare sh d v = some (shr v) := by
  unfold fX7_isShare fX7_isShare_b0 shr
  simp only [lg_lt0, lg_gt0]
  have h0 : (0 : Int64).toInt = 0 := rfl
  have h1 : (1000000000 : Int64).toInt = 1000000000 := rfl
  rw [h0, h1]
  by_cases g0 : v.toInt < 0
  · rw [if_pos g0, decide_eq_false (by omega)]; rfl
  · rw [if_neg g0, decide_eq_true (show 0 ≤ v.toInt by omega)]
    by_cases g1 : 1000000000 < v.toInt
    · rw [if_pos g1, decide_eq_false (by omega)]; rfl
    · rw [if_neg g1, decide_eq_true (show v.toInt ≤ 1000000000 by omega)]; rfl
theorem m_hand (S : MS sh mm) (E : MD d mm) (R : RM σ d mm) (B : WB σ) : OKm (fX7_hand sh d mm) mm (handV σ) := by
  have b1 := B.1
  have b3 := B.2.2.1
  unfold fX7_hand fX7_hand_b0 handV
  simp (disch := omega) only [bd_v, on_v, on_0, mk_9 S, mg_289 S E, mg_291 S E, mg_292 S E, mg_293 S E, mg_294 S E, mg_296 S E, mg_298 S E, mg_299 S E, mg_300 S E, mg_301 S E, mg_302 S E, mg_303 S E, mg_304 S E, mg_305 S E, mg_307 S E, mg_309 S E, mg_310 S E, mg_311 S E, mg_312 S E, mg_313 S E, mg_314 S E, mg_315 S E, mA_1 S, mA_2 S, mA_3 S, mA_4 S, mA_5 S, mA_6 S, mA_7 S, mA_8 S, mA_9 S, mA_10 S, mA_11 S, mA_12 S, mA_13 S, mA_14 S, mA_15 S, mA_16 S, mA_17 S, mA_18 S, mA_19 S, mA_20 S, mA_21 S, mA_22 S, mi_288 S, mi_290 S, mi_295 S, mi_297 S, mi_308 S, mi_306 S, rm_nh R, rm_np R, rm_nc R, rm_lat R, rm_ask R, rm_kin R, rm_mk R, rm_pg R, rm_ct R, rm_ac R, rm_ax R, rm_vl R, rm_skp R, rm_md R, rm_lm R, rm_thr R, rm_lf R, rm_cme R, z_0, z_1, z_2, z_3, z_4, z_5, z_6, z_7, z_8, z_10, z_16, z_17, z_31, z_63, z_64, z_400, nI_add, pk_mul, nI_eq, nI_leI, nI_ltI, bI_z, nI_m9, bI_m9, bd2_v, gR_uI, gR_uL, gR_uAI, gR_uAL, gI_uL, gI_uAI, gI_uAL, gL_uI, gL_uAI, gL_uAL, r_ai_I, r_ai_L, r_ai_AL, r_al_I, r_al_L, r_al_AI, r_fi_L, r_fi_AI, r_fi_AL, r_fl_I, r_fl_AI, r_fl_AL, fi_ne, fi_eq, fl_eq, ai_ne, ai_n2, ai_eq, al_ne, al_n2, al_eq, mW_1 S, mW_2 S, mW_3 S, mW_4 S, mW_5 S, mW_6 S, mW_7 S, mW_8 S, mW_9 S, mW_10 S, mW_11 S, mW_12 S, mW_13 S, mW_14 S, mW_15 S, mW_16 S, mW_17 S, mW_18 S, mW_19 S, mW_20 S, mW_21 S, mW_22 S, mp_288 S, mp_290 S, mp_295 S, mp_297 S, mp_308 S, mp_306 S, pk_sub, Nat.add_sub_cancel]
  by_cases h1 : nh σ = 6
  · simp only [h1, if_true]; exact ⟨d, rfl, E, R⟩
  · simp only [h1, if_false]
    by_cases h2 : nc σ ≤ 0
    · rw [if_pos h2, if_neg (by omega)]
      exact ⟨_, rfl, E, rm_w_nh R⟩
    · rw [if_neg h2, if_pos (by omega)]; exact ⟨d, rfl, E, R⟩
theorem m_page (S : MS sh mm) (E : MD d mm) (R : RM σ d mm) (B : WB σ) (a1 : Int32) : OKm (fX7_page sh d mm a1) mm (pageV σ a1) := by
  have b2 := B.2.1
  unfold fX7_page fX7_page_b0 pageV
  cases h1 : inN a1 8 with
  | false =>
    simp (disch := omega) only [bd_v, on_v, on_0, mk_9 S, mg_289 S E, mg_291 S E, mg_292 S E, mg_293 S E, mg_294 S E, mg_296 S E, mg_298 S E, mg_299 S E, mg_300 S E, mg_301 S E, mg_302 S E, mg_303 S E, mg_304 S E, mg_305 S E, mg_307 S E, mg_309 S E, mg_310 S E, mg_311 S E, mg_312 S E, mg_313 S E, mg_314 S E, mg_315 S E, mA_1 S, mA_2 S, mA_3 S, mA_4 S, mA_5 S, mA_6 S, mA_7 S, mA_8 S, mA_9 S, mA_10 S, mA_11 S, mA_12 S, mA_13 S, mA_14 S, mA_15 S, mA_16 S, mA_17 S, mA_18 S, mA_19 S, mA_20 S, mA_21 S, mA_22 S, mi_288 S, mi_290 S, mi_295 S, mi_297 S, mi_308 S, mi_306 S, rm_nh R, rm_np R, rm_nc R, rm_lat R, rm_ask R, rm_kin R, rm_mk R, rm_pg R, rm_ct R, rm_ac R, rm_ax R, rm_vl R, rm_skp R, rm_md R, rm_lm R, rm_thr R, rm_lf R, rm_cme R, z_0, z_1, z_2, z_3, z_4, z_5, z_6, z_7, z_8, z_10, z_16, z_17, z_31, z_63, z_64, z_400, nI_add, pk_mul, nI_eq, nI_leI, nI_ltI, bI_z, nI_m9, bI_m9, bd2_v, gR_uI, gR_uL, gR_uAI, gR_uAL, gI_uL, gI_uAI, gI_uAL, gL_uI, gL_uAI, gL_uAL, r_ai_I, r_ai_L, r_ai_AL, r_al_I, r_al_L, r_al_AI, r_fi_L, r_fi_AI, r_fi_AL, r_fl_I, r_fl_AI, r_fl_AL, fi_ne, fi_eq, fl_eq, ai_ne, ai_n2, ai_eq, al_ne, al_n2, al_eq, mW_1 S, mW_2 S, mW_3 S, mW_4 S, mW_5 S, mW_6 S, mW_7 S, mW_8 S, mW_9 S, mW_10 S, mW_11 S, mW_12 S, mW_13 S, mW_14 S, mW_15 S, mW_16 S, mW_17 S, mW_18 S, mW_19 S, mW_20 S, mW_21 S, mW_22 S, mp_288 S, mp_290 S, mp_295 S, mp_297 S, mp_308 S, mp_306 S, m_in07, h1]
    exact ⟨d, rfl, E, R⟩
  | true =>
    obtain ⟨k, e1, rfl⟩ := inN_t h1
    by_cases h2 : np σ = 10
    · simp (disch := omega) only [bd_v, on_v, on_0, mk_9 S, mg_289 S E, mg_291 S E, mg_292 S E, mg_293 S E, mg_294 S E, mg_296 S E, mg_298 S E, mg_299 S E, mg_300 S E, mg_301 S E, mg_302 S E, mg_303 S E, mg_304 S E, mg_305 S E, mg_307 S E, mg_309 S E, mg_310 S E, mg_311 S E, mg_312 S E, mg_313 S E, mg_314 S E, mg_315 S E, mA_1 S, mA_2 S, mA_3 S, mA_4 S, mA_5 S, mA_6 S, mA_7 S, mA_8 S, mA_9 S, mA_10 S, mA_11 S, mA_12 S, mA_13 S, mA_14 S, mA_15 S, mA_16 S, mA_17 S, mA_18 S, mA_19 S, mA_20 S, mA_21 S, mA_22 S, mi_288 S, mi_290 S, mi_295 S, mi_297 S, mi_308 S, mi_306 S, rm_nh R, rm_np R, rm_nc R, rm_lat R, rm_ask R, rm_kin R, rm_mk R, rm_pg R, rm_ct R, rm_ac R, rm_ax R, rm_vl R, rm_skp R, rm_md R, rm_lm R, rm_thr R, rm_lf R, rm_cme R, z_0, z_1, z_2, z_3, z_4, z_5, z_6, z_7, z_8, z_10, z_16, z_17, z_31, z_63, z_64, z_400, nI_add, pk_mul, nI_eq, nI_leI, nI_ltI, bI_z, nI_m9, bI_m9, bd2_v, gR_uI, gR_uL, gR_uAI, gR_uAL, gI_uL, gI_uAI, gI_uAL, gL_uI, gL_uAI, gL_uAL, r_ai_I, r_ai_L, r_ai_AL, r_al_I, r_al_L, r_al_AI, r_fi_L, r_fi_AI, r_fi_AL, r_fl_I, r_fl_AI, r_fl_AL, fi_ne, fi_eq, fl_eq, ai_ne, ai_n2, ai_eq, al_ne, al_n2, al_eq, mW_1 S, mW_2 S, mW_3 S, mW_4 S, mW_5 S, mW_6 S, mW_7 S, mW_8 S, mW_9 S, mW_10 S, mW_11 S, mW_12 S, mW_13 S, mW_14 S, mW_15 S, mW_16 S, mW_17 S, mW_18 S, mW_19 S, mW_20 S, mW_21 S, mW_22 S, mp_288 S, mp_290 S, mp_295 S, mp_297 S, mp_308 S, mp_306 S, m_in07, h1, h2]
      exact ⟨d, rfl, E, R⟩
    · simp (disch := omega) only [bd_v, on_v, on_0, mk_9 S, mg_289 S E, mg_291 S E, mg_292 S E, mg_293 S E, mg_294 S E, mg_296 S E, mg_298 S E, mg_299 S E, mg_300 S E, mg_301 S E, mg_302 S E, mg_303 S E, mg_304 S E, mg_305 S E, mg_307 S E, mg_309 S E, mg_310 S E, mg_311 S E, mg_312 S E, mg_313 S E, mg_314 S E, mg_315 S E, mA_1 S, mA_2 S, mA_3 S, mA_4 S, mA_5 S, mA_6 S, mA_7 S, mA_8 S, mA_9 S, mA_10 S, mA_11 S, mA_12 S, mA_13 S, mA_14 S, mA_15 S, mA_16 S, mA_17 S, mA_18 S, mA_19 S, mA_20 S, mA_21 S, mA_22 S, mi_288 S, mi_290 S, mi_295 S, mi_297 S, mi_308 S, mi_306 S, rm_nh R, rm_np R, rm_nc R, rm_lat R, rm_ask R, rm_kin R, rm_mk R, rm_pg R, rm_ct R, rm_ac R, rm_ax R, rm_vl R, rm_skp R, rm_md R, rm_lm R, rm_thr R, rm_lf R, rm_cme R, z_0, z_1, z_2, z_3, z_4, z_5, z_6, z_7, z_8, z_10, z_16, z_17, z_31, z_63, z_64, z_400, nI_add, pk_mul, nI_eq, nI_leI, nI_ltI, bI_z, nI_m9, bI_m9, bd2_v, gR_uI, gR_uL, gR_uAI, gR_uAL, gI_uL, gI_uAI, gI_uAL, gL_uI, gL_uAI, gL_uAL, r_ai_I, r_ai_L, r_ai_AL, r_al_I, r_al_L, r_al_AI, r_fi_L, r_fi_AI, r_fi_AL, r_fl_I, r_fl_AI, r_fl_AL, fi_ne, fi_eq, fl_eq, ai_ne, ai_n2, ai_eq, al_ne, al_n2, al_eq, mW_1 S, mW_2 S, mW_3 S, mW_4 S, mW_5 S, mW_6 S, mW_7 S, mW_8 S, mW_9 S, mW_10 S, mW_11 S, mW_12 S, mW_13 S, mW_14 S, mW_15 S, mW_16 S, mW_17 S, mW_18 S, mW_19 S, mW_20 S, mW_21 S, mW_22 S, mp_288 S, mp_290 S, mp_295 S, mp_297 S, mp_308 S, mp_306 S, m_in07, h1, h2, pk_sub, Nat.add_sub_cancel, cl_nI]
      simp only [Bool.true_eq_false, if_false, if_true]
      exact ⟨_, rfl, E, rm_w_np (k := k) ai_eq (rm_w_kin R)⟩
theorem m_keep (S : MS sh mm) (E : MD d mm) (R : RM σ d mm) (B : WB σ) (a1 a2 : Int32) (b : Bool) : OKm (fX7_keep sh d mm a1 a2 (bI b)) mm (keepV σ a1 a2 b) := by
  have b1 := B.1
  have b2 := B.2.1
  unfold fX7_keep fX7_keep_b0 keepV
  simp (disch := omega) only [bd_v, on_v, on_0, mk_9 S, mg_289 S E, mg_291 S E, mg_292 S E, mg_293 S E, mg_294 S E, mg_296 S E, mg_298 S E, mg_299 S E, mg_300 S E, mg_301 S E, mg_302 S E, mg_303 S E, mg_304 S E, mg_305 S E, mg_307 S E, mg_309 S E, mg_310 S E, mg_311 S E, mg_312 S E, mg_313 S E, mg_314 S E, mg_315 S E, mA_1 S, mA_2 S, mA_3 S, mA_4 S, mA_5 S, mA_6 S, mA_7 S, mA_8 S, mA_9 S, mA_10 S, mA_11 S, mA_12 S, mA_13 S, mA_14 S, mA_15 S, mA_16 S, mA_17 S, mA_18 S, mA_19 S, mA_20 S, mA_21 S, mA_22 S, mi_288 S, mi_290 S, mi_295 S, mi_297 S, mi_308 S, mi_306 S, rm_nh R, rm_np R, rm_nc R, rm_lat R, rm_ask R, rm_kin R, rm_mk R, rm_pg R, rm_ct R, rm_ac R, rm_ax R, rm_vl R, rm_skp R, rm_md R, rm_lm R, rm_thr R, rm_lf R, rm_cme R, z_0, z_1, z_2, z_3, z_4, z_5, z_6, z_7, z_8, z_10, z_16, z_17, z_31, z_63, z_64, z_400, nI_add, pk_mul, nI_eq, nI_leI, nI_ltI, bI_z, nI_m9, bI_m9, bd2_v, gR_uI, gR_uL, gR_uAI, gR_uAL, gI_uL, gI_uAI, gI_uAL, gL_uI, gL_uAI, gL_uAL, r_ai_I, r_ai_L, r_ai_AL, r_al_I, r_al_L, r_al_AI, r_fi_L, r_fi_AI, r_fi_AL, r_fl_I, r_fl_AI, r_fl_AL, fi_ne, fi_eq, fl_eq, ai_ne, ai_n2, ai_eq, al_ne, al_n2, al_eq, mW_1 S, mW_2 S, mW_3 S, mW_4 S, mW_5 S, mW_6 S, mW_7 S, mW_8 S, mW_9 S, mW_10 S, mW_11 S, mW_12 S, mW_13 S, mW_14 S, mW_15 S, mW_16 S, mW_17 S, mW_18 S, mW_19 S, mW_20 S, mW_21 S, mW_22 S, mp_288 S, mp_290 S, mp_295 S, mp_297 S, mp_308 S, mp_306 S, m_isHand S R B, m_isPage S R B]
  cases h1 : inN a1 (nh σ) with
  | false => exact ⟨d, rfl, E, R⟩
  | true =>
    cases h2 : inN a2 (np σ) with
    | false => exact ⟨d, rfl, E, R⟩
    | true =>
      obtain ⟨h, e1, rfl⟩ := inN_t h1
      obtain ⟨p, e2, rfl⟩ := inN_t h2
      have k1 := rm_w_skp (h := h) (k := p) (show p < 10 by omega) (b := !b) R
      have n0 : vp_nar .boolean (nI 0) = bI false := rfl
      have n1 : vp_nar .boolean (nI 1) = bI true := rfl
      simp (disch := omega) only [bd_v, on_v, on_0, mk_9 S, mg_289 S E, mg_291 S E, mg_292 S E, mg_293 S E, mg_294 S E, mg_296 S E, mg_298 S E, mg_299 S E, mg_300 S E, mg_301 S E, mg_302 S E, mg_303 S E, mg_304 S E, mg_305 S E, mg_307 S E, mg_309 S E, mg_310 S E, mg_311 S E, mg_312 S E, mg_313 S E, mg_314 S E, mg_315 S E, mA_1 S, mA_2 S, mA_3 S, mA_4 S, mA_5 S, mA_6 S, mA_7 S, mA_8 S, mA_9 S, mA_10 S, mA_11 S, mA_12 S, mA_13 S, mA_14 S, mA_15 S, mA_16 S, mA_17 S, mA_18 S, mA_19 S, mA_20 S, mA_21 S, mA_22 S, mi_288 S, mi_290 S, mi_295 S, mi_297 S, mi_308 S, mi_306 S, rm_nh R, rm_np R, rm_nc R, rm_lat R, rm_ask R, rm_kin R, rm_mk R, rm_pg R, rm_ct R, rm_ac R, rm_ax R, rm_vl R, rm_skp R, rm_md R, rm_lm R, rm_thr R, rm_lf R, rm_cme R, z_0, z_1, z_2, z_3, z_4, z_5, z_6, z_7, z_8, z_10, z_16, z_17, z_31, z_63, z_64, z_400, nI_add, pk_mul, nI_eq, nI_leI, nI_ltI, bI_z, nI_m9, bI_m9, bd2_v, gR_uI, gR_uL, gR_uAI, gR_uAL, gI_uL, gI_uAI, gI_uAL, gL_uI, gL_uAI, gL_uAL, r_ai_I, r_ai_L, r_ai_AL, r_al_I, r_al_L, r_al_AI, r_fi_L, r_fi_AI, r_fi_AL, r_fl_I, r_fl_AI, r_fl_AL, fi_ne, fi_eq, fl_eq, ai_ne, ai_n2, ai_eq, al_ne, al_n2, al_eq, mW_1 S, mW_2 S, mW_3 S, mW_4 S, mW_5 S, mW_6 S, mW_7 S, mW_8 S, mW_9 S, mW_10 S, mW_11 S, mW_12 S, mW_13 S, mW_14 S, mW_15 S, mW_16 S, mW_17 S, mW_18 S, mW_19 S, mW_20 S, mW_21 S, mW_22 S, mp_288 S, mp_290 S, mp_295 S, mp_297 S, mp_308 S, mp_306 S, cl_nI, fX7_keep_b37, fX7_keep_b58, n0, n1]
      cases b <;> cases h3 : skp σ h p <;> exact ⟨_, rfl, E, k1⟩
theorem m_write (S : MS sh mm) (E : MD d mm) (R : RM σ d mm) (B : WB σ) (w : Wel σ) (a1 a2 : Int32) (v : Int64) : OKm (fX7_write sh d mm a1 a2 v) mm (writeV σ a1 a2 v) := by
  have b1 := B.1
  have b2 := B.2.1
  unfold fX7_write fX7_write_b0 writeV
  rw [mk_9 S, bd_v]
  refine gate_m (m_needMake S E R B w true a1 a2 (k := 0) (by omega)) fun hg => ok_id ?_
  obtain ⟨-, h, p, h1, h2, rfl, rfl, h3, h4, h5⟩ := nmkG_none hg
  simp (disch := omega) only [cl_nI] at h4 ⊢
  exact m_make S E R B w h1 h3 h4 v
theorem m_add (S : MS sh mm) (E : MD d mm) (R : RM σ d mm) (B : WB σ) (w : Wel σ) (a1 a2 : Int32) (v : Int64) : OKm (fX7_add sh d mm a1 a2 v) mm (addV σ a1 a2 v) := by
  have b1 := B.1
  have b2 := B.2.1
  unfold fX7_add fX7_add_b0 addV
  rw [mk_9 S, bd_v]
  refine gate_m (m_needMake S E R B w true a1 a2 (k := 2) (by omega)) fun hg => ?_
  obtain ⟨-, h, p, h1, h2, rfl, rfl, h3, h4, h5⟩ := nmkG_none hg
  have hkp := B.2.2.2.1 p h2
  simp (disch := omega) only [cl_nI] at h4 ⊢
  have g := m_make S E R B w (p := p) (k := 1) (a := 0) h1 h3 h4 v
  have g2 := m_meets S E R (f := 2) (by omega)
  simp (disch := omega) only [bd_v, on_v, on_0, mk_9 S, mg_289 S E, mg_291 S E, mg_292 S E, mg_293 S E, mg_294 S E, mg_296 S E, mg_298 S E, mg_299 S E, mg_300 S E, mg_301 S E, mg_302 S E, mg_303 S E, mg_304 S E, mg_305 S E, mg_307 S E, mg_309 S E, mg_310 S E, mg_311 S E, mg_312 S E, mg_313 S E, mg_314 S E, mg_315 S E, mA_1 S, mA_2 S, mA_3 S, mA_4 S, mA_5 S, mA_6 S, mA_7 S, mA_8 S, mA_9 S, mA_10 S, mA_11 S, mA_12 S, mA_13 S, mA_14 S, mA_15 S, mA_16 S, mA_17 S, mA_18 S, mA_19 S, mA_20 S, mA_21 S, mA_22 S, mi_288 S, mi_290 S, mi_295 S, mi_297 S, mi_308 S, mi_306 S, rm_nh R, rm_np R, rm_nc R, rm_lat R, rm_ask R, rm_kin R, rm_mk R, rm_pg R, rm_ct R, rm_ac R, rm_ax R, rm_vl R, rm_skp R, rm_md R, rm_lm R, rm_thr R, rm_lf R, rm_cme R, z_0, z_1, z_2, z_3, z_4, z_5, z_6, z_7, z_8, z_10, z_16, z_17, z_31, z_63, z_64, z_400, nI_add, pk_mul, nI_eq, nI_leI, nI_ltI, bI_z, nI_m9, bI_m9, m_isShare, fX7_add_b43]
  by_cases h6 : kin σ p = 5
  · cases h7 : shr v with
    | false => simp only [h6, if_true, and_self]; exact ok_id g2
    | true => simp only [h6, if_true, Bool.true_eq_false, if_false, and_false]; exact ok_id g
  · simp only [h6, if_false, false_and]; exact ok_id g
theorem m_put (S : MS sh mm) (E : MD d mm) (R : RM σ d mm) (B : WB σ) (w : Wel σ) (a1 a2 a3 : Int32) : OKm (fX7_put sh d mm a1 a2 a3) mm (putV σ a1 a2 a3) := by
  have b1 := B.1
  have b2 := B.2.1
  unfold fX7_put fX7_put_b0 putV
  rw [show fX7_in sh d a3 0 63 = some (inN a3 64) from m_in63 a3, bd_v, mk_9 S, bd_v]
  refine gate_m (m_needMake S E R B w _ a1 a2 (k := 3) (by omega)) fun hg => ok_id ?_
  obtain ⟨h0, h, p, h1, h2, rfl, rfl, h3, h4, h5⟩ := nmkG_none hg
  obtain ⟨x, hx, rfl⟩ := inN_t h0
  simp (disch := omega) only [cl_nI] at h4 ⊢
  exact m_make S E R B w h1 h3 h4 0
theorem m_take (S : MS sh mm) (E : MD d mm) (R : RM σ d mm) (B : WB σ) (w : Wel σ) (a1 a2 a3 : Int32) : OKm (fX7_take sh d mm a1 a2 a3) mm (takeV σ a1 a2 a3) := by
  have b1 := B.1
  have b2 := B.2.1
  have b3 := B.2.2.1
  unfold fX7_take fX7_take_b0 takeV
  rw [show fX7_in sh d a3 0 63 = some (inN a3 64) from m_in63 a3, bd_v, mk_9 S, bd_v]
  refine gate_m (m_needMake S E R B w _ a1 a2 (k := 3) (by omega)) fun hg => ?_
  obtain ⟨h0, h, p, h1, h2, rfl, rfl, h3, h4, h5⟩ := nmkG_none hg
  obtain ⟨x, hx, rfl⟩ := inN_t h0
  have hc : cin σ h p x ≤ nc σ := cnt_le _ _
  simp (disch := omega) only [cl_nI] at h4 ⊢
  have g := m_make S E R B w (p := p) (k := 3) (a := x) h1 h3 h4 0
  have g2 := m_meets S E R (f := 2) (by omega)
  simp (disch := omega) only [bd_v, on_v, on_0, mk_9 S, mg_289 S E, mg_291 S E, mg_292 S E, mg_293 S E, mg_294 S E, mg_296 S E, mg_298 S E, mg_299 S E, mg_300 S E, mg_301 S E, mg_302 S E, mg_303 S E, mg_304 S E, mg_305 S E, mg_307 S E, mg_309 S E, mg_310 S E, mg_311 S E, mg_312 S E, mg_313 S E, mg_314 S E, mg_315 S E, mA_1 S, mA_2 S, mA_3 S, mA_4 S, mA_5 S, mA_6 S, mA_7 S, mA_8 S, mA_9 S, mA_10 S, mA_11 S, mA_12 S, mA_13 S, mA_14 S, mA_15 S, mA_16 S, mA_17 S, mA_18 S, mA_19 S, mA_20 S, mA_21 S, mA_22 S, mi_288 S, mi_290 S, mi_295 S, mi_297 S, mi_308 S, mi_306 S, rm_nh R, rm_np R, rm_nc R, rm_lat R, rm_ask R, rm_kin R, rm_mk R, rm_pg R, rm_ct R, rm_ac R, rm_ax R, rm_vl R, rm_skp R, rm_md R, rm_lm R, rm_thr R, rm_lf R, rm_cme R, z_0, z_1, z_2, z_3, z_4, z_5, z_6, z_7, z_8, z_10, z_16, z_17, z_31, z_63, z_64, z_400, nI_add, pk_mul, nI_eq, nI_leI, nI_ltI, bI_z, nI_m9, bI_m9, m_countIn S E R B]
  by_cases h6 : cin σ h p x = 0
  · simp only [h6, if_true]; exact ok_id g2
  · simp only [h6, if_false]; exact ok_id g
theorem m_spend (S : MS sh mm) (E : MD d mm) (R : RM σ d mm) (B : WB σ) (w : Wel σ) (a1 a2 : Int32) (v : Int64) : OKm (fX7_spend sh d mm a1 a2 v) mm (spendV σ a1 a2 v) := by
  have b1 := B.1
  have b2 := B.2.1
  unfold fX7_spend fX7_spend_b0 spendV
  rw [m_isShare, bd_v, mk_9 S, bd_v]
  refine gate_m (m_needMake S E R B w _ a1 a2 (k := 5) (by omega)) fun hg => ?_
  obtain ⟨h0, h, p, h1, h2, rfl, rfl, h3, h4, h5⟩ := nmkG_none hg
  simp (disch := omega) only [cl_nI] at h4 ⊢
  have g := m_make S E R B w (p := p) (k := 5) (a := 0) h1 h3 h4 v
  have g2 := m_meets S E R (f := 2) (by omega)
  simp (disch := omega) only [bd_v, m_rightsOf S E R B, lg_ge0]
  by_cases h6 : v.toInt ≤ (rgt σ h p h).toInt
  · simp only [h6, if_true]; exact ok_id g
  · simp only [h6, if_false]; exact ok_id g2
theorem m_give (S : MS sh mm) (E : MD d mm) (R : RM σ d mm) (B : WB σ) (w : Wel σ) (a1 a2 a3 : Int32) (v : Int64) : OKm (fX7_give sh d mm a1 a2 a3 v) mm (giveV σ a1 a2 a3 v) := by
  have b1 := B.1
  have b2 := B.2.1
  have key : ∀ good : Bool, good = (inN a3 (nh σ) && (!decide (a3 = a1) && shr v)) → OKm (fX7_give_b27 sh mm a1 a2 a3 v mm (bI good) d) mm (giveV σ a1 a2 a3 v) := by
    intro good hgd
    unfold fX7_give_b27 giveV
    rw [mk_9 S, bd_v, ← hgd]
    refine gate_m (m_needMake S E R B w _ a1 a2 (k := 5) (by omega)) fun hg => ?_
    obtain ⟨h0, h, p, h1, h2, rfl, rfl, h3, h4, h5⟩ := nmkG_none hg
    rw [hgd] at h0
    simp only [Bool.and_eq_true] at h0
    obtain ⟨x, hx, rfl⟩ := inN_t h0.1
    simp (disch := omega) only [cl_nI] at h4 ⊢
    have g := m_make S E R B w (p := p) (k := 4) (a := x) h1 h3 h4 v
    have g2 := m_meets S E R (f := 2) (by omega)
    simp (disch := omega) only [bd_v, mk_9 S, m_rightsOf S E R B, lg_ge0]
    by_cases h6 : v.toInt ≤ (rgt σ h p h).toInt
    · simp only [h6, if_true]; exact ok_id g
    · simp only [h6, if_false]; exact ok_id g2
  unfold fX7_give fX7_give_b0
  rw [mk_9 S, bd_v, m_isHand S R B, bd_v]
  cases h1 : inN a3 (nh σ) with
  | false => exact key false (by rw [h1]; rfl)
  | true =>
    rw [if_neg (by decide)]
    by_cases h2 : a3 = a1
    · rw [if_pos h2]; exact key false (by simp [h2])
    · rw [if_neg h2, m_isShare, bd_v]
      cases h3 : shr v with
      | false => exact key false (by simp [h3])
      | true => exact key true (by simp [h1, h2, h3])
theorem m_raise (S : MS sh mm) (E : MD d mm) (R : RM σ d mm) (B : WB σ) (w : Wel σ) (a1 a2 : Int32) (b : Bool) : OKm (fX7_raise sh d mm a1 a2 (bI b)) mm (raiseV σ a1 a2 b) := by
  have b1 := B.1
  have b2 := B.2.1
  unfold fX7_raise fX7_raise_b0 raiseV
  rw [mk_9 S, bd_v]
  refine gate_m (m_needMake S E R B w true a1 a2 (k := 6) (by omega)) fun hg => ?_
  obtain ⟨-, h, p, h1, h2, rfl, rfl, h3, h4, h5⟩ := nmkG_none hg
  simp (disch := omega) only [cl_nI, fX7_raise_b35, mk_9 S, bd_v] at h4 ⊢
  cases b with
  | true => exact ok_id (m_make S E R B w (k := 6) (a := 0) h1 h3 h4 0)
  | false => exact ok_id (m_make S E R B w (k := 7) (a := 0) h1 h3 h4 0)
theorem tel_lt (B : WB σ) {h p c : Nat} (e : tel σ h p = some c) : c < nc σ := by
  have : ∀ j, j ≤ nc σ → ∀ b, fo (fun c a => if onB σ h p c 0 then (match a with
    | none => some c
    | some b => if aft σ c b = decide (kin σ p = 1) then a else some c) else a) (none : Option Nat) j = some b → b < j := by
    intro j hj
    refine fo_I (N := nc σ) (I := fun j a => ∀ b, a = some b → b < j) (fun j a hj ha => ?_) (fun b hb => by cases hb) j hj
    intro b
    cases h1 : onB σ h p j 0 with
    | false => intro e; have := ha b e; omega
    | true =>
      cases a with
      | none => intro e; cases e; omega
      | some a =>
        have := ha a rfl
        simp only [if_true]
        split <;> intro e <;> cases e <;> omega
  exact this (nc σ) (Nat.le_refl _) c e
theorem m_value (S : MS sh mm) (E : MD d mm) (R : RM σ d mm) (B : WB σ) (a1 a2 : Int32) : OKm (fX7_value sh d mm a1 a2) mm (valueV σ a1 a2) := by
  have b1 := B.1
  have b2 := B.2.1
  have b3 := B.2.2.1
  unfold fX7_value fX7_value_b0 valueV
  rw [mk_9 S, bd_v]
  refine gate_m (m_need S E R B true a1 a2 (k := 0) (by omega)) fun hg => ?_
  obtain ⟨-, h, p, h1, h2, rfl, rfl, h5⟩ := needG_none hg
  simp (disch := omega) only [cl_nI, m_telling S E R B, bd_v]
  cases ht : tel σ h p with
  | none =>
    simp only [oc, if_true, mi_306 S, mp_306 S, bd_v]
    refine ⟨_, rfl, E, ?_⟩
    rw [rm_ask R]
    exact rm_w_ask R
  | some c =>
    have hc := tel_lt B ht
    simp (disch := omega) only [oc, bd_v, on_v, on_0, mk_9 S, mg_289 S E, mg_291 S E, mg_292 S E, mg_293 S E, mg_294 S E, mg_296 S E, mg_298 S E, mg_299 S E, mg_300 S E, mg_301 S E, mg_302 S E, mg_303 S E, mg_304 S E, mg_305 S E, mg_307 S E, mg_309 S E, mg_310 S E, mg_311 S E, mg_312 S E, mg_313 S E, mg_314 S E, mg_315 S E, mA_1 S, mA_2 S, mA_3 S, mA_4 S, mA_5 S, mA_6 S, mA_7 S, mA_8 S, mA_9 S, mA_10 S, mA_11 S, mA_12 S, mA_13 S, mA_14 S, mA_15 S, mA_16 S, mA_17 S, mA_18 S, mA_19 S, mA_20 S, mA_21 S, mA_22 S, mi_288 S, mi_290 S, mi_295 S, mi_297 S, mi_308 S, mi_306 S, rm_nh R, rm_np R, rm_nc R, rm_lat R, rm_ask R, rm_kin R, rm_mk R, rm_pg R, rm_ct R, rm_ac R, rm_ax R, rm_vl R, rm_skp R, rm_md R, rm_lm R, rm_thr R, rm_lf R, rm_cme R, z_0, z_1, z_2, z_3, z_4, z_5, z_6, z_7, z_8, z_10, z_16, z_17, z_31, z_63, z_64, z_400, nI_add, pk_mul, nI_eq, nI_leI, nI_ltI, bI_z, nI_m9, bI_m9, bd2_v, gR_uI, gR_uL, gR_uAI, gR_uAL, gI_uL, gI_uAI, gI_uAL, gL_uI, gL_uAI, gL_uAL, r_ai_I, r_ai_L, r_ai_AL, r_al_I, r_al_L, r_al_AI, r_fi_L, r_fi_AI, r_fi_AL, r_fl_I, r_fl_AI, r_fl_AL, fi_ne, fi_eq, fl_eq, ai_ne, ai_n2, ai_eq, al_ne, al_n2, al_eq, mW_1 S, mW_2 S, mW_3 S, mW_4 S, mW_5 S, mW_6 S, mW_7 S, mW_8 S, mW_9 S, mW_10 S, mW_11 S, mW_12 S, mW_13 S, mW_14 S, mW_15 S, mW_16 S, mW_17 S, mW_18 S, mW_19 S, mW_20 S, mW_21 S, mW_22 S, mp_288 S, mp_290 S, mp_295 S, mp_297 S, mp_308 S, mp_306 S]
    exact ⟨_, rfl, E, rm_w_ask R⟩
theorem m_sum (S : MS sh mm) (E : MD d mm) (R : RM σ d mm) (B : WB σ) (a1 a2 : Int32) : OKm (fX7_sum sh d mm a1 a2) mm (sumV σ a1 a2) := by
  have b1 := B.1
  have b2 := B.2.1
  unfold fX7_sum fX7_sum_b0 sumV
  rw [mk_9 S, bd_v]
  refine gate_m (m_need S E R B true a1 a2 (k := 2) (by omega)) fun hg => ?_
  obtain ⟨-, h, p, h1, h2, rfl, rfl, h5⟩ := needG_none hg
  have R1 := rm_w_ask (v := sumS σ h p) R
  have e1 := m_manyOn S (d := uL d 306 mm (sumS σ h p)) E R1 (B : WB (s_ask σ (sumS σ h p))) (h := h) (p := p) (by omega) (by omega)
  simp (disch := omega) only [cl_nI, m_sumOf S E R B, bd_v, mp_306 S, e1]
  exact ⟨_, rfl, E, R1⟩
theorem m_mean (S : MS sh mm) (E : MD d mm) (R : RM σ d mm) (B : WB σ) (a1 a2 : Int32) : OKm (fX7_mean sh d mm a1 a2) mm (meanV σ a1 a2) := by
  have b1 := B.1
  have b2 := B.2.1
  have b3 := B.2.2.1
  unfold fX7_mean fX7_mean_b0 meanV
  rw [mk_9 S, bd_v]
  refine gate_m (m_need S E R B true a1 a2 (k := 2) (by omega)) fun hg => ?_
  obtain ⟨-, h, p, h1, h2, rfl, rfl, h5⟩ := needG_none hg
  have hc : mny σ h p ≤ nc σ := cnt_le _ _
  simp (disch := omega) only [cl_nI, m_manyOn S E R B, m_sumOf S E R B, bd_v, mp_306 S]
  rw [show (0 : Int32) = nI 0 from rfl]
  simp (disch := omega) only [nI_eq]
  by_cases h6 : mny σ h p = 0
  · rw [if_pos h6, if_pos h6]
    exact ok_id (m_meets S E R (f := 4) (by omega))
  · rw [if_neg h6, if_neg h6]
    rw [if_neg (show ¬ (nI (mny σ h p)).toInt64 = 0 from fun q => h6 (by
      have q2 := congrArg Int64.toInt q
      rw [Int32.toInt_toInt64, nI_toInt (by omega)] at q2
      have : (0 : Int64).toInt = 0 := rfl
      omega))]
    exact ⟨_, rfl, E, rm_w_ask R⟩
theorem m_often (S : MS sh mm) (E : MD d mm) (R : RM σ d mm) (B : WB σ) (a1 a2 a3 : Int32) : OKm (fX7_often sh d mm a1 a2 a3) mm (oftenV σ a1 a2 a3) := by
  have b1 := B.1
  have b2 := B.2.1
  unfold fX7_often fX7_often_b0 oftenV
  rw [show fX7_in sh d a3 0 63 = some (inN a3 64) from m_in63 a3, bd_v, mk_9 S, bd_v]
  refine gate_m (m_need S E R B _ a1 a2 (k := 3) (by omega)) fun hg => ?_
  obtain ⟨h0, h, p, h1, h2, rfl, rfl, h5⟩ := needG_none hg
  obtain ⟨x, hx, rfl⟩ := inN_t h0
  simp (disch := omega) only [cl_nI, m_countIn S E R B, bd_v]
  exact ⟨_, rfl, E, R⟩
theorem m_rights (S : MS sh mm) (E : MD d mm) (R : RM σ d mm) (B : WB σ) (a1 a2 a3 : Int32) : OKm (fX7_rights sh d mm a1 a2 a3) mm (rightsV σ a1 a2 a3) := by
  have b1 := B.1
  have b2 := B.2.1
  unfold fX7_rights fX7_rights_b0 rightsV
  rw [mk_9 S, bd_v, m_isHand S R B, bd_v]
  refine gate_m (m_need S E R B _ a1 a2 (k := 5) (by omega)) fun hg => ?_
  obtain ⟨h0, h, p, h1, h2, rfl, rfl, h5⟩ := needG_none hg
  obtain ⟨x, hx, rfl⟩ := inN_t h0
  simp (disch := omega) only [cl_nI, m_rightsOf S E R B, bd_v, mp_306 S]
  exact ⟨_, rfl, E, rm_w_ask R⟩
theorem m_up (S : MS sh mm) (E : MD d mm) (R : RM σ d mm) (B : WB σ) (a1 a2 : Int32) : OKm (fX7_up sh d mm a1 a2) mm (upV σ a1 a2) := by
  have b1 := B.1
  have b2 := B.2.1
  unfold fX7_up fX7_up_b0 upV
  rw [mk_9 S, bd_v]
  refine gate_m (m_need S E R B true a1 a2 (k := 6) (by omega)) fun hg => ?_
  obtain ⟨-, h, p, h1, h2, rfl, rfl, h5⟩ := needG_none hg
  simp (disch := omega) only [cl_nI, m_isUp S E R B, bd_v]
  cases upB σ h p <;> exact ⟨_, rfl, E, R⟩
theorem m_save (S : MS sh mm) (E : MD d mm) (R : RM σ d mm) (B : WB σ) (a1 a2 : Int32) : OKm (fX7_save sh d mm a1 a2) mm (saveV σ a1 a2) := by
  have b1 := B.1
  unfold fX7_save fX7_save_b0 saveV
  rw [mk_9 S, bd_v, m_isHand S R B, bd_v]
  cases h1 : inN a1 (nh σ) with
  | false => exact ⟨d, rfl, E, R⟩
  | true =>
    obtain ⟨h, e1, rfl⟩ := inN_t h1
    have hl := (B.2.2.2.2.2 h (by omega)).1
    simp (disch := omega) only [cl_nI, mg_311 S E, mA_18 S, rm_lm R, bd_v, m_inN]
    rw [if_neg (by decide), if_pos trivial]
    cases h2 : inN a2 (lm σ h) with
    | false => exact ok_id (m_meets S E R (f := 2) (by omega))
    | true =>
      obtain ⟨i, e2, rfl⟩ := inN_t h2
      have n1 : vp_nar .boolean (nI 1) = bI true := rfl
      rw [if_neg (by decide), if_pos rfl]
      simp (disch := omega) only [bd_v, on_v, on_0, mk_9 S, mg_289 S E, mg_291 S E, mg_292 S E, mg_293 S E, mg_294 S E, mg_296 S E, mg_298 S E, mg_299 S E, mg_300 S E, mg_301 S E, mg_302 S E, mg_303 S E, mg_304 S E, mg_305 S E, mg_307 S E, mg_309 S E, mg_310 S E, mg_311 S E, mg_312 S E, mg_313 S E, mg_314 S E, mg_315 S E, mA_1 S, mA_2 S, mA_3 S, mA_4 S, mA_5 S, mA_6 S, mA_7 S, mA_8 S, mA_9 S, mA_10 S, mA_11 S, mA_12 S, mA_13 S, mA_14 S, mA_15 S, mA_16 S, mA_17 S, mA_18 S, mA_19 S, mA_20 S, mA_21 S, mA_22 S, mi_288 S, mi_290 S, mi_295 S, mi_297 S, mi_308 S, mi_306 S, rm_nh R, rm_np R, rm_nc R, rm_lat R, rm_ask R, rm_kin R, rm_mk R, rm_pg R, rm_ct R, rm_ac R, rm_ax R, rm_vl R, rm_skp R, rm_md R, rm_lm R, rm_thr R, rm_lf R, rm_cme R, z_0, z_1, z_2, z_3, z_4, z_5, z_6, z_7, z_8, z_10, z_16, z_17, z_31, z_63, z_64, z_400, nI_add, pk_mul, nI_eq, nI_leI, nI_ltI, bI_z, nI_m9, bI_m9, bd2_v, gR_uI, gR_uL, gR_uAI, gR_uAL, gI_uL, gI_uAI, gI_uAL, gL_uI, gL_uAI, gL_uAL, r_ai_I, r_ai_L, r_ai_AL, r_al_I, r_al_L, r_al_AI, r_fi_L, r_fi_AI, r_fi_AL, r_fl_I, r_fl_AI, r_fl_AL, fi_ne, fi_eq, fl_eq, ai_ne, ai_n2, ai_eq, al_ne, al_n2, al_eq, mW_1 S, mW_2 S, mW_3 S, mW_4 S, mW_5 S, mW_6 S, mW_7 S, mW_8 S, mW_9 S, mW_10 S, mW_11 S, mW_12 S, mW_13 S, mW_14 S, mW_15 S, mW_16 S, mW_17 S, mW_18 S, mW_19 S, mW_20 S, mW_21 S, mW_22 S, mp_288 S, mp_290 S, mp_295 S, mp_297 S, mp_308 S, mp_306 S, cl_nI, n1]
      exact ⟨_, rfl, E, rm_w_lf (show i < 16 by omega) (rm_w_thr (show i < 16 by omega) R)⟩
theorem m_lacks (S : MS sh mm) (E : MD d mm) (R : RM σ d mm) (B : WB σ) {h : Nat} (hh : h < nh σ) (a2 : Int32) : fX7_lacksLeaf sh d mm (nI h) a2 = some (nI (if inN a2 (lm σ h) then (if thr σ h (cl a2) then 0 else 1) else 2)) := by
  have b1 := B.1
  have hl := (B.2.2.2.2.2 h (by omega)).1
  unfold fX7_lacksLeaf fX7_lacksLeaf_b0
  simp (disch := omega) only [mg_311 S E, mA_18 S, rm_lm R, bd_v, m_inN]
  cases h2 : inN a2 (lm σ h) with
  | false => rfl
  | true =>
    obtain ⟨i, e2, rfl⟩ := inN_t h2
    rw [if_neg (by decide), if_pos rfl]
    simp (disch := omega) only [bd_v, on_v, on_0, mk_9 S, mg_289 S E, mg_291 S E, mg_292 S E, mg_293 S E, mg_294 S E, mg_296 S E, mg_298 S E, mg_299 S E, mg_300 S E, mg_301 S E, mg_302 S E, mg_303 S E, mg_304 S E, mg_305 S E, mg_307 S E, mg_309 S E, mg_310 S E, mg_311 S E, mg_312 S E, mg_313 S E, mg_314 S E, mg_315 S E, mA_1 S, mA_2 S, mA_3 S, mA_4 S, mA_5 S, mA_6 S, mA_7 S, mA_8 S, mA_9 S, mA_10 S, mA_11 S, mA_12 S, mA_13 S, mA_14 S, mA_15 S, mA_16 S, mA_17 S, mA_18 S, mA_19 S, mA_20 S, mA_21 S, mA_22 S, mi_288 S, mi_290 S, mi_295 S, mi_297 S, mi_308 S, mi_306 S, rm_nh R, rm_np R, rm_nc R, rm_lat R, rm_ask R, rm_kin R, rm_mk R, rm_pg R, rm_ct R, rm_ac R, rm_ax R, rm_vl R, rm_skp R, rm_md R, rm_lm R, rm_thr R, rm_lf R, rm_cme R, z_0, z_1, z_2, z_3, z_4, z_5, z_6, z_7, z_8, z_10, z_16, z_17, z_31, z_63, z_64, z_400, nI_add, pk_mul, nI_eq, nI_leI, nI_ltI, bI_z, nI_m9, bI_m9, bd2_v, gR_uI, gR_uL, gR_uAI, gR_uAL, gI_uL, gI_uAI, gI_uAL, gL_uI, gL_uAI, gL_uAL, r_ai_I, r_ai_L, r_ai_AL, r_al_I, r_al_L, r_al_AI, r_fi_L, r_fi_AI, r_fi_AL, r_fl_I, r_fl_AI, r_fl_AL, fi_ne, fi_eq, fl_eq, ai_ne, ai_n2, ai_eq, al_ne, al_n2, al_eq, mW_1 S, mW_2 S, mW_3 S, mW_4 S, mW_5 S, mW_6 S, mW_7 S, mW_8 S, mW_9 S, mW_10 S, mW_11 S, mW_12 S, mW_13 S, mW_14 S, mW_15 S, mW_16 S, mW_17 S, mW_18 S, mW_19 S, mW_20 S, mW_21 S, mW_22 S, mp_288 S, mp_290 S, mp_295 S, mp_297 S, mp_308 S, mp_306 S, cl_nI]
    cases thr σ h i <;> rfl
theorem m_tear (S : MS sh mm) (E : MD d mm) (R : RM σ d mm) (B : WB σ) (a1 a2 : Int32) : OKm (fX7_tear sh d mm a1 a2) mm (tearV σ a1 a2) := by
  have b1 := B.1
  unfold fX7_tear fX7_tear_b0 tearV
  rw [mk_9 S, bd_v, m_isHand S R B, bd_v]
  cases h1 : inN a1 (nh σ) with
  | false => exact ⟨d, rfl, E, R⟩
  | true =>
    obtain ⟨h, e1, rfl⟩ := inN_t h1
    have hl := (B.2.2.2.2.2 h (by omega)).1
    rw [m_lacks S E R B e1, bd_v, cl_nI (by omega), if_neg (by decide), if_pos rfl]
    cases h2 : inN a2 (lm σ h) with
    | false => exact ok_id (m_meets S E R (f := 2) (by omega))
    | true =>
      obtain ⟨i, e2, rfl⟩ := inN_t h2
      rw [if_pos rfl, if_pos rfl, cl_nI (by omega)]
      cases h3 : thr σ h i with
      | false => exact ok_id (m_meets S E R (f := 1) (by omega))
      | true =>
        have n0 : vp_nar .boolean (nI 0) = bI false := rfl
        simp (disch := omega) only [bd_v, on_v, on_0, mk_9 S, mg_289 S E, mg_291 S E, mg_292 S E, mg_293 S E, mg_294 S E, mg_296 S E, mg_298 S E, mg_299 S E, mg_300 S E, mg_301 S E, mg_302 S E, mg_303 S E, mg_304 S E, mg_305 S E, mg_307 S E, mg_309 S E, mg_310 S E, mg_311 S E, mg_312 S E, mg_313 S E, mg_314 S E, mg_315 S E, mA_1 S, mA_2 S, mA_3 S, mA_4 S, mA_5 S, mA_6 S, mA_7 S, mA_8 S, mA_9 S, mA_10 S, mA_11 S, mA_12 S, mA_13 S, mA_14 S, mA_15 S, mA_16 S, mA_17 S, mA_18 S, mA_19 S, mA_20 S, mA_21 S, mA_22 S, mi_288 S, mi_290 S, mi_295 S, mi_297 S, mi_308 S, mi_306 S, rm_nh R, rm_np R, rm_nc R, rm_lat R, rm_ask R, rm_kin R, rm_mk R, rm_pg R, rm_ct R, rm_ac R, rm_ax R, rm_vl R, rm_skp R, rm_md R, rm_lm R, rm_thr R, rm_lf R, rm_cme R, z_0, z_1, z_2, z_3, z_4, z_5, z_6, z_7, z_8, z_10, z_16, z_17, z_31, z_63, z_64, z_400, nI_add, pk_mul, nI_eq, nI_leI, nI_ltI, bI_z, nI_m9, bI_m9, bd2_v, gR_uI, gR_uL, gR_uAI, gR_uAL, gI_uL, gI_uAI, gI_uAL, gL_uI, gL_uAI, gL_uAL, r_ai_I, r_ai_L, r_ai_AL, r_al_I, r_al_L, r_al_AI, r_fi_L, r_fi_AI, r_fi_AL, r_fl_I, r_fl_AI, r_fl_AL, fi_ne, fi_eq, fl_eq, ai_ne, ai_n2, ai_eq, al_ne, al_n2, al_eq, mW_1 S, mW_2 S, mW_3 S, mW_4 S, mW_5 S, mW_6 S, mW_7 S, mW_8 S, mW_9 S, mW_10 S, mW_11 S, mW_12 S, mW_13 S, mW_14 S, mW_15 S, mW_16 S, mW_17 S, mW_18 S, mW_19 S, mW_20 S, mW_21 S, mW_22 S, mp_288 S, mp_290 S, mp_295 S, mp_297 S, mp_308 S, mp_306 S, n0]
        exact ⟨_, rfl, E, rm_w_thr (show i < 16 by omega) R⟩
theorem m_leaf (S : MS sh mm) (E : MD d mm) (R : RM σ d mm) (B : WB σ) (a1 a2 : Int32) : OKm (fX7_leaf sh d mm a1 a2) mm (leafV σ a1 a2) := by
  have b1 := B.1
  unfold fX7_leaf fX7_leaf_b0 leafV
  rw [mk_9 S, bd_v, m_isHand S R B, bd_v]
  cases h1 : inN a1 (nh σ) with
  | false => exact ⟨d, rfl, E, R⟩
  | true =>
    obtain ⟨h, e1, rfl⟩ := inN_t h1
    have hl := (B.2.2.2.2.2 h (by omega)).1
    rw [m_lacks S E R B e1, bd_v, cl_nI (by omega), if_neg (by decide), if_pos rfl]
    cases h2 : inN a2 (lm σ h) with
    | false => exact ok_id (m_meets S E R (f := 2) (by omega))
    | true =>
      obtain ⟨i, e2, rfl⟩ := inN_t h2
      rw [if_pos rfl, if_pos rfl, cl_nI (by omega)]
      cases h3 : thr σ h i with
      | false => exact ok_id (m_meets S E R (f := 1) (by omega))
      | true =>
        simp (disch := omega) only [bd_v, on_v, on_0, mk_9 S, mg_289 S E, mg_291 S E, mg_292 S E, mg_293 S E, mg_294 S E, mg_296 S E, mg_298 S E, mg_299 S E, mg_300 S E, mg_301 S E, mg_302 S E, mg_303 S E, mg_304 S E, mg_305 S E, mg_307 S E, mg_309 S E, mg_310 S E, mg_311 S E, mg_312 S E, mg_313 S E, mg_314 S E, mg_315 S E, mA_1 S, mA_2 S, mA_3 S, mA_4 S, mA_5 S, mA_6 S, mA_7 S, mA_8 S, mA_9 S, mA_10 S, mA_11 S, mA_12 S, mA_13 S, mA_14 S, mA_15 S, mA_16 S, mA_17 S, mA_18 S, mA_19 S, mA_20 S, mA_21 S, mA_22 S, mi_288 S, mi_290 S, mi_295 S, mi_297 S, mi_308 S, mi_306 S, rm_nh R, rm_np R, rm_nc R, rm_lat R, rm_ask R, rm_kin R, rm_mk R, rm_pg R, rm_ct R, rm_ac R, rm_ax R, rm_vl R, rm_skp R, rm_md R, rm_lm R, rm_thr R, rm_lf R, rm_cme R, z_0, z_1, z_2, z_3, z_4, z_5, z_6, z_7, z_8, z_10, z_16, z_17, z_31, z_63, z_64, z_400, nI_add, pk_mul, nI_eq, nI_leI, nI_ltI, bI_z, nI_m9, bI_m9, bd2_v, gR_uI, gR_uL, gR_uAI, gR_uAL, gI_uL, gI_uAI, gI_uAL, gL_uI, gL_uAI, gL_uAL, r_ai_I, r_ai_L, r_ai_AL, r_al_I, r_al_L, r_al_AI, r_fi_L, r_fi_AI, r_fi_AL, r_fl_I, r_fl_AI, r_fl_AL, fi_ne, fi_eq, fl_eq, ai_ne, ai_n2, ai_eq, al_ne, al_n2, al_eq, mW_1 S, mW_2 S, mW_3 S, mW_4 S, mW_5 S, mW_6 S, mW_7 S, mW_8 S, mW_9 S, mW_10 S, mW_11 S, mW_12 S, mW_13 S, mW_14 S, mW_15 S, mW_16 S, mW_17 S, mW_18 S, mW_19 S, mW_20 S, mW_21 S, mW_22 S, mp_288 S, mp_290 S, mp_295 S, mp_297 S, mp_308 S, mp_306 S]
        exact ⟨_, rfl, E, rm_w_ask R⟩
end
