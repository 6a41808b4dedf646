/-! the class: a new PAGE -/
def pS (sh : Sh) (z l : Nat) : Sh := nsh (nsh (nsh (nsh sh z 5 0) (z + 1) 6 0) (z + 2) 20 6) (z + 3) 23 l
def pD (d : Dt) (z p k : Nat) : Dt := uR (zA (uI (uI (uR (uR (zA (zO (zO d z) (z + 1)) (z + 2)) 192 (z + 1) (some (z + 2))) 163 z (some (z + 1))) 160 z (nI p)) 161 z (nI k)) (z + 3)) 162 z (some (z + 3))
section
variable {sh : Sh} {d : Dt} {em mi sz ns : Nat}
theorem c_pinit (p : Nat) {k : Nat} (hk : k < 8) : ∃ l, l = shn k ∧ fX3_init em mi sz (nI p) (nI k) (sz + 1) (ns + 4) (nsh sh sz 5 0) (zO d sz) = some (sz + 4, ns + 11 + l, pS sh sz l, pD d sz p k) := by
  refine ⟨shn k, rfl, ?_⟩
  have hl : shn k ≤ 64 := by unfold shn; split <;> omega
  unfold fX3_init fX3_init_b0 nwO
  rw [bw_v]
  unfold fX3_init_b8 fX4_init fX4_init_b0
  rw [show (6 : Int32) = nI 6 from rfl, nwA_v (by decide), bw_v]
  unfold fX4_init_b9
  rw [pR_v (by simp [nsh, va_up, Nat.add_assoc]), bd_v, bw_v]
  unfold fX3_init_b12
  rw [pR_v (by simp [nsh, va_up, Nat.add_assoc]), bd_v, pI_v (by simp [nsh, va_up, Nat.add_assoc]), bd_v, pI_v (by simp [nsh, va_up, Nat.add_assoc]), bd_v]
  have e : ∀ (d : Dt) (s : Sh) (a b : Nat), (if nI k = (3 : Int32) then fX3_init_b37 em mi sz (64 : Int32) a b s d else fX3_init_b37 em mi sz (1 : Int32) a b s d) = fX3_init_b37 em mi sz (nI (shn k)) a b s d := by
    intro d s a b
    unfold shn
    by_cases z : k = 3
    · subst z; rw [if_pos (show nI 3 = 3 from rfl), if_pos rfl]; rfl
    · rw [if_neg (show ¬ nI k = 3 from fun q => z ((nI_eq (b := 3) (by omega) (by decide)).mp q)), if_neg z]; rfl
  rw [e]
  unfold fX3_init_b37
  rw [nwA_v (by omega), bw_v]
  unfold fX3_init_b40
  rw [pR_v (by simp [nsh, va_up, Nat.add_assoc]), bd_v]
  rfl
theorem pD_g {z : Nat} (p k : Nat) : DG z d (pD d z p k) := by
  unfold pD
  exact dg_R (dg_A (dg_I (dg_I (dg_R (dg_R (dg_A (dg_O (dg_O dg_r (by omega)) (by omega)) (by omega)) (by omega)) (by omega)) (by omega)) (by omega)) (by omega)) (by omega)
theorem pS_g {z l : Nat} : SG z sh (pS sh z l) := by
  unfold pS
  exact sg_n (sg_n (sg_n (sg_n sg_r (by omega)) (by omega)) (by omega)) (by omega)
end
section
variable {sh : Sh} {d e : Dt} {x : Nat} {σ : St} {G : Gh} {em mi sz ns : Nat}
theorem prv_page (B : WB σ) {k p s n : Nat} (hp : p < np σ) : prv (pageS σ k) p s n = prv σ p s n := by
  unfold prv
  congr 1
  funext c
  show (decide (pg σ c = p) && decide ((if u1 (kin σ) (np σ) k p = 3 then ax σ c else 0) = s)) = (decide (pg σ c = p) && decide ((if kin σ p = 3 then ax σ c else 0) = s))
  rw [u1_n _ _ (by omega)]
theorem prv_none (B : WB σ) {k s : Nat} : prv (pageS σ k) (np σ) s (nc σ) = none := by
  unfold prv
  have : ∀ n, n ≤ nc σ → prq (ons (pageS σ k) (np σ) s) n = none := by
    intro n
    induction n with
    | zero => intro _; rfl
    | succ n ih =>
      intro hn
      have : ons (pageS σ k) (np σ) s n = false := by
        have := (wb_c B (show n < nc σ by omega)).2.1
        show (decide (pg σ n = np σ) && _) = false
        rw [decide_eq_false (by omega)]; rfl
      show (if ons (pageS σ k) (np σ) s n then some n else _) = none
      rw [this, if_neg (by decide)]; exact ih (by omega)
  exact this _ (Nat.le_refl _)
theorem c_page (S : CZ σ G x em sz ns sh) (D : CD σ G x d) (B : WB σ) (w : Wel σ) (h13 : cap G 13 = 0) (a1 : Int32) : OKA (fX6_page em mi x a1 sz ns sh d) x em (pageV σ a1) := by
  have b1 := B.1
  have b2 := B.2.1
  have b3 := B.2.2.1
  unfold fX6_page fX6_page_b0 pageV
  rw [c_isKind, bd_v]
  cases h1 : inN a1 8 with
  | false => exact ⟨_, _, _, d, G, rfl, S, D, h13⟩
  | true =>
    obtain ⟨k, hk, rfl⟩ := inN_t h1
    rw [if_neg (by decide), if_pos rfl, cf_263 S D, bd_v, cl_nI (by omega)]
    by_cases g : np σ = 10
    · rw [if_pos g, g, if_neg (by decide)]
      exact ⟨_, _, _, d, G, rfl, S, D, h13⟩
    · rw [if_neg g, if_pos (show nI (np σ) < (10 : Int32) from nI_lt (b := 10) (by omega) (by decide)), cf_257 S D, bd_v, bd_v]
      unfold nwO
      rw [bw_v]
      unfold fX6_page_b32
      have S1 := cz_sh S (sg_n (a := sz) (kd := 5) (n := 0) sg_r (Nat.le_refl _))
      have D1 := cd_mono S B (dg_O (a := sz) dg_r (Nat.le_refl _)) D
      obtain ⟨l, hl, ei⟩ := c_pinit (em := em) (mi := mi) (sz := sz) (ns := ns) (sh := sh) (d := d) (np σ) hk
      have hl64 : l ≤ 64 := by rw [hl]; unfold shn; split <;> omega
      rw [cf_263 S1 D1, bd_v, ei, bw_v]
      unfold fX6_page_b41
      have S2 := cz_sh S (pS_g (sh := sh) (z := sz) (l := l))
      have D2 := cd_mono S B (pD_g (d := d) (z := sz) (np σ) k) D
      have kz : (pS sh sz l).1 sz = 5 := by unfold pS; simp [nsh, va_up]
      rw [bd_v, show cst (pS sh sz l) 5 (some sz) = some () from kc_v kz, bd_v, sR_v (sX_2 S2) (by rw [nX_2 S2]; omega) (by omega), bd_v]
      have e1 : gI (pS sh sz l) (uAR (pD d sz (np σ) k) (x + 2) (np σ) (some sz)) 8 263 x = some (nI (np σ)) := (gI_v (sX_0 S2)).trans (congrArg some D2.1.1.2.1)
      rw [e1, bd_v, nI_1, pI_v (sX_0 S2), bd_v, gI_v (sX_0 S2), bd_v, fi_eq, nI_pred]
      have hP : ∀ y, y < np σ → u1 (PA G) (np σ) sz y = PA G y := fun y hy => u1_n _ _ (by omega)
      have hPs : u1 (PA G) (np σ) sz (np σ) = sz := u1_s _ _ _
      have hK : ∀ y, y < np σ → u1 (kin σ) (np σ) k y = kin σ y := fun y hy => u1_n _ _ (by omega)
      have hKs : u1 (kin σ) (np σ) k (np σ) = k := u1_s _ _ _
      refine ⟨_, _, _, _, g_t (g_P G (u1 (PA G) (np σ) sz)) (fun b => if sz ≤ b then 32 * np σ + 18 + (b - sz) else tg G b), rfl, ?_, ?_, h13⟩
      · have hT : ∀ b, b < sz → (if sz ≤ b then 32 * np σ + 18 + (b - sz) else tg G b) = tg G b := fun b hb => if_neg (by omega)
        have hT2 : ∀ j, (if sz ≤ sz + j then 32 * np σ + 18 + (sz + j - sz) else tg G (sz + j)) = 32 * np σ + 18 + j := fun j => by rw [if_pos (by omega)]; omega
        refine ⟨⟨S2.1.1, S2.1.2.1, S2.1.2.2.1, S2.1.2.2.2.1, fun y hy => ?_, S2.1.2.2.2.2.2⟩, ⟨fun j hj => ⟨(hT _ (l_x S hj)).trans (t_x S hj), Nat.lt_add_right 4 (l_x S hj)⟩, fun y hy j hj => ⟨(hT _ (l_h S hy hj)).trans (t_h S hy hj), Nat.lt_add_right 4 (l_h S hy hj)⟩, fun y hy j hj => ?_, fun y hy j hj => ⟨(hT _ (l_e S hy hj)).trans (t_e S hy hj), Nat.lt_add_right 4 (l_e S hy hj)⟩, fun i hi hc => ⟨(hT _ (l_d S hi)).trans (t_d S hi hc), Nat.lt_add_right 4 (l_d S hi)⟩⟩, ⟨S2.2.2.1.1, S.2.2.1.2.1, S.2.2.1.2.2.1, S.2.2.1.2.2.2⟩, ?_, S.2.2.2.2.1, S.2.2.2.2.2⟩
        · show (pS sh sz l).1 (u1 (PA G) (np σ) sz y) = 5 ∧ (pS sh sz l).1 (u1 (PA G) (np σ) sz y + 1) = 6 ∧ (pS sh sz l).1 (u1 (PA G) (np σ) sz y + 2) = 20 ∧ (pS sh sz l).1 (u1 (PA G) (np σ) sz y + 3) = 23 ∧ (pS sh sz l).2 (u1 (PA G) (np σ) sz y + 2) = 6 ∧ (pS sh sz l).2 (u1 (PA G) (np σ) sz y + 3) = shn (u1 (kin σ) (np σ) k y)
          have hy : y < np σ + 1 := hy
          by_cases v : y = np σ
          · subst v; rw [hPs, hKs, ← hl]; unfold pS; simp [nsh, va_up]
          · rw [hP y (by omega), hK y (by omega)]; exact S2.1.2.2.2.2.1 y (by omega)
        · show (if sz ≤ u1 (PA G) (np σ) sz y + j then 32 * np σ + 18 + (u1 (PA G) (np σ) sz y + j - sz) else tg G (u1 (PA G) (np σ) sz y + j)) = 32 * y + 18 + j ∧ u1 (PA G) (np σ) sz y + j < sz + 4
          have hy : y < np σ + 1 := hy
          by_cases v : y = np σ
          · subst v; rw [hPs]; exact ⟨hT2 j, by omega⟩
          · rw [hP y (by omega)]
            have q := l_p S (show y < np σ by omega) hj
            exact ⟨(hT _ q).trans (t_p S (by omega) hj), by omega⟩
        · have q := S.2.2.2.1
          unfold qR at q ⊢
          show sz + 4 ≤ x + 40 + 9 * nh σ + 4 * (np σ + 1) + 3 * nc σ + sm13 (cap G) + cap G 13 ∧ ns + 11 + l ≤ 8000 + 100 * nh σ + 80 * (np σ + 1) + 21 * nc σ + 4 * sm13 (cap G) + 7 * cap G 13
          omega
      · have td1 : ∀ i, i < 13 → 0 < cap G i → DA G i ≠ x + 2 := fun i hi hc => tne (t_d S hi hc) (t_x S (j := 2) (by decide)) (by omega)
        refine ⟨⟨⟨(fi_ne (by decide)).trans D2.1.1.1, fi_eq, (fi_ne (by decide)).trans D2.1.1.2.2⟩, fun y hy => ⟨(fi_ne (by decide)).trans (D2.1.2.1 y hy).1, (fi_ne (by decide)).trans (D2.1.2.1 y hy).2.1, (fi_ne (by decide)).trans (D2.1.2.1 y hy).2.2⟩, fun y hy => ?_, fun c hc => ⟨(fi_ne (by decide)).trans (D2.1.2.2.2.1 c hc).1, (fi_ne (by decide)).trans (D2.1.2.2.2.1 c hc).2.1, (fi_ne (by decide)).trans (D2.1.2.2.2.1 c hc).2.2.1, (fi_ne (by decide)).trans (D2.1.2.2.2.1 c hc).2.2.2.1, (fi_ne (by decide)).trans (D2.1.2.2.2.1 c hc).2.2.2.2.1, (fi_ne (by decide)).trans (D2.1.2.2.2.1 c hc).2.2.2.2.2.1, (fi_ne (by decide)).trans (D2.1.2.2.2.1 c hc).2.2.2.2.2.2⟩, (fi_ne (by decide)).trans D2.1.2.2.2.2.1, fun y hy => ⟨(fi_ne (by decide)).trans (D2.1.2.2.2.2.2 y hy).1, (fi_ne (by decide)).trans (D2.1.2.2.2.2.2 y hy).2⟩⟩, D2.2.1, ⟨D2.2.2.1.1, D2.2.2.1.2.1, fun y hy => ?_, fun c hc => ⟨(D2.2.2.1.2.2.2.1 c hc).1, (D2.2.2.1.2.2.2.1 c hc).2.1, (D2.2.2.1.2.2.2.1 c hc).2.2.trans ?_⟩, D2.2.2.1.2.2.2.2⟩, D2.2.2.2.1, D2.2.2.2.2.1, ⟨fun y hy => ?_, fun y hy => ?_, fun y hy s hs => ?_, fun c hc => ?_, fun y hy => ⟨fun i hi => ?_, fun i hi => ?_⟩⟩⟩
        · show dfi (uI (uAR (pD d sz (np σ) k) (x + 2) (np σ) (some sz)) 263 x (nI (np σ + 1))) 160 (u1 (PA G) (np σ) sz y) = nI y ∧ dfi (uI (uAR (pD d sz (np σ) k) (x + 2) (np σ) (some sz)) 263 x (nI (np σ + 1))) 161 (u1 (PA G) (np σ) sz y) = nI (u1 (kin σ) (np σ) k y)
          rw [fi_ne (by decide), fi_ne (by decide)]
          show dfi (pD d sz (np σ) k) 160 _ = _ ∧ dfi (pD d sz (np σ) k) 161 _ = _
          have hy : y < np σ + 1 := hy
          by_cases v : y = np σ
          · subst v
            rw [hPs, hKs]
            unfold pD
            simp [r_fi_I, r_fi_R, r_fi_L, r_fr_R, r_fr_I, r_fr_L, r_ai_I, r_ai_R, r_al_I, r_al_R, zO_fi, zO_fl, zO_fr, zO_ai, zO_al, zO_ar, zA_fi, zA_fl, zA_fr, zA_ai, zA_al, zA_arr, nI, bI]
          · rw [hP y (by omega), hK y (by omega)]; exact D2.1.2.2.1 y (by omega)
        · show dfr (pD d sz (np σ) k) 162 (u1 (PA G) (np σ) sz y) = some (u1 (PA G) (np σ) sz y + 3) ∧ dfr (pD d sz (np σ) k) 163 (u1 (PA G) (np σ) sz y) = some (u1 (PA G) (np σ) sz y + 1) ∧ dfr (pD d sz (np σ) k) 192 (u1 (PA G) (np σ) sz y + 1) = some (u1 (PA G) (np σ) sz y + 2)
          have hy : y < np σ + 1 := hy
          by_cases v : y = np σ
          · subst v
            rw [hPs]
            unfold pD
            simp [r_fi_I, r_fi_R, r_fi_L, r_fr_R, r_fr_I, r_fr_L, r_ai_I, r_ai_R, r_al_I, r_al_R, zO_fi, zO_fl, zO_fr, zO_ai, zO_al, zO_ar, zA_fi, zA_fl, zA_fr, zA_ai, zA_al, zA_arr, nI, bI]
          · rw [hP y (by omega)]; exact D2.2.2.1.2.2.1 y (by omega)
        · have q := (wb_c B hc).2.1
          show (prv σ (pg σ c) (if kin σ (pg σ c) = 3 then ax σ c else 0) c).map (EA G) = (prv (pageS σ k) (pg σ c) (if u1 (kin σ) (np σ) k (pg σ c) = 3 then ax σ c else 0) c).map (EA G)
          rw [prv_page B q, hK _ q]
        · show dar (uAR (pD d sz (np σ) k) (x + 2) (np σ) (some sz)) (x + 1) y = some (HA G y)
          rw [ar_ne (by omega)]; exact D2.2.2.2.2.2.1 y hy
        · show dar (uAR (pD d sz (np σ) k) (x + 2) (np σ) (some sz)) (x + 2) y = some (u1 (PA G) (np σ) sz y)
          have hy : y < np σ + 1 := hy
          by_cases v : y = np σ
          · subst v; rw [hPs, ar_eq]
          · rw [hP y (by omega), ar_n2 v]; exact D2.2.2.2.2.2.2.1 y (by omega)
        · show dar (uAR (pD d sz (np σ) k) (x + 2) (np σ) (some sz)) (u1 (PA G) (np σ) sz y + 3) s = (prv (pageS σ k) y s (nc σ)).map (EA G)
          have hy : y < np σ + 1 := hy
          by_cases v : y = np σ
          · subst v
            have := l_x S (j := 2) (by decide)
            rw [hPs, ar_ne (by omega), prv_none B]
            unfold pD
            simp [r_fi_I, r_fi_R, r_fi_L, r_fr_R, r_fr_I, r_fr_L, r_ai_I, r_ai_R, r_al_I, r_al_R, zO_fi, zO_fl, zO_fr, zO_ai, zO_al, zO_ar, zA_fi, zA_fl, zA_fr, zA_ai, zA_al, zA_arr, nI, bI, r_ar_R, r_ar_I]
          · have hs : s < shn (u1 (kin σ) (np σ) k y) := hs
            rw [hK y (by omega)] at hs
            rw [hP y (by omega), ar_ne (tne (t_p S (show y < np σ by omega) (j := 3) (by decide)) (t_x S (j := 2) (by decide)) (by omega)), prv_page B (by omega)]
            exact D2.2.2.2.2.2.2.2.1 y (by omega) s hs
        · have hc : c < nc σ := hc
          have := S.2.2.1.2.1
          show dar (uAR (pD d sz (np σ) k) (x + 2) (np σ) (some sz)) (DA G 0) c = some (EA G c)
          rw [ar_ne (td1 _ (by omega) (by omega))]; exact D2.2.2.2.2.2.2.2.2.1 c hc
        · have hi : i < md σ y := hi
          have hy : y < nh σ := hy
          have := (S.2.2.1.2.2.1 y hy).1
          show dar (uAR (pD d sz (np σ) k) (x + 2) (np σ) (some sz)) (DA G (1 + y)) i = some (EA G (ow G y i))
          rw [ar_ne (td1 _ (by omega) (by omega))]; exact (D2.2.2.2.2.2.2.2.2.2 y hy).1 i hi
        · have hi : i < wn σ y := hi
          have hy : y < nh σ := hy
          have := (S.2.2.1.2.2.1 y hy).2
          show dar (uAR (pD d sz (np σ) k) (x + 2) (np σ) (some sz)) (DA G (7 + y)) i = some (EA G (ws G y i))
          rw [ar_ne (td1 _ (by omega) (by omega))]; exact (D2.2.2.2.2.2.2.2.2.2 y hy).2 i hi
end
