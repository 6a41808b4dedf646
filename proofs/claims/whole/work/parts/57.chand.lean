/-! the class: a new HAND, a new PAGE -/
def LI (d : Dt) (a em : Nat) : Dt := uR (uI d 32 a 0) 33 a (some em)
def hS (sh : Sh) (z : Nat) : Sh := nsh (nsh (nsh (nsh (nsh (nsh (nsh (nsh (nsh sh z 3 0) (z + 1) 6 0) (z + 2) 20 6) (z + 3) 1 0) (z + 4) 1 0) (z + 5) 22 10) (z + 6) 4 0) (z + 7) 21 16) (z + 8) 20 16
def hD (d : Dt) (z em k : Nat) : Dt := uI (uR (uR (zA (uR (zA (zO (uR (zA (uR (LI (zO (uR (LI (zO (uR (uR (zA (zO (zO d z) (z + 1)) (z + 2)) 192 (z + 1) (some (z + 2))) 97 z (some (z + 1))) (z + 3)) (z + 3) em) 98 z (some (z + 3))) (z + 4)) (z + 4) em) 99 z (some (z + 4))) (z + 5)) 100 z (some (z + 5))) (z + 6)) (z + 7)) 128 (z + 6) (some (z + 7))) (z + 8)) 129 (z + 6) (some (z + 8))) 101 z (some (z + 6))) 96 z (nI k)
section
variable {sh : Sh} {d : Dt} {em mi sz ns : Nat}
theorem c_linit {a : Nat} (h : sh.1 a = 1) : fJx4a65c_init_da8c8 em mi a sz ns sh d = some (sz, ns, sh, LI d a em) := by
  unfold fJx4a65c_init_da8c8 fJx4a65c_init_da8c8_b0 fJxc12de_init_da8c8 fJxc12de_init_da8c8_b0 fJxa1e45_init_da8c8 fJxa1e45_init_da8c8_b0
  rw [bd_v, pI_v h, bd_v, bd_v, pR_v h, bd_v]; rfl
theorem c_hinit (k : Nat) : fX1_init em mi sz (nI k) (sz + 1) (ns + 7) (nsh sh sz 3 0) (zO d sz) = some (sz + 9, ns + 65, hS sh sz, hD d sz em k) := by
  unfold fX1_init fX1_init_b0 nwO
  rw [bw_v]
  unfold fX1_init_b8 fX4_init fX4_init_b0
  rw [show (6 : Int32) = nI 6 from rfl, nwA_v (by decide), bw_v]
  unfold fX4_init_b9
  rw [pR_v (by simp [nsh, va_up, Nat.add_assoc]), bd_v, bw_v]
  unfold fX1_init_b12 nwO
  rw [pR_v (by simp [nsh, va_up, Nat.add_assoc]), bd_v, bw_v]
  unfold fX1_init_b19
  rw [c_linit (by simp [nsh, va_up, Nat.add_assoc]), bw_v]
  unfold fX1_init_b23 nwO
  rw [pR_v (by simp [nsh, va_up, Nat.add_assoc]), bd_v, bw_v]
  unfold fX1_init_b30
  rw [c_linit (by simp [nsh, va_up, Nat.add_assoc]), bw_v]
  unfold fX1_init_b34
  rw [pR_v (by simp [nsh, va_up, Nat.add_assoc]), bd_v, show (10 : Int32) = nI 10 from rfl, nwA_v (by decide), bw_v]
  unfold fX1_init_b42 nwO
  rw [pR_v (by simp [nsh, va_up, Nat.add_assoc]), bd_v, bw_v]
  unfold fX1_init_b49 fX2_init fX2_init_b0
  rw [show (16 : Int32) = nI 16 from rfl, nwA_v (by decide), bw_v]
  unfold fX2_init_b9
  rw [pR_v (by simp [nsh, va_up, Nat.add_assoc]), bd_v, show (16 : Int32) = nI 16 from rfl, nwA_v (by decide), bw_v]
  unfold fX2_init_b17
  rw [pR_v (by simp [nsh, va_up, Nat.add_assoc]), bd_v, bw_v]
  unfold fX1_init_b53
  rw [pR_v (by simp [nsh, va_up, Nat.add_assoc]), bd_v, pI_v (by simp [nsh, va_up, Nat.add_assoc]), bd_v]
  rfl
theorem zO_fi {a k b : Nat} : dfi (zO d a) k b = if b = a then 0 else dfi d k b := rfl
theorem zO_fl {a k b : Nat} : dfl (zO d a) k b = if b = a then 0 else dfl d k b := rfl
theorem zO_fr {a k b : Nat} : dfr (zO d a) k b = if b = a then none else dfr d k b := rfl
theorem zO_ai {a : Nat} : dai (zO d a) = dai d := rfl
theorem zO_al {a : Nat} : dal (zO d a) = dal d := rfl
theorem zO_ar {a : Nat} : dar (zO d a) = dar d := rfl
theorem zA_fi {a : Nat} : dfi (zA d a) = dfi d := rfl
theorem zA_fl {a : Nat} : dfl (zA d a) = dfl d := rfl
theorem zA_fr {a : Nat} : dfr (zA d a) = dfr d := rfl
theorem zA_ai {a b k : Nat} : dai (zA d a) b k = if b = a then 0 else dai d b k := by
  show (if b = a then (fun _ => (0 : Int32)) else dai d b) k = _
  split <;> rfl
theorem zA_al {a b k : Nat} : dal (zA d a) b k = if b = a then 0 else dal d b k := by
  show (if b = a then (fun _ => (0 : Int64)) else dal d b) k = _
  split <;> rfl
theorem zA_arr {a b k : Nat} : dar (zA d a) b k = if b = a then none else dar d b k := by
  show (if b = a then (fun _ => (none : Option Nat)) else dar d b) k = _
  split <;> rfl
theorem hD_g {z : Nat} (k : Nat) : DG z d (hD d z em k) := by
  unfold hD LI
  exact dg_I (dg_R (dg_R (dg_A (dg_R (dg_A (dg_O (dg_R (dg_A (dg_R (dg_R (dg_I (dg_O (dg_R (dg_R (dg_I (dg_O (dg_R (dg_R (dg_A (dg_O (dg_O dg_r (by omega)) (by omega)) (by omega)) (by omega)) (by omega)) (by omega)) (by omega)) (by omega)) (by omega)) (by omega)) (by omega)) (by omega)) (by omega)) (by omega)) (by omega)) (by omega)) (by omega)) (by omega)) (by omega)) (by omega)) (by omega)) (by omega)
theorem hS_g {z : Nat} : SG z sh (hS sh z) := by
  unfold hS
  exact sg_n (sg_n (sg_n (sg_n (sg_n (sg_n (sg_n (sg_n (sg_n sg_r (by omega)) (by omega)) (by omega)) (by omega)) (by omega)) (by omega)) (by omega)) (by omega)) (by omega)
end
section
variable {sh : Sh} {d e : Dt} {x : Nat} {σ : St} {G : Gh} {em mi sz ns : Nat}
theorem c_hand (S : CZ σ G x em sz ns sh) (D : CD σ G x d) (B : WB σ) (w : Wel σ) (h13 : cap G 13 = 0) : OKA (fX6_hand em mi x sz ns sh d) x em (handV σ) := by
  have b1 := B.1
  have b3 := B.2.2.1
  unfold fX6_hand fX6_hand_b0 handV
  rw [cf_262 S D, bd_v]
  by_cases g : nh σ = 6
  · rw [if_pos g, g, if_neg (by decide)]
    exact ⟨_, _, _, d, G, rfl, S, D, h13⟩
  · rw [if_neg g, if_pos (show nI (nh σ) < (6 : Int32) from nI_lt (b := 6) (by omega) (by decide)), cf_258 S D, bd_v, bd_v, kX_3 S, bd_v]
    have em0 : fJx4a65c_isEmpty_aae02 sh d (x + 3) = some (decide (nc σ = 0)) := by
      unfold fJx4a65c_isEmpty_aae02 fJx4a65c_isEmpty_aae02_b0
      rw [cf_34x S D, bd_v]
      by_cases z : nc σ = 0
      · rw [z]; rfl
      · rw [if_neg (nI_ne0 (by omega) (by omega)), decide_eq_false z]
    rw [em0, bd_v]
    by_cases z : nc σ = 0
    · rw [decide_eq_true z, if_neg (by decide), if_neg (by omega), cf_256 S D, bd_v, bd_v]
      unfold nwO
      rw [bw_v]
      unfold fX6_hand_b36
      have S1 := cz_sh S (sg_n (a := sz) (kd := 3) (n := 0) sg_r (Nat.le_refl _))
      have D1 := cd_mono S B (dg_O (a := sz) dg_r (Nat.le_refl _)) D
      rw [cf_262 S1 D1, bd_v, c_hinit, bw_v]
      unfold fX6_hand_b44
      have S2 := cz_sh S (hS_g (sh := sh) (z := sz))
      have D2 := cd_mono S B (hD_g (d := d) (em := em) (z := sz) (nh σ)) D
      have kz : (hS sh sz).1 sz = 3 := by unfold hS; simp [nsh, va_up]
      have hl := l_x S (j := 1) (by decide)
      have hx0 := l_x0 S
      rw [bd_v, show cst (hS sh sz) 3 (some sz) = some () from kc_v kz, bd_v, sR_v (sX_1 S2) (by rw [nX_1 S2]; omega) (by omega), bd_v]
      have e1 : gI (hS sh sz) (uAR (hD d sz em (nh σ)) (x + 1) (nh σ) (some sz)) 8 262 x = some (nI (nh σ)) := (gI_v (sX_0 S2)).trans (congrArg some D2.1.1.1)
      rw [e1, bd_v, nI_1, pI_v (sX_0 S2), bd_v, gI_v (sX_0 S2), bd_v, fi_eq, nI_pred]
      have q0 := w.2.1 (nh σ) (by omega)
      have q6 := w.2.2.2.2.2.1 (nh σ) (Nat.le_refl _) (by omega)
      have qm : md σ (nh σ) = 0 := by rw [q0.1, z]; rfl
      have qg : gc σ (nh σ) = 0 := by rw [q0.2.1, gcm_n, z]; rfl
      have qw : wn σ (nh σ) = 0 := by unfold wn; rw [z]; rfl
      have qc := S.2.2.1.2.2.2 (nh σ) (Nat.le_refl _) (by omega)
      have qd1 := (S.2.2.1.1 (1 + nh σ) (by omega)).1 qc.1
      have qd2 := (S.2.2.1.1 (7 + nh σ) (by omega)).1 qc.2
      have nx : ∀ j, j < 9 → x + j ≠ sz := fun j hj => by have := l_x S hj; omega
      have hH : ∀ y, y < nh σ → u1 (HA G) (nh σ) sz y = HA G y := fun y hy => u1_n _ _ (by omega)
      have hHs : u1 (HA G) (nh σ) sz (nh σ) = sz := u1_s _ _ _
      refine ⟨_, _, _, _, g_t (g_H G (u1 (HA G) (nh σ) sz)) (fun b => if sz ≤ b then 32 * nh σ + 9 + (b - sz) else tg G b), rfl, ?_, ?_, h13⟩
      · have hT : ∀ b, b < sz → (if sz ≤ b then 32 * nh σ + 9 + (b - sz) else tg G b) = tg G b := fun b hb => if_neg (by omega)
        have hT2 : ∀ j, (if sz ≤ sz + j then 32 * nh σ + 9 + (sz + j - sz) else tg G (sz + j)) = 32 * nh σ + 9 + j := fun j => by rw [if_pos (by omega)]; omega
        refine ⟨⟨S2.1.1, S2.1.2.1, fun y hy => ?_, fun y hy => ?_, S2.1.2.2.2.2.1, S2.1.2.2.2.2.2⟩, ⟨fun j hj => ⟨(hT _ (l_x S hj)).trans (t_x S hj), Nat.lt_add_right 9 (l_x S hj)⟩, fun y hy j hj => ?_, fun y hy j hj => ⟨(hT _ (l_p S hy hj)).trans (t_p S hy hj), Nat.lt_add_right 9 (l_p S hy hj)⟩, fun y hy j hj => ⟨(hT _ (l_e S hy hj)).trans (t_e S hy hj), Nat.lt_add_right 9 (l_e S hy hj)⟩, fun i hi hc => ⟨(hT _ (l_d S hi)).trans (t_d S hi hc), Nat.lt_add_right 9 (l_d S hi)⟩⟩, ⟨S2.2.2.1.1, S.2.2.1.2.1, fun y hy => ?_, fun y hy hy2 => S.2.2.1.2.2.2 y (Nat.le_of_succ_le hy) hy2⟩, ?_, S.2.2.2.2.1, fun y hy i hi => ?_, fun y hy => ?_⟩
        · show (hS sh sz).1 (u1 (HA G) (nh σ) sz y) = 3 ∧ (hS sh sz).1 (u1 (HA G) (nh σ) sz y + 1) = 6 ∧ (hS sh sz).1 (u1 (HA G) (nh σ) sz y + 2) = 20 ∧ (hS sh sz).1 (u1 (HA G) (nh σ) sz y + 3) = 1 ∧ (hS sh sz).1 (u1 (HA G) (nh σ) sz y + 4) = 1 ∧ (hS sh sz).1 (u1 (HA G) (nh σ) sz y + 5) = 22 ∧ (hS sh sz).1 (u1 (HA G) (nh σ) sz y + 6) = 4 ∧ (hS sh sz).1 (u1 (HA G) (nh σ) sz y + 7) = 21 ∧ (hS sh sz).1 (u1 (HA G) (nh σ) sz y + 8) = 20
          have hy : y < nh σ + 1 := hy
          by_cases v : y = nh σ
          · subst v; rw [hHs]; unfold hS; simp [nsh, va_up]
          · rw [hH y (by omega)]; exact S2.1.2.2.1 y (by omega)
        · show (hS sh sz).2 (u1 (HA G) (nh σ) sz y + 2) = 6 ∧ (hS sh sz).2 (u1 (HA G) (nh σ) sz y + 5) = 10 ∧ (hS sh sz).2 (u1 (HA G) (nh σ) sz y + 7) = 16 ∧ (hS sh sz).2 (u1 (HA G) (nh σ) sz y + 8) = 16
          have hy : y < nh σ + 1 := hy
          by_cases v : y = nh σ
          · subst v; rw [hHs]; unfold hS; simp [nsh, va_up]
          · rw [hH y (by omega)]; exact S2.1.2.2.2.1 y (by omega)
        · show (if sz ≤ u1 (HA G) (nh σ) sz y + j then 32 * nh σ + 9 + (u1 (HA G) (nh σ) sz y + j - sz) else tg G (u1 (HA G) (nh σ) sz y + j)) = 32 * y + 9 + j ∧ u1 (HA G) (nh σ) sz y + j < sz + 9
          have hy : y < nh σ + 1 := hy
          by_cases v : y = nh σ
          · subst v; rw [hHs]; exact ⟨hT2 j, by omega⟩
          · rw [hH y (by omega)]
            have l := l_h S (show y < nh σ by omega) hj
            exact ⟨(hT _ l).trans (t_h S (by omega) hj), by omega⟩
        · show md σ y ≤ cap G (1 + y) ∧ wn σ y ≤ cap G (7 + y)
          have hy : y < nh σ + 1 := hy
          by_cases v : y = nh σ
          · subst v; rw [qm, qw]; exact ⟨Nat.zero_le _, Nat.zero_le _⟩
          · exact S.2.2.1.2.2.1 y (by omega)
        · have q := S.2.2.2.1
          unfold qR at q ⊢
          show sz + 9 ≤ x + 40 + 9 * (nh σ + 1) + 4 * np σ + 3 * nc σ + sm13 (cap G) + cap G 13 ∧ ns + 65 ≤ 8000 + 100 * (nh σ + 1) + 80 * np σ + 21 * nc σ + 4 * sm13 (cap G) + 7 * cap G 13
          omega
        · have hi : i < md σ y := hi
          have hy : y < nh σ + 1 := hy
          by_cases v : y = nh σ
          · subst v; omega
          · exact S.2.2.2.2.2.1 y (by omega) i hi
        · have hy : y < nh σ + 1 := hy
          by_cases v : y = nh σ
          · subst v
            show (∀ i, i < wn σ (nh σ) → wt σ (nh σ) (ws G (nh σ) i) = true) ∧ (∀ i j, i < j → j < wn σ (nh σ) → aft σ (ws G (nh σ) j) (ws G (nh σ) i) = true) ∧ ∀ c, wt σ (nh σ) c = true → ∃ i, i < wn σ (nh σ) ∧ ws G (nh σ) i = c
            refine ⟨fun i hi => by omega, fun i j _ hj => by omega, fun c hc => ?_⟩
            have := (w.2.2.2.2.1 _ (by omega) c hc).1
            omega
          · exact S.2.2.2.2.2.2 y (by omega)
      · have td1 : ∀ i, i < 13 → 0 < cap G i → DA G i ≠ x + 1 := fun i hi hc => tne (t_d S hi hc) (t_x S (j := 1) (by decide)) (by omega)
        refine ⟨⟨⟨fi_eq, (fi_ne (by decide)).trans D2.1.1.2.1, (fi_ne (by decide)).trans D2.1.1.2.2⟩, fun y hy => ?_, fun p hp => ⟨(fi_ne (by decide)).trans (D2.1.2.2.1 p hp).1, (fi_ne (by decide)).trans (D2.1.2.2.1 p hp).2⟩, fun c hc => absurd (show c < nc σ from hc) (by omega), (fi_ne (by decide)).trans D2.1.2.2.2.2.1, fun y hy => ?_⟩, ⟨D2.2.1.1, fun c hc => absurd (show c < nc σ from hc) (by omega)⟩, ⟨D2.2.2.1.1, fun y hy => ?_, D2.2.2.1.2.2.1, fun c hc => absurd (show c < nc σ from hc) (by omega), D2.2.2.1.2.2.2.2.1, fun y hy => ?_⟩, ⟨D2.2.2.2.1.1, fun y hy => ?_, fun c hc => absurd (show c < nc σ from hc) (by omega)⟩, fun y hy i hi => ?_, ⟨fun y hy => ?_, fun p hp => ?_, fun p hp s hs => ?_, fun c hc => absurd (show c < nc σ from hc) (by omega), fun y hy => ⟨fun i hi => ?_, fun i hi => ?_⟩⟩⟩
        · show dfi (uI (uAR (hD d sz em (nh σ)) (x + 1) (nh σ) (some sz)) 262 x (nI (nh σ + 1))) 96 (u1 (HA G) (nh σ) sz y) = nI y ∧ dfi (uI (uAR (hD d sz em (nh σ)) (x + 1) (nh σ) (some sz)) 262 x (nI (nh σ + 1))) 102 (u1 (HA G) (nh σ) sz y) = nI (gc σ y) ∧ dfi (uI (uAR (hD d sz em (nh σ)) (x + 1) (nh σ) (some sz)) 262 x (nI (nh σ + 1))) 130 (u1 (HA G) (nh σ) sz y + 6) = nI (lm σ y)
          rw [fi_ne (by decide), fi_ne (by decide), fi_ne (by decide)]
          show dfi (hD d sz em (nh σ)) 96 _ = _ ∧ dfi (hD d sz em (nh σ)) 102 _ = _ ∧ dfi (hD d sz em (nh σ)) 130 _ = _
          have hy : y < nh σ + 1 := hy
          by_cases v : y = nh σ
          · subst v
            rw [hHs, qg, q6.2.1]
            unfold hD LI
            simp [r_fi_I, r_fi_R, r_fi_L, r_fr_R, r_fr_I, r_fr_L, r_ai_I, r_ai_R, r_al_I, r_al_R, zO_fi, zO_fl, zO_fr, zO_ai, zO_al, zO_ar, zA_fi, zA_fl, zA_fr, zA_ai, zA_al, zA_arr, nI, bI]
          · rw [hH y (by omega)]; exact D2.1.2.1 y (by omega)
        · show dfi (uI (uAR (hD d sz em (nh σ)) (x + 1) (nh σ) (some sz)) 262 x (nI (nh σ + 1))) 34 (u1 (HA G) (nh σ) sz y + 3) = nI (md σ y) ∧ dfi (uI (uAR (hD d sz em (nh σ)) (x + 1) (nh σ) (some sz)) 262 x (nI (nh σ + 1))) 34 (u1 (HA G) (nh σ) sz y + 4) = nI (wn σ y)
          rw [fi_ne (by decide), fi_ne (by decide)]
          show dfi (hD d sz em (nh σ)) 34 _ = _ ∧ dfi (hD d sz em (nh σ)) 34 _ = _
          have hy : y < nh σ + 1 := hy
          by_cases v : y = nh σ
          · subst v
            rw [hHs, qm, qw]
            unfold hD LI
            simp [r_fi_I, r_fi_R, r_fi_L, r_fr_R, r_fr_I, r_fr_L, r_ai_I, r_ai_R, r_al_I, r_al_R, zO_fi, zO_fl, zO_fr, zO_ai, zO_al, zO_ar, zA_fi, zA_fl, zA_fr, zA_ai, zA_al, zA_arr, nI, bI]
          · rw [hH y (by omega)]; exact D2.1.2.2.2.2.2 y (by omega)
        · show dfr (hD d sz em (nh σ)) 97 (u1 (HA G) (nh σ) sz y) = some (u1 (HA G) (nh σ) sz y + 1) ∧ dfr (hD d sz em (nh σ)) 98 (u1 (HA G) (nh σ) sz y) = some (u1 (HA G) (nh σ) sz y + 3) ∧ dfr (hD d sz em (nh σ)) 99 (u1 (HA G) (nh σ) sz y) = some (u1 (HA G) (nh σ) sz y + 4) ∧ dfr (hD d sz em (nh σ)) 100 (u1 (HA G) (nh σ) sz y) = some (u1 (HA G) (nh σ) sz y + 5) ∧ dfr (hD d sz em (nh σ)) 101 (u1 (HA G) (nh σ) sz y) = some (u1 (HA G) (nh σ) sz y + 6) ∧ dfr (hD d sz em (nh σ)) 192 (u1 (HA G) (nh σ) sz y + 1) = some (u1 (HA G) (nh σ) sz y + 2) ∧ dfr (hD d sz em (nh σ)) 128 (u1 (HA G) (nh σ) sz y + 6) = some (u1 (HA G) (nh σ) sz y + 7) ∧ dfr (hD d sz em (nh σ)) 129 (u1 (HA G) (nh σ) sz y + 6) = some (u1 (HA G) (nh σ) sz y + 8)
          have hy : y < nh σ + 1 := hy
          by_cases v : y = nh σ
          · subst v
            rw [hHs]
            unfold hD LI
            simp [r_fi_I, r_fi_R, r_fi_L, r_fr_R, r_fr_I, r_fr_L, r_ai_I, r_ai_R, r_al_I, r_al_R, zO_fi, zO_fl, zO_fr, zO_ai, zO_al, zO_ar, zA_fi, zA_fl, zA_fr, zA_ai, zA_al, zA_arr, nI, bI]
          · rw [hH y (by omega)]; exact D2.2.2.1.2.1 y (by omega)
        · show dfr (hD d sz em (nh σ)) 33 (u1 (HA G) (nh σ) sz y + 3) = some (DA G (1 + y)) ∧ dfr (hD d sz em (nh σ)) 33 (u1 (HA G) (nh σ) sz y + 4) = some (DA G (7 + y))
          have hy : y < nh σ + 1 := hy
          by_cases v : y = nh σ
          · subst v
            rw [hHs, qd1, qd2]
            unfold hD LI
            simp [r_fi_I, r_fi_R, r_fi_L, r_fr_R, r_fr_I, r_fr_L, r_ai_I, r_ai_R, r_al_I, r_al_R, zO_fi, zO_fl, zO_fr, zO_ai, zO_al, zO_ar, zA_fi, zA_fl, zA_fr, zA_ai, zA_al, zA_arr, nI, bI]
          · rw [hH y (by omega)]; exact D2.2.2.1.2.2.2.2.2 y (by omega)
        · show (∀ k, k < 6 → dai (hD d sz em (nh σ)) (u1 (HA G) (nh σ) sz y + 2) k = nI (up σ y k)) ∧ (∀ p, p < 10 → dai (hD d sz em (nh σ)) (u1 (HA G) (nh σ) sz y + 5) p = bI (skp σ y p)) ∧ (∀ i, i < lm σ y → dai (hD d sz em (nh σ)) (u1 (HA G) (nh σ) sz y + 8) i = mkI (thr σ y i))
          have hy : y < nh σ + 1 := hy
          by_cases v : y = nh σ
          · subst v
            rw [hHs]
            refine ⟨fun k hk => ?_, fun p hp => ?_, fun i hi => by rw [q6.2.1] at hi; omega⟩
            · rw [q6.1 k hk]; unfold hD LI; simp [r_fi_I, r_fi_R, r_fi_L, r_fr_R, r_fr_I, r_fr_L, r_ai_I, r_ai_R, r_al_I, r_al_R, zO_fi, zO_fl, zO_fr, zO_ai, zO_al, zO_ar, zA_fi, zA_fl, zA_fr, zA_ai, zA_al, zA_arr, nI, bI]
            · rw [q6.2.2.1 p hp]; unfold hD LI; simp [r_fi_I, r_fi_R, r_fi_L, r_fr_R, r_fr_I, r_fr_L, r_ai_I, r_ai_R, r_al_I, r_al_R, zO_fi, zO_fl, zO_fr, zO_ai, zO_al, zO_ar, zA_fi, zA_fl, zA_fr, zA_ai, zA_al, zA_arr, nI, bI]
          · rw [hH y (by omega)]; exact D2.2.2.2.1.2.1 y (by omega)
        · show dal (hD d sz em (nh σ)) (u1 (HA G) (nh σ) sz y + 7) i = lf σ y i
          have hy : y < nh σ + 1 := hy
          by_cases v : y = nh σ
          · subst v
            rw [hHs, q6.2.2.2 i hi]
            unfold hD LI
            simp [r_fi_I, r_fi_R, r_fi_L, r_fr_R, r_fr_I, r_fr_L, r_ai_I, r_ai_R, r_al_I, r_al_R, zO_fi, zO_fl, zO_fr, zO_ai, zO_al, zO_ar, zA_fi, zA_fl, zA_fr, zA_ai, zA_al, zA_arr, nI, bI]
          · rw [hH y (by omega)]; exact D2.2.2.2.2.1 y (by omega) i hi
        · show dar (uAR (hD d sz em (nh σ)) (x + 1) (nh σ) (some sz)) (x + 1) y = some (u1 (HA G) (nh σ) sz y)
          have hy : y < nh σ + 1 := hy
          by_cases v : y = nh σ
          · subst v; rw [hHs, ar_eq]
          · rw [hH y (by omega), ar_n2 v]; exact D2.2.2.2.2.2.1 y (by omega)
        · show dar (uAR (hD d sz em (nh σ)) (x + 1) (nh σ) (some sz)) (x + 2) p = some (PA G p)
          rw [ar_ne (by omega)]; exact D2.2.2.2.2.2.2.1 p hp
        · show dar (uAR (hD d sz em (nh σ)) (x + 1) (nh σ) (some sz)) (PA G p + 3) s = (prv σ p s (nc σ)).map (EA G)
          rw [ar_ne (tne (t_p S hp (j := 3) (by decide)) (t_x S (j := 1) (by decide)) (by omega))]; exact D2.2.2.2.2.2.2.2.1 p hp s hs
        · show dar (uAR (hD d sz em (nh σ)) (x + 1) (nh σ) (some sz)) (DA G (1 + y)) i = some (EA G (ow G y i))
          have hi : i < md σ y := hi
          have hy : y < nh σ + 1 := hy
          by_cases v : y = nh σ
          · subst v; omega
          · have hy : y < nh σ := by omega
            have := (S.2.2.1.2.2.1 y hy).1
            rw [ar_ne (td1 _ (by omega) (by omega))]; exact (D2.2.2.2.2.2.2.2.2.2 y hy).1 i hi
        · show dar (uAR (hD d sz em (nh σ)) (x + 1) (nh σ) (some sz)) (DA G (7 + y)) i = some (EA G (ws G y i))
          have hi : i < wn σ y := hi
          have hy : y < nh σ + 1 := hy
          by_cases v : y = nh σ
          · subst v; omega
          · have hy : y < nh σ := by omega
            have := (S.2.2.1.2.2.1 y hy).2
            rw [ar_ne (td1 _ (by omega) (by omega))]; exact (D2.2.2.2.2.2.2.2.2.2 y hy).2 i hi
    · rw [decide_eq_false z, if_pos (show bI false = 0 from rfl), if_pos (by omega)]
      exact ⟨_, _, _, d, G, rfl, S, D, h13⟩
end
