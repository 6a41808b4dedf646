/-! the class: making -/
section
variable {sh : Sh} {d e : Dt} {x : Nat} {σ : St} {G : Gh} {em mi sz ns : Nat}
theorem cd_own (S : CZ σ G x em sz ns sh) (D : CD σ G x d) (B : WB σ) {h c : Nat} (hh : h < nh σ) (hcap : md σ h < cap G (1 + h)) : CD (s_md σ (u1 (md σ) h (md σ h + 1))) (g_o G (u2 (ow G) h (md σ h) c)) x (uI (uAR d (DA G (1 + h)) (md σ h) (some (EA G c))) 34 (HA G h + 3) (nI (md σ h + 1))) := by
  have b1 := B.1
  have th := t_h S hh (j := 3) (by decide)
  have td := t_d S (i := 1 + h) (by omega) (by omega)
  refine ⟨⟨⟨(fi_ne (by decide)).trans (D.1.1.1), (fi_ne (by decide)).trans (D.1.1.2.1), (fi_ne (by decide)).trans (D.1.1.2.2)⟩, fun h2 hh2 => ⟨(fi_ne (by decide)).trans ((D.1.2.1 h2 hh2).1), (fi_ne (by decide)).trans ((D.1.2.1 h2 hh2).2.1), (fi_ne (by decide)).trans ((D.1.2.1 h2 hh2).2.2)⟩, fun p2 hp2 => ⟨(fi_ne (by decide)).trans ((D.1.2.2.1 p2 hp2).1), (fi_ne (by decide)).trans ((D.1.2.2.1 p2 hp2).2)⟩, fun c2 hc2 => ⟨(fi_ne (by decide)).trans ((D.1.2.2.2.1 c2 hc2).1), (fi_ne (by decide)).trans ((D.1.2.2.2.1 c2 hc2).2.1), (fi_ne (by decide)).trans ((D.1.2.2.2.1 c2 hc2).2.2.1), (fi_ne (by decide)).trans ((D.1.2.2.2.1 c2 hc2).2.2.2.1), (fi_ne (by decide)).trans ((D.1.2.2.2.1 c2 hc2).2.2.2.2.1), (fi_ne (by decide)).trans ((D.1.2.2.2.1 c2 hc2).2.2.2.2.2.1), (fi_ne (by decide)).trans ((D.1.2.2.2.1 c2 hc2).2.2.2.2.2.2)⟩, (fi_n2 (tne (t_x S (j := 3) (by decide)) th (by omega))).trans (D.1.2.2.2.2.1), fun h2 hh2 => ⟨(by
    show dfi (uI (uAR d (DA G (1 + h)) (md σ h) (some (EA G c))) 34 (HA G h + 3) (nI (md σ h + 1))) 34 (HA G h2 + 3) = nI (u1 (md σ) h (md σ h + 1) h2)
    by_cases e : h2 = h
    · subst e; rw [u1_s]; exact fi_eq
    · rw [u1_n _ _ e]; exact (fi_n2 (tne (t_h S hh2 (j := 3) (by decide)) th (by omega))).trans (D.1.2.2.2.2.2 h2 hh2).1), (fi_n2 (tne (t_h S hh2 (j := 4) (by decide)) th (by omega))).trans ((D.1.2.2.2.2.2 h2 hh2).2)⟩⟩, D.2.1, D.2.2.1, D.2.2.2.1, D.2.2.2.2.1, ⟨fun k hk => ?_, fun p hp => ?_, fun p hp s hs => ?_, fun y hy => ?_, fun y hy => ⟨fun i hi => ?_, fun i hi => ?_⟩⟩⟩
  · exact (ar_ne (d := d) (tne (t_x S (j := 1) (by decide)) td (by omega))).trans (D.2.2.2.2.2.1 k hk)
  · exact (ar_ne (d := d) (tne (t_x S (j := 2) (by decide)) td (by omega))).trans (D.2.2.2.2.2.2.1 p hp)
  · exact (ar_ne (d := d) (tne (t_p S hp (j := 3) (by decide)) td (by omega))).trans (D.2.2.2.2.2.2.2.1 p hp s hs)
  · have q := S.2.2.1.2.1
    have hy : y < nc σ := hy
    exact (ar_ne (d := d) (tne (t_d S (i := 0) (by decide) (by omega)) td (by omega))).trans (D.2.2.2.2.2.2.2.2.1 y hy)
  · have hy : y < nh σ := hy
    have hi : i < u1 (md σ) h (md σ h + 1) y := hi
    show dar (uAR d (DA G (1 + h)) (md σ h) (some (EA G c))) (DA G (1 + y)) i = some (EA G (u2 (ow G) h (md σ h) c y i))
    unfold u2
    by_cases z : y = h
    · subst z
      rw [u1_s] at hi
      by_cases g : i = md σ y
      · rw [g, ar_eq, if_pos ⟨rfl, rfl⟩]
      · rw [ar_n2 g, if_neg (fun q => g q.2)]; exact (D.2.2.2.2.2.2.2.2.2 y hy).1 i (by omega)
    · rw [u1_n _ _ z] at hi
      have q := (S.2.2.1.2.2.1 y hy).1
      rw [ar_ne (tne (t_d S (i := 1 + y) (by omega) (by omega)) td (by omega)), if_neg (fun q => z q.1)]
      exact (D.2.2.2.2.2.2.2.2.2 y hy).1 i hi
  · have hy : y < nh σ := hy
    have hi : i < wn σ y := hi
    have q := (S.2.2.1.2.2.1 y hy).2
    exact (ar_ne (d := d) (tne (t_d S (i := 7 + y) (by omega) (by omega)) td (by omega))).trans ((D.2.2.2.2.2.2.2.2.2 y hy).2 i hi)
theorem cz_own (S : CZ σ G x em sz ns sh) {h c : Nat} (hh : h < nh σ) (hcap : md σ h < cap G (1 + h)) (hc : c < nc σ ∧ mk σ c = h ∧ od σ c = md σ h + 1) : CZ (s_md σ (u1 (md σ) h (md σ h + 1))) (g_o G (u2 (ow G) h (md σ h) c)) x em sz ns sh := by
  refine ⟨S.1, S.2.1, ⟨S.2.2.1.1, S.2.2.1.2.1, fun y hy => ⟨?_, (S.2.2.1.2.2.1 y hy).2⟩, S.2.2.1.2.2.2⟩, S.2.2.2.1, S.2.2.2.2.1, fun y hy i hi => ?_, S.2.2.2.2.2.2⟩
  · show u1 (md σ) h (md σ h + 1) y ≤ cap G (1 + y)
    by_cases z : y = h
    · subst z; rw [u1_s]; omega
    · rw [u1_n _ _ z]; exact (S.2.2.1.2.2.1 y hy).1
  · have hi : i < u1 (md σ) h (md σ h + 1) y := hi
    show u2 (ow G) h (md σ h) c y i < nc σ ∧ mk σ (u2 (ow G) h (md σ h) c y i) = y ∧ od σ (u2 (ow G) h (md σ h) c y i) = i + 1
    unfold u2
    by_cases z : y = h
    · subst z
      rw [u1_s] at hi
      by_cases g : i = md σ y
      · rw [if_pos ⟨rfl, g⟩, g]; exact hc
      · rw [if_neg (fun q => g q.2)]; exact S.2.2.2.2.2.1 y hy i (by omega)
    · rw [u1_n _ _ z] at hi
      rw [if_neg (fun q => z q.1)]; exact S.2.2.2.2.2.1 y hy i hi
theorem inc_make {h p w a : Nat} {v : Int64} : inc1 (s_md (make1 σ h p w a v) (u1 (md σ) h (md σ h + 1))) h (nc σ) = makeS σ h p w a v := by
  unfold inc1 upS
  have e1 : mk (s_md (make1 σ h p w a v) (u1 (md σ) h (md σ h + 1))) (nc σ) = h := u1_s _ _ _
  have e2 : od (s_md (make1 σ h p w a v) (u1 (md σ) h (md σ h + 1))) (nc σ) = md σ h + 1 := u1_s _ _ _
  have e3 : ct (s_md (make1 σ h p w a v) (u1 (md σ) h (md σ h + 1))) (nc σ) = 1 + gc σ h := u1_s _ _ _
  have e4 : gc (s_md (make1 σ h p w a v) (u1 (md σ) h (md σ h + 1))) = gc σ := rfl
  rw [e1, e2, e3, e4, Nat.max_eq_right (by omega)]
  rfl
theorem c_make (S : CZ σ G x em sz ns sh) (D : CD σ G x d) (B : WB σ) (w0 : Wel σ) (h13 : cap G 13 = 0) {h p w a : Nat} (hh : h < nh σ) (hp : p < np σ) (hn : nc σ < 400) (ha : a < 64) (hw : w < 8) (v : Int64) : OKA (fX6_make em mi x (some (HA G h)) (some (PA G p)) (nI (acC w)) (nI a) v sz ns sh d) x em (nI (nc σ), makeS σ h p w a v) := by
  have b1 := B.1
  have S1 := cz_sh S (sg_n (a := sz) (kd := 2) (n := 0) sg_r (Nat.le_refl _))
  have D1 := cd_mono S B (dg_O (a := sz) dg_r (Nat.le_refl _)) D
  obtain ⟨e, q1, q2, q3⟩ := c_entry (mi := mi) S D B w0 (w := w) hh hp ha v
  have SGf : SG sz sh (nsh (nsh (nsh sh sz 2 0) (sz + 1) 6 0) (sz + 2) 20 6) := sg_n (sg_n (sg_n sg_r (Nat.le_refl _)) (by omega)) (by omega)
  have k0 : (nsh (nsh (nsh sh sz 2 0) (sz + 1) 6 0) (sz + 2) 20 6).1 sz = 2 := (nw_1 (by omega)).trans ((nw_1 (by omega)).trans nw_k)
  have k1 : (nsh (nsh (nsh sh sz 2 0) (sz + 1) 6 0) (sz + 2) 20 6).1 (sz + 1) = 6 := (nw_1 (by omega)).trans nw_k
  have k2 : (nsh (nsh (nsh sh sz 2 0) (sz + 1) 6 0) (sz + 2) 20 6).1 (sz + 2) = 20 := nw_k
  have k3 : (nsh (nsh (nsh sh sz 2 0) (sz + 1) 6 0) (sz + 2) 20 6).2 (sz + 2) = 6 := nw_n
  unfold fX6_make fX6_make_b0 nwO
  rw [bw_v]
  unfold fX6_make_b3
  rw [cf_258 S1 D1, bd_v, bd_v, kX_3 S1, bd_v, c_size_x S1 D1, bd_v, q1, bw_v]
  generalize nsh (nsh (nsh sh sz 2 0) (sz + 1) 6 0) (sz + 2) 20 6 = sh3 at SGf k0 k1 k2 k3 q1
  unfold fX6_make_b21
  have S3 := cz_sh S SGf
  have D3 := cd_mono S B q2 D
  rw [cf_258 S3 D3, bd_v, bd_v, kX_3 S3, bd_v]
  -- the marks of the new cells; three cells that are not yet counted
  have S4 : CZ σ (g_t (g_c G (u1 (cap G) 13 3)) (fun b => if sz ≤ b then 32 * nc σ + 22 + (b - sz) else tg G b)) x em (sz + 3) (ns + 17) sh3 := by
    have hcap : ∀ i, i < 13 → u1 (cap G) 13 3 i = cap G i := fun i hi => u1_n _ _ (by omega)
    have hT : ∀ b, b < sz → (if sz ≤ b then 32 * nc σ + 22 + (b - sz) else tg G b) = tg G b := fun b hb => if_neg (by omega)
    refine ⟨S3.1, ⟨fun j hj => ⟨(hT _ (l_x S hj)).trans (t_x S hj), by have := l_x S hj; omega⟩, fun y hy j hj => ⟨(hT _ (l_h S hy hj)).trans (t_h S hy hj), Nat.lt_add_right 3 (l_h S hy hj)⟩, fun y hy j hj => ⟨(hT _ (l_p S hy hj)).trans (t_p S hy hj), Nat.lt_add_right 3 (l_p S hy hj)⟩, fun y hy j hj => ⟨(hT _ (l_e S hy hj)).trans (t_e S hy hj), Nat.lt_add_right 3 (l_e S hy hj)⟩, fun i hi hc => ?_⟩, ⟨fun i hi => ?_, ?_, fun y hy => ?_, fun y hy hy2 => ?_⟩, ?_, S.2.2.2.2⟩
    · have hc : 0 < u1 (cap G) 13 3 i := hc
      rw [hcap i hi] at hc
      exact ⟨(hT _ (l_d S hi)).trans (t_d S hi hc), by have := l_d S hi; show DA G i < sz + 3; omega⟩
    · show (u1 (cap G) 13 3 i = 0 → DA G i = em) ∧ (0 < u1 (cap G) 13 3 i → sh3.1 (DA G i) = 26 ∧ sh3.2 (DA G i) = u1 (cap G) 13 3 i ∧ DA G i ≠ em) ∧ u1 (cap G) 13 3 i ≤ 600
      rw [hcap i hi]; exact S3.2.2.1.1 i hi
    · show nc σ ≤ u1 (cap G) 13 3 0
      rw [hcap 0 (by decide)]; exact S.2.2.1.2.1
    · show md σ y ≤ u1 (cap G) 13 3 (1 + y) ∧ wn σ y ≤ u1 (cap G) 13 3 (7 + y)
      have hy : y < nh σ := hy
      rw [hcap _ (by omega), hcap _ (by omega)]; exact S.2.2.1.2.2.1 y hy
    · show u1 (cap G) 13 3 (1 + y) = 0 ∧ u1 (cap G) 13 3 (7 + y) = 0
      rw [hcap _ (by omega), hcap _ (by omega)]; exact S.2.2.1.2.2.2 y hy hy2
    · have q := S.2.2.2.1
      have e1 : sm13 (u1 (cap G) 13 3) = sm13 (cap G) := by simp [sm13, u1]
      have e2 : u1 (cap G) 13 3 13 = 3 := u1_s _ _ _
      unfold qR at q ⊢
      show sz + 3 ≤ x + 40 + 9 * nh σ + 4 * np σ + 3 * nc σ + sm13 (u1 (cap G) 13 3) + u1 (cap G) 13 3 13 ∧ ns + 17 ≤ 8000 + 100 * nh σ + 80 * np σ + 21 * nc σ + 4 * sm13 (u1 (cap G) 13 3) + 7 * u1 (cap G) 13 3 13
      omega
  generalize hG1 : g_t (g_c G (u1 (cap G) 13 3)) (fun b => if sz ≤ b then 32 * nc σ + 22 + (b - sz) else tg G b) = G1 at S4
  have D4 : CD σ G1 x e := by rw [← hG1]; exact D3
  have gt : ∀ j, j < 3 → tg G1 (sz + j) = 32 * nc σ + 22 + j := fun j hj => by
    rw [← hG1]
    show (if sz ≤ sz + j then 32 * nc σ + 22 + (sz + j - sz) else tg G (sz + j)) = _
    rw [if_pos (by omega)]; omega
  have c13 : cap G1 13 = 3 := by rw [← hG1]; exact u1_s (cap G) 13 3
  have hHA : HA G1 = HA G := by rw [← hG1]; rfl
  have hPA : PA G1 = PA G := by rw [← hG1]; rfl
  have hEA : EA G1 = EA G := by rw [← hG1]; rfl
  have F4 : EF σ G1 e sz h p w a v := by unfold EF; rw [hEA]; exact q3
  obtain ⟨G2, sz2, ns2, sh2, d2, vv, r1, S5, D5, L5, c5, s5, sg5, dh5, le5, tg5⟩ := c_addE (mi := mi) S4 D4 B (lr_x S4 D4 B) hn k0 (show sz < sz + 3 by omega)
  rw [r1, bw2_v]
  unfold fX6_make_b32
  have h0 := dh5 sz (by omega)
  have h1 := dh5 (sz + 1) (by omega)
  have h2 := dh5 (sz + 2) (by omega)
  have F5 : EF σ G2 d2 sz h p w a v := by
    refine ⟨⟨(h0.1 _).trans ((fi_ne (by decide)).trans F4.1.1), (h0.1 _).trans ((fi_ne (by decide)).trans F4.1.2.1), (h0.1 _).trans ((fi_ne (by decide)).trans F4.1.2.2.1), (h0.1 _).trans ((fi_ne (by decide)).trans F4.1.2.2.2.1), (h0.1 _).trans ((fi_ne (by decide)).trans F4.1.2.2.2.2.1), (h0.1 _).trans ((fi_ne (by decide)).trans F4.1.2.2.2.2.2.1), (h0.1 _).trans ((fi_ne (by decide)).trans F4.1.2.2.2.2.2.2)⟩, (h0.2.1 _).trans F4.2.1, ⟨(h0.2.2.1 _ (by decide)).trans F4.2.2.1.1, (h1.2.2.1 _ (by decide)).trans F4.2.2.1.2.1, (h0.2.2.1 _ (by decide)).trans (F4.2.2.1.2.2.trans (by rw [s5.2.2.1]))⟩, fun k hk => (congrFun h2.2.2.2.1 k).trans (F4.2.2.2 k hk)⟩
  have sE : sh2.1 sz = 2 := (sg5 sz (by omega)).1.trans k0
  have sE1 : sh2.1 (sz + 1) = 6 := (sg5 _ (by omega)).1.trans k1
  have sE2 : sh2.1 (sz + 2) = 20 := (sg5 _ (by omega)).1.trans k2
  have sE3 : sh2.2 (sz + 2) = 6 := (sg5 _ (by omega)).2.trans k3
  have eHA : HA G = HA G2 := (s5.1.trans hHA).symm
  have ePA : PA G = PA G2 := (s5.2.1.trans hPA).symm
  rw [eHA, ePA]
  -- append
  have eap : fX3_append sh2 (uI (uAR d2 (DA G2 0) (nc σ) (some sz)) 34 (x + 3) (nI (nc σ + 1))) (PA G2 p) (some sz) = some (uAR (uI (uAR d2 (DA G2 0) (nc σ) (some sz)) 34 (x + 3) (nI (nc σ + 1))) (PA G2 p + 3) (shl σ p a) (some sz)) := by
    have hk := B.2.2.2.1 p hp
    have a1 : gR sh2 (uI (uAR d2 (DA G2 0) (nc σ) (some sz)) 34 (x + 3) (nI (nc σ + 1))) 5 162 (PA G2 p) = some (some (PA G2 p + 3)) := cf_162 S5 D5 hp
    have a2 : gI sh2 (uI (uAR d2 (DA G2 0) (nc σ) (some sz)) 34 (x + 3) (nI (nc σ + 1))) 2 68 sz = some (nI a) := (gI_v sE).trans (congrArg some ((fi_ne (by decide)).trans F5.1.2.2.2.2.1))
    have a3 : gI sh2 (uI (uAR d2 (DA G2 0) (nc σ) (some sz)) 34 (x + 3) (nI (nc σ + 1))) 5 161 (PA G2 p) = some (nI (kin σ p)) := (gI_v (sP_0 S5 hp)).trans (congrArg some ((fi_ne (by decide)).trans (D5.1.2.2.1 p hp).2))
    have a4 : fX3_shelfOf sh2 (uI (uAR d2 (DA G2 0) (nc σ) (some sz)) 34 (x + 3) (nI (nc σ + 1))) (PA G2 p) (nI a) = some (nI (shl σ p a)) := by
      unfold fX3_shelfOf fX3_shelfOf_b0 shl
      rw [a3, bd_v]
      simp (disch := omega) only [z_0, z_1, z_2, z_3, z_4, z_5, z_6, z_7, z_8, z_10, z_16, z_17, z_31, z_63, z_64, z_400, nI_add, pk_mul, nI_eq, nI_leI, nI_ltI, bI_z, nI_m9, bI_m9]
      split <;> rfl
    have hs := shl_lt (σ := σ) (p := p) ha
    have hs2 : shn (kin σ p) ≤ 64 := by unfold shn; split <;> omega
    unfold fX3_append fX3_append_b0
    rw [a1, bd_v, bd_v, a2, bd_v, a4, bd_v, bd_v, show cst sh2 2 (some sz) = some () from kc_v sE, bd_v, sR_v (sP_3 S5 hp) (by rw [nP_3 S5 hp]; exact hs) (by omega), bd_v]
  have D6 := cd_entry S5 D5 B w0 (h := h) (p := p) (w := w) (a := a) (v := v) hh hp ha F5 c5
  have S6 := cz_entry S5 B w0 (E := sz) (h := h) (p := p) (w := w) (a := a) (v := v) hh c5 ⟨sE, sE1, sE2, sE3⟩ (fun j hj => by
    exact ⟨(tg5 _ (by omega)).trans (gt j hj), by omega⟩) (s5.2.2.2.2.2.trans c13)
  have Bm := wb_make B w0 (h := h) (p := p) (k := w) (a := a) (v := v) hh hp hn hw ha
  have B6 : WB (make1 σ h p w a v) := ⟨Bm.1, Bm.2.1, Bm.2.2.1, Bm.2.2.2.1, Bm.2.2.2.2.1, B.2.2.2.2.2⟩
  have hm : md σ h < 400 := by
    rw [(w0.2.1 h (by omega)).1]
    have : mb σ h (nc σ) ≤ nc σ := cnt_le _ _
    omega
  have D6' : CD (make1 σ h p w a v) (g_c (g_E G2 (u1 (EA G2) (nc σ) sz)) (u1 (cap G2) 13 0)) x (uAR (uI (uAR d2 (DA G2 0) (nc σ) (some sz)) 34 (x + 3) (nI (nc σ + 1))) (PA G2 p + 3) (shl σ p a) (some sz)) := D6
  rw [bd_v, kP_0 S5 hp, bd_v, eap, bd_v, bd_v]
  generalize uAR (uI (uAR d2 (DA G2 0) (nc σ) (some sz)) 34 (x + 3) (nI (nc σ + 1))) (PA G2 p + 3) (shl σ p a) (some sz) = d4 at D6 D6'
  have hEn : EA (g_c (g_E G2 (u1 (EA G2) (nc σ) sz)) (u1 (cap G2) 13 0)) (nc σ) = sz := u1_s (EA G2) (nc σ) sz
  have hH3 : HA (g_c (g_E G2 (u1 (EA G2) (nc σ) sz)) (u1 (cap G2) 13 0)) = HA G2 := rfl
  have h13c : cap (g_c (g_E G2 (u1 (EA G2) (nc σ) sz)) (u1 (cap G2) 13 0)) 13 = 0 := u1_s (cap G2) 13 0
  generalize g_c (g_E G2 (u1 (EA G2) (nc σ) sz)) (u1 (cap G2) 13 0) = G3 at S6 D6' hEn hH3 h13c
  rw [← hH3]
  have hh6 : h < nh (make1 σ h p w a v) := hh
  obtain ⟨G4, sz4, ns4, sh4, d5, vv2, r3, S7, D7, L7, c7, s7, sg7, dh7, le7, tg7⟩ := c_addE (mi := mi) S6 D6' B6 (lr_o S6 D6' B6 hh6) hm sE (show sz < sz2 by omega)
  have r3 : fJx4a65c_add_9ea2d em mi (HA G3 h + 3) (some sz) sz2 ns2 sh2 d4 = some (true, sz4, ns4, sh4, uI (uAR d5 (DA G4 (1 + h)) (md σ h) (some sz)) 34 (HA G3 h + 3) (nI (md σ h + 1))) := r3
  rw [cf_98 S6 D6' hh6, bd_v, bd_v, kH_3 S6 hh6, bd_v, r3, bw2_v]
  unfold fX6_make_b48
  have hE4 : EA G4 (nc σ) = sz := by rw [s7.2.2.1]; exact hEn
  have c7 : md (make1 σ h p w a v) h < cap G4 (1 + h) := c7
  have D8 := cd_own S7 D7 B6 (c := nc σ) hh6 c7
  have S8 := cz_own S7 (c := nc σ) hh6 c7 ⟨Nat.lt_succ_self _, u1_s (mk σ) (nc σ) h, u1_s (od σ) (nc σ) (md σ h + 1)⟩
  rw [hE4, s7.1] at D8
  have D8 : CD (s_md (make1 σ h p w a v) (u1 (md σ) h (md σ h + 1))) (g_o G4 (u2 (ow G4) h (md σ h) (nc σ))) x (uI (uAR d5 (DA G4 (1 + h)) (md σ h) (some sz)) 34 (HA G3 h + 3) (nI (md σ h + 1))) := D8
  have S8 : CZ (s_md (make1 σ h p w a v) (u1 (md σ) h (md σ h + 1))) (g_o G4 (u2 (ow G4) h (md σ h) (nc σ))) x em sz4 ns4 sh4 := S8
  generalize uI (uAR d5 (DA G4 (1 + h)) (md σ h) (some sz)) 34 (HA G3 h + 3) (nI (md σ h + 1)) = d6 at D8
  have hE5 : EA (g_o G4 (u2 (ow G4) h (md σ h) (nc σ))) (nc σ) = sz := hE4
  have hH5 : HA (g_o G4 (u2 (ow G4) h (md σ h) (nc σ))) = HA G3 := s7.1
  have h13d : cap (g_o G4 (u2 (ow G4) h (md σ h) (nc σ))) 13 = 0 := s7.2.2.2.2.2.trans h13c
  generalize g_o G4 (u2 (ow G4) h (md σ h) (nc σ)) = G5 at S8 D8 hE5 hH5 h13d
  have gb := gc_b B w0 (show h < 6 by omega)
  have B8 : WB (s_md (make1 σ h p w a v) (u1 (md σ) h (md σ h + 1))) := ⟨Bm.1, Bm.2.1, Bm.2.2.1, Bm.2.2.2.1, Bm.2.2.2.2.1, Bm.2.2.2.2.2⟩
  have hcn : nc σ < nc (s_md (make1 σ h p w a v) (u1 (md σ) h (md σ h + 1))) := Nat.lt_succ_self _
  have hh8 : h < nh (s_md (make1 σ h p w a v) (u1 (md σ) h (md σ h + 1))) := hh
  obtain ⟨e9, t1, t2⟩ := c_include S8 D8 B8 hh8 hcn (show gc σ h < 2 ^ 30 by omega)
  have S9 : CZ (inc1 (s_md (make1 σ h p w a v) (u1 (md σ) h (md σ h + 1))) h (nc σ)) G5 x em sz4 ns4 sh4 := S8
  have g64 := cf_64 S9 t2 hcn
  rw [hE5] at t1 g64
  rw [← hH5, bd_v, kH_0 S8 hh8, bd_v, t1, bd_v, g64, bd_v]
  rw [inc_make] at S9 t2
  exact ⟨_, _, _, _, G5, rfl, S9, t2, h13d⟩
end
