/-! the class: a new entry -/
section
variable {sh : Sh} {d e : Dt} {x : Nat} {σ : St} {G : Gh} {em mi sz ns : Nat}
theorem cz_sh (S : CZ σ G x em sz ns sh) {sh2 : Sh} (h : SG sz sh sh2) : CZ σ G x em sz ns sh2 := ⟨qS_mono S h, S.2.1, ⟨fun i hi => ⟨(S.2.2.1.1 i hi).1, fun z => ⟨(h _ (l_d S hi)).1.trans ((S.2.2.1.1 i hi).2.1 z).1, (h _ (l_d S hi)).2.trans ((S.2.2.1.1 i hi).2.1 z).2.1, ((S.2.2.1.1 i hi).2.1 z).2.2⟩, (S.2.2.1.1 i hi).2.2⟩, S.2.2.1.2⟩, S.2.2.2⟩
theorem dg_r : DG sz d d := fun b hb => ⟨fun _ => rfl, fun _ => rfl, fun _ => rfl, rfl, rfl, rfl⟩
theorem dg_I {k a : Nat} {v : Int32} (h : DG sz d e) (ha : sz ≤ a) : DG sz d (uI e k a v) := fun b hb => ⟨fun k2 => (fi_n2 (by omega)).trans ((h b hb).1 k2), (h b hb).2⟩
theorem dg_L {k a : Nat} {v : Int64} (h : DG sz d e) (ha : sz ≤ a) : DG sz d (uL e k a v) := fun b hb => ⟨(h b hb).1, fun k2 => (by rw [r_fl_L, if_neg (fun q => by omega)]; exact (h b hb).2.1 k2), (h b hb).2.2⟩
theorem dg_R {k a : Nat} {v : Option Nat} (h : DG sz d e) (ha : sz ≤ a) : DG sz d (uR e k a v) := fun b hb => ⟨(h b hb).1, (h b hb).2.1, fun k2 => (fr_n2 (by omega)).trans ((h b hb).2.2.1 k2), (h b hb).2.2.2⟩
theorem dg_C {a : Nat} {F : Nat → Int32} (h : DG sz d e) (ha : sz ≤ a) : DG sz d (uCI e a F) := fun b hb => ⟨(h b hb).1, (h b hb).2.1, (h b hb).2.2.1, (uCI_n (by omega)).trans (h b hb).2.2.2.1, (h b hb).2.2.2.2⟩
theorem dg_O {a : Nat} (h : DG sz d e) (ha : sz ≤ a) : DG sz d (zO e a) := fun b hb => ⟨fun k => (if_neg (by omega)).trans ((h b hb).1 k), fun k => (if_neg (by omega)).trans ((h b hb).2.1 k), fun k => (if_neg (by omega)).trans ((h b hb).2.2.1 k), (h b hb).2.2.2⟩
theorem dg_A {a : Nat} (h : DG sz d e) (ha : sz ≤ a) : DG sz d (zA e a) := fun b hb => ⟨(h b hb).1, (h b hb).2.1, (h b hb).2.2.1, (if_neg (by omega)).trans (h b hb).2.2.2.1, (if_neg (by omega)).trans (h b hb).2.2.2.2.1, (if_neg (by omega)).trans (h b hb).2.2.2.2.2⟩
theorem sg_n {sh2 : Sh} {a kd n : Nat} (h : SG sz sh sh2) (ha : sz ≤ a) : SG sz sh (nsh sh2 a kd n) := fun b hb => ⟨(nw_1 (by omega)).trans (h b hb).1, (nw_2 (by omega)).trans (h b hb).2⟩
theorem sg_r : SG sz sh sh := fun _ _ => ⟨rfl, rfl⟩
/-- what the cells of a new entry hold -/
def EF (σ : St) (G : Gh) (d : Dt) (E h p w a : Nat) (v : Int64) : Prop :=
  (dfi d 64 E = nI (nc σ) ∧ dfi d 65 E = nI h ∧ dfi d 66 E = nI p ∧ dfi d 67 E = nI (acC w) ∧ dfi d 68 E = nI a ∧ dfi d 70 E = nI (1 + gc σ h) ∧ dfi d 71 E = nI (md σ h + 1)) ∧ dfl d 69 E = v ∧
  (dfr d 72 E = some (E + 1) ∧ dfr d 192 (E + 1) = some (E + 2) ∧ dfr d 73 E = (prv σ p (shl σ p a) (nc σ)).map (EA G)) ∧ ∀ k, k < 6 → dai d (E + 2) k = nI (up σ h k)
theorem c_entry (S : CZ σ G x em sz ns sh) (D : CD σ G x d) (B : WB σ) (w0 : Wel σ) {h p w a : Nat} (hh : h < nh σ) (hp : p < np σ) (ha : a < 64) (v : Int64) : ∃ e, fX0_init em mi sz (nI (nc σ)) (some (HA G h)) (some (PA G p)) (nI (acC w)) (nI a) v (sz + 1) (ns + 10) (nsh sh sz 2 0) (zO d sz) = some (sz + 3, ns + 17, nsh (nsh (nsh sh sz 2 0) (sz + 1) 6 0) (sz + 2) 20 6, e) ∧ DG sz d e ∧ EF σ G e sz h p w a v := by
  have b1 := B.1
  have SGf : SG sz sh (nsh (nsh (nsh sh sz 2 0) (sz + 1) 6 0) (sz + 2) 20 6) := sg_n (sg_n (sg_n sg_r (Nat.le_refl _)) (by omega)) (by omega)
  have S3 := cz_sh S SGf
  have k0 : (nsh (nsh (nsh sh sz 2 0) (sz + 1) 6 0) (sz + 2) 20 6).1 sz = 2 := (nw_1 (by omega)).trans ((nw_1 (by omega)).trans nw_k)
  have k1 : (nsh (nsh (nsh sh sz 2 0) (sz + 1) 6 0) (sz + 2) 20 6).1 (sz + 1) = 6 := (nw_1 (by omega)).trans nw_k
  have k2 : (nsh (nsh (nsh sh sz 2 0) (sz + 1) 6 0) (sz + 2) 20 6).1 (sz + 2) = 20 := nw_k
  have k3 : (nsh (nsh (nsh sh sz 2 0) (sz + 1) 6 0) (sz + 2) 20 6).2 (sz + 2) = 6 := nw_n
  have k1' : (nsh (nsh (nsh sh sz 2 0) (sz + 1) 6 0) (sz + 2) 20 6).1 (sz + 1) = 6 := k1
  unfold fX0_init fX0_init_b0 nwO
  rw [bw_v]
  unfold fX0_init_b8 fX4_init fX4_init_b0
  rw [show (6 : Int32) = nI 6 from rfl, nwA_v (by decide), bw_v]
  unfold fX4_init_b9
  rw [show sz + 1 + 1 = sz + 2 from rfl, show sz + 2 + 1 = sz + 3 from rfl, show ns + 10 + 1 + 6 = ns + 17 from rfl]
  generalize hsh : nsh (nsh (nsh sh sz 2 0) (sz + 1) 6 0) (sz + 2) 20 6 = sh3 at S3 k0 k1 k2 k3 SGf
  have g4 : DG sz d (zA (zO (zO d sz) (sz + 1)) (sz + 2)) := dg_A (dg_O (dg_O dg_r (Nat.le_refl _)) (by omega)) (by omega)
  have z20 : dai (zA (zO (zO d sz) (sz + 1)) (sz + 2)) (sz + 2) = fun _ => 0 := if_pos rfl
  generalize zA (zO (zO d sz) (sz + 1)) (sz + 2) = d3 at g4 z20
  rw [pR_v k1, bd_v, bw_v]
  unfold fX0_init_b12
  have g5 : DG sz d (uR (uR d3 192 (sz + 1) (some (sz + 2))) 72 sz (some (sz + 1))) := dg_R (dg_R g4 (by omega)) (Nat.le_refl _)
  have y1 : dfr (uR (uR d3 192 (sz + 1) (some (sz + 2))) 72 sz (some (sz + 1))) 192 (sz + 1) = some (sz + 2) := (fr_ne (by decide)).trans fr_eq
  have y2 : dfr (uR (uR d3 192 (sz + 1) (some (sz + 2))) 72 sz (some (sz + 1))) 72 sz = some (sz + 1) := fr_eq
  have y3 : dai (uR (uR d3 192 (sz + 1) (some (sz + 2))) 72 sz (some (sz + 1))) (sz + 2) = fun _ => 0 := z20
  rw [pR_v k0, bd_v]
  generalize uR (uR d3 192 (sz + 1) (some (sz + 2))) 72 sz (some (sz + 1)) = d5 at g5 y1 y2 y3
  have g6 : DG sz d (uI d5 64 sz (nI (nc σ))) := dg_I g5 (Nat.le_refl _)
  have D6 := cd_mono S B g6 D
  rw [pI_v k0, bd_v, bd_v, cf_96 S3 D6 hh, bd_v, pI_v k0, bd_v, bd_v]
  have g7 : DG sz d (uI (uI d5 64 sz (nI (nc σ))) 65 sz (nI h)) := dg_I g6 (Nat.le_refl _)
  have D7 := cd_mono S B g7 D
  rw [cf_160 S3 D7 hp, bd_v, pI_v k0, bd_v, pI_v k0, bd_v, pI_v k0, bd_v, pL_v k0, bd_v]
  have g11 : DG sz d (uL (uI (uI (uI (uI (uI d5 64 sz (nI (nc σ))) 65 sz (nI h)) 66 sz (nI p)) 67 sz (nI (acC w))) 68 sz (nI a)) 69 sz v) := dg_L (dg_I (dg_I (dg_I g7 (Nat.le_refl _)) (Nat.le_refl _)) (Nat.le_refl _)) (Nat.le_refl _)
  have f11 : dfi (uL (uI (uI (uI (uI (uI d5 64 sz (nI (nc σ))) 65 sz (nI h)) 66 sz (nI p)) 67 sz (nI (acC w))) 68 sz (nI a)) 69 sz v) 64 sz = nI (nc σ) ∧ dfi (uL (uI (uI (uI (uI (uI d5 64 sz (nI (nc σ))) 65 sz (nI h)) 66 sz (nI p)) 67 sz (nI (acC w))) 68 sz (nI a)) 69 sz v) 65 sz = nI h ∧ dfi (uL (uI (uI (uI (uI (uI d5 64 sz (nI (nc σ))) 65 sz (nI h)) 66 sz (nI p)) 67 sz (nI (acC w))) 68 sz (nI a)) 69 sz v) 66 sz = nI p ∧ dfi (uL (uI (uI (uI (uI (uI d5 64 sz (nI (nc σ))) 65 sz (nI h)) 66 sz (nI p)) 67 sz (nI (acC w))) 68 sz (nI a)) 69 sz v) 67 sz = nI (acC w) ∧ dfi (uL (uI (uI (uI (uI (uI d5 64 sz (nI (nc σ))) 65 sz (nI h)) 66 sz (nI p)) 67 sz (nI (acC w))) 68 sz (nI a)) 69 sz v) 68 sz = nI a ∧ dfl (uL (uI (uI (uI (uI (uI d5 64 sz (nI (nc σ))) 65 sz (nI h)) 66 sz (nI p)) 67 sz (nI (acC w))) 68 sz (nI a)) 69 sz v) 69 sz = v := by
    refine ⟨?_, ?_, ?_, ?_, ?_, fl_eq⟩
    · rw [r_fi_L]; exact (fi_ne (by decide)).trans ((fi_ne (by decide)).trans ((fi_ne (by decide)).trans ((fi_ne (by decide)).trans fi_eq)))
    · rw [r_fi_L]; exact (fi_ne (by decide)).trans ((fi_ne (by decide)).trans ((fi_ne (by decide)).trans fi_eq))
    · rw [r_fi_L]; exact (fi_ne (by decide)).trans ((fi_ne (by decide)).trans fi_eq)
    · rw [r_fi_L]; exact (fi_ne (by decide)).trans fi_eq
    · rw [r_fi_L]; exact fi_eq
  have y1 : dfr (uL (uI (uI (uI (uI (uI d5 64 sz (nI (nc σ))) 65 sz (nI h)) 66 sz (nI p)) 67 sz (nI (acC w))) 68 sz (nI a)) 69 sz v) 192 (sz + 1) = some (sz + 2) := y1
  have y2 : dfr (uL (uI (uI (uI (uI (uI d5 64 sz (nI (nc σ))) 65 sz (nI h)) 66 sz (nI p)) 67 sz (nI (acC w))) 68 sz (nI a)) 69 sz v) 72 sz = some (sz + 1) := y2
  have y3 : dai (uL (uI (uI (uI (uI (uI d5 64 sz (nI (nc σ))) 65 sz (nI h)) 66 sz (nI p)) 67 sz (nI (acC w))) 68 sz (nI a)) 69 sz v) (sz + 2) = fun _ => 0 := y3
  generalize uL (uI (uI (uI (uI (uI d5 64 sz (nI (nc σ))) 65 sz (nI h)) 66 sz (nI p)) 67 sz (nI (acC w))) 68 sz (nI a)) 69 sz v = d11 at g11 f11 y1 y2 y3
  have D11 := cd_mono S B g11 D
  have g12 : DG sz d (uI d11 70 sz (nI (gc σ h + 1))) := dg_I g11 (Nat.le_refl _)
  have D12 := cd_mono S B g12 D
  have g13 : DG sz d (uI (uI d11 70 sz (nI (gc σ h + 1))) 71 sz (nI (md σ h + 1))) := dg_I g12 (Nat.le_refl _)
  have D13 := cd_mono S B g13 D
  rw [cf_102 S3 D11 hh, bd_v, nI_1, pI_v k0, bd_v, cf_98 S3 D12 hh, bd_v, bd_v, kH_3 S3 hh, bd_v, c_size_o S3 D12 hh, bd_v, nI_1, pI_v k0, bd_v]
  have y2 : dfr (uI (uI d11 70 sz (nI (gc σ h + 1))) 71 sz (nI (md σ h + 1))) 72 sz = some (sz + 1) := y2
  have RW : RCH sh3 (uI (uI d11 70 sz (nI (gc σ h + 1))) 71 sz (nI (md σ h + 1))) (sz + 1) (sz + 2) (fun _ => 0) := ⟨k1, y1, k2, k3, fun k hk => ⟨congrFun y3 k, (by decide : 0 < 2 ^ 30)⟩⟩
  have WD := c_widen RW (rc_h S3 D13 B w0 hh) (by have := l_h S hh (j := 2) (by decide); omega)
  have g14 : DG sz d (kW (uI (uI d11 70 sz (nI (gc σ h + 1))) 71 sz (nI (md σ h + 1))) (sz + 2) (fun k => max 0 (up σ h k))) := dg_C g13 (by omega)
  have D14 := cd_mono S B g14 D
  rw [gR_v k0, bd_v, y2, cf_97 S3 D13 hh, bd_v, bd_v, kc_v k1, bd_v, WD, bd_v, cf_162 S3 D14 hp, bd_v, c_shelfOf S3 D14 B hp, bd_v, bd_v, ca_p3 S3 D14 hp (shl_lt ha), bd_v, pR_v k0, bd_v]
  refine ⟨_, rfl, dg_R g14 (Nat.le_refl _), ⟨?_, ?_, ?_, ?_, ?_, ?_, ?_⟩, f11.2.2.2.2.2, ⟨?_, ?_, fr_eq⟩, fun k hk => ?_⟩
  · show dfi (uI (uI d11 70 sz (nI (gc σ h + 1))) 71 sz (nI (md σ h + 1))) 64 sz = _
    exact (fi_ne (by decide)).trans ((fi_ne (by decide)).trans f11.1)
  · show dfi (uI (uI d11 70 sz (nI (gc σ h + 1))) 71 sz (nI (md σ h + 1))) 65 sz = _
    exact (fi_ne (by decide)).trans ((fi_ne (by decide)).trans f11.2.1)
  · show dfi (uI (uI d11 70 sz (nI (gc σ h + 1))) 71 sz (nI (md σ h + 1))) 66 sz = _
    exact (fi_ne (by decide)).trans ((fi_ne (by decide)).trans f11.2.2.1)
  · show dfi (uI (uI d11 70 sz (nI (gc σ h + 1))) 71 sz (nI (md σ h + 1))) 67 sz = _
    exact (fi_ne (by decide)).trans ((fi_ne (by decide)).trans f11.2.2.2.1)
  · show dfi (uI (uI d11 70 sz (nI (gc σ h + 1))) 71 sz (nI (md σ h + 1))) 68 sz = _
    exact (fi_ne (by decide)).trans ((fi_ne (by decide)).trans f11.2.2.2.2.1)
  · show dfi (uI (uI d11 70 sz (nI (gc σ h + 1))) 71 sz (nI (md σ h + 1))) 70 sz = _
    rw [Nat.add_comm 1]; exact (fi_ne (by decide)).trans fi_eq
  · exact fi_eq
  · exact (fr_ne (by decide)).trans y2
  · exact (fr_ne (by decide)).trans y1
  · have := kW_s (d := uI (uI d11 70 sz (nI (gc σ h + 1))) 71 sz (nI (md σ h + 1))) (a := sz + 2) (f := fun k => max 0 (up σ h k)) hk
    refine this.trans ?_
    show nI (max 0 (up σ h k)) = _
    rw [Nat.max_eq_right (Nat.zero_le _)]
theorem prq_c {q r : Nat → Bool} : ∀ {n : Nat}, (∀ e, e < n → q e = r e) → prq q n = prq r n := by
  intro n
  induction n with
  | zero => intro _; rfl
  | succ n ih =>
    intro h
    show (if q n then some n else prq q n) = (if r n then some n else prq r n)
    rw [ih (fun e he => h e (by omega)), h n (by omega)]
theorem prq_lt {q : Nat → Bool} {c : Nat} : ∀ {n : Nat}, prq q n = some c → c < n := by
  intro n
  induction n with
  | zero => intro h; cases h
  | succ n ih =>
    intro h
    have h : (if q n then some n else prq q n) = some c := h
    cases hq : q n with
    | true => rw [hq] at h; cases h; omega
    | false => rw [hq] at h; have := ih h; omega
theorem prq_m {q : Nat → Bool} {n N E : Nat} {f : Nat → Nat} (h : n ≤ N) : (prq q n).map (u1 f N E) = (prq q n).map f := by
  cases hp : prq q n with
  | none => rfl
  | some c =>
    have := prq_lt hp
    rw [Option.map_some, Option.map_some, u1_n _ _ (by omega)]
theorem ons_make {h p w a : Nat} {v : Int64} {q s c : Nat} (hc : c < nc σ) : ons (make1 σ h p w a v) q s c = ons σ q s c := by
  show (decide (u1 (pg σ) (nc σ) p c = q) && decide ((if kin σ q = 3 then u1 (ax σ) (nc σ) a c else 0) = s)) = _
  rw [u1_n _ _ (by omega), u1_n _ _ (by omega)]; rfl
theorem ons_mk2 {h p w a : Nat} {v : Int64} {q s : Nat} : ons (make1 σ h p w a v) q s (nc σ) = (decide (p = q) && decide (shl σ q a = s)) := by
  show (decide (u1 (pg σ) (nc σ) p (nc σ) = q) && decide ((if kin σ q = 3 then u1 (ax σ) (nc σ) a (nc σ) else 0) = s)) = _
  rw [u1_s, u1_s]; rfl
theorem wn_make (w0 : Wel σ) {h p w a : Nat} {v : Int64} {y : Nat} (hy : y < 6) : wn (make1 σ h p w a v) y = wn σ y := by
  show cnt (wt σ y) (nc σ + 1) = cnt (wt σ y) (nc σ)
  rw [cnt_s]
  cases hz : wt σ y (nc σ) with
  | false => rfl
  | true => have := (w0.2.2.2.2.1 y hy _ hz).1; omega
/-- the entry among the others -/
theorem cd_entry (S : CZ σ G x em sz ns sh) (D : CD σ G x d) (B : WB σ) (w0 : Wel σ) {E h p w a : Nat} {v : Int64} (hh : h < nh σ) (hp : p < np σ) (ha : a < 64) (F : EF σ G d E h p w a v) (hc0 : nc σ < cap G 0) : CD (make1 σ h p w a v) (g_E G (u1 (EA G) (nc σ) E)) x (uAR (uI (uAR d (DA G 0) (nc σ) (some E)) 34 (x + 3) (nI (nc σ + 1))) (PA G p + 3) (shl σ p a) (some E)) := by
  have b1 := B.1
  have td := t_d S (i := 0) (by decide) (by omega)
  have tp := t_p S hp (j := 3) (by decide)
  have hE : ∀ c, c < nc σ → u1 (EA G) (nc σ) E c = EA G c := fun c hc => u1_n _ _ (by omega)
  have pv : ∀ q s n, n ≤ nc σ → (prv (make1 σ h p w a v) q s n).map (u1 (EA G) (nc σ) E) = (prv σ q s n).map (EA G) := by
    intro q s n hn
    unfold prv
    rw [prq_m hn, prq_c (r := ons σ q s) (fun e he => ons_make (by omega))]
  refine ⟨⟨⟨?_, ?_, ?_⟩, fun y hy => ⟨?_, ?_, ?_⟩, fun q hq => ⟨?_, ?_⟩, fun c hc => ?_, ?_, fun y hy => ⟨?_, ?_⟩⟩, ⟨D.2.1.1, fun c hc => ?_⟩, ⟨D.2.2.1.1, D.2.2.1.2.1, D.2.2.1.2.2.1, fun c hc => ?_, D.2.2.1.2.2.2.2⟩, ⟨D.2.2.2.1.1, D.2.2.2.1.2.1, fun c hc k hk => ?_⟩, D.2.2.2.2.1, ⟨fun y hy => ?_, fun q hq => ?_, fun q hq s hs => ?_, fun c hc => ?_, fun y hy => ⟨fun i hi => ?_, fun i hi => ?_⟩⟩⟩
  · rw [r_fi_AR]; exact (fi_ne (by decide)).trans D.1.1.1
  · rw [r_fi_AR]; exact (fi_ne (by decide)).trans D.1.1.2.1
  · rw [r_fi_AR]; exact (fi_ne (by decide)).trans D.1.1.2.2
  · rw [r_fi_AR]; exact (fi_ne (by decide)).trans (D.1.2.1 y hy).1
  · rw [r_fi_AR]; exact (fi_ne (by decide)).trans (D.1.2.1 y hy).2.1
  · rw [r_fi_AR]; exact (fi_ne (by decide)).trans (D.1.2.1 y hy).2.2
  · rw [r_fi_AR]; exact (fi_ne (by decide)).trans (D.1.2.2.1 q hq).1
  · rw [r_fi_AR]; exact (fi_ne (by decide)).trans (D.1.2.2.1 q hq).2
  · show dfi (uI (uAR d (DA G 0) (nc σ) (some E)) 34 (x + 3) (nI (nc σ + 1))) 64 (u1 (EA G) (nc σ) E c) = nI c ∧ dfi (uI (uAR d (DA G 0) (nc σ) (some E)) 34 (x + 3) (nI (nc σ + 1))) 65 (u1 (EA G) (nc σ) E c) = nI (u1 (mk σ) (nc σ) h c) ∧ dfi (uI (uAR d (DA G 0) (nc σ) (some E)) 34 (x + 3) (nI (nc σ + 1))) 66 (u1 (EA G) (nc σ) E c) = nI (u1 (pg σ) (nc σ) p c) ∧ dfi (uI (uAR d (DA G 0) (nc σ) (some E)) 34 (x + 3) (nI (nc σ + 1))) 67 (u1 (EA G) (nc σ) E c) = nI (acC (u1 (ac σ) (nc σ) w c)) ∧ dfi (uI (uAR d (DA G 0) (nc σ) (some E)) 34 (x + 3) (nI (nc σ + 1))) 68 (u1 (EA G) (nc σ) E c) = nI (u1 (ax σ) (nc σ) a c) ∧ dfi (uI (uAR d (DA G 0) (nc σ) (some E)) 34 (x + 3) (nI (nc σ + 1))) 70 (u1 (EA G) (nc σ) E c) = nI (u1 (ct σ) (nc σ) (1 + gc σ h) c) ∧ dfi (uI (uAR d (DA G 0) (nc σ) (some E)) 34 (x + 3) (nI (nc σ + 1))) 71 (u1 (EA G) (nc σ) E c) = nI (u1 (od σ) (nc σ) (md σ h + 1) c)
    have hc : c < nc σ + 1 := hc
    by_cases z : c = nc σ
    · subst z
      simp only [u1_s]
      exact ⟨(fi_ne (by decide)).trans F.1.1, (fi_ne (by decide)).trans F.1.2.1, (fi_ne (by decide)).trans F.1.2.2.1, (fi_ne (by decide)).trans F.1.2.2.2.1, (fi_ne (by decide)).trans F.1.2.2.2.2.1, (fi_ne (by decide)).trans F.1.2.2.2.2.2.1, (fi_ne (by decide)).trans F.1.2.2.2.2.2.2⟩
    · simp only [u1_n _ _ z]
      have q := D.1.2.2.2.1 c (by omega)
      exact ⟨(fi_ne (by decide)).trans q.1, (fi_ne (by decide)).trans q.2.1, (fi_ne (by decide)).trans q.2.2.1, (fi_ne (by decide)).trans q.2.2.2.1, (fi_ne (by decide)).trans q.2.2.2.2.1, (fi_ne (by decide)).trans q.2.2.2.2.2.1, (fi_ne (by decide)).trans q.2.2.2.2.2.2⟩
  · exact fi_eq
  · exact (fi_n2 (tne (t_h S hy (j := 3) (by decide)) (t_x S (j := 3) (by decide)) (by omega))).trans (D.1.2.2.2.2.2 y hy).1
  · have hy : y < nh σ := hy
    rw [wn_make w0 (by omega)]
    exact (fi_n2 (tne (t_h S hy (j := 4) (by decide)) (t_x S (j := 3) (by decide)) (by omega))).trans (D.1.2.2.2.2.2 y hy).2
  · show dfl d 69 (u1 (EA G) (nc σ) E c) = u1 (vl σ) (nc σ) v c
    have hc : c < nc σ + 1 := hc
    by_cases z : c = nc σ
    · subst z; rw [u1_s, u1_s]; exact F.2.1
    · rw [u1_n _ _ z, u1_n _ _ z]; exact D.2.1.2 c (by omega)
  · show dfr d 72 (u1 (EA G) (nc σ) E c) = some (u1 (EA G) (nc σ) E c + 1) ∧ dfr d 192 (u1 (EA G) (nc σ) E c + 1) = some (u1 (EA G) (nc σ) E c + 2) ∧ dfr d 73 (u1 (EA G) (nc σ) E c) = (prv (make1 σ h p w a v) (u1 (pg σ) (nc σ) p c) (shl σ (u1 (pg σ) (nc σ) p c) (u1 (ax σ) (nc σ) a c)) c).map (u1 (EA G) (nc σ) E)
    have hc : c < nc σ + 1 := hc
    rw [pv _ _ c (by omega)]
    by_cases z : c = nc σ
    · subst z; simp only [u1_s]; exact F.2.2.1
    · simp only [u1_n _ _ z]; exact D.2.2.1.2.2.2.1 c (by omega)
  · show dai d (u1 (EA G) (nc σ) E c + 2) k = nI (if c = nc σ then up σ h k else ku σ c k)
    have hc : c < nc σ + 1 := hc
    by_cases z : c = nc σ
    · subst z; rw [u1_s, if_pos rfl]; exact F.2.2.2 k hk
    · rw [u1_n _ _ z, if_neg z]; exact D.2.2.2.1.2.2 c (by omega) k hk
  · have tx := t_x S (j := 1) (by decide)
    exact (ar_ne (tne tx tp (by omega))).trans ((ar_ne (tne tx td (by omega))).trans (D.2.2.2.2.2.1 y hy))
  · have tx := t_x S (j := 2) (by decide)
    exact (ar_ne (tne tx tp (by omega))).trans ((ar_ne (tne tx td (by omega))).trans (D.2.2.2.2.2.2.1 q hq))
  · have tq := t_p S hq (j := 3) (by decide)
    have e1 : (prv (make1 σ h p w a v) q s (nc σ + 1)).map (u1 (EA G) (nc σ) E) = if (decide (p = q) && decide (shl σ q a = s)) = true then some E else (prv σ q s (nc σ)).map (EA G) := by
      have : prv (make1 σ h p w a v) q s (nc σ + 1) = if ons (make1 σ h p w a v) q s (nc σ) = true then some (nc σ) else prv (make1 σ h p w a v) q s (nc σ) := rfl
      rw [this, ons_mk2]
      cases (decide (p = q) && decide (shl σ q a = s)) with
      | true => rw [if_pos rfl, if_pos rfl, Option.map_some, u1_s]
      | false => rw [if_neg (by decide), if_neg (by decide)]; exact pv q s _ (Nat.le_refl _)
    show dar (uAR (uAR d (DA G 0) (nc σ) (some E)) (PA G p + 3) (shl σ p a) (some E)) (PA G q + 3) s = (prv (make1 σ h p w a v) q s (nc σ + 1)).map (u1 (EA G) (nc σ) E)
    rw [e1]
    have old : dar (uAR d (DA G 0) (nc σ) (some E)) (PA G q + 3) s = (prv σ q s (nc σ)).map (EA G) := (ar_ne (tne tq td (by omega))).trans (D.2.2.2.2.2.2.2.1 q hq s hs)
    by_cases z : p = q
    · subst z
      by_cases y : shl σ p a = s
      · rw [if_pos (by simp [y]), ← y]; exact ar_eq
      · rw [if_neg (by simp [y]), ar_n2 (fun k => y k.symm)]; exact old
    · rw [if_neg (by simp [z]), ar_ne (tne tq tp (by omega))]; exact old
  · show dar (uAR (uAR d (DA G 0) (nc σ) (some E)) (PA G p + 3) (shl σ p a) (some E)) (DA G 0) c = some (u1 (EA G) (nc σ) E c)
    rw [ar_ne (tne td tp (by omega))]
    have hc : c < nc σ + 1 := hc
    by_cases z : c = nc σ
    · subst z; rw [ar_eq, u1_s]
    · rw [ar_n2 z, hE c (by omega)]; exact D.2.2.2.2.2.2.2.2.1 c (by omega)
  · show dar (uAR (uAR d (DA G 0) (nc σ) (some E)) (PA G p + 3) (shl σ p a) (some E)) (DA G (1 + y)) i = some (u1 (EA G) (nc σ) E (ow G y i))
    have hy : y < nh σ := hy
    have hi : i < md σ y := hi
    have q := (S.2.2.1.2.2.1 y hy).1
    have ty := t_d S (i := 1 + y) (by omega) (by omega)
    rw [ar_ne (tne ty tp (by omega)), ar_ne (tne ty td (by omega)), hE _ (S.2.2.2.2.2.1 y hy i hi).1]
    exact (D.2.2.2.2.2.2.2.2.2 y hy).1 i hi
  · show dar (uAR (uAR d (DA G 0) (nc σ) (some E)) (PA G p + 3) (shl σ p a) (some E)) (DA G (7 + y)) i = some (u1 (EA G) (nc σ) E (ws G y i))
    have hy : y < nh σ := hy
    have hi : i < wn σ y := by rw [← wn_make w0 (h := h) (p := p) (w := w) (a := a) (v := v) (by omega)]; exact hi
    have q := (S.2.2.1.2.2.1 y hy).2
    have ty := t_d S (i := 7 + y) (by omega) (by omega)
    rw [ar_ne (tne ty tp (by omega)), ar_ne (tne ty td (by omega)), hE _ (w0.2.2.2.2.1 y (by omega) _ ((S.2.2.2.2.2.2 y hy).1 i hi)).1]
    exact (D.2.2.2.2.2.2.2.2.2 y hy).2 i hi
theorem cz_entry (S : CZ σ G x em sz ns sh) (B : WB σ) (w0 : Wel σ) {E h p w a : Nat} {v : Int64} (hh : h < nh σ) (hc0 : nc σ < cap G 0) (hs : sh.1 E = 2 ∧ sh.1 (E + 1) = 6 ∧ sh.1 (E + 2) = 20 ∧ sh.2 (E + 2) = 6) (ht : ∀ j, j < 3 → tg G (E + j) = 32 * nc σ + 22 + j ∧ E + j < sz) (h13 : cap G 13 = 3) : CZ (make1 σ h p w a v) (g_c (g_E G (u1 (EA G) (nc σ) E)) (u1 (cap G) 13 0)) x em sz ns sh := by
  have b1 := B.1
  have hE : ∀ c, c < nc σ → u1 (EA G) (nc σ) E c = EA G c := fun c hc => u1_n _ _ (by omega)
  have hcap : ∀ i, i < 13 → u1 (cap G) 13 0 i = cap G i := fun i hi => u1_n _ _ (by omega)
  have c13 : u1 (cap G) 13 0 13 = 0 := u1_s _ _ _
  refine ⟨⟨S.1.1, S.1.2.1, S.1.2.2.1, S.1.2.2.2.1, S.1.2.2.2.2.1, fun c hc => ?_⟩, ⟨S.2.1.1, S.2.1.2.1, S.2.1.2.2.1, fun c hc j hj => ?_, fun i hi hc => ?_⟩, ⟨fun i hi => ?_, ?_, fun y hy => ⟨?_, ?_⟩, fun y hy hy2 => ?_⟩, ?_, S.2.2.2.2.1, fun y hy i hi => ?_, fun y hy => ?_⟩
  · show sh.1 (u1 (EA G) (nc σ) E c) = 2 ∧ sh.1 (u1 (EA G) (nc σ) E c + 1) = 6 ∧ sh.1 (u1 (EA G) (nc σ) E c + 2) = 20 ∧ sh.2 (u1 (EA G) (nc σ) E c + 2) = 6
    have hc : c < nc σ + 1 := hc
    by_cases z : c = nc σ
    · subst z; rw [u1_s]; exact hs
    · rw [u1_n _ _ z]; exact S.1.2.2.2.2.2 c (by omega)
  · show tg G (u1 (EA G) (nc σ) E c + j) = 32 * c + 22 + j ∧ u1 (EA G) (nc σ) E c + j < sz
    have hc : c < nc σ + 1 := hc
    by_cases z : c = nc σ
    · subst z; rw [u1_s]; exact ht j hj
    · rw [u1_n _ _ z]; exact S.2.1.2.2.2.1 c (by omega) j hj
  · have hc : 0 < u1 (cap G) 13 0 i := hc
    rw [hcap i hi] at hc
    exact S.2.1.2.2.2.2 i hi hc
  · show (u1 (cap G) 13 0 i = 0 → DA G i = em) ∧ (0 < u1 (cap G) 13 0 i → sh.1 (DA G i) = 26 ∧ sh.2 (DA G i) = u1 (cap G) 13 0 i ∧ DA G i ≠ em) ∧ u1 (cap G) 13 0 i ≤ 600
    rw [hcap i hi]; exact S.2.2.1.1 i hi
  · show nc σ + 1 ≤ u1 (cap G) 13 0 0
    rw [hcap 0 (by decide)]; omega
  · show md σ y ≤ u1 (cap G) 13 0 (1 + y)
    have hy : y < nh σ := hy
    rw [hcap _ (by omega)]; exact (S.2.2.1.2.2.1 y hy).1
  · show wn (make1 σ h p w a v) y ≤ u1 (cap G) 13 0 (7 + y)
    have hy : y < nh σ := hy
    rw [hcap _ (by omega), wn_make w0 (by omega)]; exact (S.2.2.1.2.2.1 y hy).2
  · show u1 (cap G) 13 0 (1 + y) = 0 ∧ u1 (cap G) 13 0 (7 + y) = 0
    rw [hcap _ (by omega), hcap _ (by omega)]; exact S.2.2.1.2.2.2 y hy hy2
  · have q := S.2.2.2.1
    have e : sm13 (u1 (cap G) 13 0) = sm13 (cap G) := by simp [sm13, u1]
    unfold qR at q ⊢
    show sz ≤ x + 40 + 9 * nh σ + 4 * np σ + 3 * (nc σ + 1) + sm13 (u1 (cap G) 13 0) + u1 (cap G) 13 0 13 ∧ ns ≤ 8000 + 100 * nh σ + 80 * np σ + 21 * (nc σ + 1) + 4 * sm13 (u1 (cap G) 13 0) + 7 * u1 (cap G) 13 0 13
    omega
  · have q := S.2.2.2.2.2.1 y hy i hi
    show ow G y i < nc σ + 1 ∧ u1 (mk σ) (nc σ) h (ow G y i) = y ∧ u1 (od σ) (nc σ) (md σ h + 1) (ow G y i) = i + 1
    rw [u1_n _ _ (by omega), u1_n _ _ (by omega)]
    exact ⟨by omega, q.2⟩
  · have hy : y < nh σ := hy
    have q := S.2.2.2.2.2.2 y hy
    have hl : ∀ c, wt σ y c = true → c < nc σ := fun c hc => (w0.2.2.2.2.1 y (by omega) c hc).1
    show (∀ i, i < wn (make1 σ h p w a v) y → wt σ y (ws G y i) = true) ∧ (∀ i j, i < j → j < wn (make1 σ h p w a v) y → aft (make1 σ h p w a v) (ws G y j) (ws G y i) = true) ∧ ∀ c, wt σ y c = true → ∃ i, i < wn (make1 σ h p w a v) y ∧ ws G y i = c
    rw [wn_make w0 (by omega)]
    refine ⟨q.1, fun i j hij hj => ?_, q.2.2⟩
    have l1 := hl _ (q.1 j hj)
    have l2 := hl _ (q.1 i (by omega))
    have := q.2.1 i j hij hj
    rw [aft_iff] at this ⊢
    show u1 (ct σ) (nc σ) (1 + gc σ h) (ws G y i) < u1 (ct σ) (nc σ) (1 + gc σ h) (ws G y j) ∨ (u1 (ct σ) (nc σ) (1 + gc σ h) (ws G y j) = u1 (ct σ) (nc σ) (1 + gc σ h) (ws G y i) ∧ u1 (mk σ) (nc σ) h (ws G y i) < u1 (mk σ) (nc σ) h (ws G y j))
    rw [u1_n _ _ (by omega), u1_n _ _ (by omega), u1_n _ _ (by omega), u1_n _ _ (by omega)]
    exact this
end
