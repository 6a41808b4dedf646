/-! meet; lose -/
section
variable {σ : St}
/-- what a run leaves as it was -/
def frm (σ τ : St) : Prop := nh τ = nh σ ∧ np τ = np σ ∧ nc τ = nc σ ∧ kin τ = kin σ
theorem run_f {h : Nat} : ∀ (f : Nat) (σ : St) (n : Nat), Wel σ → WB σ → h < nh σ → frm σ (run h f σ n).2 ∧ (∀ x e, has σ x e = true → has (run h f σ n).2 x e = true) ∧ (∀ x, x ≠ h → ∀ e, has (run h f σ n).2 x e = has σ x e) := by
  intro f
  induction f with
  | zero => intro σ n _ _ _; exact ⟨⟨rfl, rfl, rfl, rfl⟩, fun _ _ h => h, fun _ _ _ => rfl⟩
  | succ f ih =>
    intro σ n w B hh
    have b1 := B.1
    have e0 : run h (f + 1) σ n = (match nxr σ h with
      | none => (n, σ)
      | some c => run h f (inclS σ h c) (n + 1)) := rfl
    rw [e0]
    cases e : nxr σ h with
    | none => exact ⟨⟨rfl, rfl, rfl, rfl⟩, fun _ _ h => h, fun _ _ _ => rfl⟩
    | some c =>
      obtain ⟨q1, q2, q3, q4⟩ := nxr_s w B (by omega) e
      obtain ⟨i1, i2, i3⟩ := ih (inclS σ h c) (n + 1) (wel_incl w B hh q1 q3 q4) B hh
      have hH := has_incl w B q1 q3 q4
      refine ⟨i1, fun x e he => i2 x e (by rw [hH, he]; rfl), fun x hx e => ?_⟩
      show has (run h f (inclS σ h c) (n + 1)).2 x e = _
      rw [i3 x hx e, hH]; simp [hx]
theorem run_1 {h f c n : Nat} (hx : nxr σ h = some c) : run h (f + 1) σ n = run h f (inclS σ h c) (n + 1) := by
  show (match nxr σ h with
    | none => (n, σ)
    | some c => run h f (inclS σ h c) (n + 1)) = _
  rw [hx]
theorem run_0 {h f n : Nat} (hx : nxr σ h = none) : run h (f + 1) σ n = (n, σ) := by
  show (match nxr σ h with
    | none => (n, σ)
    | some c => run h f (inclS σ h c) (n + 1)) = _
  rw [hx]
theorem nxr_w (w : Wel σ) (B : WB σ) (N : Nrd σ) {h c : Nat} (hh : h < nh σ) (hc : c < nc σ) (hn : has σ h c = false) (hr : rdy σ h c) : nxr (waitS σ h c) h = some c := by
  have b1 := B.1
  refine nxr_i (wel_wait w hh hc hn) B (by omega) (u2_s _ _ _ _) hr (fun e he ha => ?_)
  have he : (if h = h ∧ e = c then true else wt σ h e) = true := he
  by_cases z : e = c
  · rw [z] at ha
    have ha : aft σ c c = true := ha
    rw [aft_irr] at ha; cases ha
  · rw [if_neg (fun g => z g.2)] at he
    exact N h (by omega) e he
theorem nxr_w0 (w : Wel σ) (B : WB σ) (N : Nrd σ) {h c : Nat} (hh : h < nh σ) (hc : c < nc σ) (hn : has σ h c = false) (hr : ¬ rdy σ h c) : nxr (waitS σ h c) h = none := by
  have b1 := B.1
  refine nxr_0 (wel_wait w hh hc hn) B (by omega) (fun e he => ?_)
  have he : (if h = h ∧ e = c then true else wt σ h e) = true := he
  by_cases z : e = c
  · rw [z]; exact hr
  · rw [if_neg (fun g => z g.2)] at he
    exact N h (by omega) e he
theorem com_has (w : Wel σ) (B : WB σ) (N : Nrd σ) {h c : Nat} (hh : h < nh σ) (hc : c < nc σ) (hn : has σ h c = false) (hr : rdy σ h c) : frm σ (comS σ h c).2 ∧ has (comS σ h c).2 h c = true ∧ (∀ x e, has σ x e = true → has (comS σ h c).2 x e = true) := by
  have w1 := wel_wait w hh hc hn
  have B1 : WB (waitS σ h c) := B
  have hx := nxr_w w B N hh hc hn hr
  have e : comS σ h c = run h 400 (inclS (waitS σ h c) h c) 1 := run_1 hx
  have hH := has_incl (σ := waitS σ h c) w1 B1 hc hr hn
  obtain ⟨i1, i2, i3⟩ := run_f (h := h) 400 (inclS (waitS σ h c) h c) 1 (wel_incl (σ := waitS σ h c) w1 B1 hh hc hr hn) B hh
  rw [e]
  refine ⟨i1, i2 h c (by rw [hH]; simp), fun x e he => i2 x e ?_⟩
  have : has (waitS σ h c) x e = true := he
  rw [hH, this]; rfl
theorem com_f (w : Wel σ) (B : WB σ) {h c : Nat} (hh : h < nh σ) (hc : c < nc σ) (hn : has σ h c = false) : frm σ (comS σ h c).2 := (run_f 401 (waitS σ h c) 0 (wel_wait w hh hc hn) B hh).1
/-- the least lacking one is READY -/
theorem lck_r (w : Wel σ) (B : WB σ) {h o c : Nat} (hh : h < 6) (ho : o < 6) (e : lck σ h o = some c) : c < nc σ ∧ has σ h c = true ∧ has σ o c = false ∧ rdy σ o c := by
  have b := lck_b w h o
  rw [e] at b
  obtain ⟨b1, b2, b3⟩ := b
  have b2 : has σ h c = true ∧ has σ o c = false := by simpa using b2
  refine ⟨b1, b2.1, b2.2, (sub_rdy B w ho b1).mp (sub4_iff.mpr fun e he hk => ?_)⟩
  have q := kn_iff.mp hk
  have hl := (w.2.2.2.1 c b1 e hk).1
  have hhe : has σ h e = true := has_iff.mpr ⟨by omega, Nat.le_trans q.2 (w.2.2.1 h hh c b2.1 _ (w_mk B (by omega)))⟩
  cases hz : has σ o e with
  | true => rfl
  | false =>
    rcases b3 e (by omega) (by show (has σ h e && !has σ o e) = true; rw [hhe, hz]; rfl) with z | z
    · omega
    · rw [aft_iff] at z; omega
theorem meetR_stop {h o : Nat} : ∀ (f : Nat) (σ : St) (n : Nat), Wel σ → WB σ → Nrd σ → h < nh σ → o < nh σ → nc σ ≤ cnt (has σ o) (nc σ) + f → meetR h o (f + 1) σ n = meetR h o f σ n := by
  intro f
  induction f with
  | zero =>
    intro σ n w B N hh ho hc
    have b1 := B.1
    show (match lck σ h o with
      | none => (n, σ)
      | some c => meetR h o 0 (comS σ o c).2 (n + 1)) = (n, σ)
    cases e : lck σ h o with
    | none => rfl
    | some c =>
      obtain ⟨q1, q2, q3, q4⟩ := lck_r w B (by omega) (by omega) e
      have := cnt_all q1 q3
      omega
  | succ f ih =>
    intro σ n w B N hh ho hc
    have b1 := B.1
    show (match lck σ h o with
      | none => (n, σ)
      | some c => meetR h o (f + 1) (comS σ o c).2 (n + 1)) = (match lck σ h o with
      | none => (n, σ)
      | some c => meetR h o f (comS σ o c).2 (n + 1))
    cases e : lck σ h o with
    | none => rfl
    | some c =>
      obtain ⟨q1, q2, q3, q4⟩ := lck_r w B (by omega) (by omega) e
      obtain ⟨c1, c2, c3⟩ := com_ok w B N ho q1 q3
      obtain ⟨f1, f2, f3⟩ := com_has w B N ho q1 q3 q4
      refine ih (comS σ o c).2 (n + 1) c1 c2 c3 (by rw [f1.1]; exact hh) (by rw [f1.1]; exact ho) ?_
      have h1 := cnt_ins (p := fun e => has σ o e || decide (e = c)) (q := has σ o) (c := c) q3 (nc σ) (fun e he => rfl)
      rw [if_pos q1] at h1
      have h2 := cnt_sub (p := fun e => has σ o e || decide (e = c)) (q := has (comS σ o c).2 o) (n := nc σ) (fun e he hp => by
        by_cases z : e = c
        · rw [z]; exact f2
        · exact f3 o e (by simpa [z] using hp))
      rw [f1.2.2.1]
      omega
theorem meet_400 (w : Wel σ) (B : WB σ) (N : Nrd σ) {h o k : Nat} (hh : h < nh σ) (ho : o < nh σ) : meetR h o (min k 401) σ 0 = meetR h o (min k 400) σ 0 := by
  have b3 := B.2.2.1
  rcases Nat.lt_or_ge k 401 with g | g
  · rw [Nat.min_eq_left (by omega), Nat.min_eq_left (by omega)]
  · rw [Nat.min_eq_right (by omega), Nat.min_eq_right (by omega)]
    exact meetR_stop 400 σ 0 w B N hh ho (by omega)
theorem meet_ok {h o : Nat} : ∀ (f : Nat) (σ : St) (n : Nat), Wel σ → WB σ → Nrd σ → h < nh σ → o < nh σ → Wel (meetR h o f σ n).2 ∧ WB (meetR h o f σ n).2 ∧ Nrd (meetR h o f σ n).2 := by
  intro f
  induction f with
  | zero => intro σ n w B N _ _; exact ⟨w, B, N⟩
  | succ f ih =>
    intro σ n w B N hh ho
    have b1 := B.1
    have e0 : meetR h o (f + 1) σ n = (match lck σ h o with
      | none => (n, σ)
      | some c => meetR h o f (comS σ o c).2 (n + 1)) := rfl
    rw [e0]
    cases e : lck σ h o with
    | none => exact ⟨w, B, N⟩
    | some c =>
      obtain ⟨q1, q2, q3, q4⟩ := lck_r w B (by omega) (by omega) e
      obtain ⟨c1, c2, c3⟩ := com_ok w B N ho q1 q3
      have f1 := com_f w B ho q1 q3
      exact ih _ _ c1 c2 c3 (by rw [f1.1]; exact hh) (by rw [f1.1]; exact ho)
end
section
variable {x : Nat} {em mi : Nat}
theorem c_meet_l {h o most : Nat} (hm : most ≤ 400) : ∀ (m came n : Nat) (σ : St) (G : Gh) (sz ns : Nat) (sh : Sh) (d : Dt), came + m = most → m < n → CZ σ G x em sz ns sh → CD σ G x d → cap G 13 = 0 → WB σ → Wel σ → Nrd σ → h < nh σ → o < nh σ → ∀ ah ao, ah = HA G h → ao = HA G o → OKA (fX6_meet_b47 em mi n x (some ah) (some ao) (nI most) (nI came) sz ns sh d) x em (nI (meetR h o m σ came).1, (meetR h o m σ came).2) := by
  intro m
  induction m with
  | zero =>
    intro came n σ G sz ns sh d hc hn S D h13 B w N hh ho ah ao e1 e2
    cases n with
    | zero => omega
    | succ n =>
      refine ⟨_, _, _, _, G, ?_, S, D, h13⟩
      simp (disch := omega) only [fX6_meet_b47, nI_leI]
      rw [if_pos (by omega), show most = came by omega]; rfl
  | succ m ih =>
    intro came n σ G sz ns sh d hc hn S D h13 B w N hh ho ah ao e1 e2
    have b1 := B.1
    cases n with
    | zero => omega
    | succ n =>
      have e0 : meetR h o (m + 1) σ came = (match lck σ h o with
        | none => (came, σ)
        | some c => meetR h o m (comS σ o c).2 (came + 1)) := rfl
      rw [e0]
      simp (disch := omega) only [fX6_meet_b47, nI_leI]
      subst e1 e2
      rw [if_neg (by omega), kX_0 S, bd_v, c_lack S D B w hh ho, bd_v]
      cases e : lck σ h o with
      | none => exact ⟨_, _, _, _, G, rfl, S, D, h13⟩
      | some c =>
        obtain ⟨q1, q2, q3, q4⟩ := lck_r w B (by omega) (by omega) e
        obtain ⟨c1, c2, c3⟩ := com_ok w B N ho q1 q3
        have f1 := com_f w B ho q1 q3
        obtain ⟨sz2, ns2, sh2, e2, G2, g1, g2, g3, g4⟩ := c_receive (mi := mi) S D B w N ho q1 q3
        rw [Option.map_some, on_v, bd_v, kH_0 S ho, bd_v, g1, bw2_v]
        unfold fX6_meet_b79
        rw [nI_1]
        exact ih (came + 1) n (comS σ o c).2 G2 sz2 ns2 sh2 e2 (by omega) (by omega) g2 g3 (g4.2.2.2.trans h13) c2 c1 c3 (by rw [f1.1]; exact hh) (by rw [f1.1]; exact ho) _ _ (by rw [g4.1]) (by rw [g4.1])
end
section
variable {sh : Sh} {d : Dt} {x : Nat} {σ : St} {G : Gh} {em mi sz ns : Nat}
theorem c_meet (S : CZ σ G x em sz ns sh) (D : CD σ G x d) (B : WB σ) (w : Wel σ) (N : Nrd σ) (h13 : cap G 13 = 0) (a1 a2 a3 : Int32) : OKA (fX6_meet em mi x a1 a2 a3 sz ns sh d) x em (meetV σ a1 a2 a3) := by
  have b1 := B.1
  have b2 := B.2.2.1
  unfold fX6_meet fX6_meet_b0 meetV
  rw [kX_0 S, bd_v, c_handAt S D B, bd_v, c_handAt S D B, bd_v]
  cases h1 : inN a1 (nh σ) with
  | false => exact ⟨_, _, _, _, G, rfl, S, D, h13⟩
  | true =>
    cases h2 : inN a2 (nh σ) with
    | false => exact ⟨_, _, _, _, G, rfl, S, D, h13⟩
    | true =>
      obtain ⟨h, e1, rfl⟩ := inN_t h1
      obtain ⟨o, e2, rfl⟩ := inN_t h2
      rw [if_pos rfl, if_pos rfl, cl_nI (by omega), cl_nI (by omega), on_v, on_v]
      simp (disch := omega) only [nI_eq, Bool.true_and]
      by_cases g : h = o
      · rw [if_pos g, decide_eq_true g]
        exact ⟨_, _, _, _, G, rfl, S, D, h13⟩
      · rw [if_neg g, decide_eq_false g]
        simp only [Bool.not_false, Bool.true_and, decide_eq_true_eq]
        by_cases g3 : 0 ≤ a3.toInt
        · rw [if_pos ((ge0 a3).mpr g3), if_pos g3]
          obtain ⟨k, hk, rfl⟩ := nI_of (x := a3) (by rw [lt0]; omega)
          rw [cl_nI hk, meet_400 w B N e1 e2]
          have em : (if (400 : Int32) < nI k then (400 : Int32) else nI k) = nI (min k 400) := by
            rcases Nat.lt_or_ge 400 k with z | z
            · rw [if_pos (show (400 : Int32) < nI k from nI_lt (a := 400) z hk), Nat.min_eq_right (by omega)]; rfl
            · rw [if_neg (show ¬ (400 : Int32) < nI k from nI_nlt (a := 400) z (by decide)), Nat.min_eq_left z]
          rw [em]
          exact c_meet_l (h := h) (o := o) (most := min k 400) (by omega) (min k 400) 0 fu σ G sz ns sh d (by omega) (by show min k 400 < 100000; omega) S D h13 B w N e1 e2 _ _ rfl rfl
        · rw [if_neg (fun q => g3 ((ge0 a3).mp q)), if_neg g3]
          exact ⟨_, _, _, _, G, rfl, S, D, h13⟩
/-- all that one had is gone -/
theorem cd_up0 (S : CZ σ G x em sz ns sh) (D : CD σ G x d) {h : Nat} (hh : h < nh σ) : CD (s_up σ (fun y k => if y = h then 0 else up σ y k)) G x (kW d (HA G h + 2) (fun _ => 0)) := ⟨D.1, D.2.1, D.2.2.1, ⟨fun i hi => (uCn (tne (t_x S (j := 4) (by decide)) (t_h S hh (j := 2) (by decide)) (by omega))).trans (D.2.2.2.1.1 i hi), fun h2 hh2 => ⟨fun j hj => (by
    show _ = nI (if h2 = h then 0 else up σ h2 j)
    by_cases e : h2 = h
    · subst e; rw [if_pos rfl]; exact kW_s hj
    · rw [if_neg e]; exact (uCn (tne (t_h S hh2 (j := 2) (by decide)) (t_h S hh (j := 2) (by decide)) (by omega))).trans ((D.2.2.2.1.2.1 h2 hh2).1 j hj)), fun k hk => (uCn (tne (t_h S hh2 (j := 5) (by decide)) (t_h S hh (j := 2) (by decide)) (by omega))).trans ((D.2.2.2.1.2.1 h2 hh2).2.1 k hk), fun k hk => (uCn (tne (t_h S hh2 (j := 8) (by decide)) (t_h S hh (j := 2) (by decide)) (by omega))).trans ((D.2.2.2.1.2.1 h2 hh2).2.2 k hk)⟩, fun c hc k hk => (uCn (tne (t_e S hc (j := 2) (by decide)) (t_h S hh (j := 2) (by decide)) (by omega))).trans (D.2.2.2.1.2.2 c hc k hk)⟩, D.2.2.2.2⟩
theorem cd_skp2 (S : CZ σ G x em sz ns sh) {f : Nat → Nat → Bool} {h p : Nat} (D : CD (s_skp σ f) G x d) (hh : h < nh σ) {b : Bool} : CD (s_skp σ (u2 f h p b)) G x (uAI d (HA G h + 5) p (bI b)) := cd_skp (σ := s_skp σ f) S D hh
theorem c_clear (S : CZ σ G x em sz ns sh) (D : CD σ G x d) (B : WB σ) {h : Nat} (hh : h < nh σ) : ∃ e, fJx4a65c_clear_da8c8 sh d (HA G h + 4) = some e ∧ CD (s_wt σ (fun y c => if y = h then false else wt σ y c)) G x e ∧ CZ (s_wt σ (fun y c => if y = h then false else wt σ y c)) G x em sz ns sh := by
  have b1 := B.1
  have b3 := wn_nc B h
  have s4 := sH_4 S hh
  have qc := (S.2.2.1.2.2.1 h hh).2
  have q6 := q_cap S (i := 7 + h) (by omega)
  have qk := (S.2.2.1.1 (7 + h) (by omega)).2.1
  have D1 := cd_32 D (a := HA G h + 4) (v := dfi d 32 (HA G h + 4) + 1)
  have hf : ∀ y, y ≠ h → (fun c => if y = h then false else wt σ y c) = wt σ y := fun y hy => by funext c; exact if_neg hy
  have hn : cnt ((fun y c => if y = h then false else wt σ y c) h) (nc σ) = 0 := by
    show cnt (fun c => if h = h then false else wt σ h c) (nc σ) = 0
    generalize nc σ = n
    induction n with
    | zero => rfl
    | succ n ih => rw [cnt_s, ih, if_pos rfl]; rfl
  have hfin : ∀ F, (0 < cap G (7 + h) ∨ F = dar (uI d 32 (HA G h + 4) (dfi d 32 (HA G h + 4) + 1)) (DA G (7 + h))) → CD (s_wt σ (fun y c => if y = h then false else wt σ y c)) G x (uI (uCR (uI d 32 (HA G h + 4) (dfi d 32 (HA G h + 4) + 1)) (DA G (7 + h)) F) 34 (HA G h + 4) (nI 0)) := fun F hF => cd_lw (wz := ws G) S D1 B hh hF hf (fun _ _ => rfl) hn (fun i hi => by omega)
  have hz : CZ (s_wt σ (fun y c => if y = h then false else wt σ y c)) G x em sz ns sh := cz_lw (wz := ws G) S hh hf (fun _ _ => rfl) hn (Nat.zero_le _) (fun i hi => by omega) (fun i j _ hj => by omega) (fun c hc => by
    have hc : (if h = h then false else wt σ h c) = true := hc
    rw [if_pos rfl] at hc; cases hc)
  generalize hd1 : uI d 32 (HA G h + 4) (dfi d 32 (HA G h + 4) + 1) = d1 at D1 hfin
  have key : ∀ m j n F, j + m = wn σ h → m < n → (0 < cap G (7 + h) ∨ F = dar d1 (DA G (7 + h))) → ∃ F2, (0 < cap G (7 + h) ∨ F2 = dar d1 (DA G (7 + h))) ∧ fJx4a65c_clear_da8c8_b27 sh n (some (DA G (7 + h))) (nI (wn σ h)) (nI j) (uI (uCR d1 (DA G (7 + h)) F) 34 (HA G h + 4) (nI 0)) = some (uI (uCR d1 (DA G (7 + h)) F2) 34 (HA G h + 4) (nI 0)) := by
    intro m
    induction m with
    | zero =>
      intro j n F hj hn hF
      cases n with
      | zero => omega
      | succ n =>
        refine ⟨F, hF, ?_⟩
        simp (disch := omega) only [fJx4a65c_clear_da8c8_b27, nI_leI]
        rw [if_pos (by omega)]
    | succ m ih =>
      intro j n F hj hn hF
      cases n with
      | zero => omega
      | succ n =>
        have qk := qk (by omega)
        have e1 : sR sh (uI (uCR d1 (DA G (7 + h)) F) 34 (HA G h + 4) (nI 0)) 26 (DA G (7 + h)) (nI j) none = some (uI (uCR d1 (DA G (7 + h)) (fun k => if k = j then none else F k)) 34 (HA G h + 4) (nI 0)) := by
          rw [sR_v qk.1 (by rw [qk.2.1]; omega) (by omega)]
          show some (uI (uAR (uCR d1 (DA G (7 + h)) F) (DA G (7 + h)) j none) 34 (HA G h + 4) (nI 0)) = _
          rw [uAR_C, uCR_2, uCR_s]
        simp (disch := omega) only [fJx4a65c_clear_da8c8_b27, nI_leI, bd_v, cst_0, e1, nI_1]
        rw [if_neg (by omega)]
        exact ih (j + 1) n _ (by omega) (by omega) (Or.inl (by omega))
  obtain ⟨F2, h1, h2⟩ := key (wn σ h) 0 fu (dar d1 (DA G (7 + h))) (by omega) (by show wn σ h < 100000; omega) (Or.inr rfl)
  rw [uCR_0] at h2
  refine ⟨_, ?_, hfin F2 h1, hz⟩
  unfold fJx4a65c_clear_da8c8 fJx4a65c_clear_da8c8_b0
  rw [gI_v s4, bd_v, pI_v s4, bd_v, hd1, cf_33w S D1 hh, bd_v, cf_34w S D1 hh, bd_v, pI_v s4, bd_v]
  exact h2
theorem c_forget (S : CZ σ G x em sz ns sh) (D : CD σ G x d) (B : WB σ) (w : Wel σ) {h : Nat} (hh : h < nh σ) : ∃ e, fX1_forget sh d (HA G h) = some (nI (sm6 (up σ h)), e) ∧ CD (loseS σ h) G x e ∧ CZ (loseS σ h) G x em sz ns sh := by
  have b1 := B.1
  have R := rc_h S D B w hh
  have S1 : CZ (s_up σ (fun y k => if y = h then 0 else up σ y k)) G x em sz ns sh := S
  have D1 := cd_up0 S D hh
  obtain ⟨e2, q2, D2, S2⟩ := c_clear S1 D1 B hh
  have D3 := cd_gc S2 D2 (h := h) (v := 0) hh
  have S3 : CZ (s_gc (s_wt (s_up σ (fun y k => if y = h then 0 else up σ y k)) (fun y c => if y = h then false else wt σ y c)) (u1 (gc σ) h 0)) G x em sz ns sh := S2
  have D3 : CD (s_gc (s_wt (s_up σ (fun y k => if y = h then 0 else up σ y k)) (fun y c => if y = h then false else wt σ y c)) (u1 (gc σ) h 0)) G x (uI e2 102 (HA G h) (nI 0)) := D3
  generalize hτ : s_gc (s_wt (s_up σ (fun y k => if y = h then 0 else up σ y k)) (fun y c => if y = h then false else wt σ y c)) (u1 (gc σ) h 0) = τ at S3 D3
  have hn : nh τ = nh σ := by rw [← hτ]; rfl
  have hs : skp τ = skp σ := by rw [← hτ]; rfl
  obtain ⟨e4, ⟨f, I1, I2, I3⟩, h4⟩ := lp_M (fun n d y => fX1_forget_b29 sh n (HA G h) (nI (sm6 (up σ h))) y d) (fun d => some (nI (sm6 (up σ h)), d)) 10 (fun j d => ∃ f, CD (s_skp τ f) G x d ∧ (∀ y i, y ≠ h → f y i = skp σ y i) ∧ ∀ i, i < j → f h i = false) (fun n d1 _ => by
      simp only [fX1_forget_b29]; rw [if_pos (by decide)]) (fun n j d1 hj ⟨f, F1, F2, F3⟩ => by
      have S4 : CZ (s_skp τ f) G x em sz ns sh := S3
      have hh4 : h < nh (s_skp τ f) := by show h < nh τ; rw [hn]; exact hh
      refine ⟨uAI d1 (HA G h + 5) j (bI false), ⟨u2 f h j false, cd_skp2 S3 F1 (by rw [hn]; exact hh), fun y i hy => ?_, fun i hi => ?_⟩, ?_⟩
      · unfold u2; rw [if_neg (fun q => hy q.1)]; exact F2 y i hy
      · unfold u2
        by_cases e : i = j
        · rw [if_pos ⟨rfl, e⟩]
        · rw [if_neg (fun q => e q.2)]; exact F3 i (by omega)
      · have sz0 : sZ sh d1 22 (HA G h + 5) (nI j) 0 = some (uAI d1 (HA G h + 5) j (bI false)) := sZ_v (sH_5 S hh) (by rw [nH_5 S hh]; omega) (by omega)
        simp (disch := omega) only [fX1_forget_b29, bd_v, cf_100 S4 F1 hh4, sz0, nI_1, z_10, nI_leI]
        rw [if_neg (by omega)]) (uI e2 102 (HA G h) (nI 0)) ⟨skp σ, by rw [← hs]; exact D3, fun _ _ _ => rfl, fun i hi => by omega⟩ fu (by decide)
  refine ⟨e4, ?_, ?_, ?_⟩
  · unfold fX1_forget fX1_forget_b0
    have q0 : fX4_empty sh d (HA G h + 1) = some (kW d (HA G h + 2) (fun _ => 0)) := c_empty R
    rw [cf_97 S D hh, bd_v, bd_v, kH_1 S hh, bd_v, c_rsize R, bd_v, bd_v, bd_v, kH_1 S hh, bd_v, q0, bd_v, cf_99 S1 D1 hh, bd_v, bd_v, kH_4 S hh, bd_v, q2, bd_v, pI_v (sH_0 S hh), bd_v]
    exact h4
  · have : CD (s_skp τ (fun y p => if y = h then false else skp σ y p)) G x e4 := ⟨I1.1, I1.2.1, I1.2.2.1, ⟨I1.2.2.2.1.1, fun y hy => ⟨(I1.2.2.2.1.2.1 y hy).1, fun p hp => ((I1.2.2.2.1.2.1 y hy).2.1 p hp).trans (congrArg bI (by
      show f y p = (if y = h then false else skp σ y p)
      by_cases e : y = h
      · rw [if_pos e, e]; exact I3 p hp
      · rw [if_neg e]; exact I2 y p e)), (I1.2.2.2.1.2.1 y hy).2.2⟩, I1.2.2.2.1.2.2⟩, I1.2.2.2.2.1, I1.2.2.2.2.2⟩
    rw [← hτ] at this
    exact this
  · rw [← hτ] at S3; exact S3
theorem c_lose (S : CZ σ G x em sz ns sh) (D : CD σ G x d) (B : WB σ) (w : Wel σ) (a1 : Int32) : ∃ e, fX6_lose sh d x a1 = some ((loseV σ a1).1, e) ∧ CD (loseV σ a1).2 G x e ∧ CZ (loseV σ a1).2 G x em sz ns sh := by
  have b1 := B.1
  unfold fX6_lose fX6_lose_b0 loseV
  rw [kX_0 S, bd_v, c_handAt S D B, bd_v]
  cases h1 : inN a1 (nh σ) with
  | false => exact ⟨d, rfl, D, S⟩
  | true =>
    obtain ⟨h, e1, rfl⟩ := inN_t h1
    obtain ⟨e, q1, q2, q3⟩ := c_forget S D B w e1
    rw [if_pos rfl, if_pos rfl, cl_nI (by omega), on_v, kH_0 S e1, bd_v, q1, bd2_v]
    exact ⟨e, rfl, q2, q3⟩
end
