/-! the class: what comes -/
section
variable {sh : Sh} {d : Dt} {x : Nat} {σ : St} {G : Gh} {em mi sz ns : Nat}
theorem cd_up (S : CZ σ G x em sz ns sh) (D : CD σ G x d) {h k v : Nat} (hh : h < nh σ) : CD (s_up σ (u2 (up σ) h k v)) G x (uAI d (HA G h + 2) k (nI v)) := ⟨D.1, D.2.1, D.2.2.1, ⟨fun i hi => (ai_ne (tne (t_x S (j := 4) (by decide)) (t_h S hh (j := 2) (by decide)) (by omega))).trans (D.2.2.2.1.1 i hi), fun h2 hh2 => ⟨fun j hj => (by
    show _ = nI (u2 (up σ) h k v h2 j)
    unfold u2
    by_cases e : h2 = h
    · subst e
      by_cases g : j = k
      · subst g; rw [ai_eq, if_pos ⟨rfl, rfl⟩]
      · rw [ai_n2 g, if_neg (fun q => g q.2)]; exact (D.2.2.2.1.2.1 h2 hh2).1 j hj
    · rw [ai_ne (tne (t_h S hh2 (j := 2) (by decide)) (t_h S hh (j := 2) (by decide)) (by omega)), if_neg (fun q => e q.1)]; exact (D.2.2.2.1.2.1 h2 hh2).1 j hj), fun k hk => (ai_ne (tne (t_h S hh2 (j := 5) (by decide)) (t_h S hh (j := 2) (by decide)) (by omega))).trans ((D.2.2.2.1.2.1 h2 hh2).2.1 k hk), fun k hk => (ai_ne (tne (t_h S hh2 (j := 8) (by decide)) (t_h S hh (j := 2) (by decide)) (by omega))).trans ((D.2.2.2.1.2.1 h2 hh2).2.2 k hk)⟩, fun c hc k hk => (ai_ne (tne (t_e S hc (j := 2) (by decide)) (t_h S hh (j := 2) (by decide)) (by omega))).trans (D.2.2.2.1.2.2 c hc k hk)⟩, D.2.2.2.2⟩
theorem cd_gc (S : CZ σ G x em sz ns sh) (D : CD σ G x d) {h v : Nat} (hh : h < nh σ) : CD (s_gc σ (u1 (gc σ) h v)) G x (uI d 102 (HA G h) (nI v)) := ⟨⟨⟨(fi_ne (by decide)).trans (D.1.1.1), (fi_ne (by decide)).trans (D.1.1.2.1), (fi_ne (by decide)).trans (D.1.1.2.2)⟩, fun h2 hh2 => ⟨(fi_ne (by decide)).trans ((D.1.2.1 h2 hh2).1), (by
    show _ = nI (u1 (gc σ) h v h2)
    by_cases e : h2 = h
    · subst e; rw [u1_s]; exact fi_eq
    · rw [u1_n _ _ e]; exact (fi_n2 (tne (t_h0 S hh2) (t_h0 S hh) (by omega))).trans (D.1.2.1 h2 hh2).2.1), (fi_ne (by decide)).trans ((D.1.2.1 h2 hh2).2.2)⟩, fun p2 hp2 => ⟨(fi_ne (by decide)).trans ((D.1.2.2.1 p2 hp2).1), (fi_ne (by decide)).trans ((D.1.2.2.1 p2 hp2).2)⟩, fun c2 hc2 => ⟨(fi_ne (by decide)).trans ((D.1.2.2.2.1 c2 hc2).1), (fi_ne (by decide)).trans ((D.1.2.2.2.1 c2 hc2).2.1), (fi_ne (by decide)).trans ((D.1.2.2.2.1 c2 hc2).2.2.1), (fi_ne (by decide)).trans ((D.1.2.2.2.1 c2 hc2).2.2.2.1), (fi_ne (by decide)).trans ((D.1.2.2.2.1 c2 hc2).2.2.2.2.1), (fi_ne (by decide)).trans ((D.1.2.2.2.1 c2 hc2).2.2.2.2.2.1), (fi_ne (by decide)).trans ((D.1.2.2.2.1 c2 hc2).2.2.2.2.2.2)⟩, (fi_ne (by decide)).trans (D.1.2.2.2.2.1), fun h2 hh2 => ⟨(fi_ne (by decide)).trans ((D.1.2.2.2.2.2 h2 hh2).1), (fi_ne (by decide)).trans ((D.1.2.2.2.2.2 h2 hh2).2)⟩⟩, D.2⟩
def inc1 (σ : St) (h c : Nat) : St := s_gc (upS σ h c) (u1 (gc σ) h (max (gc σ h) (ct σ c)))
theorem c_include (S : CZ σ G x em sz ns sh) (D : CD σ G x d) (B : WB σ) {h c : Nat} (hh : h < nh σ) (hc : c < nc σ) (hg : gc σ h < 2 ^ 30) : ∃ e, fX1_include sh d (HA G h) (some (EA G c)) = some e ∧ CD (inc1 σ h c) G x e := by
  have b1 := wb_c B hc
  have b2 := w_mk B hc
  have b3 := B.2.2.1
  have S1 : CZ (upS σ h c) G x em sz ns sh := S
  have D1 : CD (upS σ h c) G x (uAI d (HA G h + 2) (mk σ c) (nI (od σ c))) := cd_up S D hh
  have D2 := cd_gc S1 D1 (h := h) (v := max (gc σ h) (ct σ c)) hh
  refine ⟨_, ?_, D2⟩
  unfold fX1_include fX1_include_b0
  rw [cf_97 S D hh, bd_v, bd_v, cf_192h S D hh, bd_v, bd_v, cf_65 S D hc, bd_v, cf_71 S D hc, bd_v, bd_v, sI_v (sH_2 S hh) (by rw [nH_2 S hh]; omega) (by omega), bd_v, cf_102 S1 D1 hh, bd_v, cf_70 S1 D1 hc, bd_v, pI_v (sH_0 S hh), bd_v]
  have e : (if nI (gc (upS σ h c) h) < nI (ct (upS σ h c) c) then nI (ct (upS σ h c) c) else nI (gc (upS σ h c) h)) = nI (max (gc σ h) (ct σ c)) := by
    show (if nI (gc σ h) < nI (ct σ c) then nI (ct σ c) else nI (gc σ h)) = _
    simp (disch := omega) only [nI_ltI]
    split
    · rw [Nat.max_eq_right (by omega)]
    · rw [Nat.max_eq_left (by omega)]
  rw [e]
theorem uCR_0 (a : Nat) : uCR d a (dar d a) = d := by
  show (d.1, d.2.1, d.2.2.1, d.2.2.2.1, d.2.2.2.2.1, (fun b => if b = a then dar d a else dar d b)) = d
  have : (fun b => if b = a then dar d a else dar d b) = dar d := by
    funext b
    by_cases e : b = a
    · rw [if_pos e, e]
    · rw [if_neg e]
  rw [this]; rfl
theorem uCR_2 (a : Nat) (f g : Nat → Option Nat) : uCR (uCR d a f) a g = uCR d a g := by
  show (d.1, d.2.1, d.2.2.1, d.2.2.2.1, d.2.2.2.2.1, (fun b => if b = a then g else (if b = a then f else dar d b))) = (d.1, d.2.1, d.2.2.1, d.2.2.2.1, d.2.2.2.2.1, (fun b => if b = a then g else dar d b))
  have : (fun b => if b = a then g else (if b = a then f else dar d b)) = (fun b => if b = a then g else dar d b) := by
    funext b
    by_cases e : b = a
    · rw [if_pos e, if_pos e]
    · rw [if_neg e, if_neg e, if_neg e]
  rw [this]
theorem uAR_C (a j : Nat) (v : Option Nat) : uAR d a j v = uCR d a (fun k => if k = j then v else dar d a k) := by
  show (d.1, d.2.1, d.2.2.1, d.2.2.2.1, d.2.2.2.2.1, u3 (dar d) a j v) = (d.1, d.2.1, d.2.2.1, d.2.2.2.1, d.2.2.2.2.1, (fun b => if b = a then (fun k => if k = j then v else dar d a k) else dar d b))
  have : u3 (dar d) a j v = (fun b => if b = a then (fun k => if k = j then v else dar d a k) else dar d b) := by
    funext b k
    unfold u3
    by_cases e : b = a
    · subst e
      rw [if_pos rfl]
      by_cases g : k = j
      · rw [if_pos ⟨rfl, g⟩, if_pos g]
      · rw [if_neg (fun q => g q.2), if_neg g]
    · rw [if_neg (fun q => e q.1), if_neg e]
  rw [this]
/-- the row of those that wait, written anew -/
theorem cd_lw (S : CZ σ G x em sz ns sh) (D : CD σ G x d) (B : WB σ) {h n : Nat} (hh : h < nh σ) {f : Nat → Nat → Bool} {wz : Nat → Nat → Nat} {F : Nat → Option Nat} (hcF : 0 < cap G (7 + h) ∨ F = dar d (DA G (7 + h))) (hf : ∀ y, y ≠ h → f y = wt σ y) (hz : ∀ y, y ≠ h → wz y = ws G y) (hn : cnt (f h) (nc σ) = n) (hF : ∀ i, i < n → F i = some (EA G (wz h i))) : CD (s_wt σ f) (g_w G wz) x (uI (uCR d (DA G (7 + h)) F) 34 (HA G h + 4) (nI n)) := by
  have b1 := B.1
  have th := t_h S hh (j := 4) (by decide)
  have hr : ∀ b, (0 < cap G (7 + h) → b ≠ DA G (7 + h)) → dar (uCR d (DA G (7 + h)) F) b = dar d b := by
    intro b hb
    rcases hcF with q | q
    · exact uCR_n (hb q)
    · rw [q, uCR_0]
  have hne : ∀ b t, tg G b = t → t ≠ 32 * (7 + h) + 25 → dar (uCR d (DA G (7 + h)) F) b = dar d b := fun b t q1 q2 => hr b (fun q => tne q1 (t_d S (i := 7 + h) (by omega) q) q2)
  refine ⟨⟨⟨(fi_ne (by decide)).trans (D.1.1.1), (fi_ne (by decide)).trans (D.1.1.2.1), (fi_ne (by decide)).trans (D.1.1.2.2)⟩, fun h2 hh2 => ⟨(fi_ne (by decide)).trans ((D.1.2.1 h2 hh2).1), (fi_ne (by decide)).trans ((D.1.2.1 h2 hh2).2.1), (fi_ne (by decide)).trans ((D.1.2.1 h2 hh2).2.2)⟩, fun p2 hp2 => ⟨(fi_ne (by decide)).trans ((D.1.2.2.1 p2 hp2).1), (fi_ne (by decide)).trans ((D.1.2.2.1 p2 hp2).2)⟩, fun c2 hc2 => ⟨(fi_ne (by decide)).trans ((D.1.2.2.2.1 c2 hc2).1), (fi_ne (by decide)).trans ((D.1.2.2.2.1 c2 hc2).2.1), (fi_ne (by decide)).trans ((D.1.2.2.2.1 c2 hc2).2.2.1), (fi_ne (by decide)).trans ((D.1.2.2.2.1 c2 hc2).2.2.2.1), (fi_ne (by decide)).trans ((D.1.2.2.2.1 c2 hc2).2.2.2.2.1), (fi_ne (by decide)).trans ((D.1.2.2.2.1 c2 hc2).2.2.2.2.2.1), (fi_ne (by decide)).trans ((D.1.2.2.2.1 c2 hc2).2.2.2.2.2.2)⟩, (fi_n2 (tne (t_x S (j := 3) (by decide)) th (by omega))).trans (D.1.2.2.2.2.1), fun h2 hh2 => ⟨(fi_n2 (tne (t_h S hh2 (j := 3) (by decide)) th (by omega))).trans ((D.1.2.2.2.2.2 h2 hh2).1), (by
    show dfi (uI (uCR d (DA G (7 + h)) F) 34 (HA G h + 4) (nI n)) 34 (HA G h2 + 4) = nI (cnt (f h2) (nc σ))
    by_cases e : h2 = h
    · subst e; rw [hn]; exact fi_eq
    · rw [hf h2 e]; exact (fi_n2 (tne (t_h S hh2 (j := 4) (by decide)) th (by omega))).trans (D.1.2.2.2.2.2 h2 hh2).2)⟩⟩, D.2.1, D.2.2.1, D.2.2.2.1, D.2.2.2.2.1, ⟨fun k hk => ?_, fun p hp => ?_, fun p hp s hs => ?_, fun c hc => ?_, fun y hy => ⟨fun i hi => ?_, fun i hi => ?_⟩⟩⟩
  · exact (congrFun (hne (x + 1) _ (t_x S (j := 1) (by decide)) (by omega)) k).trans (D.2.2.2.2.2.1 k hk)
  · exact (congrFun (hne (x + 2) _ (t_x S (j := 2) (by decide)) (by omega)) p).trans (D.2.2.2.2.2.2.1 p hp)
  · exact (congrFun (hne (PA G p + 3) _ (t_p S hp (j := 3) (by decide)) (by omega)) s).trans (D.2.2.2.2.2.2.2.1 p hp s hs)
  · have q := S.2.2.1.2.1
    have hc : c < nc σ := hc
    exact (congrFun (hne (DA G 0) _ (t_d S (i := 0) (by decide) (by omega)) (by omega)) c).trans (D.2.2.2.2.2.2.2.2.1 c hc)
  · have q := (S.2.2.1.2.2.1 y hy).1
    have hi : i < md σ y := hi
    have hy : y < nh σ := hy
    exact (congrFun (hne (DA G (1 + y)) _ (t_d S (i := 1 + y) (by omega) (by omega)) (by omega)) i).trans ((D.2.2.2.2.2.2.2.2.2 y hy).1 i hi)
  · have hy : y < nh σ := hy
    have hi : i < cnt (f y) (nc σ) := hi
    show dar (uCR d (DA G (7 + h)) F) (DA G (7 + y)) i = some (EA G (wz y i))
    by_cases e : y = h
    · subst e
      rw [uCR_s]; exact hF i (by omega)
    · rw [hf y e] at hi
      rw [hz y e]
      have q := (S.2.2.1.2.2.1 y hy).2
      have hi : i < wn σ y := hi
      exact (congrFun (hne (DA G (7 + y)) _ (t_d S (i := 7 + y) (by omega) (by omega)) (by omega)) i).trans ((D.2.2.2.2.2.2.2.2.2 y hy).2 i hi)
theorem cz_lw (S : CZ σ G x em sz ns sh) {h n : Nat} (hh : h < nh σ) {f : Nat → Nat → Bool} {wz : Nat → Nat → Nat} (hf : ∀ y, y ≠ h → f y = wt σ y) (hz : ∀ y, y ≠ h → wz y = ws G y) (hn : cnt (f h) (nc σ) = n) (hc : n ≤ cap G (7 + h)) (q1 : ∀ i, i < n → f h (wz h i) = true) (q2 : ∀ i j, i < j → j < n → aft σ (wz h j) (wz h i) = true) (q3 : ∀ c, f h c = true → ∃ i, i < n ∧ wz h i = c) : CZ (s_wt σ f) (g_w G wz) x em sz ns sh := by
  refine ⟨S.1, S.2.1, ⟨S.2.2.1.1, S.2.2.1.2.1, fun y hy => ⟨(S.2.2.1.2.2.1 y hy).1, ?_⟩, S.2.2.1.2.2.2⟩, S.2.2.2.1, S.2.2.2.2.1, S.2.2.2.2.2.1, fun y hy => ?_⟩
  · show cnt (f y) (nc σ) ≤ cap G (7 + y)
    by_cases e : y = h
    · subst e; rw [hn]; exact hc
    · rw [hf y e]; exact (S.2.2.1.2.2.1 y hy).2
  · show (∀ i, i < cnt (f y) (nc σ) → f y (wz y i) = true) ∧ (∀ i j, i < j → j < cnt (f y) (nc σ) → aft σ (wz y j) (wz y i) = true) ∧ ∀ c, f y c = true → ∃ i, i < cnt (f y) (nc σ) ∧ wz y i = c
    by_cases e : y = h
    · subst e; rw [hn]; exact ⟨q1, q2, q3⟩
    · rw [hf y e, hz y e]; exact S.2.2.2.2.2.2 y hy
theorem ws_i (S : CZ σ G x em sz ns sh) {h i j : Nat} (hh : h < nh σ) (hi : i < wn σ h) (hj : j < wn σ h) (e : ws G h i = ws G h j) : i = j := by
  have q := (S.2.2.2.2.2.2 h hh).2.1
  rcases Nat.lt_trichotomy i j with z | z | z
  · have := q i j z hj; rw [e, aft_irr] at this; cases this
  · exact z
  · have := q j i z hi; rw [e, aft_irr] at this; cases this
def wsD (G : Gh) (h i : Nat) : Nat → Nat → Nat := fun y j => if y = h then (if j < i then ws G h j else ws G h (j + 1)) else ws G y j
theorem c_remove (S : CZ σ G x em sz ns sh) (D : CD σ G x d) (B : WB σ) (hw5 : ∀ h, h < nh σ → ∀ e, wt σ h e = true → e < nc σ) {h i : Nat} (hh : h < nh σ) (hi : i < wn σ h) : ∃ e r, fJx4a65c_remove_915e3 sh d (HA G h + 4) (nI i) = some (r, e) ∧ CD (s_wt σ (u2 (wt σ) h (ws G h i) false)) (g_w G (wsD G h i)) x e ∧ CZ (s_wt σ (u2 (wt σ) h (ws G h i) false)) (g_w G (wsD G h i)) x em sz ns sh := by
  have b1 := B.1
  have b3 := wn_nc B h
  have q := S.2.2.2.2.2.2 h hh
  have qc := (S.2.2.1.2.2.1 h hh).2
  have qk := (S.2.2.1.1 (7 + h) (by omega)).2.1 (by omega)
  have q6 := q_cap S (i := 7 + h) (by omega)
  have s4 := sH_4 S hh
  have hs : u2 (wt σ) h (ws G h i) false h = fun e => if e = ws G h i then false else wt σ h e := by
    funext e
    unfold u2
    by_cases g : e = ws G h i
    · rw [if_pos ⟨rfl, g⟩, if_pos g]
    · rw [if_neg (fun z => g z.2), if_neg g]
  have hf : ∀ y, y ≠ h → u2 (wt σ) h (ws G h i) false y = wt σ y := fun y hy => by
    funext e; exact if_neg (fun z => hy z.1)
  have hz : ∀ y, y ≠ h → wsD G h i y = ws G y := fun y hy => by funext j; exact if_neg hy
  have hzh : ∀ j, wsD G h i h j = if j < i then ws G h j else ws G h (j + 1) := fun j => if_pos rfl
  have hn : cnt (u2 (wt σ) h (ws G h i) false h) (nc σ) = wn σ h - 1 := by
    have : cnt (u2 (wt σ) h (ws G h i) false h) (nc σ) + 1 = wn σ h := wn_incl (hw5 h hh _ (q.1 i hi)) (q.1 i hi)
    omega
  have D1 := cd_32 D (a := HA G h + 4) (v := dfi d 32 (HA G h + 4) + 1)
  have eg := c_get_w S D B hh hi
  -- the row behind the copy
  have hmid : ∃ F, (∀ j, j < wn σ h - 1 → F j = some (EA G (wsD G h i h j))) ∧ fJx4a65c_fastRemove_b59b0 sh d (HA G h + 4) (some (DA G (7 + h))) (nI i) = some (uI (uCR (uI d 32 (HA G h + 4) (dfi d 32 (HA G h + 4) + 1)) (DA G (7 + h)) F) 34 (HA G h + 4) (nI (wn σ h - 1))) := by
    generalize hd1 : uI d 32 (HA G h + 4) (dfi d 32 (HA G h + 4) + 1) = d1 at D1
    have b34 : ∀ F, fJx4a65c_fastRemove_b59b0_b34 sh (HA G h + 4) (some (DA G (7 + h))) (nI (wn σ h - 1)) (uCR d1 (DA G (7 + h)) F) = some (uI (uCR d1 (DA G (7 + h)) (fun k => if k = wn σ h - 1 then none else F k)) 34 (HA G h + 4) (nI (wn σ h - 1))) := by
      intro F
      unfold fJx4a65c_fastRemove_b59b0_b34
      rw [pI_v s4, bd_v, bd_v, cst_0, bd_v, sR_v qk.1 (by rw [qk.2.1]; omega) (by omega), bd_v]
      show some (uI (uAR (uCR d1 (DA G (7 + h)) F) (DA G (7 + h)) (wn σ h - 1) none) 34 (HA G h + 4) (nI (wn σ h - 1))) = _
      rw [uAR_C, uCR_2, uCR_s]
    unfold fJx4a65c_fastRemove_b59b0 fJx4a65c_fastRemove_b59b0_b0
    rw [gI_v s4, bd_v, pI_v s4, bd_v, hd1, cf_34w S D1 hh, bd_v, show nI (wn σ h) - 1 = nI (wn σ h - 1) from pk_sub (b := 1) (by omega)]
    simp (disch := omega) only [nI_leI]
    by_cases g : wn σ h - 1 ≤ i
    · rw [if_pos g]
      refine ⟨fun k => if k = wn σ h - 1 then none else dar d1 (DA G (7 + h)) k, fun j hj => ?_, ?_⟩
      · show (if j = wn σ h - 1 then none else dar d1 (DA G (7 + h)) j) = _
        rw [if_neg (by omega), hzh, if_pos (by omega)]
        exact (D1.2.2.2.2.2.2.2.2.2 h hh).2 j (by omega)
      · have := b34 (dar d1 (DA G (7 + h)))
        rw [uCR_0] at this
        exact this
    · rw [if_neg g, bd_v, show nI (wn σ h - 1) - nI i = nI (wn σ h - 1 - i) from pk_sub (by omega), nI_1]
      refine ⟨fun k => if k = wn σ h - 1 then none else va_cpy (dar d1 (DA G (7 + h))) (dar d1 (DA G (7 + h))) (i + 1) i (wn σ h - 1 - i) k, fun j hj => ?_, ?_⟩
      · show (if j = wn σ h - 1 then none else _) = _
        rw [if_neg (by omega), hzh]
        by_cases z : j < i
        · rw [pk_cpy_out (Or.inl z), if_pos z]
          exact (D1.2.2.2.2.2.2.2.2.2 h hh).2 j (by omega)
        · rw [pk_cpy_in (by omega) (by omega), if_neg z, show i + 1 + (j - i) = j + 1 by omega]
          exact (D1.2.2.2.2.2.2.2.2.2 h hh).2 (j + 1) (by omega)
      · have ecp : cpR sh d1 (DA G (7 + h)) (nI (i + 1)) (DA G (7 + h)) (nI i) (nI (wn σ h - 1 - i)) = some (uCR d1 (DA G (7 + h)) (va_cpy (dar d1 (DA G (7 + h))) (dar d1 (DA G (7 + h))) (i + 1) i (wn σ h - 1 - i))) := by
          unfold cpR
          rw [if_pos ⟨by
            unfold cpk
            rw [qk.1, qk.2.1, nI_clamp (by omega), nI_clamp (by omega), nI_clamp (by omega)]
            have p1 : ¬ nI (i + 1) < 0 := nI_pos (by omega)
            have p2 : ¬ nI i < 0 := nI_pos (by omega)
            have p3 : ¬ nI (wn σ h - 1 - i) < 0 := nI_pos (by omega)
            simp [p1, p2, p3]; omega, by
            unfold cpE
            rw [nI_clamp (by omega), nI_clamp (by omega), List.all_eq_true]
            intro j hj
            have hj := List.mem_range.mp hj
            rw [(D1.2.2.2.2.2.2.2.2.2 h hh).2 _ (by omega), on_v, sE_0 S (hw5 h hh _ (q.1 _ (by omega)))]; rfl⟩, nI_clamp (by omega), nI_clamp (by omega), nI_clamp (by omega)]
        rw [ecp, bd_v]
        exact b34 _
  obtain ⟨F, hF, hR⟩ := hmid
  refine ⟨_, some (EA G (ws G h i)), ?_, cd_lw S D1 B hh (F := F) (Or.inl (by omega)) hf hz hn hF, cz_lw S hh hf hz hn (by omega) (fun j hj => ?_) (fun j k hj hk => ?_) (fun c hc => ?_)⟩
  · unfold fJx4a65c_remove_915e3 fJx4a65c_remove_915e3_b0
    have e1 : fJ15_checkIndex_7cf53 sh d (nI i) (nI (wn σ h)) = some (nI i) := by
      unfold fJ15_checkIndex_7cf53 fJ15_checkIndex_7cf53_b0 fJ3_checkIndex_8e157 fJ3_checkIndex_8e157_b0
      rw [if_neg (nI_pos (by omega)), if_pos (nI_lt hi (by omega))]; rfl
    rw [cf_34w S D hh, bd_v, e1, bd_v, cf_33w S D hh, bd_v, bd_v, aR_v qk.1 (by rw [qk.2.1]; omega) (by omega), bd_v, hR, bd_v, (D.2.2.2.2.2.2.2.2.2 h hh).2 i hi]
  · rw [hzh, hs]
    by_cases z : j < i
    · rw [if_pos z]
      show (if ws G h j = ws G h i then false else wt σ h (ws G h j)) = true
      rw [if_neg (fun g => by have := ws_i S hh (by omega) hi g; omega)]
      exact q.1 j (by omega)
    · rw [if_neg z]
      show (if ws G h (j + 1) = ws G h i then false else wt σ h (ws G h (j + 1))) = true
      rw [if_neg (fun g => by have := ws_i S hh (by omega) hi g; omega)]
      exact q.1 (j + 1) (by omega)
  · rw [hzh, hzh]
    have := q.2.1
    by_cases z : k < i
    · rw [if_pos z, if_pos (by omega)]; exact this j k hj (by omega)
    · rw [if_neg z]
      by_cases y : j < i
      · rw [if_pos y]; exact this j (k + 1) (by omega) (by omega)
      · rw [if_neg y]; exact this (j + 1) (k + 1) (by omega) (by omega)
  · rw [hs] at hc
    have hc : (if c = ws G h i then false else wt σ h c) = true := hc
    by_cases z : c = ws G h i
    · rw [if_pos z] at hc; cases hc
    · rw [if_neg z] at hc
      obtain ⟨j, j1, j2⟩ := q.2.2 c hc
      by_cases y : j < i
      · exact ⟨j, by omega, by rw [hzh, if_pos y]; exact j2⟩
      · have : j ≠ i := fun g => z (by rw [← j2, g])
        exact ⟨j - 1, by omega, by rw [hzh, if_neg (by omega), show j - 1 + 1 = j by omega]; exact j2⟩
def sameA (G G2 : Gh) : Prop := HA G2 = HA G ∧ EA G2 = EA G ∧ PA G2 = PA G ∧ cap G2 13 = cap G 13
/-- once through those that wait -/
theorem c_incl1 (S : CZ σ G x em sz ns sh) (D : CD σ G x d) (B : WB σ) (w : Wel σ) {h i : Nat} (hh : h < nh σ) (hi : i < wn σ h) : ∃ e1 e2 r, fX1_include sh d (HA G h) (some (EA G (ws G h i))) = some e1 ∧ CD (inc1 σ h (ws G h i)) G x e1 ∧ fJx4a65c_remove_915e3 sh e1 (HA G h + 4) (nI i) = some (r, e2) ∧ CD (inclS σ h (ws G h i)) (g_w G (wsD G h i)) x e2 ∧ CZ (inclS σ h (ws G h i)) (g_w G (wsD G h i)) x em sz ns sh := by
  have b1 := B.1
  have hw5 : ∀ h, h < nh σ → ∀ e, wt σ h e = true → e < nc σ := fun h hh e he => (w.2.2.2.2.1 h (by omega) e he).1
  have hc := hw5 h hh _ ((S.2.2.2.2.2.2 h hh).1 i hi)
  have g := gc_b B w (show h < 6 by omega)
  have b3 := B.2.2.1
  obtain ⟨e1, q1, q2⟩ := c_include S D B hh hc (by omega)
  have S1 : CZ (inc1 σ h (ws G h i)) G x em sz ns sh := S
  obtain ⟨e2, r, q3, q4, q5⟩ := c_remove S1 q2 B hw5 hh hi
  exact ⟨e1, e2, r, q1, q2, q3, q4, q5⟩
theorem c_inclReady {h : Nat} {A : Nat} : ∀ (m stay seen inc f n : Nat) (σ : St) (G : Gh) (d : Dt), seen + m = A → stay + inc = seen → wn σ h + inc = A → m < f → m < n → A ≤ 400 → CZ σ G x em sz ns sh → CD σ G x d → WB σ → Wel σ → h < nh σ → (∀ j, j < stay → ¬ rdy σ h (ws G h j)) → ∃ e G2, fX1_includeReady_b12 sh n (HA G h) (nI A) (nI stay) (nI seen) d = some (nI (run h f σ inc).1, e) ∧ CZ (run h f σ inc).2 G2 x em sz ns sh ∧ CD (run h f σ inc).2 G2 x e ∧ sameA G G2 := by
  intro m
  induction m with
  | zero =>
    intro stay seen inc f n σ G d hs h1 h2 hf hn hA S D B w hh hr
    have b1 := B.1
    cases n with
    | zero => omega
    | succ n =>
      cases f with
      | zero => omega
      | succ f =>
        have hx : nxr σ h = none := nxr_0 w B (by omega) (fun e he => by
          obtain ⟨j, j1, j2⟩ := (S.2.2.2.2.2.2 h hh).2.2 e he
          rw [← j2]; exact hr j (by omega))
        have hrun : run h (f + 1) σ inc = (inc, σ) := by
          show (match nxr σ h with
            | none => (inc, σ)
            | some c => run h f (inclS σ h c) (inc + 1)) = _
          rw [hx]
        rw [hrun]
        refine ⟨d, G, ?_, S, D, rfl, rfl, rfl, rfl⟩
        simp (disch := omega) only [fX1_includeReady_b12, nI_leI]
        rw [if_pos (by omega), pk_sub (by omega), show A - stay = inc by omega]
  | succ m ih =>
    intro stay seen inc f n σ G d hs h1 h2 hf hn hA S D B w hh hr
    have b1 := B.1
    cases n with
    | zero => omega
    | succ n =>
      have hi : stay < wn σ h := by omega
      have qw := (S.2.2.2.2.2.2 h hh).1 stay hi
      have hc := (w.2.2.2.2.1 h (by omega) _ qw)
      obtain ⟨b, c1, c2⟩ := c_covers (rc_h S D B w hh) (rc_e S D B w hc.1)
      have c2 : b = true ↔ rdy σ h (ws G h stay) := c2
      have wb := wn_nc B h
      simp (disch := omega) only [fX1_includeReady_b12, nI_leI, bd_v, cf_99 S D, kH_4 S, c_size_w S D, c_get_w S D B, cst_e S hc.1, cf_97 S D, cf_72 S D hc.1, kH_1 S, c1, nI_1, bI_0]
      rw [if_neg (by omega), if_neg (by omega)]
      by_cases hb : b = true
      · have hrd := c2.mp hb
        rw [hb, if_neg (by decide)]
        obtain ⟨e1, e2, r, q1, q2, q3, q4, q5⟩ := c_incl1 S D B w hh hi
        have S1 : CZ (inc1 σ h (ws G h stay)) G x em sz ns sh := S
        rw [q1, bd_v, cf_99 S1 q2 hh, bd_v, bd_v, kH_4 S hh, bd_v, q3, bd2_v]
        have hx : nxr σ h = some (ws G h stay) := nxr_i w B (by omega) qw hrd (fun e he ha => by
          obtain ⟨j, j1, j2⟩ := (S.2.2.2.2.2.2 h hh).2.2 e he
          rw [← j2]
          refine hr j ?_
          rcases Nat.lt_trichotomy j stay with z | z | z
          · exact z
          · rw [← j2, z, aft_irr] at ha; cases ha
          · have := (S.2.2.2.2.2.2 h hh).2.1 stay j z j1
            rw [j2] at this
            rw [aft_asy this] at ha; cases ha)
        cases f with
        | zero => omega
        | succ f =>
          have hrun : run h (f + 1) σ inc = run h f (inclS σ h (ws G h stay)) (inc + 1) := by
            show (match nxr σ h with
              | none => (inc, σ)
              | some c => run h f (inclS σ h c) (inc + 1)) = _
            rw [hx]
          rw [hrun]
          have hw1 := wn_incl hc.1 qw
          exact ih stay (seen + 1) (inc + 1) f n _ (g_w G (wsD G h stay)) e2 (by omega) (by omega) (by omega) (by omega) (by omega) hA q5 q4 B (wel_incl w B hh hc.1 hrd hc.2.2) hh (fun j hj => by
            show ¬ rdy (inclS σ h (ws G h stay)) h (wsD G h stay h j)
            rw [show wsD G h stay h j = ws G h j from (if_pos rfl).trans (if_pos hj)]
            have qj := (S.2.2.2.2.2.2 h hh).1 j (by omega)
            exact rdy_incl w B (w.2.2.2.2.1 h (by omega) _ qj).1 hc.1 hrd hc.2.2 ((S.2.2.2.2.2.2 h hh).2.1 j stay hj hi) (hr j hj))
      · have hnr : ¬ rdy σ h (ws G h stay) := fun q => hb (c2.mpr q)
        rw [show b = false by simpa using hb, if_pos rfl]
        exact ih (stay + 1) (seen + 1) inc f n σ G d (by omega) (by omega) (by omega) (by omega) (by omega) hA S D B w hh (fun j hj => by
          by_cases z : j = stay
          · rw [z]; exact hnr
          · exact hr j (by omega))
end
