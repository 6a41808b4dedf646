/-! the class's lists: a list among the three families; append -/
section
variable {sh : Sh} {d : Dt} {x : Nat} {σ : St} {G : Gh} {em mi sz ns : Nat}
theorem fr_ne {k a j b : Nat} {v : Option Nat} (h : j ≠ k) : dfr (uR d k a v) j b = dfr d j b := by rw [r_fr_R, if_neg (fun q => h q.1)]
theorem fr_n2 {k a j b : Nat} {v : Option Nat} (h : b ≠ a) : dfr (uR d k a v) j b = dfr d j b := by rw [r_fr_R, if_neg (fun q => h q.2)]
theorem fr_eq {k a : Nat} {v : Option Nat} : dfr (uR d k a v) k a = v := by rw [r_fr_R, if_pos ⟨rfl, rfl⟩]
theorem ar_ne {a i b j : Nat} {v : Option Nat} (h : b ≠ a) : dar (uAR d a i v) b j = dar d b j := by rw [r_ar_AR, if_neg (fun q => h q.1)]
theorem ar_n2 {a i b j : Nat} {v : Option Nat} (h : j ≠ i) : dar (uAR d a i v) b j = dar d b j := by rw [r_ar_AR, if_neg (fun q => h q.2)]
theorem ar_eq {a i : Nat} {v : Option Nat} : dar (uAR d a i v) a i = v := by rw [r_ar_AR, if_pos ⟨rfl, rfl⟩]
theorem cd_32 (D : CD σ G x d) {a : Nat} {v : Int32} : CD σ G x (uI d 32 a v) := ⟨⟨⟨(fi_ne (by decide)).trans (D.1.1.1), (fi_ne (by decide)).trans (D.1.1.2.1), (fi_ne (by decide)).trans (D.1.1.2.2)⟩, fun h hh => ⟨(fi_ne (by decide)).trans ((D.1.2.1 h hh).1), (fi_ne (by decide)).trans ((D.1.2.1 h hh).2.1), (fi_ne (by decide)).trans ((D.1.2.1 h hh).2.2)⟩, fun p hp => ⟨(fi_ne (by decide)).trans ((D.1.2.2.1 p hp).1), (fi_ne (by decide)).trans ((D.1.2.2.1 p hp).2)⟩, fun c hc => ⟨(fi_ne (by decide)).trans ((D.1.2.2.2.1 c hc).1), (fi_ne (by decide)).trans ((D.1.2.2.2.1 c hc).2.1), (fi_ne (by decide)).trans ((D.1.2.2.2.1 c hc).2.2.1), (fi_ne (by decide)).trans ((D.1.2.2.2.1 c hc).2.2.2.1), (fi_ne (by decide)).trans ((D.1.2.2.2.1 c hc).2.2.2.2.1), (fi_ne (by decide)).trans ((D.1.2.2.2.1 c hc).2.2.2.2.2.1), (fi_ne (by decide)).trans ((D.1.2.2.2.1 c hc).2.2.2.2.2.2)⟩, (fi_ne (by decide)).trans (D.1.2.2.2.2.1), fun h hh => ⟨(fi_ne (by decide)).trans ((D.1.2.2.2.2.2 h hh).1), (fi_ne (by decide)).trans ((D.1.2.2.2.2.2 h hh).2)⟩⟩, D.2⟩
/-- a list: its number, its cell, its length -/
def LR (σ : St) (G : Gh) (x : Nat) (sh : Sh) (d : Dt) (li a n : Nat) : Prop :=
  (li < 13 ∧ (li = 0 ∨ ∃ h, h < nh σ ∧ (li = 1 + h ∨ li = 7 + h)) ∧ n ≤ cap G li) ∧ sh.1 a = 1 ∧ dfr d 33 a = some (DA G li) ∧ dfi d 34 a = nI n ∧
  (∀ i, i < n → ∃ c, c < nc σ ∧ dar d (DA G li) i = some (EA G c)) ∧
  ((li = 0 ∧ a = x + 3) ∨ (li ≠ 0 ∧ a ≠ x + 3)) ∧ (∀ h, h < nh σ → (li = 1 + h ∧ a = HA G h + 3) ∨ (li ≠ 1 + h ∧ a ≠ HA G h + 3)) ∧ (∀ h, h < nh σ → (li = 7 + h ∧ a = HA G h + 4) ∨ (li ≠ 7 + h ∧ a ≠ HA G h + 4))
theorem lr_x (S : CZ σ G x em sz ns sh) (D : CD σ G x d) (B : WB σ) : LR σ G x sh d 0 (x + 3) (nc σ) := by
  have tx := t_x S (j := 3) (by decide)
  exact ⟨⟨by decide, Or.inl rfl, S.2.2.1.2.1⟩, sX_3 S, D.2.2.1.2.2.2.2.1, D.1.2.2.2.2.1, fun i hi => ⟨i, hi, D.2.2.2.2.2.2.2.2.1 i hi⟩, Or.inl ⟨rfl, rfl⟩, fun h hh => Or.inr ⟨by omega, tne tx (t_h S hh (j := 3) (by decide)) (by omega)⟩, fun h hh => Or.inr ⟨by omega, tne tx (t_h S hh (j := 4) (by decide)) (by omega)⟩⟩
theorem lr_o (S : CZ σ G x em sz ns sh) (D : CD σ G x d) (B : WB σ) {h : Nat} (hh : h < nh σ) : LR σ G x sh d (1 + h) (HA G h + 3) (md σ h) := by
  have b1 := B.1
  have tx := t_h S hh (j := 3) (by decide)
  refine ⟨⟨by omega, Or.inr ⟨h, hh, Or.inl rfl⟩, (S.2.2.1.2.2.1 h hh).1⟩, sH_3 S hh, (D.2.2.1.2.2.2.2.2 h hh).1, (D.1.2.2.2.2.2 h hh).1, fun i hi => ⟨_, (S.2.2.2.2.2.1 h hh i hi).1, (D.2.2.2.2.2.2.2.2.2 h hh).1 i hi⟩, Or.inr ⟨by omega, tne tx (t_x S (j := 3) (by decide)) (by omega)⟩, fun o ho => ?_, fun o ho => Or.inr ⟨by omega, tne tx (t_h S ho (j := 4) (by decide)) (by omega)⟩⟩
  by_cases e : h = o
  · subst e; exact Or.inl ⟨rfl, rfl⟩
  · exact Or.inr ⟨by omega, tne tx (t_h S ho (j := 3) (by decide)) (by omega)⟩
theorem lr_w (S : CZ σ G x em sz ns sh) (D : CD σ G x d) (B : WB σ) (w : Wel σ) {h : Nat} (hh : h < nh σ) : LR σ G x sh d (7 + h) (HA G h + 4) (wn σ h) := by
  have b1 := B.1
  have tx := t_h S hh (j := 4) (by decide)
  refine ⟨⟨by omega, Or.inr ⟨h, hh, Or.inr rfl⟩, (S.2.2.1.2.2.1 h hh).2⟩, sH_4 S hh, (D.2.2.1.2.2.2.2.2 h hh).2, (D.1.2.2.2.2.2 h hh).2, fun i hi => ⟨_, (w.2.2.2.2.1 h (by omega) _ ((S.2.2.2.2.2.2 h hh).1 i hi)).1, (D.2.2.2.2.2.2.2.2.2 h hh).2 i hi⟩, Or.inr ⟨by omega, tne tx (t_x S (j := 3) (by decide)) (by omega)⟩, fun o ho => Or.inr ⟨by omega, tne tx (t_h S ho (j := 3) (by decide)) (by omega)⟩, fun o ho => ?_⟩
  by_cases e : h = o
  · subst e; exact Or.inl ⟨rfl, rfl⟩
  · exact Or.inr ⟨by omega, tne tx (t_h S ho (j := 4) (by decide)) (by omega)⟩
/-- the row of a list replaced by a larger one that holds the same -/
theorem cd_grow (S : CZ σ G x em sz ns sh) (D : CD σ G x d) (B : WB σ) {li a n k : Nat} (L : LR σ G x sh d li a n) {F : Nat → Option Nat} (hF : ∀ i, i < n → F i = dar d (DA G li) i) : CD σ (gG G li sz k) x (uR (uCR (zA d sz) sz F) 33 a (some sz)) := by
  have b1 := B.1
  obtain ⟨⟨hi, hv, hcap⟩, l1, l2, l3, l4, hx, ho, hw⟩ := L
  have hg : DG sz d (uCR (zA d sz) sz F) := fun b hb => ⟨fun _ => rfl, fun _ => rfl, fun _ => rfl, if_neg (by omega), if_neg (by omega), (uCR_n (by omega)).trans (zA_ar (by omega))⟩
  have E := cd_mono S B hg D
  have hsz : dar (uCR (zA d sz) sz F) sz = F := uCR_s
  generalize uCR (zA d sz) sz F = e at hg E hsz
  have hd : ∀ i, i ≠ li → DA (gG G li sz k) i = DA G i := fun i h => u1_n _ _ h
  have hdl : DA (gG G li sz k) li = sz := u1_s _ _ _
  refine ⟨E.1, E.2.1, ⟨⟨(fr_ne (by decide)).trans (E.2.2.1.1.1), (fr_ne (by decide)).trans (E.2.2.1.1.2.1), (fr_ne (by decide)).trans (E.2.2.1.1.2.2.1), (fr_ne (by decide)).trans (E.2.2.1.1.2.2.2.1), (fr_ne (by decide)).trans (E.2.2.1.1.2.2.2.2.1), (fr_ne (by decide)).trans (E.2.2.1.1.2.2.2.2.2.1), (fr_ne (by decide)).trans (E.2.2.1.1.2.2.2.2.2.2.1), (fr_ne (by decide)).trans (E.2.2.1.1.2.2.2.2.2.2.2)⟩, fun h hh => ⟨(fr_ne (by decide)).trans ((E.2.2.1.2.1 h hh).1), (fr_ne (by decide)).trans ((E.2.2.1.2.1 h hh).2.1), (fr_ne (by decide)).trans ((E.2.2.1.2.1 h hh).2.2.1), (fr_ne (by decide)).trans ((E.2.2.1.2.1 h hh).2.2.2.1), (fr_ne (by decide)).trans ((E.2.2.1.2.1 h hh).2.2.2.2.1), (fr_ne (by decide)).trans ((E.2.2.1.2.1 h hh).2.2.2.2.2.1), (fr_ne (by decide)).trans ((E.2.2.1.2.1 h hh).2.2.2.2.2.2.1), (fr_ne (by decide)).trans ((E.2.2.1.2.1 h hh).2.2.2.2.2.2.2)⟩, fun p hp => ⟨(fr_ne (by decide)).trans ((E.2.2.1.2.2.1 p hp).1), (fr_ne (by decide)).trans ((E.2.2.1.2.2.1 p hp).2.1), (fr_ne (by decide)).trans ((E.2.2.1.2.2.1 p hp).2.2)⟩, fun c hc => ⟨(fr_ne (by decide)).trans ((E.2.2.1.2.2.2.1 c hc).1), (fr_ne (by decide)).trans ((E.2.2.1.2.2.2.1 c hc).2.1), (fr_ne (by decide)).trans ((E.2.2.1.2.2.2.1 c hc).2.2)⟩, ?_, fun h hh => ⟨?_, ?_⟩⟩, E.2.2.2.1, E.2.2.2.2.1, ⟨E.2.2.2.2.2.1, E.2.2.2.2.2.2.1, E.2.2.2.2.2.2.2.1, fun c hc => ?_, fun h hh => ⟨fun i hi2 => ?_, fun i hi2 => ?_⟩⟩⟩
  · rcases hx with ⟨q1, q2⟩ | ⟨q1, q2⟩
    · rw [← q1, ← q2, hdl]; exact fr_eq
    · rw [hd 0 (by omega)]; exact (fr_n2 (fun z => q2 z.symm)).trans E.2.2.1.2.2.2.2.1
  · show dfr (uR e 33 a (some sz)) 33 (HA G h + 3) = some (DA (gG G li sz k) (1 + h))
    rcases ho h hh with ⟨q1, q2⟩ | ⟨q1, q2⟩
    · rw [← q1, ← q2, hdl]; exact fr_eq
    · rw [hd _ (fun z => q1 z.symm)]; exact (fr_n2 (fun z => q2 z.symm)).trans (E.2.2.1.2.2.2.2.2 h hh).1
  · show dfr (uR e 33 a (some sz)) 33 (HA G h + 4) = some (DA (gG G li sz k) (7 + h))
    rcases hw h hh with ⟨q1, q2⟩ | ⟨q1, q2⟩
    · rw [← q1, ← q2, hdl]; exact fr_eq
    · rw [hd _ (fun z => q1 z.symm)]; exact (fr_n2 (fun z => q2 z.symm)).trans (E.2.2.1.2.2.2.2.2 h hh).2
  · show dar e (DA (gG G li sz k) 0) c = some (EA G c)
    rcases hx with ⟨q1, q2⟩ | ⟨q1, q2⟩
    · subst q1 q2
      have q3 : nI n = nI (nc σ) := l3.symm.trans D.1.2.2.2.2.1
      have b3 := B.2.2.1
      have q4 := (S.2.2.1.1 0 (by decide)).2.2
      rw [hdl, hsz, hF c (by have := (nI_eq (by omega) (by omega)).mp q3; omega)]
      exact D.2.2.2.2.2.2.2.2.1 c hc
    · rw [hd 0 (by omega)]; exact E.2.2.2.2.2.2.2.2.1 c hc
  · show dar e (DA (gG G li sz k) (1 + h)) i = some (EA G (ow G h i))
    rcases ho h hh with ⟨q1, q2⟩ | ⟨q1, q2⟩
    · subst q1 q2
      have q3 : nI n = nI (md σ h) := l3.symm.trans (D.1.2.2.2.2.2 h hh).1
      have b3 := (B.2.2.2.2.2 h (by omega)).2
      have q4 := (S.2.2.1.1 (1 + h) (by omega)).2.2
      rw [hdl, hsz, hF i (by have := (nI_eq (by omega) (by omega)).mp q3; omega)]
      exact (D.2.2.2.2.2.2.2.2.2 h hh).1 i hi2
    · rw [hd _ (fun z => q1 z.symm)]; exact (E.2.2.2.2.2.2.2.2.2 h hh).1 i hi2
  · show dar e (DA (gG G li sz k) (7 + h)) i = some (EA G (ws G h i))
    rcases hw h hh with ⟨q1, q2⟩ | ⟨q1, q2⟩
    · subst q1 q2
      have q3 : nI n = nI (wn σ h) := l3.symm.trans (D.1.2.2.2.2.2 h hh).2
      have b3 := wn_nc B h
      have q4 := (S.2.2.1.1 (7 + h) (by omega)).2.2
      rw [hdl, hsz, hF i (by have := (nI_eq (by omega) (by omega)).mp q3; omega)]
      exact (D.2.2.2.2.2.2.2.2.2 h hh).2 i hi2
    · rw [hd _ (fun z => q1 z.symm)]; exact (E.2.2.2.2.2.2.2.2.2 h hh).2 i hi2
/-- what a list's growing leaves as it was -/
def sameG (G G2 : Gh) : Prop := HA G2 = HA G ∧ PA G2 = PA G ∧ EA G2 = EA G ∧ ow G2 = ow G ∧ ws G2 = ws G ∧ cap G2 13 = cap G 13
def DH (sz : Nat) (d e : Dt) : Prop := ∀ b, b < sz → (∀ k, dfi e k b = dfi d k b) ∧ (∀ k, dfl e k b = dfl d k b) ∧ (∀ k, k ≠ 33 → dfr e k b = dfr d k b) ∧ dai e b = dai d b ∧ dal e b = dal d b ∧ dar e b = dar d b
def GRW (σ : St) (G : Gh) (x em sz : Nat) (sh : Sh) (d : Dt) (li a n : Nat) (G2 : Gh) (sz2 ns2 : Nat) (sh2 : Sh) (e : Dt) : Prop := CZ σ G2 x em sz2 ns2 sh2 ∧ CD σ G2 x e ∧ LR σ G2 x sh2 e li a n ∧ n < cap G2 li ∧ sameG G G2 ∧ SG sz sh sh2 ∧ DH sz d e ∧ sz ≤ sz2 ∧ ∀ b, b < sz → tg G2 b = tg G b
theorem l_la (S : CZ σ G x em sz ns sh) {li a n : Nat} (L : LR σ G x sh d li a n) : a < sz := by
  obtain ⟨⟨hi, hv, hcap⟩, l1, l2, l3, l4, hx, ho, hw⟩ := L
  rcases hv with q | ⟨h, hh, q | q⟩
  · rcases hx with ⟨q1, q2⟩ | ⟨q1, q2⟩
    · rw [q2]; exact l_x S (by decide)
    · omega
  · rcases ho h hh with ⟨q1, q2⟩ | ⟨q1, q2⟩
    · rw [q2]; exact l_h S hh (by decide)
    · omega
  · rcases hw h hh with ⟨q1, q2⟩ | ⟨q1, q2⟩
    · rw [q2]; exact l_h S hh (by decide)
    · omega
theorem c_grow (S : CZ σ G x em sz ns sh) (D : CD σ G x d) (B : WB σ) {li a n : Nat} (L : LR σ G x sh d li a n) (hn : n < 400) (hc : n = cap G li) : ∃ G2 sz2 ns2 sh2 e, fJx4a65c_grow_d5877 em mi a sz ns sh d = some (some (DA G2 li), sz2, ns2, sh2, e) ∧ GRW σ G x em sz sh d li a n G2 sz2 ns2 sh2 e := by
  have L0 := L
  have ha := l_la S L
  obtain ⟨⟨hi, hv, hcap⟩, l1, l2, l3, l4, hx, ho, hw⟩ := L
  have q := S.2.2.1.1 li hi
  obtain ⟨k, F, g1, g2, g3, g4, g5⟩ := c_grow0 (mi := mi) (sz := sz) (ns := ns) (em := em) l1 l2 l3 (by
    by_cases z : n = 0
    · exact Or.inl ⟨z, q.1 (by omega)⟩
    · have := q.2.1 (by omega)
      exact Or.inr ⟨by omega, this.2.2, this.1, by rw [this.2.1, hc]⟩) hn (fun i hi2 => by
      obtain ⟨c, c1, c2⟩ := l4 i hi2
      exact ⟨_, c2, sE_0 S c1, l_e0 S c1⟩) (l_d S hi) ha
  have S2 := cz_grow S (k := k) hi hv (by omega) (by omega) g5
  have D2 := cd_grow S D B L0 (k := k) g2
  refine ⟨gG G li sz k, _, _, _, _, ?_, S2, D2, ⟨⟨hi, hv, ?_⟩, ?_, ?_, ?_, fun i hi2 => ?_, hx, ho, hw⟩, ?_, ⟨rfl, rfl, rfl, rfl, rfl, u1_n _ _ (by omega)⟩, fun b hb => ⟨nw_1 (by omega), nw_2 (by omega)⟩, fun b hb => ⟨fun _ => rfl, fun _ => rfl, fun k hk => fr_ne hk, ?_, ?_, ?_⟩, Nat.le_succ _, fun b hb => u1_n _ _ (by omega)⟩
  · rw [g1, show DA (gG G li sz k) li = sz from u1_s _ _ _]
  · rw [show cap (gG G li sz k) li = k from u1_s _ _ _]; omega
  · exact (nw_1 (by omega)).trans l1
  · rw [show DA (gG G li sz k) li = sz from u1_s _ _ _]; exact fr_eq
  · exact l3
  · rw [show DA (gG G li sz k) li = sz from u1_s _ _ _]
    obtain ⟨c, c1, c2⟩ := l4 i hi2
    exact ⟨c, c1, (congrFun (uCR_s (d := zA d sz) (a := sz) (F := F)) i).trans ((g2 i hi2).trans c2)⟩
  · rw [show cap (gG G li sz k) li = k from u1_s _ _ _]; omega
  · exact if_neg (by omega)
  · exact if_neg (by omega)
  · exact (uCR_n (by omega)).trans (zA_ar (by omega))
theorem lr_ln (S : CZ σ G x em sz ns sh) {li a n : Nat} (L : LR σ G x sh d li a n) : lnE sh em (DA G li) = some (nI (cap G li)) := by
  have q := S.2.2.1.1 li L.1.1
  unfold lnE
  by_cases z : cap G li = 0
  · rw [if_pos (q.1 z), z]; rfl
  · have := q.2.1 (by omega)
    rw [if_neg this.2.2]
    unfold lnA
    rw [if_pos this.1, this.2.1]; rfl
theorem lr_32 {li a n : Nat} {v : Int32} {b : Nat} (L : LR σ G x sh d li a n) : LR σ G x sh (uI d 32 b v) li a n := ⟨L.1, L.2.1, L.2.2.1, (fi_ne (by decide)).trans L.2.2.2.1, L.2.2.2.2⟩
/-- add at the end -/
theorem c_addE (S : CZ σ G x em sz ns sh) (D : CD σ G x d) (B : WB σ) {li a n e : Nat} (L : LR σ G x sh d li a n) (hn : n < 400) (he : sh.1 e = 2) (hel : e < sz) : ∃ G2 sz2 ns2 sh2 d2 v, fJx4a65c_add_9ea2d em mi a (some e) sz ns sh d = some (true, sz2, ns2, sh2, uI (uAR d2 (DA G2 li) n (some e)) 34 a (nI (n + 1))) ∧ GRW σ G x em sz sh (uI d 32 a v) li a n G2 sz2 ns2 sh2 d2 := by
  have D1 := cd_32 D (a := a) (v := dfi d 32 a + 1)
  have L1 := lr_32 (b := a) (v := dfi d 32 a + 1) L
  generalize hv : dfi d 32 a + 1 = v at D1 L1
  have ha := l_la S L
  have q := S.2.2.1.1 li L.1.1
  have q6 := q_cap S L.1.1
  have fin : ∀ {G2 : Gh} {sz2 ns2 : Nat} {sh2 : Sh} {d2 : Dt}, GRW σ G x em sz sh (uI d 32 a v) li a n G2 sz2 ns2 sh2 d2 → fJx4a65c_add_72be8_b11 em mi a (some e) (some (DA G2 li)) (nI n) sz2 ns2 sh2 d2 = some (sz2, ns2, sh2, uI (uAR d2 (DA G2 li) n (some e)) 34 a (nI (n + 1))) := by
    intro G2 sz2 ns2 sh2 d2 g
    obtain ⟨S2, D2, L2, c2, s2, sg, dh, -⟩ := g
    have r := (S2.2.2.1.1 li L.1.1).2.1 (by omega)
    have r6 := q_cap S2 L.1.1
    unfold fJx4a65c_add_72be8_b11
    rw [bd_v, show cst sh2 2 (some e) = some () from kc_v ((sg e hel).1.trans he), bd_v, sR_v r.1 (by rw [r.2.1]; omega) (by omega), bd_v, nI_1, pI_v L2.2.1, bd_v]
  unfold fJx4a65c_add_9ea2d fJx4a65c_add_9ea2d_b0
  rw [gI_v L.2.1, bd_v, pI_v L.2.1, bd_v, hv, gR_v L.2.1, bd_v, gI_v L.2.1, bd_v, L1.2.2.1, L1.2.2.2.1]
  unfold fJx4a65c_add_72be8 fJx4a65c_add_72be8_b0
  rw [bd_v, lr_ln S L1, bd_v]
  have cn := L.1.2.2
  by_cases z : n = cap G li
  · obtain ⟨G2, sz2, ns2, sh2, d2, g1, g2⟩ := c_grow (mi := mi) S D1 B L1 hn z
    refine ⟨G2, sz2, ns2, sh2, d2, v, ?_, g2⟩
    rw [if_pos (by rw [z]), kc_v L.2.1, bd_v, g1, bw2_v]
    unfold fJx4a65c_add_72be8_b10
    rw [fin g2, bw_v]; rfl
  · have g2 : GRW σ G x em sz sh (uI d 32 a v) li a n G sz ns sh (uI d 32 a v) := ⟨S, D1, L1, by omega, ⟨rfl, rfl, rfl, rfl, rfl, rfl⟩, fun b hb => ⟨rfl, rfl⟩, fun b hb => ⟨fun _ => rfl, fun _ => rfl, fun _ _ => rfl, rfl, rfl, rfl⟩, Nat.le_refl _, fun _ _ => rfl⟩
    refine ⟨G, sz, ns, sh, uI d 32 a v, v, ?_, g2⟩
    rw [if_neg (fun w => z ((nI_eq (by omega) (by omega)).mp w)), fin g2, bw_v]; rfl
end
