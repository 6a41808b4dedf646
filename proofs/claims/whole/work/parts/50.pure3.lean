/-! what always holds is kept -/
section
variable {σ : St}
theorem od_inj (w : Wel σ) {c e : Nat} (hc : c < nc σ) (he : e < nc σ) (h1 : mk σ c = mk σ e) (h2 : od σ c = od σ e) : c = e := by
  rw [w_od w hc, w_od w he, h1] at h2
  rcases Nat.lt_trichotomy c e with h | h | h
  · have := mb_lt σ h h1; omega
  · exact h
  · have := mb_lt σ h h1.symm; rw [h1] at this; omega
theorem has_f {h c : Nat} (hc : c < nc σ) (hn : has σ h c = false) : up σ h (mk σ c) < od σ c := by
  rcases Nat.lt_or_ge (up σ h (mk σ c)) (od σ c) with g | g
  · exact g
  · rw [has_iff.mpr ⟨hc, g⟩] at hn; cases hn
theorem od_next (w : Wel σ) (B : WB σ) {h c : Nat} (hc : c < nc σ) (hr : rdy σ h c) (hn : has σ h c = false) : od σ c = up σ h (mk σ c) + 1 := by
  have h1 := hr _ (w_mk B hc)
  rw [(w.1 c hc).2.2] at h1
  have h2 := has_f hc hn
  have h3 := w_od w hc
  omega
theorem has_up (w : Wel σ) (B : WB σ) {h c : Nat} (hc : c < nc σ) (hr : rdy σ h c) (hn : has σ h c = false) (x e : Nat) : has (upS σ h c) x e = (has σ x e || decide (x = h ∧ e = c)) := by
  have hd := od_next w B hc hr hn
  rw [Bool.eq_iff_iff, Bool.or_eq_true, has_iff, has_iff, decide_eq_true_eq]
  show (e < nc σ ∧ od σ e ≤ (if x = h ∧ mk σ e = mk σ c then od σ c else up σ x (mk σ e))) ↔ _
  by_cases g : x = h ∧ mk σ e = mk σ c
  · rw [if_pos g]
    obtain ⟨rfl, g⟩ := g
    rw [g]
    constructor
    · rintro ⟨q1, q2⟩
      by_cases z : od σ e = od σ c
      · exact Or.inr ⟨rfl, od_inj w q1 hc g z⟩
      · exact Or.inl ⟨q1, by omega⟩
    · rintro (⟨q1, q2⟩ | ⟨_, q2⟩)
      · exact ⟨q1, by omega⟩
      · rw [q2]; exact ⟨hc, Nat.le_refl _⟩
  · rw [if_neg g]
    constructor
    · exact Or.inl
    · rintro (q | ⟨q1, q2⟩)
      · exact q
      · exact (g ⟨q1, by rw [q2]⟩).elim
theorem has_incl (w : Wel σ) (B : WB σ) {h c : Nat} (hc : c < nc σ) (hr : rdy σ h c) (hn : has σ h c = false) (x e : Nat) : has (inclS σ h c) x e = (has σ x e || decide (x = h ∧ e = c)) := has_up w B hc hr hn x e
theorem up_incl (w : Wel σ) (B : WB σ) {h c : Nat} (hc : c < nc σ) (hr : rdy σ h c) (hn : has σ h c = false) (x k : Nat) : up σ x k ≤ up (inclS σ h c) x k := by
  show up σ x k ≤ (if x = h ∧ k = mk σ c then od σ c else up σ x k)
  have hd := od_next w B hc hr hn
  split
  · rename_i g; rw [g.1, g.2]; omega
  · exact Nat.le_refl _
theorem wel_incl (w : Wel σ) (B : WB σ) {h c : Nat} (hh : h < nh σ) (hc : c < nc σ) (hr : rdy σ h c) (hn : has σ h c = false) : Wel (inclS σ h c) := by
  have b1 := B.1
  have hd := od_next w B hc hr hn
  have hH := has_incl w B hc hr hn
  have hU := up_incl w B hc hr hn
  refine ⟨w.1, fun x hx => ⟨(w.2.1 x hx).1, ?_, fun k hk => ?_⟩, fun x hx e he k hk => ?_, w.2.2.2.1, fun x hx e he => ?_, fun x hx hx2 => ?_, w.2.2.2.2.2.2⟩
  · rw [gcm_n]
    show u1 (gc σ) h (max (gc σ h) (ct σ c)) x = gcn (has (inclS σ h c) x) (ct σ) (nc σ)
    by_cases g : x = h
    · subst g
      rw [u1_s, gcn_ins (p := has σ x) (c := c) (fun e => by rw [hH]; simp), if_pos hc, (w.2.1 x hx).2.1, gcm_n]
    · rw [u1_n _ _ g, (w.2.1 x hx).2.1, gcm_n]
      exact gcn_cong (fun e he => ⟨by rw [hH]; simp [g], rfl⟩)
  · show (if x = h ∧ k = mk σ c then od σ c else up σ x k) ≤ md σ k
    split
    · rename_i g
      have := mb_lt σ hc rfl
      rw [g.2, (w.2.1 _ (w_mk B hc)).1, w_od w hc]; omega
    · exact (w.2.1 x hx).2.2 k hk
  · rw [hH, Bool.or_eq_true, decide_eq_true_eq] at he
    rcases he with q | ⟨q1, q2⟩
    · exact Nat.le_trans (w.2.2.1 x hx e q k hk) (hU x k)
    · subst q1 q2
      exact Nat.le_trans (hr k hk) (hU x k)
  · have he : (if x = h ∧ e = c then false else wt σ x e) = true := he
    by_cases g : x = h ∧ e = c
    · rw [if_pos g] at he; cases he
    · rw [if_neg g] at he
      have q := w.2.2.2.2.1 x hx e he
      exact ⟨q.1, q.2.1, by rw [hH, q.2.2]; simp [g]⟩
  · have q := w.2.2.2.2.2.1 x hx hx2
    have g : x ≠ h := by have : nh σ ≤ x := hx
                         omega
    exact ⟨fun k hk => (if_neg (fun z => g z.1)).trans (q.1 k hk), q.2⟩
theorem wel_wait (w : Wel σ) {h c : Nat} (hh : h < nh σ) (hc : c < nc σ) (hn : has σ h c = false) : Wel (waitS σ h c) := by
  refine ⟨w.1, w.2.1, w.2.2.1, w.2.2.2.1, fun x hx e he => ?_, w.2.2.2.2.2.1, w.2.2.2.2.2.2⟩
  have he : (if x = h ∧ e = c then true else wt σ x e) = true := he
  by_cases g : x = h ∧ e = c
  · rw [g.1, g.2]; exact ⟨hc, hh, hn⟩
  · rw [if_neg g] at he
    exact w.2.2.2.2.1 x hx e he
theorem kn_lt2 (w : Wel σ) (B : WB σ) {b c : Nat} (hb : b < nc σ) (hc : c < nc σ) (h : od σ c ≤ ku σ b (mk σ c)) : ct σ c < ct σ b := by
  have := kn_lt w B hb hc
  rw [decide_eq_true h] at this
  exact (w.2.2.2.1 b hb c this).1
/-- what is above does not make READY what is below -/
theorem rdy_incl (w : Wel σ) (B : WB σ) {h b c : Nat} (hb : b < nc σ) (hc : c < nc σ) (hr : rdy σ h c) (hn : has σ h c = false) (ha : aft σ c b = true) (hnr : ¬ rdy σ h b) : ¬ rdy (inclS σ h c) h b := by
  intro q
  apply hnr
  intro k hk
  have := q k hk
  have this : ku σ b k ≤ (if h = h ∧ k = mk σ c then od σ c else up σ h k) := this
  by_cases g : k = mk σ c
  · rw [if_pos ⟨rfl, g⟩] at this
    have hd := od_next w B hc hr hn
    rcases Nat.lt_or_ge (ku σ b k) (od σ c) with z | z
    · rw [g] at z ⊢; omega
    · have := kn_lt2 w B hb hc (by rw [← g]; exact z)
      rw [aft_iff] at ha
      omega
  · rw [if_neg (fun z => g z.2)] at this
    exact this
theorem nxr_s (w : Wel σ) (B : WB σ) {h c : Nat} (hh : h < 6) (e : nxr σ h = some c) : c < nc σ ∧ wt σ h c = true ∧ rdy σ h c ∧ has σ h c = false := by
  have b := nxr_b w h
  rw [e] at b
  obtain ⟨b1, b2, -⟩ := b
  have b2 : wt σ h c = true ∧ sub4 (kn σ c) (has σ h) = true := by simpa using b2
  exact ⟨b1, b2.1, (sub_rdy B w hh b1).mp b2.2, (w.2.2.2.2.1 h hh c b2.1).2.2⟩
theorem nxr_n (w : Wel σ) (B : WB σ) {h c : Nat} (hh : h < 6) (e : nxr σ h = none) (hw : wt σ h c = true) : ¬ rdy σ h c := by
  have b := nxr_b w h
  rw [e] at b
  have hc := (w.2.2.2.2.1 h hh c hw).1
  have this : (wt σ h c && sub4 (kn σ c) (has σ h)) = false := b c hc
  intro q
  rw [hw, (sub_rdy B w hh hc).mpr q] at this
  cases this
/-- the least READY one that waits -/
theorem nxr_i (w : Wel σ) (B : WB σ) {h c : Nat} (hh : h < 6) (hw : wt σ h c = true) (hr : rdy σ h c) (hl : ∀ e, wt σ h e = true → aft σ c e = true → ¬ rdy σ h e) : nxr σ h = some c := by
  have hc := (w.2.2.2.2.1 h hh c hw).1
  refine lst_u _ (nxr_b w h) ⟨hc, by show (wt σ h c && sub4 (kn σ c) (has σ h)) = true; rw [hw, (sub_rdy B w hh hc).mpr hr]; rfl, fun e he hp => ?_⟩
  have hp : wt σ h e = true ∧ sub4 (kn σ e) (has σ h) = true := by simpa using hp
  by_cases g : aft σ c e = true
  · exact ((hl e hp.1 g) ((sub_rdy B w hh he).mp hp.2)).elim
  · rcases aft_tot w hc he (by simpa using g) with q | q
    · exact Or.inl q.symm
    · exact Or.inr q
theorem nxr_0 (w : Wel σ) (B : WB σ) {h : Nat} (hh : h < 6) (hl : ∀ e, wt σ h e = true → ¬ rdy σ h e) : nxr σ h = none := by
  cases e : nxr σ h with
  | none => rfl
  | some c =>
    have q := nxr_s w B hh e
    exact (hl c q.2.1 q.2.2.1).elim
/-- running: nothing READY waits at the end -/
theorem wn_incl {h c : Nat} (hc : c < nc σ) (hw : wt σ h c = true) : wn (inclS σ h c) h + 1 = wn σ h := by
  have := cnt_ins (p := wt σ h) (q := fun e => if e = c then false else wt σ h e) (c := c) (if_pos rfl) (nc σ) (fun e he => by
    by_cases g : e = c
    · subst g; rw [hw]; simp
    · simp [g])
  rw [if_pos hc] at this
  show cnt (fun e => wt (inclS σ h c) h e) (nc σ) + 1 = cnt (wt σ h) (nc σ)
  rw [this]
  congr 1
  refine cnt_cong fun e he => ?_
  show (if h = h ∧ e = c then false else wt σ h e) = if e = c then false else wt σ h e
  by_cases g : e = c
  · rw [if_pos ⟨rfl, g⟩, if_pos g]
  · rw [if_neg (fun z => g z.2), if_neg g]
theorem run_ok {h : Nat} : ∀ (f : Nat) (σ : St) (n : Nat), Wel σ → WB σ → h < nh σ → wn σ h < f → (∀ o, o < 6 → o ≠ h → ∀ c, wt σ o c = true → ¬ rdy σ o c) → Wel (run h f σ n).2 ∧ WB (run h f σ n).2 ∧ Nrd (run h f σ n).2 := by
  intro f
  induction f with
  | zero => intro σ n _ _ _ h; omega
  | succ f ih =>
    intro σ n w B hh hf ho
    have b1 := B.1
    show Wel (match nxr σ h with
      | none => (n, σ)
      | some c => run h f (inclS σ h c) (n + 1)).2 ∧ WB (match nxr σ h with
      | none => (n, σ)
      | some c => run h f (inclS σ h c) (n + 1)).2 ∧ Nrd (match nxr σ h with
      | none => (n, σ)
      | some c => run h f (inclS σ h c) (n + 1)).2
    cases e : nxr σ h with
    | none =>
      refine ⟨w, B, fun o ho2 c hc => ?_⟩
      by_cases g : o = h
      · subst g; exact nxr_n w B ho2 e hc
      · exact ho o ho2 g c hc
    | some c =>
      obtain ⟨q1, q2, q3, q4⟩ := nxr_s w B (by omega) e
      have := wn_incl q1 q2
      refine ih (inclS σ h c) (n + 1) (wel_incl w B hh q1 q3 q4) B hh (by omega) (fun o ho2 g c2 hc2 => ?_)
      have hc2 : (if o = h ∧ c2 = c then false else wt σ o c2) = true := hc2
      rw [if_neg (fun z => g z.1)] at hc2
      intro z
      apply ho o ho2 g c2 hc2
      intro k hk
      have := z k hk
      have this : ku σ c2 k ≤ (if o = h ∧ k = mk σ c then od σ c else up σ o k) := this
      rwa [if_neg (fun z => g z.1)] at this
theorem wn_wait {h c : Nat} (hc : c < nc σ) (hw : wt σ h c = false) : wn (waitS σ h c) h = wn σ h + 1 := by
  have := cnt_ins (p := wt (waitS σ h c) h) (q := wt σ h) (c := c) hw (nc σ) (fun e he => by
    show (if h = h ∧ e = c then true else wt σ h e) = _
    by_cases g : e = c
    · rw [if_pos ⟨rfl, g⟩]; simp [g]
    · rw [if_neg (fun z => g z.2)]; simp [g])
  rw [if_pos hc] at this
  exact this
theorem cnt_all {p : Nat → Bool} {n c : Nat} (hc : c < n) (hp : p c = false) : cnt p n < n := by
  have := cnt_ins (p := fun e => p e || decide (e = c)) (q := p) (c := c) hp n (fun e he => rfl)
  rw [if_pos hc] at this
  have := cnt_le (fun e => p e || decide (e = c)) n
  omega
theorem com_ok (w : Wel σ) (B : WB σ) (N : Nrd σ) {h c : Nat} (hh : h < nh σ) (hc : c < nc σ) (hn : has σ h c = false) : Wel (comS σ h c).2 ∧ WB (comS σ h c).2 ∧ Nrd (comS σ h c).2 := by
  have b3 := B.2.2.1
  refine run_ok 401 (waitS σ h c) 0 (wel_wait w hh hc hn) B hh ?_ (fun o ho g e he => ?_)
  · have : wn (waitS σ h c) h ≤ nc σ := cnt_le _ _
    omega
  · have he : (if o = h ∧ e = c then true else wt σ o e) = true := he
    rw [if_neg (fun z => g z.1)] at he
    exact N o ho e he
/-! making -/
theorem mb_make {h p k a : Nat} {v : Int64} {j n : Nat} (hn : n ≤ nc σ) : mb (makeS σ h p k a v) j n = mb σ j n := by
  unfold mb
  refine cnt_cong fun e he => ?_
  show decide (u1 (mk σ) (nc σ) h e = j) = _
  rw [u1_n _ _ (by omega)]
theorem mb_make2 {h p k a : Nat} {v : Int64} {j : Nat} : mb (makeS σ h p k a v) j (nc σ + 1) = mb σ j (nc σ) + (if h = j then 1 else 0) := by
  rw [mb_s, mb_make (Nat.le_refl _)]
  show _ + (if u1 (mk σ) (nc σ) h (nc σ) = j then 1 else 0) = _
  rw [u1_s]
theorem gc_b (B : WB σ) (w : Wel σ) {h : Nat} (hh : h < 6) : gc σ h ≤ nc σ := by
  rw [(w.2.1 h hh).2.1, gcm_n]
  exact gcn_bd (fun c hc => by have := (wb_c B hc).2.2.1; omega)
theorem wb_make (B : WB σ) (w : Wel σ) {h p k a : Nat} {v : Int64} (hh : h < nh σ) (hp : p < np σ) (hn : nc σ < 400) (hk : k < 8) (ha : a < 64) : WB (makeS σ h p k a v) := by
  have b1 := B.1
  have g := gc_b B w (show h < 6 by omega)
  refine ⟨B.1, B.2.1, hn, B.2.2.2.1, fun c hc => ?_, fun x hx => ⟨(B.2.2.2.2.2 x hx).1, ?_⟩⟩
  · show u1 (mk σ) (nc σ) h c < nh σ ∧ u1 (pg σ) (nc σ) p c < np σ ∧ u1 (ct σ) (nc σ) (1 + gc σ h) c ≤ c + 1 ∧ 1 ≤ u1 (ct σ) (nc σ) (1 + gc σ h) c ∧ u1 (ac σ) (nc σ) k c < 8 ∧ u1 (ax σ) (nc σ) a c < 64
    have hc : c < nc σ + 1 := hc
    by_cases e : c = nc σ
    · subst e; simp only [u1_s]; omega
    · simp only [u1_n _ _ e]; exact wb_c B (by omega)
  · show u1 (md σ) h (md σ h + 1) x ≤ 400
    by_cases e : x = h
    · subst e
      rw [u1_s, (w.2.1 x hx).1]
      have : mb σ x (nc σ) ≤ nc σ := cnt_le _ _
      omega
    · rw [u1_n _ _ e]; exact (B.2.2.2.2.2 x hx).2
theorem wel_make (B : WB σ) (w : Wel σ) {h p k a : Nat} {v : Int64} (hh : h < nh σ) (hp : p < np σ) (hu : md σ h ≤ up σ h h) (hk : acg (kin σ p) k = true) : Wel (makeS σ h p k a v) := by
  have b1 := B.1
  have h6 : h < 6 := by omega
  have uu : up σ h h = md σ h := Nat.le_antisymm ((w.2.1 h h6).2.2 h h6) hu
  have hH : ∀ x, x < 6 → ∀ e, has (makeS σ h p k a v) x e = (has σ x e || decide (x = h ∧ e = nc σ)) := fun x hx e => has_make w h6 hx hu e
  have kL : ∀ c, c < nc σ → ∀ j, ku (makeS σ h p k a v) c j = ku σ c j := fun c hc j => if_neg (by omega)
  have kN : ∀ j, ku (makeS σ h p k a v) (nc σ) j = up σ h j := fun j => if_pos rfl
  have cL : ∀ c, c < nc σ → ct (makeS σ h p k a v) c = ct σ c := fun c hc => u1_n _ _ (by omega)
  have cN : ct (makeS σ h p k a v) (nc σ) = 1 + gc σ h := u1_s _ _ _
  have mL : ∀ c, c < nc σ → mk (makeS σ h p k a v) c = mk σ c := fun c hc => u1_n _ _ (by omega)
  have mN : mk (makeS σ h p k a v) (nc σ) = h := u1_s _ _ _
  have uG : ∀ x j, up σ x j ≤ up (makeS σ h p k a v) x j := fun x j => by
    show up σ x j ≤ (if x = h ∧ j = h then md σ h + 1 else up σ x j)
    split
    · rename_i g; rw [g.1, g.2]; omega
    · exact Nat.le_refl _
  refine ⟨fun c hc => ?_, fun x hx => ⟨?_, ?_, fun j hj => ?_⟩, fun x hx c hc j hj => ?_, fun c hc e he => ?_, fun x hx c hc => ?_, fun x hx hx2 => ?_, fun c hc => ?_⟩
  · have hc : c < nc σ + 1 := hc
    by_cases e : c = nc σ
    · subst e
      rw [mN, mb_make (Nat.le_refl _), kN]
      refine ⟨?_, fun j hj => ?_, ?_⟩
      · show u1 (od σ) (nc σ) (md σ h + 1) (nc σ) = _
        rw [u1_s, (w.2.1 h h6).1]; omega
      · rw [kN, mb_make (Nat.le_refl _)]; exact w_up w h6 hj
      · rw [uu, (w.2.1 h h6).1]
    · have hc : c < nc σ := by omega
      have q := w.1 c hc
      rw [mL c hc, mb_make (by omega), kL c hc]
      refine ⟨?_, fun j hj => ?_, q.2.2⟩
      · show u1 (od σ) (nc σ) (md σ h + 1) c = _
        rw [u1_n _ _ e]; exact q.1
      · rw [kL c hc, mb_make (by omega)]; exact q.2.1 j hj
  · show u1 (md σ) h (md σ h + 1) x = mb (makeS σ h p k a v) x (nc σ + 1)
    rw [mb_make2]
    by_cases e : x = h
    · subst e; rw [u1_s, if_pos rfl, (w.2.1 x hx).1]
    · rw [u1_n _ _ e, if_neg (fun z => e z.symm), (w.2.1 x hx).1]; rfl
  · rw [gcm_n]
    show u1 (gc σ) h (1 + gc σ h) x = gcn (has (makeS σ h p k a v) x) (ct (makeS σ h p k a v)) (nc σ + 1)
    have e0 : gcn (has (makeS σ h p k a v) x) (ct (makeS σ h p k a v)) (nc σ) = gc σ x := by
      rw [(w.2.1 x hx).2.1, gcm_n]
      exact gcn_cong (fun e he => ⟨by rw [hH x hx]; have : ¬ (x = h ∧ e = nc σ) := fun z => by omega
                                      simp [this], cL e he⟩)
    rw [gcn_s, e0, hH x hx, cN]
    by_cases e : x = h
    · subst e; rw [u1_s, if_pos (by simp)]; omega
    · have q : has σ x (nc σ) = false := by
        unfold has; simp
      rw [u1_n _ _ e, if_neg (by simp [e, q])]
  · show (if x = h ∧ j = h then md σ h + 1 else up σ x j) ≤ u1 (md σ) h (md σ h + 1) j
    by_cases g : x = h ∧ j = h
    · rw [if_pos g, g.2, u1_s]; omega
    · rw [if_neg g]
      have := (w.2.1 x hx).2.2 j hj
      by_cases e : j = h
      · rw [e, u1_s]; rw [e] at this; omega
      · rw [u1_n _ _ e]; exact this
  · rw [hH x hx, Bool.or_eq_true, decide_eq_true_eq] at hc
    rcases hc with q | ⟨q1, q2⟩
    · have hc := (has_iff.mp q).1
      rw [kL c hc]
      exact Nat.le_trans (w.2.2.1 x hx c q j hj) (uG x j)
    · rw [q2, kN, q1]; exact uG h j
  · have hc : c < nc σ + 1 := hc
    by_cases g : c = nc σ
    · subst g
      have he2 : has σ h e = true := by
        have : kn (make1 σ h p k a v) (nc σ) e = has σ h e := kn_make2 e
        rw [← this]; exact he
      have q := has_iff.mp he2
      rw [cN, cL e q.1]
      refine ⟨?_, fun j hj => ?_⟩
      · have := gcn_le (f := ct σ) q.1 he2
        rw [← gcm_n, ← (w.2.1 h h6).2.1] at this
        omega
      · rw [kL e q.1, kN]; exact w.2.2.1 h h6 e he2 j hj
    · have hc : c < nc σ := by omega
      have he2 : kn σ c e = true := by
        have : kn (make1 σ h p k a v) c e = kn σ c e := kn_make1 hc e
        rw [← this]; exact he
      have hl := (kn_iff.mp he2).1
      have q := w.2.2.2.1 c hc e he2
      rw [cL c hc, cL e (by omega)]
      exact ⟨q.1, fun j hj => by rw [kL c hc, kL e (by omega)]; exact q.2 j hj⟩
  · have q := w.2.2.2.2.1 x hx c hc
    refine ⟨Nat.lt_succ_of_lt q.1, q.2.1, ?_⟩
    rw [hH x hx, q.2.2]
    have : ¬ (x = h ∧ c = nc σ) := fun z => by omega
    simp [this]
  · have q := w.2.2.2.2.2.1 x hx hx2
    have g : x ≠ h := by have : nh σ ≤ x := hx
                         omega
    exact ⟨fun j hj => (if_neg (fun z => g z.1)).trans (q.1 j hj), q.2⟩
  · show acg (kin σ (u1 (pg σ) (nc σ) p c)) (u1 (ac σ) (nc σ) k c) = true
    have hc : c < nc σ + 1 := hc
    by_cases e : c = nc σ
    · subst e; rw [u1_s, u1_s]; exact hk
    · rw [u1_n _ _ e, u1_n _ _ e]; exact w.2.2.2.2.2.2 c (by omega)
theorem nrd_make (B : WB σ) (w : Wel σ) (N : Nrd σ) {h p k a : Nat} {v : Int64} (hh : h < nh σ) (hu : md σ h ≤ up σ h h) : Nrd (makeS σ h p k a v) := by
  have b1 := B.1
  intro x hx c hc q
  have hl := (w.2.2.2.2.1 x hx c hc).1
  apply N x hx c hc
  intro j hj
  have := q j hj
  have this : (if c = nc σ then up σ h j else ku σ c j) ≤ (if x = h ∧ j = h then md σ h + 1 else up σ x j) := this
  rw [if_neg (by omega)] at this
  by_cases g : x = h ∧ j = h
  · have h1 := (w.1 c hl).2.1 j hj
    have h2 := mb_mono σ j (Nat.le_of_lt hl)
    rw [← (w.2.1 j hj).1] at h2
    rw [g.2] at h1 h2 ⊢
    rw [g.1]
    omega
  · rwa [if_neg g] at this
/-! losing, new HANDS and PAGES -/
theorem has_lose (w : Wel σ) {h : Nat} (x e : Nat) : has (loseS σ h) x e = (if x = h then false else has σ x e) := by
  rw [Bool.eq_iff_iff, has_iff]
  show (e < nc σ ∧ od σ e ≤ (if x = h then 0 else up σ x (mk σ e))) ↔ _
  by_cases g : x = h
  · rw [if_pos g, if_pos g]
    constructor
    · rintro ⟨q1, q2⟩
      have := w_od w q1
      omega
    · intro q; cases q
  · rw [if_neg g, if_neg g, has_iff]
theorem wel_lose (B : WB σ) (w : Wel σ) {h : Nat} (hh : h < nh σ) : Wel (loseS σ h) := by
  have b1 := B.1
  have hH := has_lose w (h := h)
  refine ⟨w.1, fun x hx => ⟨(w.2.1 x hx).1, ?_, fun k hk => ?_⟩, fun x hx c hc k hk => ?_, w.2.2.2.1, fun x hx c hc => ?_, fun x hx hx2 => ?_, w.2.2.2.2.2.2⟩
  · rw [gcm_n]
    show u1 (gc σ) h 0 x = gcn (has (loseS σ h) x) (ct σ) (nc σ)
    by_cases g : x = h
    · subst g
      rw [u1_s, gcn_cong (q := fun _ => false) (g := ct σ) (fun e he => ⟨by rw [hH, if_pos rfl], rfl⟩)]
      generalize nc σ = n
      induction n with
      | zero => rfl
      | succ n ih => rw [gcn_s, if_neg (by decide)]; exact ih
    · rw [u1_n _ _ g, (w.2.1 x hx).2.1, gcm_n]
      exact gcn_cong (fun e he => ⟨by rw [hH, if_neg g], rfl⟩)
  · show (if x = h then 0 else up σ x k) ≤ md σ k
    split
    · exact Nat.zero_le _
    · exact (w.2.1 x hx).2.2 k hk
  · rw [hH] at hc
    by_cases g : x = h
    · rw [if_pos g] at hc; cases hc
    · rw [if_neg g] at hc
      show ku σ c k ≤ (if x = h then 0 else up σ x k)
      rw [if_neg g]; exact w.2.2.1 x hx c hc k hk
  · have hc : (if x = h then false else wt σ x c) = true := hc
    by_cases g : x = h
    · rw [if_pos g] at hc; cases hc
    · rw [if_neg g] at hc
      have q := w.2.2.2.2.1 x hx c hc
      exact ⟨q.1, q.2.1, by rw [hH, if_neg g]; exact q.2.2⟩
  · have q := w.2.2.2.2.2.1 x hx hx2
    have g : x ≠ h := by have : nh σ ≤ x := hx
                         omega
    exact ⟨fun k hk => (if_neg g).trans (q.1 k hk), q.2.1, fun p hp => (if_neg g).trans (q.2.2.1 p hp), q.2.2.2⟩
theorem nrd_lose (N : Nrd σ) {h : Nat} : Nrd (loseS σ h) := by
  intro x hx c hc q
  have hc : (if x = h then false else wt σ x c) = true := hc
  by_cases g : x = h
  · rw [if_pos g] at hc; cases hc
  · rw [if_neg g] at hc
    apply N x hx c hc
    intro k hk
    have := q k hk
    have this : ku σ c k ≤ (if x = h then 0 else up σ x k) := this
    rwa [if_neg g] at this
theorem wel_hand (w : Wel σ) (h0 : nc σ = 0) : Wel (handS σ) := by
  refine ⟨w.1, w.2.1, w.2.2.1, w.2.2.2.1, fun x hx c hc => ?_, fun x hx hx2 => w.2.2.2.2.2.1 x (Nat.le_of_succ_le hx) hx2, w.2.2.2.2.2.2⟩
  have q := w.2.2.2.2.1 x hx c hc
  exact ⟨q.1, Nat.lt_succ_of_lt q.2.1, q.2.2⟩
theorem wb_hand (B : WB σ) (hn : nh σ < 6) (h0 : nc σ = 0) : WB (handS σ) := ⟨hn, B.2.1, B.2.2.1, B.2.2.2.1, fun c hc => absurd (show c < nc σ from hc) (by omega), B.2.2.2.2.2⟩
theorem wb_page (B : WB σ) {k : Nat} (hn : np σ < 10) (hk : k < 8) : WB (pageS σ k) := ⟨B.1, hn, B.2.2.1, fun p hp => by
    show u1 (kin σ) (np σ) k p < 8
    have hp : p < np σ + 1 := hp
    by_cases e : p = np σ
    · rw [e, u1_s]; exact hk
    · rw [u1_n _ _ e]; exact B.2.2.2.1 p (by omega), fun c hc => ⟨(wb_c B hc).1, Nat.lt_succ_of_lt (wb_c B hc).2.1, (wb_c B hc).2.2⟩, B.2.2.2.2.2⟩
theorem wel_page (B : WB σ) (w : Wel σ) {k : Nat} : Wel (pageS σ k) := ⟨w.1, w.2.1, w.2.2.1, w.2.2.2.1, w.2.2.2.2.1, w.2.2.2.2.2.1, fun c hc => by
    show acg (u1 (kin σ) (np σ) k (pg σ c)) (ac σ c) = true
    have := (wb_c B hc).2.1
    rw [u1_n _ _ (by omega)]
    exact w.2.2.2.2.2.2 c hc⟩
/-! leaves and what is kept -/
theorem wel_keep (w : Wel σ) {h p : Nat} {b : Bool} (hh : h < nh σ) : Wel (keepS σ h p b) := ⟨w.1, w.2.1, w.2.2.1, w.2.2.2.1, w.2.2.2.2.1, fun x hx hx2 => by
    have q := w.2.2.2.2.2.1 x hx hx2
    have g : x ≠ h := by have : nh σ ≤ x := hx
                         omega
    exact ⟨q.1, q.2.1, fun y hy => (if_neg (fun z => g z.1)).trans (q.2.2.1 y hy), q.2.2.2⟩, w.2.2.2.2.2.2⟩
theorem wel_lm (w : Wel σ) {h n : Nat} {f : Nat → Nat → Bool} (hh : h < nh σ) : Wel (s_thr (s_lm σ (u1 (lm σ) h n)) f) := ⟨w.1, w.2.1, w.2.2.1, w.2.2.2.1, w.2.2.2.2.1, fun x hx hx2 => by
    have q := w.2.2.2.2.2.1 x hx hx2
    have g : x ≠ h := by have : nh σ ≤ x := hx
                         omega
    exact ⟨q.1, (u1_n _ _ g).trans q.2.1, q.2.2⟩, w.2.2.2.2.2.2⟩
theorem wb_lm (B : WB σ) {h n : Nat} {f : Nat → Nat → Bool} (hn : n ≤ 16) : WB (s_thr (s_lm σ (u1 (lm σ) h n)) f) := ⟨B.1, B.2.1, B.2.2.1, B.2.2.2.1, B.2.2.2.2.1, fun x hx => ⟨by
    show u1 (lm σ) h n x ≤ 16
    by_cases e : x = h
    · rw [e, u1_s]; exact hn
    · rw [u1_n _ _ e]; exact (B.2.2.2.2.2 x hx).1, (B.2.2.2.2.2 x hx).2⟩⟩
theorem wel_lf (w : Wel σ) {f : Nat → Nat → Int64} {g : Nat → Nat → Bool} (hf : ∀ x, nh σ ≤ x → x < 6 → ∀ i, i < 16 → f x i = lf σ x i) : Wel (s_lf (s_thr σ g) f) := ⟨w.1, w.2.1, w.2.2.1, w.2.2.2.1, w.2.2.2.2.1, fun x hx hx2 => by
    have q := w.2.2.2.2.2.1 x hx hx2
    exact ⟨q.1, q.2.1, q.2.2.1, fun i hi => (hf x hx hx2 i hi).trans (q.2.2.2 i hi)⟩, w.2.2.2.2.2.2⟩
end
