/-! what always holds of a state, and what follows -/
def mb (σ : St) (k n : Nat) : Nat := cnt (fun e => decide (mk σ e = k)) n
theorem mb_s (σ : St) (k n : Nat) : mb σ k (n + 1) = mb σ k n + (if mk σ n = k then 1 else 0) := by
  unfold mb; rw [cnt_s]; by_cases h : mk σ n = k <;> simp [h]
theorem cnt_mono (p : Nat → Bool) {n m : Nat} (h : n ≤ m) : cnt p n ≤ cnt p m := by
  induction m with
  | zero => have : n = 0 := by omega
            subst this; exact Nat.le_refl _
  | succ m ih =>
    by_cases e : n = m + 1
    · subst e; exact Nat.le_refl _
    · have := ih (by omega); rw [cnt_s]; omega
theorem mb_mono (σ : St) (k : Nat) {n m : Nat} (h : n ≤ m) : mb σ k n ≤ mb σ k m := cnt_mono _ h
theorem mb_lt (σ : St) {k e n : Nat} (h : e < n) (hk : mk σ e = k) : mb σ k e + 1 ≤ mb σ k n := by
  have h1 := mb_mono σ k (show e + 1 ≤ n from h)
  rw [mb_s, if_pos hk] at h1
  exact h1
/-- which acts a KIND allows -/
def acg (k a : Nat) : Bool := if k = 2 ∨ k = 5 then decide (a = 1 ∨ a = 4 ∨ a = 5) else if k = 3 then decide (a = 2 ∨ a = 3) else if k = 6 ∨ k = 7 then decide (a = 6 ∨ a = 7) else decide (a = 0)
def Wel (σ : St) : Prop :=
  (∀ c, c < nc σ → od σ c = 1 + mb σ (mk σ c) c ∧ (∀ k, k < 6 → ku σ c k ≤ mb σ k c) ∧ ku σ c (mk σ c) = mb σ (mk σ c) c) ∧
  (∀ h, h < 6 → md σ h = mb σ h (nc σ) ∧ gc σ h = gcm σ h ∧ ∀ k, k < 6 → up σ h k ≤ md σ k) ∧
  (∀ h, h < 6 → ∀ c, has σ h c = true → ∀ k, k < 6 → ku σ c k ≤ up σ h k) ∧
  (∀ c, c < nc σ → ∀ e, kn σ c e = true → ct σ e < ct σ c ∧ ∀ k, k < 6 → ku σ e k ≤ ku σ c k) ∧
  (∀ h, h < 6 → ∀ c, wt σ h c = true → c < nc σ ∧ h < nh σ ∧ has σ h c = false) ∧
  (∀ h, nh σ ≤ h → h < 6 → (∀ k, k < 6 → up σ h k = 0) ∧ lm σ h = 0 ∧ (∀ p, p < 10 → skp σ h p = false) ∧ ∀ i, i < 16 → lf σ h i = 0) ∧
  (∀ c, c < nc σ → acg (kin σ (pg σ c)) (ac σ c) = true)
def rdy (σ : St) (h c : Nat) : Prop := ∀ k, k < 6 → ku σ c k ≤ up σ h k
/-- what waits is not READY -/
def Nrd (σ : St) : Prop := ∀ h, h < 6 → ∀ c, wt σ h c = true → ¬ rdy σ h c
theorem ex_own (σ : St) (k : Nat) : ∀ n u, 1 ≤ u → u ≤ mb σ k n → ∃ c, c < n ∧ mk σ c = k ∧ 1 + mb σ k c = u := by
  intro n
  induction n with
  | zero => intro u h1 h2; have : mb σ k 0 = 0 := rfl
            omega
  | succ n ih =>
    intro u h1 h2
    by_cases h3 : u ≤ mb σ k n
    · obtain ⟨c, g1, g2, g3⟩ := ih u h1 h3
      exact ⟨c, by omega, g2, g3⟩
    · rw [mb_s] at h2
      by_cases h4 : mk σ n = k
      · rw [if_pos h4] at h2
        exact ⟨n, by omega, h4, by omega⟩
      · rw [if_neg h4] at h2; omega
theorem cnt_up (σ : St) (k u : Nat) : ∀ n, cnt (fun c => decide (mk σ c = k) && decide (1 + mb σ k c ≤ u)) n = min u (mb σ k n) := by
  intro n
  induction n with
  | zero => show 0 = min u 0; omega
  | succ n ih =>
    rw [cnt_s, ih, mb_s]
    by_cases h : mk σ n = k
    · by_cases h2 : 1 + mb σ k n ≤ u
      · simp only [h, h2, decide_true, Bool.and_self, if_true]; omega
      · simp only [h, h2, decide_true, decide_false, Bool.and_false, if_true]; simp only [Bool.false_eq_true, if_false]; omega
    · simp only [h, decide_false, Bool.false_and, if_false, Bool.false_eq_true]; omega
def sm6 (f : Nat → Nat) : Nat := f 0 + f 1 + f 2 + f 3 + f 4 + f 5
theorem sm6_cong {f g : Nat → Nat} (h : ∀ k, k < 6 → f k = g k) : sm6 f = sm6 g := by
  unfold sm6
  rw [h 0 (by omega), h 1 (by omega), h 2 (by omega), h 3 (by omega), h 4 (by omega), h 5 (by omega)]
theorem cnt_sm6 (σ : St) (p : Nat → Bool) : ∀ n, (∀ c, c < n → mk σ c < 6) → cnt p n = sm6 (fun k => cnt (fun c => decide (mk σ c = k) && p c) n) := by
  intro n
  induction n with
  | zero => intro _; rfl
  | succ n ih =>
    intro h
    have h1 := ih (fun c hc => h c (by omega))
    have h2 := h n (by omega)
    rw [cnt_s, h1]
    unfold sm6
    simp only [cnt_s]
    cases hp : p n with
    | false => simp
    | true =>
      have : mk σ n = 0 ∨ mk σ n = 1 ∨ mk σ n = 2 ∨ mk σ n = 3 ∨ mk σ n = 4 ∨ mk σ n = 5 := by omega
      rcases this with e | e | e | e | e | e <;> simp [e] <;> omega
theorem cnt_lt (q : Nat → Bool) (c : Nat) : ∀ n, c ≤ n → cnt (fun e => decide (e < c) && q e) n = cnt q c := by
  intro n
  induction n with
  | zero => intro h; have : c = 0 := by omega
            subst this; rfl
  | succ n ih =>
    intro h
    by_cases e : c = n + 1
    · subst e
      exact cnt_cong (fun k hk => by simp [hk])
    · rw [cnt_s, ih (by omega)]
      simp [show ¬ n < c by omega]
section
variable {σ : St}
theorem w_mk (B : WB σ) {c : Nat} (h : c < nc σ) : mk σ c < 6 := by
  have := (wb_c B h).1; have := B.1; omega
theorem w_od (w : Wel σ) {c : Nat} (h : c < nc σ) : od σ c = 1 + mb σ (mk σ c) c := (w.1 c h).1
theorem has_iff {h c : Nat} : has σ h c = true ↔ c < nc σ ∧ od σ c ≤ up σ h (mk σ c) := by
  unfold has; simp
theorem kn_iff {c e : Nat} : kn σ c e = true ↔ e < c ∧ od σ e ≤ ku σ c (mk σ e) := by
  unfold kn; simp
theorem w_up (w : Wel σ) {h k : Nat} (hh : h < 6) (hk : k < 6) : up σ h k ≤ mb σ k (nc σ) := by
  have h1 := (w.2.1 h hh).2.2 k hk
  rw [(w.2.1 k hk).1] at h1
  exact h1
theorem sub_rdy (B : WB σ) (w : Wel σ) {h c : Nat} (hh : h < 6) (hc : c < nc σ) : sub4 (kn σ c) (has σ h) = true ↔ rdy σ h c := by
  have hB := B.2.2.1
  rw [sub4_iff]
  constructor
  · intro hs k hk
    by_cases h1 : ku σ c k = 0
    · omega
    · obtain ⟨e, g1, g2, g3⟩ := ex_own σ k c (ku σ c k) (by omega) ((w.1 c hc).2.1 k hk)
      have he : od σ e = ku σ c k := by rw [w_od w (by omega), g2, g3]
      have := hs e (by omega) (kn_iff.mpr ⟨g1, by rw [g2, he]; exact Nat.le_refl _⟩)
      rw [has_iff, g2, he] at this
      exact this.2
  · intro hr e he hke
    rw [kn_iff] at hke
    have := w_mk B (show e < nc σ by omega)
    exact has_iff.mpr ⟨by omega, Nat.le_trans hke.2 (hr _ this)⟩
theorem sub_cov (B : WB σ) (w : Wel σ) {h o : Nat} (hh : h < 6) : sub4 (has σ h) (has σ o) = true ↔ ∀ k, k < 6 → up σ h k ≤ up σ o k := by
  have hB := B.2.2.1
  rw [sub4_iff]
  constructor
  · intro hs k hk
    by_cases h1 : up σ h k = 0
    · omega
    · obtain ⟨e, g1, g2, g3⟩ := ex_own σ k (nc σ) (up σ h k) (by omega) (w_up w hh hk)
      have he : od σ e = up σ h k := by rw [w_od w (by omega), g2, g3]
      have := hs e (by omega) (has_iff.mpr ⟨g1, by rw [g2, he]; exact Nat.le_refl _⟩)
      rw [has_iff, g2, he] at this
      exact this.2
  · intro hr e he hke
    rw [has_iff] at hke
    have := w_mk B hke.1
    exact has_iff.mpr ⟨hke.1, Nat.le_trans hke.2 (hr _ this)⟩
theorem size_has (B : WB σ) (w : Wel σ) {h : Nat} (hh : h < 6) : cnt (has σ h) (nc σ) = sm6 (up σ h) := by
  rw [cnt_sm6 σ _ _ (fun c hc => w_mk B hc)]
  refine sm6_cong fun k hk => ?_
  have h1 := cnt_up σ k (up σ h k) (nc σ)
  have h2 := w_up w hh hk
  rw [Nat.min_eq_left h2] at h1
  rw [← h1]
  refine cnt_cong fun c hc => ?_
  unfold has
  by_cases e : mk σ c = k
  · rw [w_od w hc, e]; simp [hc]
  · simp [e]
theorem size_kn (B : WB σ) (w : Wel σ) {c : Nat} (hc : c < nc σ) : cnt (kn σ c) (nc σ) = sm6 (ku σ c) := by
  unfold kn
  rw [cnt_lt _ c (nc σ) (by omega), cnt_sm6 σ _ _ (fun e he => w_mk B (show e < nc σ by omega))]
  refine sm6_cong fun k hk => ?_
  have h1 := cnt_up σ k (ku σ c k) c
  rw [Nat.min_eq_left ((w.1 c hc).2.1 k hk)] at h1
  rw [← h1]
  refine cnt_cong fun e he => ?_
  by_cases g : mk σ e = k
  · rw [w_od w (show e < nc σ by omega), g]
  · simp [g]
theorem own_up (w : Wel σ) {h : Nat} (hh : h < 6) : ownC σ h = up σ h h := by
  have h1 := cnt_up σ h (up σ h h) (nc σ)
  rw [Nat.min_eq_left (w_up w hh hh)] at h1
  rw [← h1]
  unfold ownC
  refine cnt_cong fun c hc => ?_
  unfold has
  by_cases e : mk σ c = h
  · rw [w_od w hc, e]; simp [hc]
  · simp [e]
/-- STAMPS of two CHANGES differ -/
theorem kn_own (w : Wel σ) {c e : Nat} (hc : c < nc σ) (h : e < c) (hm : mk σ e = mk σ c) : kn σ c e = true := by
  rw [kn_iff]
  refine ⟨h, ?_⟩
  rw [w_od w (by omega), hm, (w.1 c hc).2.2]
  have := mb_lt σ h hm
  omega
theorem st_ne (w : Wel σ) {c e : Nat} (hc : c < nc σ) (he : e < nc σ) (h1 : ct σ c = ct σ e) (h2 : mk σ c = mk σ e) : c = e := by
  by_cases h : e < c
  · have := (w.2.2.2.1 c hc e (kn_own w hc h h2.symm)).1; omega
  · by_cases h3 : c < e
    · have := (w.2.2.2.1 e he c (kn_own w he h3 h2)).1; omega
    · omega
theorem aft_iff {c e : Nat} : aft σ c e = true ↔ ct σ e < ct σ c ∨ (ct σ c = ct σ e ∧ mk σ e < mk σ c) := by
  unfold aft; simp
theorem aft_irr (c : Nat) : aft σ c c = false := by
  rw [Bool.eq_false_iff]; intro h; rw [aft_iff] at h; omega
theorem aft_asy {c e : Nat} (h : aft σ c e = true) : aft σ e c = false := by
  rw [Bool.eq_false_iff]; intro h2; rw [aft_iff] at h h2; omega
theorem aft_tr {c e f : Nat} (h : aft σ c e = true) (h2 : aft σ e f = true) : aft σ c f = true := by
  rw [aft_iff] at *; omega
theorem aft_tot (w : Wel σ) {c e : Nat} (hc : c < nc σ) (he : e < nc σ) (h : aft σ c e = false) : c = e ∨ aft σ e c = true := by
  by_cases g : c = e
  · exact Or.inl g
  · refine Or.inr (aft_iff.mpr ?_)
    rw [Bool.eq_false_iff] at h
    have h1 : ¬ (ct σ e < ct σ c ∨ (ct σ c = ct σ e ∧ mk σ e < mk σ c)) := fun q => h (aft_iff.mpr q)
    by_cases e1 : ct σ c = ct σ e
    · have : mk σ c ≠ mk σ e := fun q => g (st_ne w hc he e1 q)
      omega
    · omega
end
/-! the greatest count -/
def gcn (p : Nat → Bool) (f : Nat → Nat) (n : Nat) : Nat := fo (fun c a => if p c && decide (a < f c) then f c else a) 0 n
theorem gcn_s (p : Nat → Bool) (f : Nat → Nat) (n : Nat) : gcn p f (n + 1) = if p n = true then max (gcn p f n) (f n) else gcn p f n := by
  unfold gcn
  rw [fo_s]
  cases h : p n with
  | false => simp
  | true =>
    simp only [Bool.true_and, if_true, decide_eq_true_eq]
    split <;> omega
theorem gcm_n (σ : St) (h : Nat) : gcm σ h = gcn (has σ h) (ct σ) (nc σ) := rfl
theorem gcn_cong {p q : Nat → Bool} {f g : Nat → Nat} : ∀ {n : Nat}, (∀ c, c < n → p c = q c ∧ f c = g c) → gcn p f n = gcn q g n := by
  intro n
  induction n with
  | zero => intro _; rfl
  | succ n ih => intro h; rw [gcn_s, gcn_s, ih (fun c hc => h c (by omega)), (h n (by omega)).1, (h n (by omega)).2]
theorem gcn_ins {p q : Nat → Bool} {f : Nat → Nat} {c : Nat} (hq : ∀ e, q e = (p e || decide (e = c))) : ∀ n, gcn q f n = if c < n then max (gcn p f n) (f c) else gcn p f n := by
  intro n
  induction n with
  | zero => rfl
  | succ n ih =>
    rw [gcn_s, gcn_s, ih, hq n]
    rcases Nat.lt_trichotomy c n with h1 | h1 | h1
    · have e1 : decide (n = c) = false := by simp; omega
      simp only [e1, Bool.or_false, h1, show c < n + 1 by omega, if_true]
      cases p n
      · simp
      · simp only [if_true]; omega
    · subst h1
      simp only [decide_true, Bool.or_true, if_true, Nat.lt_irrefl, if_false, Nat.lt_succ_self]
      cases p c
      · simp
      · simp only [if_true]; omega
    · have e1 : decide (n = c) = false := by simp; omega
      simp only [e1, Bool.or_false, show ¬ c < n by omega, show ¬ c < n + 1 by omega, if_false]
theorem gcn_le {p : Nat → Bool} {f : Nat → Nat} {c : Nat} : ∀ {n : Nat}, c < n → p c = true → f c ≤ gcn p f n := by
  intro n
  induction n with
  | zero => intro h; omega
  | succ n ih =>
    intro h hp
    rw [gcn_s]
    by_cases e : c = n
    · subst e; rw [if_pos hp]; omega
    · have := ih (by omega) hp
      split <;> omega
theorem gcn_bd {p : Nat → Bool} {f : Nat → Nat} {b : Nat} : ∀ {n : Nat}, (∀ c, c < n → f c ≤ b) → gcn p f n ≤ b := by
  intro n
  induction n with
  | zero => intro _; exact Nat.zero_le _
  | succ n ih =>
    intro h
    rw [gcn_s]
    have := ih (fun c hc => h c (by omega))
    have := h n (by omega)
    split <;> omega
