/-! the best of a set; folds from above -/
def bst (bt : Nat → Nat → Bool) (P : Nat → Bool) (N : Nat) (r : Option Nat) : Prop := match r with
  | none => ∀ c, c < N → P c = false
  | some b => b < N ∧ P b = true ∧ ∀ c, c < N → P c = true → c = b ∨ bt b c = true
theorem bst_u {bt : Nat → Nat → Bool} {P : Nat → Bool} {N : Nat} (has : ∀ a b, bt a b = true → bt b a = false) : ∀ {r s : Option Nat}, bst bt P N r → bst bt P N s → r = s := by
  intro r s h1 h2
  cases r with
  | none =>
    cases s with
    | none => rfl
    | some b => have := h1 b h2.1; rw [h2.2.1] at this; cases this
  | some a =>
    cases s with
    | none => have := h2 a h1.1; rw [h1.2.1] at this; cases this
    | some b =>
      rcases h1.2.2 b h2.1 h2.2.1 with e | e
      · rw [e]
      · rcases h2.2.2 a h1.1 h1.2.1 with g | g
        · rw [g]
        · rw [has a b e] at g; cases g
def bstep (P : Nat → Bool) (rep : Nat → Nat → Bool) (c : Nat) (a : Option Nat) : Option Nat := if P c then (match a with
  | none => some c
  | some b => if rep b c then some c else a) else a
/-- the set seen so far: any of those that M names -/
theorem bst_add {bt : Nat → Nat → Bool} {P M M2 : Nat → Bool} {rep : Nat → Nat → Bool} {N c : Nat} (htr : ∀ a b c, bt a b = true → bt b c = true → bt a c = true) (hc : c < N) (hM : ∀ e, M2 e = (M e || decide (e = c))) (hrep : ∀ b, b < N → b ≠ c → P b = true → P c = true → (rep b c = true → bt c b = true) ∧ (rep b c = false → bt b c = true)) (hn : M c = false) {r : Option Nat} (h : bst bt (fun e => P e && M e) N r) : bst bt (fun e => P e && M2 e) N (bstep P rep c r) := by
  unfold bstep
  cases hp : P c with
  | false =>
    rw [if_neg (by decide)]
    have e : (fun e => P e && M2 e) = (fun e => P e && M e) := by
      funext e
      rw [hM e]
      by_cases g : e = c
      · subst g; rw [hp]; rfl
      · simp [g]
    rw [e]; exact h
  | true =>
    rw [if_pos rfl]
    cases r with
    | none =>
      refine ⟨hc, by simp [hp, hM], fun e he hpe => ?_⟩
      have := h e he
      simp only [hM e] at hpe
      by_cases g : e = c
      · exact Or.inl g
      · simp [g] at hpe this; rw [this hpe.1] at hpe; cases hpe.2
    | some b =>
      obtain ⟨h1, h2, h3⟩ := h
      have hb : P b = true ∧ M b = true := by simpa using h2
      have hbc : b ≠ c := fun e => by rw [e, hn] at hb; cases hb.2
      have q := hrep b h1 hbc hb.1 hp
      cases hr : rep b c with
      | true =>
        show bst bt _ N (if rep b c = true then some c else some b)
        rw [hr, if_pos rfl]
        refine ⟨hc, by simp [hp, hM], fun e he hpe => ?_⟩
        by_cases g : e = c
        · exact Or.inl g
        · right
          rcases h3 e he (by simpa [hM e, g] using hpe) with k | k
          · rw [k]; exact q.1 hr
          · exact htr _ _ _ (q.1 hr) k
      | false =>
        show bst bt _ N (if rep b c = true then some c else some b)
        rw [hr, if_neg (by decide)]
        refine ⟨h1, by simp [hb.1, hb.2, hM], fun e he hpe => ?_⟩
        by_cases g : e = c
        · right; rw [g]; exact q.2 hr
        · exact h3 e he (by simpa [hM e, g] using hpe)
theorem bst_c {bt : Nat → Nat → Bool} {P Q : Nat → Bool} {N : Nat} (h : ∀ e, e < N → P e = Q e) {r : Option Nat} (g : bst bt P N r) : bst bt Q N r := by
  cases r with
  | none => exact fun c hc => (h c hc).symm.trans (g c hc)
  | some b => exact ⟨g.1, (h b g.1).symm.trans g.2.1, fun c hc hp => g.2.2 c hc ((h c hc).trans hp)⟩
theorem bst_fo {bt : Nat → Nat → Bool} {P : Nat → Bool} {rep : Nat → Nat → Bool} {N : Nat} (htr : ∀ a b c, bt a b = true → bt b c = true → bt a c = true) (hrep : ∀ b c, b < N → c < N → b ≠ c → P b = true → P c = true → (rep b c = true → bt c b = true) ∧ (rep b c = false → bt b c = true)) : bst bt P N (fo (bstep P rep) none N) := by
  have key : ∀ n, n ≤ N → bst bt (fun e => P e && decide (e < n)) N (fo (bstep P rep) none n) := by
    intro n
    induction n with
    | zero => intro _ c _; simp
    | succ n ih =>
      intro hn
      rw [fo_s]
      exact bst_add htr (show n < N by omega) (fun e => by rw [Bool.eq_iff_iff]; simp; omega) (fun b hb hbc h1 h2 => hrep b n hb (by omega) hbc h1 h2) (by simp) (ih (by omega))
  exact bst_c (fun e he => by simp [he]) (key N (Nat.le_refl _))
def fdn {A : Type} (step : Nat → A → A) (a : A) : Nat → A
  | 0 => a
  | n + 1 => fdn step (step n a) n
theorem fdn_s {A : Type} (step : Nat → A → A) (a : A) (n : Nat) : fdn step a (n + 1) = fdn step (step n a) n := rfl
theorem bst_fdn {bt : Nat → Nat → Bool} {P : Nat → Bool} {rep : Nat → Nat → Bool} {N : Nat} (htr : ∀ a b c, bt a b = true → bt b c = true → bt a c = true) (hrep : ∀ b c, b < N → c < N → b ≠ c → P b = true → P c = true → (rep b c = true → bt c b = true) ∧ (rep b c = false → bt b c = true)) : bst bt P N (fdn (bstep P rep) none N) := by
  have key : ∀ n r, n ≤ N → bst bt (fun e => P e && decide (n ≤ e)) N r → bst bt P N (fdn (bstep P rep) r n) := by
    intro n
    induction n with
    | zero => intro r _ h; exact bst_c (fun e he => by simp) h
    | succ n ih =>
      intro r hn h
      rw [fdn_s]
      exact ih _ (by omega) (bst_add htr (show n < N by omega) (fun e => by rw [Bool.eq_iff_iff]; simp; omega) (fun b hb hbc h1 h2 => hrep b n hb (by omega) hbc h1 h2) (by simp) h)
  exact key N none (Nat.le_refl _) (fun c hc => by simp; omega)
theorem fdn_cong {A : Type} {s1 s2 : Nat → A → A} : ∀ {n : Nat} {a : A}, (∀ c a, c < n → s1 c a = s2 c a) → fdn s1 a n = fdn s2 a n := by
  intro n
  induction n with
  | zero => intro a _; rfl
  | succ n ih => intro a h; rw [fdn_s, fdn_s, h n a (by omega)]; exact ih (fun c a hc => h c a (by omega))
theorem fo_cong {A : Type} {s1 s2 : Nat → A → A} {a : A} : ∀ {n : Nat}, (∀ c a, c < n → s1 c a = s2 c a) → fo s1 a n = fo s2 a n := by
  intro n
  induction n with
  | zero => intro _; rfl
  | succ n ih => intro h; rw [fo_s, fo_s, ih (fun c a hc => h c a (by omega)), h n _ (by omega)]
theorem fdn_cnt (p : Nat → Bool) : ∀ n a, fdn (fun c a => if p c then a + 1 else a) a n = a + cnt p n := by
  intro n
  induction n with
  | zero => intro a; rfl
  | succ n ih => intro a; rw [fdn_s, ih, cnt_s]; split <;> omega
def sm (g : Nat → Int64) : Nat → Int64
  | 0 => 0
  | n + 1 => sm g n + g n
theorem sm_s (g : Nat → Int64) (n : Nat) : sm g (n + 1) = sm g n + g n := rfl
theorem sm_cong {g f : Nat → Int64} : ∀ {n : Nat}, (∀ c, c < n → g c = f c) → sm g n = sm f n := by
  intro n
  induction n with
  | zero => intro _; rfl
  | succ n ih => intro h; rw [sm_s, sm_s, ih (fun c hc => h c (by omega)), h n (by omega)]
theorem fo_sm (g : Nat → Int64) : ∀ n, fo (fun c s => s + g c) 0 n = sm g n := by
  intro n
  induction n with
  | zero => rfl
  | succ n ih => rw [fo_s, ih]; rfl
theorem fdn_sm (g : Nat → Int64) : ∀ n a, fdn (fun c s => s + g c) a n = a + sm g n := by
  intro n
  induction n with
  | zero => intro a; exact (Int64.add_zero a).symm
  | succ n ih => intro a; rw [fdn_s, ih, sm_s, Int64.add_assoc, Int64.add_comm (g n)]
/-! HEADS, and what a COPY tells -/
def hdB (σ : St) (h p c : Nat) : Bool := onB σ h p c 0 && !knw σ h p c 0
def flo (σ : St) (f : Option Nat) (c : Nat) : Bool := match f with
  | none => true
  | some b => aft σ c b
def nxh (σ : St) (h p : Nat) (f : Option Nat) : Option Nat := fo (bstep (fun c => hdB σ h p c && flo σ f c) (fun b c => aft σ b c)) none (nc σ)
def hdk (σ : St) (h p : Nat) : Nat → Option Nat
  | 0 => nxh σ h p none
  | k + 1 => match hdk σ h p k with
    | none => none
    | some b => nxh σ h p (some b)
def hdn (σ : St) (h p : Nat) : Nat := cnt (hdB σ h p) (nc σ)
def tln (σ : St) (h p : Nat) : Nat := if kin σ p = 4 then 3 + hdn σ h p else if kin σ p = 0 ∨ kin σ p = 1 ∨ kin σ p = 2 then 2 else if kin σ p = 5 then 8 else if kin σ p = 3 then 64 else 3
def oL (a : Option Nat) : Int64 := (oc a).toInt64
def tv (σ : St) (a : Option Nat) : Int64 := match a with
  | none => 0
  | some c => vl σ c
def tlv (σ : St) (h p k : Nat) : Int64 :=
  if kin σ p = 0 ∨ kin σ p = 1 ∨ kin σ p = 4 then (if k = 0 then oL (tel σ h p) else if k = 1 then tv σ (tel σ h p) else if k = 2 then (nI (hdn σ h p)).toInt64 else oL (hdk σ h p (k - 3)))
  else if kin σ p = 2 ∨ kin σ p = 5 then (if k = 0 then sumS σ h p else if k = 1 then (nI (mny σ h p)).toInt64 else rgt σ h p (k - 2))
  else if kin σ p = 3 then (nI (cin σ h p k)).toInt64
  else (if k = 0 then (bI (upB σ h p)).toInt64 else if k = 1 then (nI (mdo σ h p 6)).toInt64 else (nI (mdo σ h p 7)).toInt64)
def alB (σ : St) (p h o : Nat) : Bool := decide (tln σ h p = tln σ o p) && !anyN (fun k => !decide (tlv σ h p k = tlv σ o p k)) (tln σ h p)
def dgT (σ : St) (h p : Nat) (a : Int64) : Int64 := fo (fun k a => 31 * a + tlv σ h p k) a (tln σ h p)
def dgL (σ : St) (h : Nat) (a : Int64) : Int64 := fo (fun i a => if thr σ h i then 31 * (31 * a + 1) + lf σ h i else 31 * a - 1) a (lm σ h)
def dg5 (σ : St) (h : Nat) : Int64 := 31 * (31 * (31 * (31 * (31 * 17 + (nI (sm6 (up σ h))).toInt64) + (nI (cnt (wt σ h) (nc σ))).toInt64) + (nI (gc σ h)).toInt64) + (nI (up σ h h)).toInt64) + (nI (md σ h)).toInt64
def dgP (σ : St) (h : Nat) (a : Int64) : Int64 := fo (fun p a => dgT σ h p (31 * (31 * a + (nI (kin σ p)).toInt64) + (if skp σ h p then 0 else 1))) a (np σ)
def dgV (σ : St) (a1 : Int32) : Int64 := if inN a1 (nh σ) then dgL σ (cl a1) (dgP σ (cl a1) (dg5 σ (cl a1))) else 0
def headsV (σ : St) (a1 a2 : Int32) : Int32 × St := gte (needG σ true a1 a2 4) (nI (hdn σ (cl a1) (cl a2)), σ)
def headV (σ : St) (a1 a2 a3 : Int32) : Int32 × St := gte (needG σ true a1 a2 4) (if inN a3 (hdn σ (cl a1) (cl a2)) then (match hdk σ (cl a1) (cl a2) (cl a3) with
  | some c => (nI c, s_ask σ (vl σ c))
  | none => (-3, mtS σ 2)) else (-3, mtS σ 2))
def alikeV (σ : St) (a1 a2 a3 : Int32) : Int32 := if inN a1 (np σ) && (inN a2 (nh σ) && inN a3 (nh σ)) then bI (alB σ (cl a1) (cl a2) (cl a3)) else -1
/-- what comes: include one READY CHANGE after the other, the least STAMP first -/
def run (h : Nat) : Nat → St → Nat → Nat × St
  | 0, σ, n => (n, σ)
  | f + 1, σ, n => match nxr σ h with
    | none => (n, σ)
    | some c => run h f (inclS σ h c) (n + 1)
def comS (σ : St) (h c : Nat) : Nat × St := run h 401 (waitS σ h c) 0
def comV (σ : St) (a1 a2 : Int32) : Int32 × St := if inN a1 (nh σ) && inN a2 (nc σ) then (if has σ (cl a1) (cl a2) then (2, σ) else (nI (10 + (comS σ (cl a1) (cl a2)).1), (comS σ (cl a1) (cl a2)).2)) else (-1, σ)
/-- the least that one lacks of another's -/
def lck (σ : St) (h o : Nat) : Option Nat := fo (bstep (fun c => has σ h c && !has σ o c) (fun b c => aft σ b c)) none (nc σ)
def meetR (h o : Nat) : Nat → St → Nat → Nat × St
  | 0, σ, n => (n, σ)
  | f + 1, σ, n => match lck σ h o with
    | none => (n, σ)
    | some c => meetR h o f (comS σ o c).2 (n + 1)
def meetV (σ : St) (a1 a2 a3 : Int32) : Int32 × St := if inN a1 (nh σ) && (inN a2 (nh σ) && (!decide (a1 = a2) && decide (0 ≤ a3.toInt))) then (nI (meetR (cl a1) (cl a2) (min (cl a3) 401) σ 0).1, (meetR (cl a1) (cl a2) (min (cl a3) 401) σ 0).2) else (-1, σ)
section
variable {σ : St}
theorem aft_bt (c e f : Nat) (h : aft σ e c = true) (h2 : aft σ f e = true) : aft σ f c = true := aft_tr h2 h
theorem aft_rep (w : Wel σ) {b c : Nat} (hb : b < nc σ) (hc : c < nc σ) (hn : b ≠ c) : (aft σ b c = true → aft σ b c = true) ∧ (aft σ b c = false → aft σ c b = true) := ⟨id, fun h => (aft_tot w hb hc h).elim (fun e => absurd e hn) id⟩
/-- least by STAMP: bt b c is aft c b -/
theorem lst_fo (w : Wel σ) (P : Nat → Bool) : bst (fun b c => aft σ c b) P (nc σ) (fo (bstep P (fun b c => aft σ b c)) none (nc σ)) :=
  bst_fo (fun a b c h1 h2 => aft_bt a b c h1 h2) (fun b c hb hc hn _ _ => aft_rep w hb hc hn)
theorem lst_u (P : Nat → Bool) {r s : Option Nat} (h1 : bst (fun b c => aft σ c b) P (nc σ) r) (h2 : bst (fun b c => aft σ c b) P (nc σ) s) : r = s := bst_u (fun a b h => aft_asy h) h1 h2
theorem nxh_b (w : Wel σ) (h p : Nat) (f : Option Nat) : bst (fun b c => aft σ c b) (fun c => hdB σ h p c && flo σ f c) (nc σ) (nxh σ h p f) := lst_fo w _
theorem lck_b (w : Wel σ) (h o : Nat) : bst (fun b c => aft σ c b) (fun c => has σ h c && !has σ o c) (nc σ) (lck σ h o) := lst_fo w _
theorem nxr_b (w : Wel σ) (h : Nat) : bst (fun b c => aft σ c b) (fun c => wt σ h c && sub4 (kn σ c) (has σ h)) (nc σ) (nxr σ h) := lst_fo w _
theorem tel_b (w : Wel σ) (h p : Nat) : bst (fun b c => if kin σ p = 1 then aft σ c b else aft σ b c) (fun c => onB σ h p c 0) (nc σ) (tel σ h p) := by
  have e : tel σ h p = fo (bstep (fun c => onB σ h p c 0) (fun b c => !decide (aft σ c b = decide (kin σ p = 1)))) none (nc σ) := by
    unfold tel
    refine fo_cong fun c a hc => ?_
    show _ = (if onB σ h p c 0 = true then (match a with
      | none => some c
      | some b => if (!decide (aft σ c b = decide (kin σ p = 1))) = true then some c else a) else a)
    cases onB σ h p c 0 with
    | false => rfl
    | true =>
      cases a with
      | none => rfl
      | some b =>
        by_cases g : aft σ c b = decide (kin σ p = 1)
        · simp [g]
        · simp [g]
  rw [e]
  refine bst_fo (fun a b c h1 h2 => ?_) (fun b c hb hc hn _ _ => ?_)
  · by_cases k : kin σ p = 1
    · simp only [k, if_true] at h1 h2 ⊢; exact aft_tr h2 h1
    · simp only [k, if_false] at h1 h2 ⊢; exact aft_tr h1 h2
  · by_cases k : kin σ p = 1
    · simp only [k, if_true, decide_true]
      constructor
      · intro h1
        have : aft σ c b = false := by simpa using h1
        exact (aft_tot w hc hb this).elim (fun e => absurd e.symm hn) id
      · intro h1
        simpa using h1
    · simp only [k, if_false, decide_false]
      constructor
      · intro h1
        simpa using h1
      · intro h1
        have : aft σ c b = false := by simpa using h1
        exact (aft_tot w hc hb this).elim (fun e => absurd e.symm hn) id
end
