/-! counted loops -/
def fo {A : Type} (step : Nat → A → A) (a : A) : Nat → A
  | 0 => a
  | n + 1 => step n (fo step a n)
theorem fo_s {A : Type} (step : Nat → A → A) (a : A) (n : Nat) : fo step a (n + 1) = step n (fo step a n) := rfl
theorem fo_I {A : Type} {step : Nat → A → A} {a : A} {N : Nat} {I : Nat → A → Prop} (hI : ∀ j a, j < N → I j a → I (j + 1) (step j a)) (h0 : I 0 a) : ∀ j, j ≤ N → I j (fo step a j)
  | 0, _ => h0
  | j + 1, h => hI j _ (by omega) (fo_I hI h0 j (by omega))
theorem lp_for {A β : Type} (F : Nat → A → Int32 → Option β) (fin : A → Option β) (step : Nat → A → A) (N : Nat) (I : Nat → A → Prop) (hI : ∀ j a, j < N → I j a → I (j + 1) (step j a)) (hend : ∀ n a, I N a → F (n + 1) a (nI N) = fin a) (hstep : ∀ n j a, j < N → I j a → F (n + 1) a (nI j) = F n (step j a) (nI (j + 1))) (a : A) (h0 : I 0 a) (n : Nat) (hn : N < n) : F n a (nI 0) = fin (fo step a N) := by
  have key : ∀ m j n, j + m = N → m < n → F n (fo step a j) (nI j) = fin (fo step a N) := by
    intro m
    induction m with
    | zero =>
      intro j n hj hn
      have : j = N := by omega
      subst this
      cases n with
      | zero => omega
      | succ n => exact hend n _ (fo_I hI h0 j (Nat.le_refl _))
    | succ m ih =>
      intro j n hj hn
      cases n with
      | zero => omega
      | succ n =>
        rw [hstep n j _ (by omega) (fo_I hI h0 j (by omega))]
        exact ih (j + 1) n (by omega) (by omega)
  exact key N 0 n (by omega) hn
theorem fo_cnt (p : Nat → Bool) : ∀ n, fo (fun c a => a + (if p c then 1 else 0)) 0 n = cnt p n
  | 0 => rfl
  | n + 1 => by rw [fo_s, fo_cnt p n]; rfl
def anyN (p : Nat → Bool) : Nat → Bool
  | 0 => false
  | n + 1 => anyN p n || p n
theorem anyN_iff (p : Nat → Bool) : ∀ n, anyN p n = true ↔ ∃ k, k < n ∧ p k = true
  | 0 => ⟨fun h => by cases h, fun ⟨k, h, _⟩ => by omega⟩
  | n + 1 => by
    show (anyN p n || p n) = true ↔ _
    rw [Bool.or_eq_true, anyN_iff p n]
    constructor
    · rintro (⟨k, h1, h2⟩ | h)
      · exact ⟨k, by omega, h2⟩
      · exact ⟨n, by omega, h⟩
    · rintro ⟨k, h1, h2⟩
      by_cases hk : k = n
      · subst hk; exact Or.inr h2
      · exact Or.inl ⟨k, by omega, h2⟩
/-! words of the document over the state -/
def isOfB (k kind : Nat) : Bool := k == kind || (kind == 0 && (k == 1 || k == 4)) || (kind == 2 && k == 5) || (kind == 6 && k == 7)
def aft (σ : St) (c e : Nat) : Bool := decide (ct σ e < ct σ c) || (decide (ct σ c = ct σ e) && decide (mk σ e < mk σ c))
def onB (σ : St) (h p c w : Nat) : Bool := decide (pg σ c = p) && (decide (ac σ c = w) && has σ h c)
def ownC (σ : St) (h : Nat) : Nat := cnt (fun c => has σ h c && decide (mk σ c = h)) (nc σ)
def gcm (σ : St) (h : Nat) : Nat := fo (fun c a => if has σ h c && decide (a < ct σ c) then ct σ c else a) 0 (nc σ)
def mny (σ : St) (h p : Nat) : Nat := cnt (fun c => decide (pg σ c = p) && has σ h c) (nc σ)
def mdo (σ : St) (h p w : Nat) : Nat := cnt (fun c => onB σ h p c w) (nc σ)
def sumS (σ : St) (h p : Nat) : Int64 := fo (fun c s => s + (if onB σ h p c 1 then vl σ c else if onB σ h p c 5 then -vl σ c else 0)) 0 (nc σ)
def knw (σ : St) (h p c w : Nat) : Bool := anyN (fun e => onB σ h p e w && kn σ e c) (nc σ)
def cin (σ : St) (h p x : Nat) : Nat := cnt (fun c => (onB σ h p c 2 && decide (ax σ c = x)) && !anyN (fun t => (onB σ h p t 3 && decide (ax σ t = x)) && kn σ t c) (nc σ)) (nc σ)
section
variable {sh : Sh} {d : Dt} {mm : Nat} {σ : St}
theorem m_isAfter (S : MS sh mm) (E : MD d mm) (R : RM σ d mm) (B : WB σ) {c e : Nat} (hc : c < nc σ) (he : e < nc σ) : fX7_isAfter sh d mm (nI c) (nI e) = some (aft σ c e) := by
  have hB := B.2.2.1
  have b1 := B.2.2.2.2.1 c hc
  have b2 := B.2.2.2.2.1 e he
  have r1 := R.2.2.1 c hc
  have r2 := R.2.2.1 e he
  unfold fX7_isAfter fX7_isAfter_b0
  simp only [mg_300 S E, mg_298 S E, bd_v, mA_9 S d (show c < 400 by omega), mA_9 S d (show e < 400 by omega), mA_7 S d (show c < 400 by omega), mA_7 S d (show e < 400 by omega), r1.2.2.1, r2.2.2.1, r1.1, r2.1]
  unfold aft
  rw [nI_ltI (by omega) (by omega), nI_eq (by omega) (by omega), nI_leI (by omega) (by omega)]
  by_cases h1 : ct σ e < ct σ c
  · simp [h1]
  · by_cases h2 : ct σ c = ct σ e
    · by_cases h3 : mk σ c ≤ mk σ e
      · simp [h2, h3, Nat.not_lt.mpr h3]
      · simp [h2, h3, Nat.not_le.mp h3]
    · simp [h1, h2]
theorem m_isOf (S : MS sh mm) (E : MD d mm) (R : RM σ d mm) (B : WB σ) {p : Nat} (hp : p < np σ) {k : Nat} (hk : k < 8) : fX7_isOf sh d mm (nI p) (nI k) = some (isOfB (kin σ p) k) := by
  have hB := B.2.1
  have hkp := B.2.2.2.1 p hp
  unfold fX7_isOf fX7_isOf_b0
  simp only [mg_296 S E, bd_v, mA_6 S d (show p < 10 by omega), R.2.1 p hp]
  generalize kin σ p = q at hkp ⊢
  revert q k
  decide +kernel
theorem m_isOn (S : MS sh mm) (E : MD d mm) (R : RM σ d mm) (B : WB σ) {h p c w : Nat} (hh : h < 6) (hp : p < 2 ^ 30) (hw : w < 8) (hc : c < nc σ) : fX7_isOn sh d mm (nI h) (nI p) (nI c) (nI w) = some (onB σ h p c w) := by
  have hB := B.2.2.1
  have hB2 := B.2.1
  have b1 := B.2.2.2.2.1 c hc
  have r1 := R.2.2.1 c hc
  unfold fX7_isOn fX7_isOn_b0
  simp only [mg_299 S E, mg_301 S E, mg_291 S E, bd_v, mA_8 S d (show c < 400 by omega), mA_10 S d (show c < 400 by omega), r1.2.1, r1.2.2.2.1, m_isIn_has S R hh (show c < 448 by omega)]
  rw [nI_eq (by omega) (by omega), nI_eq (by omega) (by omega)]
  unfold onB
  by_cases h1 : pg σ c = p
  · by_cases h2 : ac σ c = w
    · cases h3 : has σ h c <;> simp [h1, h2, bI]
    · simp [h1, h2]
  · simp [h1]
theorem m_ownOf (S : MS sh mm) (E : MD d mm) (R : RM σ d mm) (B : WB σ) {h : Nat} (hh : h < 6) : fX7_ownOf sh d mm (nI h) = some (nI (ownC σ h)) := by
  have hB := B.2.2.1
  unfold ownC
  rw [← fo_cnt]
  refine lp_for (fun n a x => fX7_ownOf_b4 sh d n mm (nI h) (nI a) x) (fun a => some (nI a)) (fun c a => a + (if (has σ h c && decide (mk σ c = h)) then 1 else 0)) (nc σ) (fun _ _ => True) (fun _ _ _ _ => trivial) ?_ ?_ 0 trivial fu (by show nc σ < 100000; omega)
  · intro n a _
    rw [fX7_ownOf_b4, mi_297 S, bd_v, R.1.2.2.1, if_pos (nI_le (Nat.le_refl _) (by omega))]
  · intro n j a hj _
    have b1 := B.2.2.2.2.1 j hj
    show fX7_ownOf_b4 sh d (n + 1) mm (nI h) (nI a) (nI j) = _
    rw [fX7_ownOf_b4, mi_297 S, bd_v, R.1.2.2.1, if_neg (nI_ge hj (by omega)), mg_291 S E, bd_v, m_isIn_has S R hh (by omega), bd_v, nI_1]
    cases h1 : has σ h j with
    | false => rw [if_pos (show bI false = 0 from rfl)]; rfl
    | true =>
      rw [if_neg (show ¬ bI true = 0 by decide), mg_298 S E, bd_v, bd_v, mA_7 S d (by omega), bd_v, (R.2.2.1 j hj).1]
      have := B.1
      by_cases h2 : mk σ j = h
      · rw [if_pos (by rw [h2]), Bool.true_and, decide_eq_true h2]; rfl
      · rw [if_neg (by rw [nI_eq (by omega) (by omega)]; exact h2), Bool.true_and, decide_eq_false h2]; rfl
theorem gcm_le (B : WB σ) (h : Nat) : ∀ n, n ≤ nc σ → fo (fun c a => if has σ h c && decide (a < ct σ c) then ct σ c else a) 0 n ≤ n + 1
  | 0, _ => Nat.zero_le _
  | n + 1, hn => by
    have ih := gcm_le B h n (by omega)
    have b1 := B.2.2.2.2.1 n (by omega)
    rw [fo_s]
    show (if _ then _ else _) ≤ _
    split <;> omega
theorem m_greatestCount (S : MS sh mm) (E : MD d mm) (R : RM σ d mm) (B : WB σ) {h : Nat} (hh : h < 6) : fX7_greatestCount sh d mm (nI h) = some (nI (gcm σ h)) := by
  have hB := B.2.2.1
  refine lp_for (fun n a x => fX7_greatestCount_b4 sh d n mm (nI h) (nI a) x) (fun a => some (nI a)) (fun c a => if has σ h c && decide (a < ct σ c) then ct σ c else a) (nc σ) (fun j a => a ≤ j + 1) (fun j a hj ha => ?_) ?_ ?_ 0 (by omega) fu (by show nc σ < 100000; omega)
  · have b1 := B.2.2.2.2.1 j hj
    show (if _ then _ else _) ≤ _
    split <;> omega
  · intro n a _
    rw [fX7_greatestCount_b4, mi_297 S, bd_v, R.1.2.2.1, if_pos (nI_le (Nat.le_refl _) (by omega))]
  · intro n j a hj ha
    have b1 := B.2.2.2.2.1 j hj
    show fX7_greatestCount_b4 sh d (n + 1) mm (nI h) (nI a) (nI j) = _
    rw [fX7_greatestCount_b4, mi_297 S, bd_v, R.1.2.2.1, if_neg (nI_ge hj (by omega)), mg_291 S E, bd_v, m_isIn_has S R hh (by omega), bd_v, nI_1]
    cases h1 : has σ h j with
    | false => rw [if_pos (show bI false = 0 from rfl)]; rfl
    | true =>
      rw [if_neg (show ¬ bI true = 0 by decide), mg_300 S E, bd_v, bd_v, mA_9 S d (by omega), bd_v, (R.2.2.1 j hj).2.2.1, bd_v, bd_v, bd_v]
      by_cases h2 : ct σ j ≤ a
      · rw [if_pos (by rw [nI_leI (by omega) (by omega)]; exact h2), Bool.true_and, decide_eq_false (by omega)]; rfl
      · rw [if_neg (by rw [nI_leI (by omega) (by omega)]; exact h2), Bool.true_and, decide_eq_true (by omega)]; rfl
end
