/-! the reference's reads -/
def inN (x : Int32) (n : Nat) : Bool := decide (0 ≤ x.toInt) && decide (x.toInt < (n : Int))
theorem inN_t {x : Int32} {n : Nat} (h : inN x n = true) : ∃ k, k < n ∧ x = nI k := by
  simp only [inN, Bool.and_eq_true, decide_eq_true_eq] at h
  have h0 : ¬ x < 0 := by
    rw [Int32.lt_iff_toInt_lt]; show ¬ x.toInt < 0; omega
  obtain ⟨j, hj, e⟩ := nI_of h0
  refine ⟨j, ?_, e⟩
  rw [e, nI_toInt hj] at h
  omega
theorem inN_nI {k n : Nat} (hk : k < 2 ^ 31) : inN (nI k) n = decide (k < n) := by
  unfold inN
  rw [nI_toInt hk]
  simp only [Int.natCast_nonneg, decide_true, Bool.true_and]
  congr 1
  simp
theorem l_toInt (n : Nat) (h : n < 2 ^ 31) : (nI n).toInt = (n : Int) := nI_toInt h
section
variable {sh : Sh} {d : Dt} {mm : Nat} {σ : St}
theorem m_in (x lo hi : Int32) : fX7_in sh d x lo hi = some (decide (lo.toInt ≤ x.toInt) && decide (x.toInt ≤ hi.toInt)) := by
  unfold fX7_in fX7_in_b0
  by_cases h1 : x < lo
  · rw [if_pos h1]
    rw [Int32.lt_iff_toInt_lt] at h1
    rw [decide_eq_false (by omega)]; rfl
  · rw [if_neg h1]
    rw [Int32.lt_iff_toInt_lt] at h1
    by_cases h2 : hi < x
    · rw [if_pos h2]
      rw [Int32.lt_iff_toInt_lt] at h2
      rw [decide_eq_true (show lo.toInt ≤ x.toInt by omega), decide_eq_false (by omega)]; rfl
    · rw [if_neg h2]
      rw [Int32.lt_iff_toInt_lt] at h2
      rw [decide_eq_true (show lo.toInt ≤ x.toInt by omega), decide_eq_true (show x.toInt ≤ hi.toInt by omega)]; rfl
theorem m_inN (x : Int32) (n : Nat) (hn : n < 2 ^ 30) : fX7_in sh d x 0 (nI n - 1) = some (inN x n) := by
  rw [m_in]
  have h1 : (nI n - 1).toInt = (n : Int) - 1 := pk_sub_toInt (b := 1) hn (by decide)
  rw [h1]
  unfold inN
  congr 1
  congr 1
  simp only [decide_eq_decide]
  omega
theorem m_isHand (S : MS sh mm) (R : RM σ d mm) (B : WB σ) (x : Int32) : fX7_isHand sh d mm x = some (inN x (nh σ)) := by
  unfold fX7_isHand fX7_isHand_b0
  rw [mi_290 S, bd_v, R.1.1, m_inN x _ (by have := B.1; omega)]; rfl
theorem m_isPage (S : MS sh mm) (R : RM σ d mm) (B : WB σ) (x : Int32) : fX7_isPage sh d mm x = some (inN x (np σ)) := by
  unfold fX7_isPage fX7_isPage_b0
  rw [mi_295 S, bd_v, R.1.2.1, m_inN x _ (by have := B.2.1; omega)]; rfl
theorem m_isChange (S : MS sh mm) (R : RM σ d mm) (B : WB σ) (x : Int32) : fX7_isChange sh d mm x = some (inN x (nc σ)) := by
  unfold fX7_isChange fX7_isChange_b0
  rw [mi_297 S, bd_v, R.1.2.2.1, m_inN x _ (by have := B.2.2.1; omega)]; rfl
theorem ix7 {s c : Nat} (hc : c < 448) : (7 : Int32) * nI s + nI c / (64 : Int32) = nI (7 * s + c / 64) := by
  have h1 : nI c / (64 : Int32) = nI (c / 64) := pk_div (d := 64) (by omega) (by decide) (by decide)
  have h2 : (7 : Int32) * nI s = nI (7 * s) := pk_mul 7 s
  rw [h1, h2, nI_add]
theorem md7 {c : Nat} (hc : c < 448) : nI c - nI c / (64 : Int32) * (64 : Int32) = nI (c % 64) := pk_rem (d := 64) (by omega) (by decide) (by decide)
theorem m_isIn0 {a s c : Nat} (h1 : sh.1 a = 21) (h2 : 7 * s + c / 64 < sh.2 a) (h3 : sh.2 a ≤ 2800) (hc : c < 448) : fX7_isIn sh d (some a) (nI s) (nI c) = some (bitL (dal d a (7 * s + c / 64)) (c % 64)) := by
  unfold fX7_isIn fX7_isIn_b0
  rw [bd_v, ix7 hc, aL_v h1 h2 (by omega), bd_v, md7 hc]
  have h4 := bit_test (dal d a (7 * s + c / 64)) (k := c % 64) (by omega)
  cases hb : bitL (dal d a (7 * s + c / 64)) (c % 64) with
  | true => rw [if_pos ((cmp0 _ _).mpr (h4.mpr hb))]
  | false => rw [if_neg (fun q => by rw [hb] at h4; exact absurd (h4.mp ((cmp0 _ _).mp q)) (by decide))]
theorem m_isIn_has (S : MS sh mm) (R : RM σ d mm) {h c : Nat} (hh : h < 6) (hc : c < 448) : fX7_isIn sh d (some (mm + 2)) (nI h) (nI c) = some (has σ h c) := by
  have q := S.2 2 (by decide) (by decide)
  rw [m_isIn0 q.1 (by rw [q.2]; show _ < 42; omega) (by rw [q.2]; decide) hc, R.2.2.2.2.1 h hh c hc]
theorem m_isIn_wt (S : MS sh mm) (R : RM σ d mm) {h c : Nat} (hh : h < 6) (hc : c < 448) : fX7_isIn sh d (some (mm + 3)) (nI h) (nI c) = some (wt σ h c) := by
  have q := S.2 3 (by decide) (by decide)
  rw [m_isIn0 q.1 (by rw [q.2]; show _ < 42; omega) (by rw [q.2]; decide) hc, R.2.2.2.2.2.1 h hh c hc]
theorem m_isIn_kn (S : MS sh mm) (R : RM σ d mm) (B : WB σ) {c e : Nat} (hcc : c < nc σ) (he : e < 448) : fX7_isIn sh d (some (mm + 14)) (nI c) (nI e) = some (kn σ c e) := by
  have q := S.2 14 (by decide) (by decide)
  have := B.2.2.1
  rw [m_isIn0 q.1 (by rw [q.2]; show _ < 2800; omega) (by rw [q.2]; decide) he, R.2.2.2.1 c hcc e he]
/-- size: how many of the CHANGES are in a set -/
theorem m_size_l (S : MS sh mm) (R : RM σ d mm) (B : WB σ) {a : Nat} {s : Int32} {p : Nat → Bool} (hp : ∀ c, c < nc σ → fX7_isIn sh d (some a) s (nI c) = some (p c)) : ∀ (m j n : Nat), j + m = nc σ → m < n → fX7_size_b5 sh d n mm (some a) s (nI (cnt p j)) (nI j) = some (nI (cnt p (nc σ))) := by
  have hB := B.2.2.1
  intro m
  induction m with
  | zero =>
    intro j n hj hn
    cases n with
    | zero => omega
    | succ n =>
      rw [fX7_size_b5, mi_297 S, bd_v, R.1.2.2.1, if_pos (nI_le (by omega) (by omega))]
      rw [show j = nc σ by omega]
  | succ m ih =>
    intro j n hj hn
    cases n with
    | zero => omega
    | succ n =>
      rw [fX7_size_b5, mi_297 S, bd_v, R.1.2.2.1, if_neg (nI_ge (by omega) (by omega)), hp j (by omega), bd_v, nI_1]
      have hs := cnt_s p j
      cases hb : p j with
      | false =>
        rw [hb] at hs
        rw [if_pos (show bI false = 0 from rfl), show nI (cnt p j) + 0 = nI (cnt p (j + 1)) from by rw [hs]; exact nI_add _ 0]
        exact ih (j + 1) n (by omega) (by omega)
      | true =>
        rw [hb] at hs
        rw [if_neg (show ¬ bI true = 0 by decide), show nI (cnt p j) + 1 = nI (cnt p (j + 1)) from by rw [hs]; exact nI_add _ 1]
        exact ih (j + 1) n (by omega) (by omega)
theorem m_size_has (S : MS sh mm) (R : RM σ d mm) (B : WB σ) {h : Nat} (hh : h < 6) : fX7_size sh d mm (some (mm + 2)) (nI h) = some (nI (cnt (has σ h) (nc σ))) := by
  have := B.2.2.1
  exact m_size_l S R B (fun c hc => m_isIn_has S R hh (by omega)) (nc σ) 0 fu (by omega) (by show nc σ < 100000; omega)
theorem m_size_wt (S : MS sh mm) (R : RM σ d mm) (B : WB σ) {h : Nat} (hh : h < 6) : fX7_size sh d mm (some (mm + 3)) (nI h) = some (nI (cnt (wt σ h) (nc σ))) := by
  have := B.2.2.1
  exact m_size_l S R B (fun c hc => m_isIn_wt S R hh (by omega)) (nc σ) 0 fu (by omega) (by show nc σ < 100000; omega)
theorem m_size_kn (S : MS sh mm) (R : RM σ d mm) (B : WB σ) {c : Nat} (hc : c < nc σ) : fX7_size sh d mm (some (mm + 14)) (nI c) = some (nI (cnt (kn σ c) (nc σ))) := by
  have := B.2.2.1
  exact m_size_l S R B (fun e he => m_isIn_kn S R B hc (by omega)) (nc σ) 0 fu (by omega) (by show nc σ < 100000; omega)
/-- isWithin: word by word -/
theorem m_within_l {a b s t : Nat} (ha : sh.1 a = 21) (hb : sh.1 b = 21) (ha2 : 7 * s + 7 ≤ sh.2 a) (hb2 : 7 * t + 7 ≤ sh.2 b) (ha3 : sh.2 a ≤ 2800) (hb3 : sh.2 b ≤ 2800) : ∀ (m j n : Nat) (acc : Bool), j + m = 7 → m < n → ∃ r, fX7_isWithin_b6 sh d n (some a) (nI s) (some b) (nI t) (bI acc) (nI j) = some r ∧ (r = true ↔ acc = true ∧ ∀ i, j ≤ i → i < 7 → ∀ k, k < 64 → bitL (dal d a (7 * s + i)) k = true → bitL (dal d b (7 * t + i)) k = true) := by
  intro m
  induction m with
  | zero =>
    intro j n acc hj hn
    cases n with
    | zero => omega
    | succ n =>
      have e7 : j = 7 := by omega
      subst e7
      rw [fX7_isWithin_b6, if_pos (show (7 : Int32) ≤ nI 7 from nI_le (a := 7) (b := 7) (by omega) (by decide))]
      refine ⟨acc, by cases acc <;> rfl, fun h => ⟨h, fun i h1 h2 => by omega⟩, fun h => h.1⟩
  | succ m ih =>
    intro j n acc hj hn
    cases n with
    | zero => omega
    | succ n =>
      rw [fX7_isWithin_b6, if_neg (show ¬ (7 : Int32) ≤ nI j from nI_ge (b := 7) (by omega) (by decide)), nI_1]
      cases acc with
      | false =>
        rw [if_pos (show bI false = 0 from rfl)]
        obtain ⟨r, h1, h2⟩ := ih (j + 1) n false (by omega) (by omega)
        exact ⟨r, h1, fun h => absurd (h2.mp h).1 (by decide), fun h => absurd h.1 (by decide)⟩
      | true =>
        have x1 : (7 : Int32) * nI s + nI j = nI (7 * s + j) := by rw [show (7 : Int32) * nI s = nI (7 * s) from pk_mul 7 s, nI_add]
        have x2 : (7 : Int32) * nI t + nI j = nI (7 * t + j) := by rw [show (7 : Int32) * nI t = nI (7 * t) from pk_mul 7 t, nI_add]
        rw [if_neg (show ¬ bI true = 0 by decide), bd_v, x1, aL_v ha (by omega) (by omega), bd_v, bd_v, x2, aL_v hb (by omega) (by omega), bd_v]
        by_cases hz : (dal d a (7 * s + j) &&& (dal d b (7 * t + j) ^^^ (-1))) = 0
        · rw [if_pos ((cmp0 _ _).mpr hz)]
          have h1 := (bit_sub _ _).mp hz
          obtain ⟨r, g1, g2⟩ := ih (j + 1) n true (by omega) (by omega)
          refine ⟨r, g1, fun h => ⟨rfl, fun i hi1 hi2 k hk hw => ?_⟩, fun h => g2.mpr ⟨rfl, fun i hi1 hi2 => h.2 i (by omega) hi2⟩⟩
          by_cases hij : i = j
          · subst hij; exact h1 k hk hw
          · exact (g2.mp h).2 i (by omega) hi2 k hk hw
        · rw [if_neg (fun q => hz ((cmp0 _ _).mp q))]
          obtain ⟨r, g1, g2⟩ := ih (j + 1) n false (by omega) (by omega)
          exact ⟨r, g1, fun h => absurd (g2.mp h).1 (by decide), fun h => absurd ((bit_sub _ _).mpr (fun k hk hw => h.2 j (Nat.le_refl _) (by omega) k hk hw)) hz⟩
def sub4 (p q : Nat → Bool) : Bool := (List.range 448).all (fun e => !p e || q e)
theorem sub4_iff {p q : Nat → Bool} : sub4 p q = true ↔ ∀ e, e < 448 → p e = true → q e = true := by
  unfold sub4
  rw [List.all_eq_true]
  constructor
  · intro h e he hp
    have := h e (List.mem_range.mpr he)
    rw [hp] at this
    simpa using this
  · intro h e he
    have he := List.mem_range.mp he
    cases hp : p e with
    | false => rfl
    | true => rw [h e he hp]; rfl
theorem m_within {a b s t : Nat} (ha : sh.1 a = 21) (hb : sh.1 b = 21) (ha2 : 7 * s + 7 ≤ sh.2 a) (hb2 : 7 * t + 7 ≤ sh.2 b) (ha3 : sh.2 a ≤ 2800) (hb3 : sh.2 b ≤ 2800) {p q : Nat → Bool} (hp : ∀ e, e < 448 → bitL (dal d a (7 * s + e / 64)) (e % 64) = p e) (hq : ∀ e, e < 448 → bitL (dal d b (7 * t + e / 64)) (e % 64) = q e) : fX7_isWithin sh d (some a) (nI s) (some b) (nI t) = some (sub4 p q) := by
  obtain ⟨r, h1, h2⟩ := m_within_l (d := d) ha hb ha2 hb2 ha3 hb3 7 0 fu true (by omega) (by decide)
  refine (show _ = some r from h1).trans ?_
  congr 1
  rw [Bool.eq_iff_iff, h2, sub4_iff]
  constructor
  · intro h e he hpe
    rw [← hp e he] at hpe
    rw [← hq e he]
    exact h.2 (e / 64) (Nat.zero_le _) (by omega) (e % 64) (by omega) hpe
  · intro h
    refine ⟨rfl, fun i _ hi k hk hw => ?_⟩
    have h1 : (64 * i + k) / 64 = i := by omega
    have h2 : (64 * i + k) % 64 = k := by omega
    have a1 := hp (64 * i + k) (by omega)
    have a2 := hq (64 * i + k) (by omega)
    rw [h1, h2] at a1 a2
    rw [a1] at hw
    rw [a2]
    exact h _ (by omega) hw
theorem m_within_hh (S : MS sh mm) (R : RM σ d mm) {h o : Nat} (hh : h < 6) (ho : o < 6) : fX7_isWithin sh d (some (mm + 2)) (nI h) (some (mm + 2)) (nI o) = some (sub4 (has σ h) (has σ o)) := by
  have q := S.2 2 (by decide) (by decide)
  have e : sh.2 (mm + 2) = 42 := q.2
  exact m_within q.1 q.1 (by omega) (by omega) (by omega) (by omega) (R.2.2.2.2.1 h hh) (R.2.2.2.2.1 o ho)
theorem m_isReady (S : MS sh mm) (E : MD d mm) (R : RM σ d mm) (B : WB σ) {h c : Nat} (hh : h < 6) (hc : c < nc σ) : fX7_isReady sh d mm (nI h) (nI c) = some (sub4 (kn σ c) (has σ h)) := by
  have q := S.2 2 (by decide) (by decide)
  have q14 := S.2 14 (by decide) (by decide)
  have e : sh.2 (mm + 2) = 42 := q.2
  have e14 : sh.2 (mm + 14) = 2800 := q14.2
  have := B.2.2.1
  unfold fX7_isReady fX7_isReady_b0
  rw [mg_305 S E, bd_v, mg_291 S E, bd_v, m_within q14.1 q.1 (by omega) (by omega) (by omega) (by omega) (R.2.2.2.1 c hc) (R.2.2.2.2.1 h hh)]
  rfl
end
