/-! the class's walks along a shelf -/
theorem lp_ch {A β : Type} {σ : St} {G : Gh} {p s : Nat} (F : Nat → A → Option Nat → Option β) (fin : A → Option β) (step : Nat → A → A) (I : A → Prop) (N : Nat) (hI : ∀ c a, c < N → ons σ p s c = true → I a → I (step c a)) (hend : ∀ n a, I a → F (n + 1) a none = fin a) (hstep : ∀ n c a, c < N → ons σ p s c = true → I a → F (n + 1) a (some (EA G c)) = F n (step c a) ((prv σ p s c).map (EA G))) : ∀ m n a, m ≤ N → m < n → I a → F n a ((prv σ p s m).map (EA G)) = fin (fdn (fun c a => if ons σ p s c then step c a else a) a m) := by
  intro m
  induction m with
  | zero =>
    intro n a _ hn ha
    cases n with
    | zero => omega
    | succ n => exact hend n a ha
  | succ m ih =>
    intro n a hm hn ha
    have e : prv σ p s (m + 1) = if ons σ p s m then some m else prv σ p s m := rfl
    rw [e, fdn_s]
    cases ho : ons σ p s m with
    | false =>
      rw [if_neg (by decide), if_neg (by decide)]
      exact ih n a (by omega) (by omega) ha
    | true =>
      rw [if_pos rfl, if_pos rfl]
      cases n with
      | zero => omega
      | succ n =>
        exact (hstep n m a (by omega) ho ha).trans (ih n _ (by omega) (by omega) (hI m a (by omega) ho ha))
theorem ons_iff {σ : St} {p s c : Nat} : ons σ p s c = true ↔ pg σ c = p ∧ shl σ p (ax σ c) = s := by unfold ons; simp
theorem ons_0 {σ : St} {p c : Nat} (h : kin σ p ≠ 3) : ons σ p 0 c = decide (pg σ c = p) := by
  unfold ons; rw [shl_0 h, decide_eq_true (rfl : (0 : Nat) = 0), Bool.and_true]
theorem uCI_n {d : Dt} {a b : Nat} {F : Nat → Int32} (h : b ≠ a) : dai (uCI d a F) b = dai d b := if_neg h
theorem bstep_0 {P : Nat → Bool} {rep : Nat → Nat → Bool} {c : Nat} {a : Option Nat} (h : P c = false) : bstep P rep c a = a := by unfold bstep; rw [h]; rfl
theorem bstep_n {P : Nat → Bool} {rep : Nat → Nat → Bool} {c : Nat} (h : P c = true) : bstep P rep c none = some c := by unfold bstep; rw [h]; rfl
theorem bstep_s {P : Nat → Bool} {rep : Nat → Nat → Bool} {b c : Nat} (h : P c = true) : bstep P rep c (some b) = if rep b c then some c else some b := by unfold bstep; rw [h]; rfl
theorem bstep_c {P Q : Nat → Bool} {rep : Nat → Nat → Bool} {c : Nat} {a : Option Nat} {q : Bool} (h : Q c = (q && P c)) : (if q = true then bstep P rep c a else a) = bstep Q rep c a := by
  unfold bstep
  rw [h]
  cases q <;> cases P c <;> rfl
theorem bstep_lt {P : Nat → Bool} {rep : Nat → Nat → Bool} {c N : Nat} {a : Option Nat} (hc : c < N) (ha : ∀ b, a = some b → b < N) : ∀ b, bstep P rep c a = some b → b < N := by
  intro b
  cases hp : P c with
  | false => rw [bstep_0 hp]; exact ha b
  | true =>
    cases a with
    | none => rw [bstep_n hp]; intro e; cases e; exact hc
    | some q =>
      rw [bstep_s hp]
      cases rep q c with
      | false => intro e; cases e; exact ha _ rfl
      | true => intro e; cases e; exact hc
/-- what the CHANGES of an act on a shelf KNOW, gathered -/
def kno (σ : St) (h p s w : Nat) : Nat → Nat := fdn (fun c f => if ons σ p s c then (if decide (ac σ c = w) && has σ h c then (fun k => max (f k) (ku σ c k)) else f) else f) (fun _ => 0) (nc σ)
theorem kno_l (q : Nat → Bool) (g : Nat → Nat → Nat) {u k : Nat} : ∀ n (f : Nat → Nat), u ≤ fdn (fun c f => if q c then (fun k => max (f k) (g c k)) else f) f n k ↔ u ≤ f k ∨ ∃ c, c < n ∧ q c = true ∧ u ≤ g c k := by
  intro n
  induction n with
  | zero => intro f; exact ⟨Or.inl, fun h => h.elim id (fun ⟨c, h, _⟩ => by omega)⟩
  | succ n ih =>
    intro f
    rw [fdn_s, ih]
    cases hq : q n with
    | false =>
      rw [if_neg (by decide)]
      refine ⟨fun h => h.elim Or.inl (fun ⟨c, h1, h2⟩ => Or.inr ⟨c, by omega, h2⟩), fun h => h.elim Or.inl (fun ⟨c, h1, h2, h3⟩ => ?_)⟩
      by_cases e : c = n
      · subst e; rw [hq] at h2; cases h2
      · exact Or.inr ⟨c, by omega, h2, h3⟩
    | true =>
      rw [if_pos rfl]
      refine ⟨fun h => ?_, fun h => ?_⟩
      · rcases h with h | ⟨c, h1, h2⟩
        · by_cases e : u ≤ f k
          · exact Or.inl e
          · exact Or.inr ⟨n, by omega, hq, by have : u ≤ max (f k) (g n k) := h; omega⟩
        · exact Or.inr ⟨c, by omega, h2⟩
      · rcases h with h | ⟨c, h1, h2, h3⟩
        · exact Or.inl (show u ≤ max (f k) (g n k) by omega)
        · by_cases e : c = n
          · subst e; exact Or.inl (show u ≤ max (f k) (g c k) by omega)
          · exact Or.inr ⟨c, by omega, h2, h3⟩
theorem kno_iff {σ : St} {h p s w u k : Nat} (hu : 1 ≤ u) : u ≤ kno σ h p s w k ↔ ∃ c, c < nc σ ∧ (ons σ p s c && (decide (ac σ c = w) && has σ h c)) = true ∧ u ≤ ku σ c k := by
  have e : kno σ h p s w = fdn (fun c f => if (ons σ p s c && (decide (ac σ c = w) && has σ h c)) then (fun k => max (f k) (ku σ c k)) else f) (fun _ => 0) (nc σ) := by
    unfold kno
    refine fdn_cong fun c f _ => ?_
    cases ons σ p s c with
    | false => rfl
    | true => cases (decide (ac σ c = w) && has σ h c) <;> rfl
  rw [e, kno_l]
  exact ⟨fun h => h.elim (fun q => by omega) id, Or.inr⟩
section
variable {sh : Sh} {d : Dt} {x : Nat} {σ : St} {G : Gh} {em sz ns : Nat}
theorem cd_kn (S : CZ σ G x em sz ns sh) (D : CD σ G x d) {p : Nat} (hp : p < np σ) (F : Nat → Int32) : CD σ G x (uCI d (PA G p + 2) F) := by
  have tp := t_p S hp (j := 2) (by decide)
  refine ⟨D.1, D.2.1, D.2.2.1, ⟨fun i hi => ?_, fun h hh => ⟨fun k hk => ?_, fun k hk => ?_, fun i hi => ?_⟩, fun c hc k hk => ?_⟩, D.2.2.2.2.1, D.2.2.2.2.2⟩
  · rw [uCI_n (tne (t_x S (j := 4) (by decide)) tp (by omega))]; exact D.2.2.2.1.1 i hi
  · rw [uCI_n (tne (t_h S hh (j := 2) (by decide)) tp (by omega))]; exact (D.2.2.2.1.2.1 h hh).1 k hk
  · rw [uCI_n (tne (t_h S hh (j := 5) (by decide)) tp (by omega))]; exact (D.2.2.2.1.2.1 h hh).2.1 k hk
  · rw [uCI_n (tne (t_h S hh (j := 8) (by decide)) tp (by omega))]; exact (D.2.2.2.1.2.1 h hh).2.2 i hi
  · rw [uCI_n (tne (t_e S hc (j := 2) (by decide)) tp (by omega))]; exact D.2.2.2.1.2.2 c hc k hk
theorem cf_73o (S : CZ σ G x em sz ns sh) (D : CD σ G x d) {p s c : Nat} (hc : c < nc σ) (ho : ons σ p s c = true) : gR sh d 2 73 (EA G c) = some ((prv σ p s c).map (EA G)) := by
  obtain ⟨rfl, rfl⟩ := ons_iff.mp ho
  exact cf_73 S D hc
theorem acg_t (w : Wel σ) {c p : Nat} (hc : c < nc σ) (hp : pg σ c = p) (hk : kin σ p = 2 ∨ kin σ p = 5) : ac σ c = 1 ∨ ac σ c = 4 ∨ ac σ c = 5 := by
  have h := w.2.2.2.2.2.2 c hc
  rw [hp] at h
  unfold acg at h
  rw [if_pos hk] at h
  simpa using h
theorem acg_b (w : Wel σ) {c p : Nat} (hc : c < nc σ) (hp : pg σ c = p) (hk : kin σ p = 3) : ac σ c = 2 ∨ ac σ c = 3 := by
  have h := w.2.2.2.2.2.2 c hc
  rw [hp] at h
  unfold acg at h
  rw [if_neg (by omega), if_pos hk] at h
  simpa using h
theorem acg_f (w : Wel σ) {c p : Nat} (hc : c < nc σ) (hp : pg σ c = p) (hk : kin σ p = 6 ∨ kin σ p = 7) : ac σ c = 6 ∨ ac σ c = 7 := by
  have h := w.2.2.2.2.2.2 c hc
  rw [hp] at h
  unfold acg at h
  rw [if_neg (by omega), if_neg (by omega), if_pos hk] at h
  simpa using h
theorem acg_l (w : Wel σ) {c p : Nat} (hc : c < nc σ) (hp : pg σ c = p) (hk : kin σ p = 0 ∨ kin σ p = 1 ∨ kin σ p = 4) : ac σ c = 0 := by
  have h := w.2.2.2.2.2.2 c hc
  rw [hp] at h
  unfold acg at h
  rw [if_neg (by omega), if_neg (by omega), if_neg (by omega)] at h
  simpa using h
theorem c_psize (S : CZ σ G x em sz ns sh) (D : CD σ G x d) (B : WB σ) (w : Wel σ) {h p : Nat} (hh : h < nh σ) (hp : p < np σ) (hk : kin σ p ≠ 3) : fX3_size sh d (PA G p) (some (HA G h + 1)) = some (nI (mny σ h p)) := by
  have b3 := B.2.2.1
  have key := lp_ch (σ := σ) (G := G) (p := p) (s := 0) (fun n a e => fX3_size_b9 sh d n (some (HA G h + 1)) (nI a) e) (fun a => some (nI a)) (fun c a => if has σ h c then a + 1 else a) (fun _ => True) (nc σ) (fun _ _ _ _ _ => trivial) (fun n a _ => by simp only [fX3_size_b9, on_0]) (fun n c a hc ho _ => by
    simp only [fX3_size_b9, on_v, bd_v, kH_1 S hh, c_holds_h S D B w hh hc, cf_73o S D hc ho, bI_0, nI_1]
    cases has σ h c <;> simp) (nc σ) fu 0 (Nat.le_refl _) (by show nc σ < 100000; omega) trivial
  unfold fX3_size fX3_size_b0
  rw [cf_162 S D hp, bd_v, bd_v, z_0, ca_p3 S D hp (shn_0), bd_v]
  refine key.trans ?_
  rw [fdn_cong (s2 := fun c a => if (decide (pg σ c = p) && has σ h c) then a + 1 else a) (fun c a _ => by
    rw [ons_0 hk]
    cases decide (pg σ c = p) <;> cases has σ h c <;> rfl), fdn_cnt, Nat.zero_add]
  rfl
theorem c_sizeOf (S : CZ σ G x em sz ns sh) (D : CD σ G x d) (B : WB σ) (w : Wel σ) {h p a : Nat} (hh : h < nh σ) (hp : p < np σ) (hk : kin σ p ≠ 3) (ha : a < 8) : fX3_sizeOf sh d (PA G p) (some (HA G h + 1)) (nI (acC a)) = some (nI (mdo σ h p a)) := by
  have b3 := B.2.2.1
  have ha2 := acC_lt a ha
  have key := lp_ch (σ := σ) (G := G) (p := p) (s := 0) (fun n b e => fX3_sizeOf_b10 sh d n (some (HA G h + 1)) (nI (acC a)) (nI b) e) (fun a => some (nI a)) (fun c b => if decide (ac σ c = a) && has σ h c then b + 1 else b) (fun _ => True) (nc σ) (fun _ _ _ _ _ => trivial) (fun n a _ => by simp only [fX3_sizeOf_b10, on_0]) (fun n c b hc ho _ => by
    have b1 := wb_c B hc
    have b2 := acC_lt _ b1.2.2.2.2.1
    have b4 := acC_i _ b1.2.2.2.2.1 a ha
    simp (disch := omega) only [fX3_sizeOf_b10, on_v, bd_v, kH_1 S hh, c_holds_h S D B w hh hc, cf_73o S D hc ho, cf_67 S D hc, bI_0, nI_1, nI_eq, b4]
    by_cases g : ac σ c = a
    · rw [if_pos g]
      cases has σ h c <;> simp [g]
    · rw [if_neg g]
      simp [g]) (nc σ) fu 0 (Nat.le_refl _) (by show nc σ < 100000; omega) trivial
  unfold fX3_sizeOf fX3_sizeOf_b0
  rw [cf_162 S D hp, bd_v, bd_v, z_0, ca_p3 S D hp (shn_0), bd_v]
  refine key.trans ?_
  rw [fdn_cong (s2 := fun c b => if onB σ h p c a then b + 1 else b) (fun c b _ => by
    rw [ons_0 hk]
    unfold onB
    cases decide (pg σ c = p) <;> cases decide (ac σ c = a) <;> cases has σ h c <;> rfl), fdn_cnt, Nat.zero_add]
  rfl
theorem c_added (S : CZ σ G x em sz ns sh) (D : CD σ G x d) (B : WB σ) {c : Nat} (hc : c < nc σ) : fX0_addedToSum sh d (EA G c) = some (if ac σ c = 4 then 0 else if ac σ c = 5 then -vl σ c else vl σ c) := by
  have b1 := wb_c B hc
  have b2 := acC_lt _ b1.2.2.2.2.1
  have b4 : acC (ac σ c) = 2 ↔ ac σ c = 4 := acC_i _ b1.2.2.2.2.1 4 (by decide)
  have b5 : acC (ac σ c) = 3 ↔ ac σ c = 5 := acC_i _ b1.2.2.2.2.1 5 (by decide)
  unfold fX0_addedToSum fX0_addedToSum_b0
  simp (disch := omega) only [bd_v, cf_67 S D hc, cf_69 S D hc, z_0, z_1, z_2, z_3, z_4, z_5, z_6, z_7, z_8, z_10, z_16, z_17, z_31, z_63, z_64, z_400, nI_add, pk_mul, nI_eq, nI_leI, nI_ltI, bI_z, nI_m9, bI_m9, b4, b5]
  split
  · rfl
  · split <;> rfl
theorem c_total (S : CZ σ G x em sz ns sh) (D : CD σ G x d) (B : WB σ) (w : Wel σ) {h p : Nat} (hh : h < nh σ) (hp : p < np σ) (hk : kin σ p = 2 ∨ kin σ p = 5) : fX3_total sh d (PA G p) (some (HA G h + 1)) = some (sumS σ h p) := by
  have b3 := B.2.2.1
  have key := lp_ch (σ := σ) (G := G) (p := p) (s := 0) (fun n a e => fX3_total_b10 sh d n (some (HA G h + 1)) a e) (fun a => some a) (fun c a => if has σ h c then a + (if ac σ c = 4 then 0 else if ac σ c = 5 then -vl σ c else vl σ c) else a) (fun _ => True) (nc σ) (fun _ _ _ _ _ => trivial) (fun n a _ => by simp only [fX3_total_b10, on_0]) (fun n c a hc ho _ => by
    simp only [fX3_total_b10, on_v, bd_v, kH_1 S hh, kE_0 S hc, c_holds_h S D B w hh hc, cf_73o S D hc ho, bI_0, c_added S D B hc]
    cases has σ h c <;> simp) (nc σ) fu 0 (Nat.le_refl _) (by show nc σ < 100000; omega) trivial
  unfold fX3_total fX3_total_b0
  rw [cf_162 S D hp, bd_v, bd_v, show (0 : Int32) = nI 0 from rfl, ca_p3 S D hp (shn_0), bd_v]
  refine key.trans ?_
  rw [fdn_cong (s2 := fun c s => s + (if onB σ h p c 1 then vl σ c else if onB σ h p c 5 then -vl σ c else 0)) (fun c a hc => by
    rw [ons_0 (by omega)]
    unfold onB
    by_cases g : pg σ c = p
    · rw [decide_eq_true g]
      cases has σ h c with
      | false => simp
      | true => rcases acg_t w hc g hk with e | e | e <;> simp [e]
    · rw [decide_eq_false g]; simp), fdn_sm, Int64.zero_add]
  unfold sumS
  rw [fo_sm]
theorem c_rfor (S : CZ σ G x em sz ns sh) (D : CD σ G x d) (B : WB σ) {c o : Nat} (hc : c < nc σ) (ho : o < 6) : fX0_rightsFor sh d (EA G c) (nI o) = some ((if ac σ c = 4 ∧ ax σ c = o then vl σ c else 0) + (if mk σ c = o then (if ac σ c = 1 then vl σ c else -vl σ c) else 0)) := by
  have b0 := B.1
  have b1 := wb_c B hc
  have b2 := acC_lt _ b1.2.2.2.2.1
  have b4 : acC (ac σ c) = 2 ↔ ac σ c = 4 := acC_i _ b1.2.2.2.2.1 4 (by decide)
  have b5 : acC (ac σ c) = 1 ↔ ac σ c = 1 := acC_i _ b1.2.2.2.2.1 1 (by decide)
  have h24 : ∀ t : Int64, fX0_rightsFor_b24 sh d (EA G c) (nI o) t = some (t + (if mk σ c = o then (if ac σ c = 1 then vl σ c else -vl σ c) else 0)) := by
    intro t
    unfold fX0_rightsFor_b24
    simp (disch := omega) only [bd_v, cf_65 S D hc, cf_67 S D hc, cf_69 S D hc, z_0, z_1, z_2, z_3, z_4, z_5, z_6, z_7, z_8, z_10, z_16, z_17, z_31, z_63, z_64, z_400, nI_add, pk_mul, nI_eq, nI_leI, nI_ltI, bI_z, nI_m9, bI_m9, b5]
    split
    · split <;> rfl
    · rw [Int64.add_zero]
  unfold fX0_rightsFor fX0_rightsFor_b0
  simp (disch := omega) only [bd_v, cf_67 S D hc, cf_68 S D hc, cf_69 S D hc, z_0, z_1, z_2, z_3, z_4, z_5, z_6, z_7, z_8, z_10, z_16, z_17, z_31, z_63, z_64, z_400, nI_add, pk_mul, nI_eq, nI_leI, nI_ltI, bI_z, nI_m9, bI_m9, b4, h24]
  by_cases g1 : ac σ c = 4
  · by_cases g2 : ax σ c = o
    · simp [g1, g2]
    · simp [g1, g2]
  · simp [g1]
theorem c_rightsOf (S : CZ σ G x em sz ns sh) (D : CD σ G x d) (B : WB σ) (w : Wel σ) {h p o : Nat} (hh : h < nh σ) (hp : p < np σ) (ho : o < 6) (hk : kin σ p = 2 ∨ kin σ p = 5) : fX3_rightsOf sh d (PA G p) (some (HA G h + 1)) (nI o) = some (rgt σ h p o) := by
  have b3 := B.2.2.1
  have key := lp_ch (σ := σ) (G := G) (p := p) (s := 0) (fun n a e => fX3_rightsOf_b10 sh d n (some (HA G h + 1)) (nI o) a e) (fun a => some a) (fun c a => if has σ h c then a + ((if ac σ c = 4 ∧ ax σ c = o then vl σ c else 0) + (if mk σ c = o then (if ac σ c = 1 then vl σ c else -vl σ c) else 0)) else a) (fun _ => True) (nc σ) (fun _ _ _ _ _ => trivial) (fun n a _ => by simp only [fX3_rightsOf_b10, on_0]) (fun n c a hc hs _ => by
    simp only [fX3_rightsOf_b10, on_v, bd_v, kH_1 S hh, kE_0 S hc, c_holds_h S D B w hh hc, cf_73o S D hc hs, bI_0, c_rfor S D B hc ho]
    cases has σ h c <;> simp) (nc σ) fu 0 (Nat.le_refl _) (by show nc σ < 100000; omega) trivial
  unfold fX3_rightsOf fX3_rightsOf_b0
  rw [cf_162 S D hp, bd_v, bd_v, show (0 : Int32) = nI 0 from rfl, ca_p3 S D hp (shn_0), bd_v]
  refine key.trans ?_
  have e1 : ∀ (s u v : Int64), (s + u) - v = s + (u - v) := fun s u v => by rw [Int64.sub_eq_add_neg, Int64.sub_eq_add_neg, Int64.add_assoc]
  have e2 : rgt σ h p o = fo (fun c s => s + (if decide (pg σ c = p) && has σ h c then ((if (decide (mk σ c = o) && decide (ac σ c = 1)) || (decide (ac σ c = 4) && decide (ax σ c = o)) then vl σ c else 0) - (if decide (mk σ c = o) && (decide (ac σ c = 4) || decide (ac σ c = 5)) then vl σ c else 0)) else 0)) 0 (nc σ) := by
    unfold rgt
    refine fo_cong fun c s _ => ?_
    cases decide (pg σ c = p) && has σ h c with
    | false => simp
    | true => simp only [if_true]; rw [e1]
  rw [e2, fo_sm, fdn_cong (s2 := fun c s => s + (if decide (pg σ c = p) && has σ h c then ((if (decide (mk σ c = o) && decide (ac σ c = 1)) || (decide (ac σ c = 4) && decide (ax σ c = o)) then vl σ c else 0) - (if decide (mk σ c = o) && (decide (ac σ c = 4) || decide (ac σ c = 5)) then vl σ c else 0)) else 0)) (fun c a hc => by
    rw [ons_0 (by omega)]
    by_cases g : pg σ c = p
    · rw [decide_eq_true g]
      cases has σ h c with
      | false => simp
      | true =>
        by_cases g2 : mk σ c = o <;> by_cases g3 : ax σ c = o <;> rcases acg_t w hc g hk with e | e | e <;> simp [e, g2, g3, Int64.sub_eq_add_neg, Int64.add_right_neg]
    · rw [decide_eq_false g]; simp), fdn_sm, Int64.zero_add]
theorem c_foremost (S : CZ σ G x em sz ns sh) (D : CD σ G x d) (B : WB σ) (w : Wel σ) {h p : Nat} (hh : h < nh σ) (hp : p < np σ) (hk : kin σ p = 0 ∨ kin σ p = 1 ∨ kin σ p = 4) : fX3_foremost sh d (PA G p) (some (HA G h + 1)) = some ((tel σ h p).map (EA G)) := by
  have b3 := B.2.2.1
  have hkp := B.2.2.2.1 p hp
  have key := lp_ch (σ := σ) (G := G) (p := p) (s := 0) (fun n a e => fX3_foremost_b9 sh d n (PA G p) (some (HA G h + 1)) (a.map (EA G)) e) (fun a => some (a.map (EA G))) (fun c a => bstep (fun c => has σ h c) (fun b c => !decide (aft σ c b = decide (kin σ p = 1))) c a) (fun a => ∀ b, a = some b → b < nc σ) (nc σ) (fun c a hc ho ha => bstep_lt hc ha) (fun n a _ => by simp only [fX3_foremost_b9, on_0]) (fun n c a hc ho ha => by
    cases a with
    | none =>
      simp only [fX3_foremost_b9, on_v, on_0, bd_v, kH_1 S hh, c_holds_h S D B w hh hc, cf_73o S D hc ho, bI_0, Option.map_none]
      cases h1 : has σ h c with
      | false => rw [bstep_0 h1]; simp
      | true => rw [bstep_n h1]; simp
    | some b =>
      have hb := ha b rfl
      simp (disch := omega) only [fX3_foremost_b9, fX3_foremost_b43, on_v, on_0, bd_v, kH_1 S hh, kE_0 S hb, c_isBelow S D B hb hc, c_holds_h S D B w hh hc, cf_73o S D hc ho, cf_161 S D hp, bI_0, Option.map_some, z_0, z_1, z_2, z_3, z_4, z_5, z_6, z_7, z_8, z_10, z_16, z_17, z_31, z_63, z_64, z_400, nI_add, pk_mul, nI_eq, nI_leI, nI_ltI, bI_z, nI_m9, bI_m9]
      cases h1 : has σ h c with
      | false => rw [bstep_0 h1]; simp
      | true =>
        rw [bstep_s h1]
        by_cases k1 : kin σ p = 1 <;> cases h2 : aft σ c b <;> simp [k1, bI, nI]) (nc σ) fu none (Nat.le_refl _) (by show nc σ < 100000; omega) (fun b hb => by cases hb)
  unfold fX3_foremost fX3_foremost_b0
  rw [cf_162 S D hp, bd_v, bd_v, show (0 : Int32) = nI 0 from rfl, ca_p3 S D hp (shn_0), bd_v]
  refine key.trans ?_
  congr 2
  have t1 := tel_b w h p
  rw [fdn_cong (s2 := bstep (fun c => onB σ h p c 0) (fun b c => !decide (aft σ c b = decide (kin σ p = 1)))) (fun c a hc => by
    refine bstep_c ?_
    show onB σ h p c 0 = (ons σ p 0 c && has σ h c)
    rw [ons_0 (by omega)]
    unfold onB
    by_cases g : pg σ c = p
    · rw [decide_eq_true g, acg_l w hc g hk]; simp
    · rw [decide_eq_false g]; simp)]
  refine bst_u (bt := fun b c => if kin σ p = 1 then aft σ c b else aft σ b c) (P := fun c => onB σ h p c 0) (N := nc σ) ?_ ?_ t1
  · intro a b q
    by_cases k : kin σ p = 1
    · simp only [k, if_true] at q ⊢; exact aft_asy q
    · simp only [k, if_false] at q ⊢; exact aft_asy q
  · refine bst_fdn (fun a b c h1 h2 => ?_) (fun b c hb hc hn _ _ => ?_)
    · by_cases k : kin σ p = 1
      · simp only [k, if_true] at h1 h2 ⊢; exact aft_tr h2 h1
      · simp only [k, if_false] at h1 h2 ⊢; exact aft_tr h1 h2
    · by_cases k : kin σ p = 1
      · simp only [k, if_true, decide_true]
        constructor
        · intro h1
          have : aft σ c b = false := by simpa using h1
          exact (aft_tot w hc hb this).elim (fun e => absurd e.symm hn) id
        · intro h1
          simpa using h1
      · simp only [k, if_false, decide_false]
        constructor
        · intro h1
          simpa using h1
        · intro h1
          have : aft σ c b = false := by simpa using h1
          exact (aft_tot w hc hb this).elim (fun e => absurd e.symm hn) id
end
