/-! the reference: what a COPY tells, alike, digest -/
section
variable {sh : Sh} {d : Dt} {mm : Nat} {σ : St}
def TM (mm t : Nat) : Prop := t = mm + 16 ∨ t = mm + 17
/-- the first n of a row are f -/
def RW (d : Dt) (t n : Nat) (f : Nat → Int64) : Prop := ∀ i, i < n → dal d t i = f i
def RO (t : Nat) (d e : Dt) : Prop := ∀ u, u ≠ t → dal e u = dal d u
theorem ro_r {t : Nat} : RO t d d := fun _ _ => rfl
theorem ro_t {t : Nat} {e f : Dt} (h : RO t d e) (g : RO t e f) : RO t d f := fun u hu => (g u hu).trans (h u hu)
theorem m_row (S : MS sh mm) (E : MD d mm) (R : RM σ d mm) {t i : Nat} {v : Int64} {f : Nat → Int64} (T : TM mm t) (hi : i < 404) (L : RW d t i f) (hv : f i = v) : sL sh d 21 t (nI i) v = some (uAL d t i v) ∧ MD (uAL d t i v) mm ∧ RM σ (uAL d t i v) mm ∧ RW (uAL d t i v) t (i + 1) f ∧ RO t d (uAL d t i v) := by
  have L2 : RW (uAL d t i v) t (i + 1) f := fun j hj => by
    by_cases e : j = i
    · rw [e, al_eq, hv]
    · rw [al_n2 e]; exact L j (by omega)
  have O : RO t d (uAL d t i v) := fun u hu => by funext k; exact al_ne hu
  rcases T with rfl | rfl
  · exact ⟨mW_16 S d v hi, E, rm_w_16 R, L2, O⟩
  · exact ⟨mW_17 S d v hi, E, rm_w_17 R, L2, O⟩
def LO (o : Option (Int32 × Dt)) (mm : Nat) (σ : St) (d : Dt) (t h p : Nat) : Prop := ∃ e, o = some (nI (tln σ h p), e) ∧ MD e mm ∧ RM σ e mm ∧ RW e t (tln σ h p) (tlv σ h p) ∧ RO t d e
theorem m_lay_last (S : MS sh mm) (E : MD d mm) (R : RM σ d mm) (B : WB σ) (w : Wel σ) {h p t : Nat} (hh : h < 6) (hp : p < np σ) (T : TM mm t) (hk : kin σ p = 0 ∨ kin σ p = 1 ∨ kin σ p = 4) : LO (fX7_lay_b44 sh mm (nI h) (nI p) (some t) d) mm σ d t h p := by
  have b2 := B.2.1
  have b3 := B.2.2.1
  have hkp := B.2.2.2.1 p hp
  have h6 := hd_6 B w h p
  have f0 : tlv σ h p 0 = oL (tel σ h p) := by unfold tlv; rw [if_pos hk]; rfl
  have f1 : tlv σ h p 1 = tv σ (tel σ h p) := by unfold tlv; rw [if_pos hk]; rfl
  obtain ⟨a1, a2, a3, a4, a5⟩ := m_row S E R T (i := 0) (by decide) (fun i hi => by omega) f0
  have k78 : ∀ v, v = tlv σ h p 1 → LO (fX7_lay_b78 sh mm (nI h) (nI p) (some t) (some t) 1 v (uAL d t 0 (oL (tel σ h p)))) mm σ d t h p := by
    intro v hv
    obtain ⟨c1, c2, c3, c4, c5⟩ := m_row S a2 a3 T (i := 1) (by decide) a4 hv.symm
    have c1 : sL sh (uAL d t 0 (oL (tel σ h p))) 21 t 1 v = some (uAL (uAL d t 0 (oL (tel σ h p))) t 1 v) := c1
    unfold fX7_lay_b78
    rw [bd_v, c1, bd_v, mg_296 S c2, bd_v, bd_v, mA_6 S _ (show p < 10 by omega), bd_v, rm_kin c3 hp]
    by_cases g : kin σ p = 4
    · have et : tln σ h p = 3 + hdn σ h p := if_pos g
      have f2 : tlv σ h p 2 = (nI (hdn σ h p)).toInt64 := by unfold tlv; rw [if_pos hk]; rfl
      obtain ⟨e, t1, t2, t3, t4, t5, t6⟩ := m_layHeads S c2 c3 B w hh hp
      have L2 : RW e t 2 (tlv σ h p) := fun i hi => by rw [t6]; exact c4 i hi
      obtain ⟨g1, g2, g3, g4, g5⟩ := m_row S t2 t3 T (i := 2) (by decide) L2 f2
      have g1 : sL sh e 21 t 2 (nI (hdn σ h p)).toInt64 = some (uAL e t 2 (nI (hdn σ h p)).toInt64) := g1
      rw [g, if_pos (show nI 4 = 4 from rfl), t1, bd_v, gI_v S.1, bd_v, t4, bd_v, g1, bd_v]
      have O2 : RO t d (uAL e t 2 (nI (hdn σ h p)).toInt64) := ro_t (ro_t (ro_t a5 c5) (fun u hu => by rw [t6])) g5
      have key : ∀ m j n d7, j + m = hdn σ h p → m < n → MD d7 mm → RM σ d7 mm → RW d7 t (3 + j) (tlv σ h p) → RO t d d7 → dfi d7 308 mm = nI (hdn σ h p) → (∀ i, i < hdn σ h p → ∃ c, c < nc σ ∧ hdk σ h p i = some c ∧ dai d7 (mm + 15) i = nI c) → LO (fX7_lay_b108 sh n mm (some t) (nI j) d7) mm σ d t h p := by
        intro m
        induction m with
        | zero =>
          intro j n d7 hj hn E7 R7 L7 O7 q1 q2
          cases n with
          | zero => omega
          | succ n =>
            have : j = hdn σ h p := by omega
            subst this
            refine ⟨d7, ?_, E7, R7, by rw [et]; exact L7, O7⟩
            simp (disch := omega) only [fX7_lay_b108, mi_308 S, bd_v, q1, nI_leI]
            rw [if_pos (Nat.le_refl _), et, show (3 : Int32) = nI 3 from rfl, nI_add, Nat.add_comm]
        | succ m ih =>
          intro j n d7 hj hn E7 R7 L7 O7 q1 q2
          cases n with
          | zero => omega
          | succ n =>
            obtain ⟨c, z1, z2, z3⟩ := q2 j (by omega)
            have fj : tlv σ h p (3 + j) = (nI c).toInt64 := by
              unfold tlv; rw [if_pos hk, if_neg (by omega), if_neg (by omega), if_neg (by omega), show 3 + j - 3 = j by omega, z2]; rfl
            obtain ⟨y1, y2, y3, y4, y5⟩ := m_row S E7 R7 T (i := 3 + j) (by omega) L7 fj
            have r1 : aI sh d7 20 (mm + 15) (nI j) = some (nI c) := (mA_15 S d7 (show j < 400 by omega)).trans (congrArg some z3)
            have ej : nI j + (3 : Int32) = nI (3 + j) := by rw [show (3 : Int32) = nI 3 from rfl, nI_add, Nat.add_comm]
            simp (disch := omega) only [fX7_lay_b108, mi_308 S, bd_v, q1, nI_leI, mg_307 S E7, r1, ej, y1, nI_1]
            rw [if_neg (by omega)]
            exact ih (j + 1) n _ (by omega) (by omega) y2 y3 y4 (ro_t O7 y5) q1 q2
      exact key (hdn σ h p) 0 fu _ (by omega) (by show hdn σ h p < 100000; omega) g2 g3 g4 O2 t4 t5
    · have et : tln σ h p = 2 := by unfold tln; rw [if_neg g, if_pos (by omega)]
      rw [if_neg (show ¬ nI (kin σ p) = 4 from fun q => g ((nI_eq (b := 4) (by omega) (by decide)).mp q))]
      exact ⟨_, by rw [et]; rfl, c2, c3, by rw [et]; exact c4, ro_t a5 c5⟩
  unfold fX7_lay_b44
  rw [mk_9 S, bd_v, m_telling S E R B hh hp, bd_v, bd_v]
  have a1 : sL sh d 21 t 0 (oc (tel σ h p)).toInt64 = some (uAL d t 0 (oL (tel σ h p))) := a1
  rw [a1, bd_v]
  cases ht : tel σ h p with
  | none =>
    rw [ht] at f1 k78
    rw [if_pos (show oc none = -9 from rfl)]
    exact k78 0 (by rw [f1]; rfl)
  | some c =>
    have hc := tel_lt B ht
    rw [ht] at f1 k78 a2 a3
    rw [if_neg (show ¬ oc (some c) = -9 from fun q => ((nI_m9 (k := c) (by omega)).mp q).elim), mg_304 S a2, bd_v, bd_v]
    show LO (bd (aL sh (uAL d t 0 (oL (some c))) 21 (mm + 13) (nI c)) _) mm σ d t h p
    rw [mA_13 S _ (show c < 400 by omega), bd_v, rm_vl a3 hc]
    exact k78 _ (by rw [f1]; rfl)
theorem m_lay_tally (S : MS sh mm) (E : MD d mm) (R : RM σ d mm) (B : WB σ) (w : Wel σ) {h p t : Nat} (hh : h < 6) (hp : p < np σ) (T : TM mm t) (hk : kin σ p = 2 ∨ kin σ p = 5) : LO (fX7_lay_b144 sh mm (nI h) (nI p) (some t) d) mm σ d t h p := by
  have b2 := B.2.1
  have hkp := B.2.2.2.1 p hp
  have f0 : tlv σ h p 0 = sumS σ h p := by unfold tlv; rw [if_neg (by omega), if_pos hk]; rfl
  have f1 : tlv σ h p 1 = (nI (mny σ h p)).toInt64 := by unfold tlv; rw [if_neg (by omega), if_pos hk]; rfl
  have f2 : ∀ k, tlv σ h p (2 + k) = rgt σ h p k := fun k => by unfold tlv; rw [if_neg (by omega), if_pos hk, if_neg (by omega), if_neg (by omega), show 2 + k - 2 = k by omega]
  obtain ⟨a1, a2, a3, a4, a5⟩ := m_row S E R T (i := 0) (by decide) (fun i hi => by omega) f0
  obtain ⟨c1, c2, c3, c4, c5⟩ := m_row S a2 a3 T (i := 1) (by decide) a4 f1
  have a1 : sL sh d 21 t 0 (sumS σ h p) = _ := a1
  have c1 : sL sh (uAL d t 0 (sumS σ h p)) 21 t 1 (nI (mny σ h p)).toInt64 = _ := c1
  unfold fX7_lay_b144
  rw [mk_9 S, bd_v, m_sumOf S E R B hh (show p < 2 ^ 30 by omega), bd_v, bd_v, a1, bd_v, m_manyOn S a2 a3 B hh (show p < 2 ^ 30 by omega), bd_v, c1, bd_v]
  have key : ∀ m j n d7, j + m = 6 → m < n → MD d7 mm → RM σ d7 mm → RW d7 t (2 + j) (tlv σ h p) → RO t d d7 → LO (fX7_lay_b166 sh n mm (nI h) (nI p) (some t) (nI j) d7) mm σ d t h p := by
    intro m
    induction m with
    | zero =>
      intro j n d7 hj hn E7 R7 L7 O7
      cases n with
      | zero => omega
      | succ n =>
        have : j = 6 := by omega
        subst this
        simp only [fX7_lay_b166]
        rw [if_pos (by decide), mg_296 S E7, bd_v, bd_v, mA_6 S _ (show p < 10 by omega), bd_v, rm_kin R7 hp]
        by_cases g : kin σ p = 5
        · have et : tln σ h p = 8 := by unfold tln; rw [if_neg (by omega), if_neg (by omega), if_pos g]
          rw [g, if_pos (show nI 5 = 5 from rfl)]
          exact ⟨d7, by rw [et]; rfl, E7, R7, by rw [et]; exact L7, O7⟩
        · have et : tln σ h p = 2 := by unfold tln; rw [if_neg (by omega), if_pos (by omega)]
          rw [if_neg (show ¬ nI (kin σ p) = 5 from fun q => g ((nI_eq (b := 5) (by omega) (by decide)).mp q))]
          exact ⟨d7, by rw [et]; rfl, E7, R7, by rw [et]; exact fun i hi => L7 i (by omega), O7⟩
    | succ m ih =>
      intro j n d7 hj hn E7 R7 L7 O7
      cases n with
      | zero => omega
      | succ n =>
        obtain ⟨y1, y2, y3, y4, y5⟩ := m_row S E7 R7 T (i := 2 + j) (by omega) L7 (f2 j)
        have ej : nI j + (2 : Int32) = nI (2 + j) := by rw [show (2 : Int32) = nI 2 from rfl, nI_add, Nat.add_comm]
        simp (disch := omega) only [fX7_lay_b166, mk_9 S, bd_v, m_rightsOf S E7 R7 B, ej, y1, nI_1, z_6, nI_leI]
        rw [if_neg (by omega)]
        exact ih (j + 1) n _ (by omega) (by omega) y2 y3 y4 (ro_t O7 y5)
  exact key 6 0 fu _ (by omega) (by decide) c2 c3 c4 (ro_t a5 c5)
theorem m_lay (S : MS sh mm) (E : MD d mm) (R : RM σ d mm) (B : WB σ) (w : Wel σ) {h p t : Nat} (hh : h < 6) (hp : p < np σ) (T : TM mm t) : LO (fX7_lay sh d mm (nI h) (nI p) (some t)) mm σ d t h p := by
  have b2 := B.2.1
  have hkp := B.2.2.2.1 p hp
  have last := m_lay_last S E R B w hh hp T
  have tally := m_lay_tally S E R B w hh hp T
  have bag : kin σ p = 3 → LO (fX7_lay_b213 sh fu mm (nI h) (nI p) (some t) 0 d) mm σ d t h p := by
    intro hk
    have et : tln σ h p = 64 := by unfold tln; rw [if_neg (by omega), if_neg (by omega), if_neg (by omega), if_pos hk]
    have fk : ∀ k, tlv σ h p k = (nI (cin σ h p k)).toInt64 := fun k => by unfold tlv; rw [if_neg (by omega), if_neg (by omega), if_pos hk]
    have key : ∀ m j n d7, j + m = 64 → m < n → MD d7 mm → RM σ d7 mm → RW d7 t j (tlv σ h p) → RO t d d7 → LO (fX7_lay_b213 sh n mm (nI h) (nI p) (some t) (nI j) d7) mm σ d t h p := by
      intro m
      induction m with
      | zero =>
        intro j n d7 hj hn E7 R7 L7 O7
        cases n with
        | zero => omega
        | succ n =>
          have : j = 64 := by omega
          subst this
          refine ⟨d7, ?_, E7, R7, by rw [et]; exact L7, O7⟩
          simp only [fX7_lay_b213]
          rw [if_pos (by decide), et]; rfl
      | succ m ih =>
        intro j n d7 hj hn E7 R7 L7 O7
        cases n with
        | zero => omega
        | succ n =>
          obtain ⟨y1, y2, y3, y4, y5⟩ := m_row S E7 R7 T (i := j) (by omega) L7 (fk j)
          simp (disch := omega) only [fX7_lay_b213, mk_9 S, bd_v, m_countIn S E7 R7 B, y1, nI_1, z_64, nI_leI]
          rw [if_neg (by omega)]
          exact ih (j + 1) n _ (by omega) (by omega) y2 y3 y4 (ro_t O7 y5)
    exact key 64 0 fu d (by omega) (by decide) E R (fun i hi => by omega) ro_r
  have flag : kin σ p = 6 ∨ kin σ p = 7 → ∀ v, v = (bI (upB σ h p)).toInt64 → LO (fX7_lay_b258 sh mm (nI h) (nI p) (some t) (some t) 0 v d) mm σ d t h p := by
    intro hk v hv
    have et : tln σ h p = 3 := by unfold tln; rw [if_neg (by omega), if_neg (by omega), if_neg (by omega), if_neg (by omega)]
    have fk : ∀ k, tlv σ h p k = (if k = 0 then (bI (upB σ h p)).toInt64 else if k = 1 then (nI (mdo σ h p 6)).toInt64 else (nI (mdo σ h p 7)).toInt64) := fun k => by unfold tlv; rw [if_neg (by omega), if_neg (by omega), if_neg (by omega)]
    obtain ⟨a1, a2, a3, a4, a5⟩ := m_row S E R T (i := 0) (v := v) (by decide) (fun i hi => by omega) ((fk 0).trans hv.symm)
    obtain ⟨c1, c2, c3, c4, c5⟩ := m_row S a2 a3 T (i := 1) (v := (nI (mdo σ h p 6)).toInt64) (by decide) a4 (fk 1)
    obtain ⟨g1, g2, g3, g4, g5⟩ := m_row S c2 c3 T (i := 2) (v := (nI (mdo σ h p 7)).toInt64) (by decide) c4 (fk 2)
    have a1 : sL sh d 21 t 0 v = _ := a1
    have c1 : sL sh (uAL d t 0 v) 21 t 1 (nI (mdo σ h p 6)).toInt64 = _ := c1
    have g1 : sL sh (uAL (uAL d t 0 v) t 1 (nI (mdo σ h p 6)).toInt64) 21 t 2 (nI (mdo σ h p 7)).toInt64 = _ := g1
    have m6 : fX7_manyDo sh (uAL d t 0 v) mm (nI h) (nI p) 6 = some (nI (mdo σ h p 6)) := m_manyDo S a2 a3 B (w := 6) hh (by omega) (by decide)
    have m7 : fX7_manyDo sh (uAL (uAL d t 0 v) t 1 (nI (mdo σ h p 6)).toInt64) mm (nI h) (nI p) 7 = some (nI (mdo σ h p 7)) := m_manyDo S c2 c3 B (w := 7) hh (by omega) (by decide)
    unfold fX7_lay_b258
    rw [bd_v, a1, bd_v, mk_9 S, bd_v, m6, bd_v, bd_v, c1, bd_v, m7, bd_v, g1, bd_v]
    exact ⟨_, by rw [et]; rfl, g2, g3, by rw [et]; exact g4, ro_t (ro_t a5 c5) g5⟩
  unfold fX7_lay fX7_lay_b0
  rw [mg_296 S E, bd_v, bd_v, mA_6 S _ (show p < 10 by omega), bd_v, rm_kin R hp, m_isUp S E R B hh hp, bd_v]
  have hz : kin σ p = 0 ∨ kin σ p = 1 ∨ kin σ p = 2 ∨ kin σ p = 3 ∨ kin σ p = 4 ∨ kin σ p = 5 ∨ kin σ p = 6 ∨ kin σ p = 7 := by omega
  have nn : ∀ a b : Nat, a < 8 → b < 8 → a ≠ b → ¬ nI a = nI b := fun a b h1 h2 h3 q => h3 ((nI_eq (by omega) (by omega)).mp q)
  rcases hz with e | e | e | e | e | e | e | e
  · rw [e, if_pos (show nI 0 = 0 from rfl)]; exact last (Or.inl e)
  · rw [e, if_neg (show ¬ nI 1 = 0 by decide), if_pos (show nI 1 = 1 from rfl)]; exact last (Or.inr (Or.inl e))
  · rw [e, if_neg (show ¬ nI 2 = 0 by decide), if_neg (show ¬ nI 2 = 1 by decide), if_pos (show nI 2 = 2 from rfl)]; exact tally (Or.inl e)
  · rw [e, if_neg (show ¬ nI 3 = 0 by decide), if_neg (show ¬ nI 3 = 1 by decide), if_neg (show ¬ nI 3 = 2 by decide), if_pos (show nI 3 = 3 from rfl)]; exact bag e
  · rw [e, if_neg (show ¬ nI 4 = 0 by decide), if_neg (show ¬ nI 4 = 1 by decide), if_neg (show ¬ nI 4 = 2 by decide), if_neg (show ¬ nI 4 = 3 by decide), if_pos (show nI 4 = 4 from rfl)]; exact last (Or.inr (Or.inr e))
  · rw [e, if_neg (show ¬ nI 5 = 0 by decide), if_neg (show ¬ nI 5 = 1 by decide), if_neg (show ¬ nI 5 = 2 by decide), if_neg (show ¬ nI 5 = 3 by decide), if_neg (show ¬ nI 5 = 4 by decide), if_pos (show nI 5 = 5 from rfl)]; exact tally (Or.inr e)
  · rw [e, if_neg (show ¬ nI 6 = 0 by decide), if_neg (show ¬ nI 6 = 1 by decide), if_neg (show ¬ nI 6 = 2 by decide), if_neg (show ¬ nI 6 = 3 by decide), if_neg (show ¬ nI 6 = 4 by decide), if_neg (show ¬ nI 6 = 5 by decide)]
    cases hb : upB σ h p with
    | false => rw [if_pos (show bI false = 0 from rfl)]; exact flag (Or.inl e) _ (by rw [hb]; decide)
    | true => rw [if_neg (by decide)]; exact flag (Or.inl e) _ (by rw [hb]; decide)
  · rw [e, if_neg (show ¬ nI 7 = 0 by decide), if_neg (show ¬ nI 7 = 1 by decide), if_neg (show ¬ nI 7 = 2 by decide), if_neg (show ¬ nI 7 = 3 by decide), if_neg (show ¬ nI 7 = 4 by decide), if_neg (show ¬ nI 7 = 5 by decide)]
    cases hb : upB σ h p with
    | false => rw [if_pos (show bI false = 0 from rfl)]; exact flag (Or.inr e) _ (by rw [hb]; decide)
    | true => rw [if_neg (by decide)]; exact flag (Or.inr e) _ (by rw [hb]; decide)
theorem m_alike (S : MS sh mm) (E : MD d mm) (R : RM σ d mm) (B : WB σ) (w : Wel σ) (a1 a2 a3 : Int32) : OKm (fX7_alike sh d mm a1 a2 a3) mm (alikeV σ a1 a2 a3, σ) := by
  have b1 := B.1
  have b2 := B.2.1
  unfold fX7_alike fX7_alike_b0 alikeV
  rw [mk_9 S, bd_v, m_isPage S R B, bd_v]
  cases h1 : inN a1 (np σ) with
  | false => exact ⟨d, rfl, E, R⟩
  | true =>
    rw [if_neg (by decide), m_isHand S R B, bd_v]
    cases h2 : inN a2 (nh σ) with
    | false => exact ⟨d, rfl, E, R⟩
    | true =>
      rw [if_neg (by decide), m_isHand S R B, bd_v]
      cases h3 : inN a3 (nh σ) with
      | false => exact ⟨d, rfl, E, R⟩
      | true =>
        obtain ⟨p, e1, rfl⟩ := inN_t h1
        obtain ⟨h, e2, rfl⟩ := inN_t h2
        obtain ⟨o, e3, rfl⟩ := inN_t h3
        obtain ⟨d1, q1, q2, q3, q4, q5⟩ := m_lay S E R B w (show h < 6 by omega) e1 (Or.inl rfl : TM mm (mm + 16))
        obtain ⟨d2, r1, r2, r3, r4, r5⟩ := m_lay S q2 q3 B w (show o < 6 by omega) e1 (Or.inr rfl : TM mm (mm + 17))
        have hn := tln_b B w h p
        have hm := tln_b B w o p
        have L3 : RW d2 (mm + 16) (tln σ h p) (tlv σ h p) := fun i hi => by rw [r5 (mm + 16) (by omega)]; exact q4 i hi
        rw [if_neg (by decide), if_pos (show (true && (true && true)) = true from rfl), cl_nI (by omega), cl_nI (by omega), cl_nI (by omega), mg_309 S E, bd_v, q1, bd2_v, mg_310 S q2, bd_v, r1, bd2_v]
        simp (disch := omega) only [nI_eq]
        have f0 : ∀ n j, fX7_alike_b67 sh (n + 1) mm (nI (tln σ h p)) 0 (nI j) d2 = some (0, d2) := by
          intro n j
          simp only [fX7_alike_b67, fX7_alike_b110]
          split
          · rfl
          · rfl
        unfold alB
        by_cases g : tln σ h p = tln σ o p
        · rw [if_pos g, decide_eq_true g, Bool.true_and]
          have key : ∀ k j n, j + k = tln σ h p → k < n → ∃ b, fX7_alike_b67 sh n mm (nI (tln σ h p)) 1 (nI j) d2 = some (bI b, d2) ∧ (b = true ↔ ∀ i, j ≤ i → i < tln σ h p → tlv σ h p i = tlv σ o p i) := by
            intro k
            induction k with
            | zero =>
              intro j n hj hf
              cases n with
              | zero => omega
              | succ n =>
                refine ⟨true, ?_, fun _ i i1 i2 => by omega, fun _ => rfl⟩
                simp (disch := omega) only [fX7_alike_b67, fX7_alike_b110, nI_leI]
                rw [if_pos (by omega), if_neg (by decide)]; rfl
            | succ k ih =>
              intro j n hj hf
              cases n with
              | zero => omega
              | succ n =>
                have a5 : aL sh d2 21 (mm + 16) (nI j) = some (tlv σ h p j) := (mA_16 S d2 (show j < 404 by omega)).trans (congrArg some (L3 j (by omega)))
                have a7 : aL sh d2 21 (mm + 17) (nI j) = some (tlv σ o p j) := (mA_17 S d2 (show j < 404 by omega)).trans (congrArg some (r4 j (by omega)))
                simp (disch := omega) only [fX7_alike_b67, nI_leI, mg_309 S r2, mg_310 S r2, bd_v, a5, a7, cmp0, nI_1]
                rw [if_neg (by omega), if_neg (by decide)]
                by_cases z : tlv σ h p j = tlv σ o p j
                · rw [if_pos z]
                  obtain ⟨b, t1, t2⟩ := ih (j + 1) n (by omega) (by omega)
                  refine ⟨b, t1, t2.trans ⟨fun q i i1 i2 => ?_, fun q i i1 i2 => q i (by omega) i2⟩⟩
                  by_cases y : i = j
                  · rw [y]; exact z
                  · exact q i (by omega) i2
                · rw [if_neg z]
                  cases n with
                  | zero => omega
                  | succ n =>
                    rw [f0]
                    exact ⟨false, rfl, ⟨fun q => Bool.noConfusion q, fun q => absurd (q j (Nat.le_refl _) (by omega)) z⟩⟩
          obtain ⟨b, t1, t2⟩ := key (tln σ h p) 0 fu (by omega) (by show tln σ h p < 100000; omega)
          have eb : b = !anyN (fun k => !decide (tlv σ h p k = tlv σ o p k)) (tln σ h p) := by
            rw [Bool.eq_iff_iff, t2, Bool.not_eq_true', ← Bool.not_eq_true, anyN_iff]
            constructor
            · rintro q ⟨i, i1, i2⟩
              rw [decide_eq_true (q i (Nat.zero_le _) i1)] at i2; cases i2
            · intro q i _ i2
              by_cases z : tlv σ h p i = tlv σ o p i
              · exact z
              · exact (q ⟨i, i2, by rw [decide_eq_false z]; rfl⟩).elim
          rw [← eb]
          exact ⟨d2, t1, r2, r3⟩
        · rw [if_neg g, decide_eq_false g, Bool.false_and]
          exact ⟨d2, f0 99999 0, r2, r3⟩
theorem m_dig1 (S : MS sh mm) (E : MD d mm) (R : RM σ d mm) (B : WB σ) (w : Wel σ) {h : Nat} (e1 : h < nh σ) : fX7_digest_b17 sh fu mm (nI h) 17 (nI 0) d = fX7_digest_b47 sh fu mm (nI h) (fo (fun k a => 31 * a + (nI (if k = 0 then sm6 (up σ h) else if k = 1 then wn σ h else if k = 2 then gc σ h else if k = 3 then up σ h h else md σ h)).toInt64) 17 5) (nI 0) d := by
  have b1 := B.1
  refine lp_for (fun n a y => fX7_digest_b17 sh n mm (nI h) a y d) (fun a => fX7_digest_b47 sh fu mm (nI h) a (nI 0) d) (fun k a => 31 * a + (nI (if k = 0 then sm6 (up σ h) else if k = 1 then wn σ h else if k = 2 then gc σ h else if k = 3 then up σ h h else md σ h)).toInt64) 5 (fun _ _ => True) (fun _ _ _ _ => trivial) ?_ ?_ 17 trivial fu (by decide)
  · intro n a _
    simp only [fX7_digest_b17]
    rw [if_pos (by decide)]; rfl
  · intro n j a hj _
    have ht : toldV σ (nI h) (nI j) = nI (if j = 0 then sm6 (up σ h) else if j = 1 then wn σ h else if j = 2 then gc σ h else if j = 3 then up σ h h else md σ h) := by
      unfold toldV
      rw [inN_nI (by omega), decide_eq_true e1, if_pos rfl, cl_nI (by omega)]
      simp (disch := omega) only [z_0, z_1, z_2, z_3, z_4, z_5, z_6, z_7, z_8, z_10, z_16, z_17, z_31, z_63, z_64, z_400, nI_add, pk_mul, nI_eq, nI_leI, nI_ltI, bI_z, nI_m9, bI_m9]
      have : j = 0 ∨ j = 1 ∨ j = 2 ∨ j = 3 ∨ j = 4 := by omega
      rcases this with rfl | rfl | rfl | rfl | rfl <;> simp [wn]
    simp (disch := omega) only [fX7_digest_b17, bd_v, mk_9 S, m_told S E R B w, ht, nI_1, z_5, nI_leI]
    rw [if_neg (by omega)]
theorem m_dig2 (S : MS sh mm) (E7 : MD d mm) (R7 : RM σ d mm) (B : WB σ) {h : Nat} (e1 : h < nh σ) (a : Int64) : fX7_digest_b148 sh fu mm (nI h) a (nI 0) d = some (dgL σ h a, d) := by
  have b1 := B.1
  have hl := (B.2.2.2.2.2 h (by omega)).1
  unfold dgL
  refine lp_for (fun n a y => fX7_digest_b148 sh n mm (nI h) a y d) (fun a => some (a, d)) (fun i a => if thr σ h i then 31 * (31 * a + 1) + lf σ h i else 31 * a - 1) (lm σ h) (fun _ _ => True) (fun _ _ _ _ => trivial) ?_ ?_ a trivial fu (by show lm σ h < 100000; omega)
  · intro n a _
    simp (disch := omega) only [fX7_digest_b148, bd_v, mg_311 S E7, mA_18 S, rm_lm R7, nI_leI]
    rw [if_pos (Nat.le_refl _)]
  · intro n j a hj _
    have ei : (16 : Int32) * nI h + nI j = nI (16 * h + j) := by rw [show (16 : Int32) = nI 16 from rfl, pk_mul, nI_add]
    have r1 : aI sh d 22 (mm + 19) (nI (16 * h + j)) = some (bI (thr σ h j)) := (mA_19 S d (by omega)).trans (congrArg some (rm_thr R7 (by omega) (by omega)))
    have r2 : aL sh d 21 (mm + 20) (nI (16 * h + j)) = some (lf σ h j) := (mA_20 S d (by omega)).trans (congrArg some (rm_lf R7 (by omega) (by omega)))
    simp (disch := omega) only [fX7_digest_b148, bd_v, mg_311 S E7, mg_312 S E7, mg_313 S E7, mA_18 S, rm_lm R7, nI_leI, ei, r1, r2, bI_0, nI_1]
    rw [if_neg (by omega)]
    cases thr σ h j <;> simp
theorem m_dig3 (S : MS sh mm) (q2 : MD d mm) (B : WB σ) (w : Wel σ) {h j : Nat} (q4 : RW d (mm + 16) (tln σ h j) (tlv σ h j)) (k47 : Nat → Int32 → Int64 → Int32 → Dt → Option (Int64 × Dt)) (a : Int64) : fX7_digest_b112 sh k47 fu mm (nI h) a (nI j) (nI (tln σ h j)) (nI 0) d = k47 mm (nI h) (dgT σ h j a) (nI (j + 1)) d := by
  have ht := tln_b B w h j
  unfold dgT
  refine lp_for (fun n2 a y => fX7_digest_b112 sh k47 n2 mm (nI h) a (nI j) (nI (tln σ h j)) y d) (fun a => k47 mm (nI h) a (nI (j + 1)) d) (fun k a => 31 * a + tlv σ h j k) (tln σ h j) (fun _ _ => True) (fun _ _ _ _ => trivial) ?_ ?_ a trivial fu (by show tln σ h j < 100000; omega)
  · intro n2 a _
    simp (disch := omega) only [fX7_digest_b112, nI_leI, nI_1]
    rw [if_pos (Nat.le_refl _)]
  · intro n2 i a hi _
    have r1 : aL sh d 21 (mm + 16) (nI i) = some (tlv σ h j i) := (mA_16 S d (show i < 404 by omega)).trans (congrArg some (q4 i hi))
    simp (disch := omega) only [fX7_digest_b112, nI_leI, nI_1, mg_309 S q2, bd_v, r1]
    rw [if_neg (by omega)]
theorem m_dig4 (S : MS sh mm) (B : WB σ) (w : Wel σ) {h : Nat} (e1 : h < nh σ) : ∀ m j n d7, j + m = np σ → m < n → MD d7 mm → RM σ d7 mm → ∃ e, fX7_digest_b47 sh n mm (nI h) (fo (fun p a => dgT σ h p (31 * (31 * a + (nI (kin σ p)).toInt64) + (if skp σ h p then 0 else 1))) (dg5 σ h) j) (nI j) d7 = some (dgL σ h (dgP σ h (dg5 σ h)), e) ∧ MD e mm ∧ RM σ e mm := by
  have b1 := B.1
  have b2 := B.2.1
  intro m
  induction m with
  | zero =>
    intro j n d7 hj hn E7 R7
    cases n with
    | zero => omega
    | succ n =>
      have ej : j = np σ := by omega
      refine ⟨d7, ?_, E7, R7⟩
      rw [fX7_digest_b47, mi_295 S, bd_v, rm_np R7, if_pos (nI_le (by omega) (by omega)), show (0 : Int32) = nI 0 from rfl, m_dig2 S E7 R7 B e1, ej]
      rfl
  | succ m ih =>
    intro j n d7 hj hn E7 R7
    cases n with
    | zero => omega
    | succ n =>
      generalize hA : fo (fun p a => dgT σ h p (31 * (31 * a + (nI (kin σ p)).toInt64) + (if skp σ h p then 0 else 1))) (dg5 σ h) j = A
      obtain ⟨d8, q1, q2, q3, q4, q5⟩ := m_lay S E7 R7 B w (show h < 6 by omega) (show j < np σ by omega) (Or.inl rfl : TM mm (mm + 16))
      have hs := fo_s (fun p a => dgT σ h p (31 * (31 * a + (nI (kin σ p)).toInt64) + (if skp σ h p then 0 else 1))) (dg5 σ h) j
      rw [hA] at hs
      have nx := ih (j + 1) n d8 (by omega) (by omega) q2 q3
      rw [hs] at nx
      have inner := m_dig3 S q2 B w q4 (fX7_digest_b47 sh n)
      have ei : (10 : Int32) * nI h + nI j = nI (10 * h + j) := by rw [show (10 : Int32) = nI 10 from rfl, pk_mul, nI_add]
      have r3 : aI sh d7 22 (mm + 4) (nI (10 * h + j)) = some (bI (skp σ h j)) := (mA_4 S d7 (by omega)).trans (congrArg some (rm_skp R7 (by omega) (by omega)))
      rw [fX7_digest_b47, mi_295 S, bd_v, rm_np R7, if_neg (nI_ge (by omega) (by omega)), mg_296 S E7, bd_v, bd_v, mA_6 S d7 (show j < 10 by omega), bd_v, rm_kin R7 (show j < np σ by omega), mg_293 S E7, bd_v, bd_v, ei, r3, bd_v]
      unfold fX7_digest_b94
      rw [mg_309 S E7, bd_v, bd_v, q1, bd2_v, bd2_v, show (0 : Int32) = nI 0 from rfl, inner, inner]
      cases hb : skp σ h j with
      | false =>
        rw [hb] at nx
        rw [if_pos (show bI false = nI 0 from rfl)]
        exact nx
      | true =>
        rw [hb] at nx
        rw [if_neg (by decide)]
        exact nx
theorem dg5_fo {h : Nat} : fo (fun k a => 31 * a + (nI (if k = 0 then sm6 (up σ h) else if k = 1 then wn σ h else if k = 2 then gc σ h else if k = 3 then up σ h h else md σ h)).toInt64) 17 5 = dg5 σ h := by simp [fo, dg5, wn]
theorem m_digest (S : MS sh mm) (E : MD d mm) (R : RM σ d mm) (B : WB σ) (w : Wel σ) (a1 : Int32) : ∃ e, fX7_digest sh d mm a1 = some (dgV σ a1, e) ∧ MD e mm ∧ RM σ e mm := by
  have b1 := B.1
  have b2 := B.2.1
  unfold fX7_digest fX7_digest_b0 dgV
  rw [mk_9 S, bd_v, m_isHand S R B, bd_v]
  cases h1 : inN a1 (nh σ) with
  | false => exact ⟨d, rfl, E, R⟩
  | true =>
    obtain ⟨h, e1, rfl⟩ := inN_t h1
    have h4 := m_dig4 S B w e1 (np σ) 0 fu d (by omega) (by show np σ < 100000; omega) E R
    rw [if_neg (by decide), if_pos rfl, cl_nI (by omega), show (0 : Int32) = nI 0 from rfl, m_dig1 S E R B w e1, dg5_fo]
    exact h4
end
