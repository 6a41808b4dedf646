/-! the class: what a COPY tells, alike, digest -/
def TL (d : Dt) (t n : Nat) (f : Nat → Int64) : Prop := dfi d 225 t = nI n ∧ ∀ i, i < n → dal d (t + 1) i = f i
def TS (t : Nat) (d d' : Dt) : Prop := ∀ u, u ≠ t → dfi d' 225 u = dfi d 225 u ∧ dal d' (u + 1) = dal d (u + 1)
theorem TS.rf {t : Nat} {d : Dt} : TS t d d := fun _ _ => ⟨rfl, rfl⟩
theorem TS.tr {t : Nat} {d e f : Dt} (h : TS t d e) (g : TS t e f) : TS t d f := fun u hu => ⟨(g u hu).1.trans (h u hu).1, (g u hu).2.trans (h u hu).2⟩
section
variable {sh : Sh} {d : Dt} {x : Nat} {σ : St} {G : Gh} {em sz ns : Nat}
/-- one of the two rows that are told into -/
def TT (x t : Nat) : Prop := t = x + 5 ∨ t = x + 7
theorem tt_k (S : CZ σ G x em sz ns sh) {t : Nat} (T : TT x t) : sh.1 t = 7 ∧ sh.1 (t + 1) = 21 ∧ sh.2 (t + 1) = 64 := by
  rcases T with rfl | rfl
  · exact ⟨sX_5 S, sX_6 S, nX_6 S⟩
  · exact ⟨sX_7 S, sX_8 S, nX_8 S⟩
theorem tt_g (S : CZ σ G x em sz ns sh) (D : CD σ G x d) {t : Nat} (T : TT x t) : gR sh d 7 224 t = some (some (t + 1)) := by
  rcases T with rfl | rfl
  · exact cf_224_5 S D
  · exact cf_224_7 S D
theorem tt_n (S : CZ σ G x em sz ns sh) {t h : Nat} (T : TT x t) (hh : h < nh σ) : HA G h + 7 ≠ t + 1 := by
  rcases T with rfl | rfl
  · exact tne (t_h S hh (j := 7) (by decide)) (t_x S (j := 6) (by decide)) (by omega)
  · exact tne (t_h S hh (j := 7) (by decide)) (t_x S (j := 8) (by decide)) (by omega)
theorem cd_225 (D : CD σ G x d) {t : Nat} {v : Int32} : CD σ G x (uI d 225 t v) := ⟨⟨⟨(fi_ne (by decide)).trans (D.1.1.1), (fi_ne (by decide)).trans (D.1.1.2.1), (fi_ne (by decide)).trans (D.1.1.2.2)⟩, fun h hh => ⟨(fi_ne (by decide)).trans ((D.1.2.1 h hh).1), (fi_ne (by decide)).trans ((D.1.2.1 h hh).2.1), (fi_ne (by decide)).trans ((D.1.2.1 h hh).2.2)⟩, fun p hp => ⟨(fi_ne (by decide)).trans ((D.1.2.2.1 p hp).1), (fi_ne (by decide)).trans ((D.1.2.2.1 p hp).2)⟩, fun c hc => ⟨(fi_ne (by decide)).trans ((D.1.2.2.2.1 c hc).1), (fi_ne (by decide)).trans ((D.1.2.2.2.1 c hc).2.1), (fi_ne (by decide)).trans ((D.1.2.2.2.1 c hc).2.2.1), (fi_ne (by decide)).trans ((D.1.2.2.2.1 c hc).2.2.2.1), (fi_ne (by decide)).trans ((D.1.2.2.2.1 c hc).2.2.2.2.1), (fi_ne (by decide)).trans ((D.1.2.2.2.1 c hc).2.2.2.2.2.1), (fi_ne (by decide)).trans ((D.1.2.2.2.1 c hc).2.2.2.2.2.2)⟩, (fi_ne (by decide)).trans (D.1.2.2.2.2.1), fun h hh => ⟨(fi_ne (by decide)).trans ((D.1.2.2.2.2.2 h hh).1), (fi_ne (by decide)).trans ((D.1.2.2.2.2.2 h hh).2)⟩⟩, D.2⟩
theorem cd_say (S : CZ σ G x em sz ns sh) (D : CD σ G x d) {t : Nat} (T : TT x t) {i : Nat} {v : Int64} : CD σ G x (uAL d (t + 1) i v) := ⟨D.1, D.2.1, D.2.2.1, D.2.2.2.1, fun h hh k hk => (al_ne (tt_n S T hh)).trans (D.2.2.2.2.1 h hh k hk), D.2.2.2.2.2⟩
theorem c_say (S : CZ σ G x em sz ns sh) (D : CD σ G x d) {t n : Nat} (T : TT x t) {f : Nat → Int64} {v : Int64} (L : TL d t n f) (hv : f n = v) (hn : n < 64) : ∃ d', fX5_say sh d t v = some d' ∧ CD σ G x d' ∧ TL d' t (n + 1) f ∧ TS t d d' := by
  obtain ⟨k1, k2, k3⟩ := tt_k S T
  have D1 := cd_say S D T (i := n) (v := v)
  refine ⟨uI (uAL d (t + 1) n v) 225 t (nI (n + 1)), ?_, cd_225 D1, ⟨fi_eq, fun i hi => ?_⟩, fun u hu => ⟨fi_n2 hu, ?_⟩⟩
  · unfold fX5_say fX5_say_b0 lnA
    rw [gI_v k1, bd_v, L.1, tt_g S D T, bd_v, bd_v, if_pos k2, bd_v, k3]
    have e1 : gI sh (uAL d (t + 1) n v) 7 225 t = some (nI n) := (gI_v k1).trans (congrArg some L.1)
    rw [if_neg (show ¬ Int32.ofNat 64 ≤ nI n from nI_ge hn (by decide)), bd_v, bd_v, bd_v, sL_v k2 (by omega) (by omega), bd_v, e1, bd_v, nI_1, pI_v k1, bd_v]
  · show dal (uAL d (t + 1) n v) (t + 1) i = f i
    by_cases e : i = n
    · subst e; rw [al_eq, hv]
    · rw [al_n2 e]; exact L.2 i (by omega)
  · show dal (uAL d (t + 1) n v) (u + 1) = _
    funext k
    exact al_ne (by omega)
theorem tl_k {t n : Nat} {f : Nat → Int64} (L : TL d t n f) (a : Nat) (F : Nat → Int32) : TL (uCI d a F) t n f := L
theorem l9 : oL none = (-9 : Int64) := by decide
theorem c_tellLast (S : CZ σ G x em sz ns sh) (D : CD σ G x d) (B : WB σ) (w : Wel σ) {h p t : Nat} (hh : h < nh σ) (hp : p < np σ) (T : TT x t) (hk : kin σ p = 0 ∨ kin σ p = 1 ∨ kin σ p = 4) (L0 : TL d t 0 (tlv σ h p)) : ∃ d', fX3_tellLast sh d (PA G p) (some (HA G h + 1)) (some t) = some d' ∧ CD σ G x d' ∧ TL d' t (tln σ h p) (tlv σ h p) ∧ TS t d d' := by
  have kt := kc_v (tt_k S T).1
  have h6 := hd_6 B w h p
  have f0 : tlv σ h p 0 = oL (tel σ h p) := by unfold tlv; rw [if_pos hk]; rfl
  have f1 : tlv σ h p 1 = tv σ (tel σ h p) := by unfold tlv; rw [if_pos hk]; rfl
  have hkp := B.2.2.2.1 p hp
  -- behind the first two
  have k38 : ∀ d1 d2, CD σ G x d1 → TL d1 t 1 (tlv σ h p) → TS t d d1 → ∀ v, v = tlv σ h p 1 → d2 = d1 → ∃ d', fX3_tellLast_b38 sh (PA G p) (some (HA G h + 1)) (some t) (some t) v d2 = some d' ∧ CD σ G x d' ∧ TL d' t (tln σ h p) (tlv σ h p) ∧ TS t d d' := by
    intro d1 d2 D1 L1 M1 v hv e
    subst e
    obtain ⟨d3, e3, D3, L3, M3⟩ := c_say S D1 T L1 hv.symm (by decide)
    unfold fX3_tellLast_b38
    rw [bd_v, kt, bd_v, e3, bd_v, cf_161 S D3 hp, bd_v]
    by_cases g : kin σ p = 4
    · have et : tln σ h p = 3 + hdn σ h p := if_pos g
      have f2 : tlv σ h p 2 = (nI (hdn σ h p)).toInt64 := by unfold tlv; rw [if_pos hk]; rfl
      rw [g, if_pos (show nI 4 = 4 from rfl), c_headCount S D3 B w hh hp (by omega), bd2_v, bd_v, kt, bd_v]
      have D4 : CD σ G x (kW d3 (PA G p + 2) (kno σ h p 0 0)) := cd_kn S D3 hp _
      obtain ⟨d5, e5, D5, L5, M5⟩ := c_say S D4 T (show TL (kW d3 (PA G p + 2) (kno σ h p 0 0)) t 2 (tlv σ h p) from L3) f2 (by decide)
      have e6 := c_headAbove S D5 B w hh hp g (fl := none) (fun b hb => by cases hb)
      rw [Option.map_none] at e6
      rw [e5, bd_v, e6, bd2_v]
      have key : ∀ m j n d7, j + m = hdn σ h p → m < n → CD σ G x d7 → TL d7 t (3 + j) (tlv σ h p) → TS t d d7 → ∃ d', fX3_tellLast_b71 sh n (PA G p) (some (HA G h + 1)) (some t) ((hdk σ h p j).map (EA G)) (nI j) d7 = some d' ∧ CD σ G x d' ∧ TL d' t (tln σ h p) (tlv σ h p) ∧ TS t d d' := by
        intro m
        induction m with
        | zero =>
          intro j n d7 hj hn D7 L7 M7
          cases n with
          | zero => omega
          | succ n =>
            refine ⟨d7, ?_, D7, by rw [et]; rw [show j = hdn σ h p by omega] at L7; exact L7, M7⟩
            rw [(hdk_r w h p j).2 (by omega)]
            simp only [fX3_tellLast_b71, Option.map_none, on_0]
            split <;> rfl
        | succ m ih =>
          intro j n d7 hj hn D7 L7 M7
          cases n with
          | zero => omega
          | succ n =>
            obtain ⟨c, c1, c2, c3, c4⟩ := (hdk_r w h p j).1 (by omega)
            have fj : tlv σ h p (3 + j) = (nI c).toInt64 := by
              unfold tlv; rw [if_pos hk, if_neg (by omega), if_neg (by omega), if_neg (by omega), show 3 + j - 3 = j by omega, c1]; rfl
            obtain ⟨d8, e8, D8, L8, M8⟩ := c_say S D7 T L7 fj (by omega)
            have hn9 := c_headAbove S D8 B w hh hp g (fl := some c) (fun b hb => by cases hb; exact c2)
            have en : nxh σ h p (some c) = hdk σ h p (j + 1) := by
              show _ = (match hdk σ h p j with
                | none => none
                | some b => nxh σ h p (some b))
              rw [c1]
            rw [Option.map_some, en] at hn9
            rw [c1, Option.map_some]
            simp (disch := omega) only [fX3_tellLast_b71, on_v, bd_v, cf_64 S D7 c2, kt, e8, kP_0 S hp, hn9, bd2_v, nI_1, z_6, nI_leI]
            rw [if_neg (by omega)]
            exact ih (j + 1) n _ (by omega) (by omega) (cd_kn S D8 hp _) (show TL (kW d8 (PA G p + 2) (kno σ h p 0 0)) t (3 + (j + 1)) (tlv σ h p) from L8) ((M7.tr M8).tr (fun u hu => ⟨rfl, rfl⟩))
      exact key (hdn σ h p) 0 fu _ (by omega) (by show hdn σ h p < 100000; omega) (cd_kn S D5 hp _) (show TL (kW d5 (PA G p + 2) (kno σ h p 0 0)) t 3 (tlv σ h p) from L5) (((M1.tr M3).tr (fun u hu => ⟨rfl, rfl⟩ : TS t d3 (kW d3 (PA G p + 2) (kno σ h p 0 0)))).tr (M5.tr (fun u hu => ⟨rfl, rfl⟩)))
    · have et : tln σ h p = 2 := by unfold tln; rw [if_neg g, if_pos (by omega)]
      rw [if_neg (show ¬ nI (kin σ p) = 4 from fun q => g ((nI_eq (b := 4) (by omega) (by decide)).mp q)), et]
      exact ⟨d3, rfl, D3, L3, M1.tr M3⟩
  unfold fX3_tellLast fX3_tellLast_b0
  rw [kP_0 S hp, bd_v, c_foremost S D B w hh hp hk, bd_v]
  cases ht : tel σ h p with
  | none =>
    rw [ht] at f0 f1
    obtain ⟨d1, e1, D1, L1, M1⟩ := c_say S D T L0 (f0.trans l9) (by decide)
    rw [Option.map_none, on_0]
    unfold fX3_tellLast_b22
    rw [bd_v, kt, bd_v, e1, bd_v, on_0]
    exact k38 d1 d1 D1 L1 M1 _ (by rw [f1]; rfl) rfl
  | some c =>
    have hc := tel_lt B ht
    rw [ht] at f0 f1
    obtain ⟨d1, e1, D1, L1, M1⟩ := c_say S D T L0 f0 (by decide)
    have e1 : fX5_say sh d t (nI c).toInt64 = some d1 := e1
    rw [Option.map_some, on_v, cf_64 S D hc, bd_v]
    unfold fX3_tellLast_b22
    rw [bd_v, kt, bd_v, e1, bd_v, on_v, cf_69 S D1 hc, bd_v]
    exact k38 d1 d1 D1 L1 M1 _ (by rw [f1]; rfl) rfl
theorem c_tellTally (S : CZ σ G x em sz ns sh) (D : CD σ G x d) (B : WB σ) (w : Wel σ) {h p t : Nat} (hh : h < nh σ) (hp : p < np σ) (T : TT x t) (hk : kin σ p = 2 ∨ kin σ p = 5) (L0 : TL d t 0 (tlv σ h p)) : ∃ d', fX3_tellTally sh d (PA G p) (some (HA G h + 1)) (some t) = some d' ∧ CD σ G x d' ∧ TL d' t (tln σ h p) (tlv σ h p) ∧ TS t d d' := by
  have kt := kc_v (tt_k S T).1
  have hkp := B.2.2.2.1 p hp
  have f0 : tlv σ h p 0 = sumS σ h p := by unfold tlv; rw [if_neg (by omega), if_pos hk]; rfl
  have f1 : tlv σ h p 1 = (nI (mny σ h p)).toInt64 := by unfold tlv; rw [if_neg (by omega), if_pos hk]; rfl
  have f2 : ∀ k, tlv σ h p (2 + k) = rgt σ h p k := fun k => by unfold tlv; rw [if_neg (by omega), if_pos hk, if_neg (by omega), if_neg (by omega), show 2 + k - 2 = k by omega]
  obtain ⟨d1, e1, D1, L1, M1⟩ := c_say S D T L0 f0 (by decide)
  obtain ⟨d2, e2, D2, L2, M2⟩ := c_say S D1 T L1 f1 (by decide)
  unfold fX3_tellTally fX3_tellTally_b0
  rw [kP_0 S hp, bd_v, c_total S D B w hh hp hk, bd_v, bd_v, kt, bd_v, e1, bd_v, c_psize S D1 B w hh hp (by omega), bd_v, e2, bd_v, cf_161 S D2 hp, bd_v]
  by_cases g : kin σ p = 5
  · have et : tln σ h p = 8 := by unfold tln; rw [if_neg (by omega), if_neg (by omega), if_pos g]
    rw [g, if_pos (show nI 5 = 5 from rfl)]
    have key : ∀ m j n d7, j + m = 6 → m < n → CD σ G x d7 → TL d7 t (2 + j) (tlv σ h p) → TS t d d7 → ∃ d', fX3_tellTally_b29 sh n (PA G p) (some (HA G h + 1)) (some t) (nI j) d7 = some d' ∧ CD σ G x d' ∧ TL d' t (tln σ h p) (tlv σ h p) ∧ TS t d d' := by
      intro m
      induction m with
      | zero =>
        intro j n d7 hj hn D7 L7 M7
        cases n with
        | zero => omega
        | succ n =>
          have : j = 6 := by omega
          subst this
          refine ⟨d7, ?_, D7, by rw [et]; exact L7, M7⟩
          simp only [fX3_tellTally_b29]
          rw [if_pos (by decide)]
      | succ m ih =>
        intro j n d7 hj hn D7 L7 M7
        cases n with
        | zero => omega
        | succ n =>
          obtain ⟨d8, e8, D8, L8, M8⟩ := c_say S D7 T L7 (f2 j) (by omega)
          simp (disch := omega) only [fX3_tellTally_b29, bd_v, kP_0 S hp, c_rightsOf S D7 B w hh hp (show j < 6 by omega) hk, kt, e8, nI_1, z_6, nI_leI]
          rw [if_neg (by omega)]
          exact ih (j + 1) n d8 (by omega) (by omega) D8 L8 (M7.tr M8)
    exact key 6 0 fu d2 (by omega) (by decide) D2 L2 (M1.tr M2)
  · have et : tln σ h p = 2 := by unfold tln; rw [if_neg (by omega), if_pos (by omega)]
    rw [if_neg (show ¬ nI (kin σ p) = 5 from fun q => g ((nI_eq (b := 5) (by omega) (by decide)).mp q)), et]
    exact ⟨d2, rfl, D2, L2, M1.tr M2⟩
theorem c_tell (S : CZ σ G x em sz ns sh) (D : CD σ G x d) (B : WB σ) (w : Wel σ) {h p t : Nat} (hh : h < nh σ) (hp : p < np σ) (T : TT x t) : ∃ d', fX3_tell sh d (PA G p) (some (HA G h + 1)) (some t) = some d' ∧ CD σ G x d' ∧ TL d' t (tln σ h p) (tlv σ h p) ∧ TS t d d' := by
  have kt := kc_v (tt_k S T).1
  have hkp := B.2.2.2.1 p hp
  have D1 : CD σ G x (uI d 225 t (nI 0)) := cd_225 D
  have L1 : TL (uI d 225 t (nI 0)) t 0 (tlv σ h p) := ⟨fi_eq, fun i hi => by omega⟩
  have M1 : TS t d (uI d 225 t (nI 0)) := fun u hu => ⟨fi_n2 hu, rfl⟩
  have fin : ∀ {o : Option Dt}, (∃ d', o = some d' ∧ CD σ G x d' ∧ TL d' t (tln σ h p) (tlv σ h p) ∧ TS t (uI d 225 t (nI 0)) d') → ∃ d', o = some d' ∧ CD σ G x d' ∧ TL d' t (tln σ h p) (tlv σ h p) ∧ TS t d d' := fun ⟨d', q1, q2, q3, q4⟩ => ⟨d', q1, q2, q3, M1.tr q4⟩
  have idd : ∀ {o : Option Dt}, (∃ d', o = some d' ∧ CD σ G x d' ∧ TL d' t (tln σ h p) (tlv σ h p) ∧ TS t d d') → ∃ d', bd o (fun d => some d) = some d' ∧ CD σ G x d' ∧ TL d' t (tln σ h p) (tlv σ h p) ∧ TS t d d' := fun ⟨d', q1, q2⟩ => ⟨d', by rw [q1]; rfl, q2⟩
  unfold fX3_tell fX3_tell_b0
  rw [bd_v, pI_v (tt_k S T).1, bd_v, show uI d 225 t 0 = uI d 225 t (nI 0) from rfl, cf_161 S D1 hp, bd_v]
  have hz : (kin σ p = 0 ∨ kin σ p = 1 ∨ kin σ p = 4) ∨ (kin σ p = 2 ∨ kin σ p = 5) ∨ kin σ p = 3 ∨ (kin σ p = 6 ∨ kin σ p = 7) := by omega
  rcases hz with hk | hk | hk | hk
  · have ea : abv (nI (kin σ p)) = some 0 := by rcases hk with e | e | e <;> rw [e] <;> decide
    rw [ea, bd_v, if_pos rfl]
    exact idd (fin (c_tellLast S D1 B w hh hp T hk L1))
  · have ea : abv (nI (kin σ p)) = some 2 := by rcases hk with e | e <;> rw [e] <;> decide
    rw [ea, bd_v, if_neg (by decide), if_neg (by decide), if_pos rfl]
    exact idd (fin (c_tellTally S D1 B w hh hp T hk L1))
  · have ea : abv (nI (kin σ p)) = some 3 := by rw [hk]; decide
    have et : tln σ h p = 64 := by unfold tln; rw [if_neg (by omega), if_neg (by omega), if_neg (by omega), if_pos hk]
    have fk : ∀ k, tlv σ h p k = (nI (cin σ h p k)).toInt64 := fun k => by unfold tlv; rw [if_neg (by omega), if_neg (by omega), if_pos hk]
    rw [ea, bd_v, if_neg (by decide), if_neg (by decide), if_neg (by decide), if_pos rfl]
    have key : ∀ m j n d7, j + m = 64 → m < n → CD σ G x d7 → TL d7 t j (tlv σ h p) → TS t d d7 → ∃ d', fX3_tell_b64 sh n (PA G p) (some (HA G h + 1)) (some t) (nI j) d7 = some d' ∧ CD σ G x d' ∧ TL d' t (tln σ h p) (tlv σ h p) ∧ TS t d d' := by
      intro m
      induction m with
      | zero =>
        intro j n d7 hj hn D7 L7 M7
        cases n with
        | zero => omega
        | succ n =>
          have : j = 64 := by omega
          subst this
          refine ⟨d7, ?_, D7, by rw [et]; exact L7, M7⟩
          simp only [fX3_tell_b64]
          rw [if_pos (by decide)]
      | succ m ih =>
        intro j n d7 hj hn D7 L7 M7
        cases n with
        | zero => omega
        | succ n =>
          have D8 : CD σ G x (kW d7 (PA G p + 2) (kno σ h p j 3)) := cd_kn S D7 hp _
          obtain ⟨d9, e9, D9, L9, M9⟩ := c_say S D8 T (show TL (kW d7 (PA G p + 2) (kno σ h p j 3)) t j (tlv σ h p) from L7) (fk j) (by omega)
          simp (disch := omega) only [fX3_tell_b64, bd_v, kP_0 S hp, c_timesIn S D7 B w hh hp (show j < 64 by omega) hk, bd2_v, kt, e9, nI_1, z_64, nI_leI]
          rw [if_neg (by omega)]
          exact ih (j + 1) n d9 (by omega) (by omega) D9 L9 ((M7.tr (fun u hu => ⟨rfl, rfl⟩ : TS t d7 (kW d7 (PA G p + 2) (kno σ h p j 3)))).tr M9)
    exact key 64 0 fu _ (by omega) (by decide) D1 L1 M1
  · have ea : abv (nI (kin σ p)) = some 6 := by rcases hk with e | e <;> rw [e] <;> decide
    have et : tln σ h p = 3 := by unfold tln; rw [if_neg (by omega), if_neg (by omega), if_neg (by omega), if_neg (by omega)]
    have fk : ∀ k, tlv σ h p k = (if k = 0 then (bI (upB σ h p)).toInt64 else if k = 1 then (nI (mdo σ h p 6)).toInt64 else (nI (mdo σ h p 7)).toInt64) := fun k => by unfold tlv; rw [if_neg (by omega), if_neg (by omega), if_neg (by omega)]
    rw [ea, bd_v, if_neg (by decide), if_neg (by decide), if_neg (by decide), if_neg (by decide)]
    obtain ⟨F, hF⟩ := c_isUp S D1 B w hh hp (by omega)
    have D2 : CD σ G x (uCI (uI d 225 t (nI 0)) (PA G p + 2) F) := cd_kn S D1 hp _
    obtain ⟨d3, e3, D3, L3, M3⟩ := c_say S D2 T (tl_k L1 _ F) (fk 0) (by decide)
    obtain ⟨d4, e4, D4, L4, M4⟩ := c_say S D3 T L3 (fk 1) (by decide)
    obtain ⟨d5, e5, D5, L5, M5⟩ := c_say S D4 T L4 (fk 2) (by decide)
    have e3 : fX5_say sh (uCI (uI d 225 t (nI 0)) (PA G p + 2) F) t (bI (upB σ h p)).toInt64 = some d3 := e3
    have e4 : fX5_say sh d3 t (nI (mdo σ h p 6)).toInt64 = some d4 := e4
    have e5 : fX5_say sh d4 t (nI (mdo σ h p 7)).toInt64 = some d5 := e5
    have s6 : fX3_sizeOf sh d3 (PA G p) (some (HA G h + 1)) 6 = _ := c_sizeOf S D3 B w hh hp (a := 6) (by omega) (by decide)
    have s7 : fX3_sizeOf sh d4 (PA G p) (some (HA G h + 1)) 7 = _ := c_sizeOf S D4 B w hh hp (a := 7) (by omega) (by decide)
    unfold fX3_tell_b90
    rw [kP_0 S hp, bd_v, hF, bd2_v, c_oneIf, bd_v, bd_v, kt, bd_v, e3, bd_v, s6, bd_v, e4, bd_v, s7, bd_v, e5, bd_v]
    exact ⟨d5, rfl, D5, by rw [et]; exact L5, ((M1.tr (show TS t (uI d 225 t (nI 0)) (uCI (uI d 225 t (nI 0)) (PA G p + 2) F) from fun u hu => ⟨rfl, rfl⟩)).tr M3).tr (M4.tr M5)⟩
theorem tln_b (B : WB σ) (w : Wel σ) (h p : Nat) : tln σ h p ≤ 64 := by
  have := hd_6 B w h p
  unfold tln
  split
  · omega
  · split
    · omega
    · split
      · omega
      · split <;> omega
theorem c_same (S : CZ σ G x em sz ns sh) (D : CD σ G x d) {n m : Nat} {f g : Nat → Int64} (hn : n ≤ 64) (hm : m ≤ 64) (L : TL d (x + 5) n f) (M : TL d (x + 7) m g) : fX5_same sh d (x + 5) (some (x + 7)) = some (decide (n = m) && !anyN (fun k => !decide (f k = g k)) n) := by
  have e5 : gI sh d 7 225 (x + 5) = some (nI n) := (gI_v (sX_5 S)).trans (congrArg some L.1)
  have e7 : gI sh d 7 225 (x + 7) = some (nI m) := (gI_v (sX_7 S)).trans (congrArg some M.1)
  unfold fX5_same fX5_same_b0
  rw [e5, bd_v, bd_v, e7, bd_v]
  simp (disch := omega) only [nI_eq]
  by_cases g0 : n = m
  · subst g0
    rw [if_pos rfl, decide_eq_true rfl, Bool.true_and]
    have key : ∀ k j fuel, j + k = n → k < fuel → ∃ b, fX5_same_b15 sh d fuel (x + 5) (some (x + 7)) (nI j) = some b ∧ (b = true ↔ ∀ i, j ≤ i → i < n → f i = g i) := by
      intro k
      induction k with
      | zero =>
        intro j fuel hj hf
        cases fuel with
        | zero => omega
        | succ fuel =>
          refine ⟨true, ?_, fun _ i h1 h2 => by omega, fun _ => rfl⟩
          simp (disch := omega) only [fX5_same_b15, bd_v, e5, nI_leI]
          rw [if_pos (by omega)]
      | succ k ih =>
        intro j fuel hj hf
        cases fuel with
        | zero => omega
        | succ fuel =>
          have a5 : aL sh d 21 (x + 6) (nI j) = some (f j) := (aL_v (sX_6 S) (by rw [nX_6 S]; omega) (by omega)).trans (congrArg some (L.2 j (by omega)))
          have a7 : aL sh d 21 (x + 8) (nI j) = some (g j) := (aL_v (sX_8 S) (by rw [nX_8 S]; omega) (by omega)).trans (congrArg some (M.2 j (by omega)))
          simp (disch := omega) only [fX5_same_b15, bd_v, e5, nI_leI, cf_224_5 S D, cf_224_7 S D, a5, a7, cmp0, nI_1]
          rw [if_neg (by omega)]
          by_cases z : f j = g j
          · rw [if_pos z]
            obtain ⟨b, h1, h2⟩ := ih (j + 1) fuel (by omega) (by omega)
            refine ⟨b, h1, h2.trans ⟨fun q i i1 i2 => ?_, fun q i i1 i2 => q i (by omega) i2⟩⟩
            by_cases y : i = j
            · rw [y]; exact z
            · exact q i (by omega) i2
          · rw [if_neg z]
            exact ⟨false, rfl, ⟨fun q => Bool.noConfusion q, fun q => absurd (q j (Nat.le_refl _) (by omega)) z⟩⟩
    obtain ⟨b, h1, h2⟩ := key n 0 fu (by omega) (by show n < 100000; omega)
    refine (show _ = some b from h1).trans ?_
    congr 1
    rw [Bool.eq_iff_iff, h2, Bool.not_eq_true', ← Bool.not_eq_true, anyN_iff]
    constructor
    · rintro q ⟨i, i1, i2⟩
      rw [decide_eq_true (q i (Nat.zero_le _) i1)] at i2; cases i2
    · intro q i _ i2
      by_cases z : f i = g i
      · exact z
      · exact (q ⟨i, i2, by rw [decide_eq_false z]; rfl⟩).elim
  · rw [if_neg g0, decide_eq_false g0, Bool.false_and]
theorem c_alike (S : CZ σ G x em sz ns sh) (D : CD σ G x d) (B : WB σ) (w : Wel σ) (a1 a2 a3 : Int32) : OKc (fX6_alike sh d x a1 a2 a3) G x (alikeV σ a1 a2 a3, σ) := by
  have b1 := B.1
  have b2 := B.2.1
  unfold fX6_alike fX6_alike_b0 alikeV
  rw [kX_0 S, bd_v, c_pageAt S D B, bd_v, c_handAt S D B, bd_v, c_handAt S D B, bd_v]
  cases h1 : inN a1 (np σ) with
  | false => exact ⟨d, rfl, D⟩
  | true =>
    cases h2 : inN a2 (nh σ) with
    | false => exact ⟨d, rfl, D⟩
    | true =>
      cases h3 : inN a3 (nh σ) with
      | false => exact ⟨d, rfl, D⟩
      | true =>
        obtain ⟨p, e1, rfl⟩ := inN_t h1
        obtain ⟨h, e2, rfl⟩ := inN_t h2
        obtain ⟨o, e3, rfl⟩ := inN_t h3
        rw [if_pos rfl, if_pos rfl, if_pos rfl, if_pos (show (true && (true && true)) = true from rfl), cl_nI (by omega), cl_nI (by omega), cl_nI (by omega), on_v, on_v, on_v]
        obtain ⟨d1, q1, D1, L1, M1⟩ := c_tell S D B w e2 e1 (Or.inl rfl : TT x (x + 5))
        obtain ⟨d2, q2, D2, L2, M2⟩ := c_tell S D1 B w e3 e1 (Or.inr rfl : TT x (x + 7))
        have L3 : TL d2 (x + 5) (tln σ h p) (tlv σ h p) := ⟨(M2 (x + 5) (by omega)).1.trans L1.1, fun i hi => by rw [(M2 (x + 5) (by omega)).2]; exact L1.2 i hi⟩
        have q3 := c_same S D2 (tln_b B w h p) (tln_b B w o p) L3 L2
        rw [cf_97 S D e2, bd_v, cf_260 S D, bd_v, kP_0 S e1, bd_v, q1, bd_v, cf_97 S D1 e3, bd_v, cf_261 S D1, bd_v, q2, bd_v, cf_260 S D2, bd_v, cf_261 S D2, bd_v, bd_v, kX_5 S, bd_v, q3, bd_v, c_oneIf, bd_v]
        exact ⟨d2, rfl, D2⟩
theorem c_fold (S : CZ σ G x em sz ns sh) (D : CD σ G x d) {n : Nat} {f : Nat → Int64} (hn : n ≤ 64) (L : TL d (x + 5) n f) (a : Int64) : fX5_foldedOnto sh d (x + 5) a = some (fo (fun k a => 31 * a + f k) a n) := by
  have e5 : gI sh d 7 225 (x + 5) = some (nI n) := (gI_v (sX_5 S)).trans (congrArg some L.1)
  refine lp_for (fun m a y => fX5_foldedOnto_b5 sh d m (x + 5) a y) (fun a => some a) (fun k a => 31 * a + f k) n (fun _ _ => True) (fun _ _ _ _ => trivial) ?_ ?_ a trivial fu (by show n < 100000; omega)
  · intro m a _
    simp (disch := omega) only [fX5_foldedOnto_b5, bd_v, e5, nI_leI]
    rw [if_pos (Nat.le_refl _)]
  · intro m j a hj _
    have a5 : aL sh d 21 (x + 6) (nI j) = some (f j) := (aL_v (sX_6 S) (by rw [nX_6 S]; omega) (by omega)).trans (congrArg some (L.2 j (by omega)))
    simp (disch := omega) only [fX5_foldedOnto_b5, bd_v, e5, nI_leI, cf_224_5 S D, a5, nI_1, fX6_folded, fX6_folded_b0]
    rw [if_neg (by omega)]
theorem c_foldL (S : CZ σ G x em sz ns sh) (D : CD σ G x d) (B : WB σ) {h : Nat} (hh : h < nh σ) (a : Int64) : fX2_foldedOnto sh d (HA G h + 6) a = some (dgL σ h a) := by
  have b1 := B.1
  have b2 := (B.2.2.2.2.2 h (by omega)).1
  unfold dgL
  refine lp_for (fun m a y => fX2_foldedOnto_b5 sh d m (HA G h + 6) a y) (fun a => some a) (fun i a => if thr σ h i then 31 * (31 * a + 1) + lf σ h i else 31 * a - 1) (lm σ h) (fun _ _ => True) (fun _ _ _ _ => trivial) ?_ ?_ a trivial fu (by show lm σ h < 100000; omega)
  · intro m a _
    simp (disch := omega) only [fX2_foldedOnto_b5, bd_v, cf_130 S D, nI_leI]
    rw [if_pos (Nat.le_refl _)]
  · intro m j a hj _
    simp (disch := omega) only [fX2_foldedOnto_b5, bd_v, cf_130 S D, cf_128 S D, cf_129 S D, nI_leI, ca_h8 S D B, ca_h7 S D, nI_1, fX6_folded, fX6_folded_b0, fX2_isThere, fX2_isThere_b0, mkI_1]
    rw [if_neg (by omega)]
    cases h3 : thr σ h j with
    | false =>
      have : (mkI false).toInt64 = -1 := by decide
      simp [bI, this, Int64.sub_eq_add_neg, bd_v]
    | true =>
      have : (mkI true).toInt64 = 1 := by decide
      simp [bI, this, bd_v]
theorem c_digest (S : CZ σ G x em sz ns sh) (D : CD σ G x d) (B : WB σ) (w : Wel σ) (a1 : Int32) : ∃ d', fX6_digest sh d x a1 = some (dgV σ a1, d') ∧ CD σ G x d' := by
  have b1 := B.1
  have b2 := B.2.1
  unfold fX6_digest fX6_digest_b0 dgV
  rw [kX_0 S, bd_v, c_handAt S D B, bd_v]
  cases h1 : inN a1 (nh σ) with
  | false => exact ⟨d, rfl, D⟩
  | true =>
    obtain ⟨h, e1, rfl⟩ := inN_t h1
    rw [if_pos rfl, if_pos rfl, cl_nI (by omega), on_v]
    have first : fX6_digest_b19 sh fu x (some (HA G h)) 17 0 d = fX6_digest_b46 sh fu x (some (HA G h)) (dg5 σ h) 0 d := by
      have e : dg5 σ h = fo (fun k a => 31 * a + (nI (if k = 0 then sm6 (up σ h) else if k = 1 then wn σ h else if k = 2 then gc σ h else if k = 3 then up σ h h else md σ h)).toInt64) 17 5 := by simp [fo, dg5, wn]
      rw [e]
      refine lp_for (fun n a y => fX6_digest_b19 sh n x (some (HA G h)) a y d) (fun a => fX6_digest_b46 sh fu x (some (HA G h)) a 0 d) (fun k a => 31 * a + (nI (if k = 0 then sm6 (up σ h) else if k = 1 then wn σ h else if k = 2 then gc σ h else if k = 3 then up σ h h else md σ h)).toInt64) 5 (fun _ _ => True) (fun _ _ _ _ => trivial) ?_ ?_ 17 trivial fu (by decide)
      · intro n a _
        simp only [fX6_digest_b19]
        rw [if_pos (by decide)]
      · intro n j a hj _
        simp (disch := omega) only [fX6_digest_b19, bd_v, kH_0 S e1, c_report S D B w e1 hj, fX6_folded, fX6_folded_b0, nI_1, z_4, nI_ltI]
        rw [if_neg (by omega)]
    rw [first]
    have key : ∀ m j n d7, j + m = np σ → m < n → CD σ G x d7 → ∃ d', fX6_digest_b46 sh n x (some (HA G h)) (fo (fun p a => dgT σ h p (31 * (31 * a + (nI (kin σ p)).toInt64) + (if skp σ h p then 0 else 1))) (dg5 σ h) j) (nI j) d7 = some (dgL σ h (dgP σ h (dg5 σ h)), d') ∧ CD σ G x d' := by
      intro m
      induction m with
      | zero =>
        intro j n d7 hj hn D7
        cases n with
        | zero => omega
        | succ n =>
          refine ⟨d7, ?_, D7⟩
          simp (disch := omega) only [fX6_digest_b46, bd_v, cf_263 S D7, cf_101 S D7, kH_6 S, c_foldL S D7 B, nI_leI]
          rw [if_pos (by omega), show j = np σ by omega]
          rfl
      | succ m ih =>
        intro j n d7 hj hn D7
        cases n with
        | zero => omega
        | succ n =>
          generalize hA : fo (fun p a => dgT σ h p (31 * (31 * a + (nI (kin σ p)).toInt64) + (if skp σ h p then 0 else 1))) (dg5 σ h) j = A
          obtain ⟨d8, q8, D8, L8, M8⟩ := c_tell S D7 B w e1 (show j < np σ by omega) (Or.inl rfl : TT x (x + 5))
          have hs := fo_s (fun p a => dgT σ h p (31 * (31 * a + (nI (kin σ p)).toInt64) + (if skp σ h p then 0 else 1))) (dg5 σ h) j
          rw [hA] at hs
          have := ih (j + 1) n d8 (by omega) (by omega) D8
          rw [hs] at this
          have fl := fun a => c_fold S D8 (tln_b B w h j) L8 a
          have o1 : fX6_oneIf sh d7 1 = some 1 := rfl
          have o0 : fX6_oneIf sh d7 0 = some 0 := rfl
          simp (disch := omega) only [fX6_digest_b46, fX6_digest_b96, bd_v, on_v, cf_263 S D7, c_page_j S D7 B, cf_160 S D7, cf_161 S D7, cf_100 S D7, ca_h5 S D7, cf_97 S D7, cf_260 S D7, kP_0 S, q8, cf_260 S D8, kX_5 S, fl, fX6_folded, fX6_folded_b0, o1, o0, nI_1, nI_leI, bI_0]
          rw [if_neg (by omega)]
          cases hb : skp σ h j with
          | false =>
            rw [hb] at this
            rw [if_pos rfl]
            exact this
          | true =>
            rw [hb] at this
            rw [if_neg (by decide)]
            exact this
    exact key (np σ) 0 fu d (by omega) (by show np σ < 100000; omega) D
end
