/-! the class's calls that only answer, or write what is told -/
theorem fi_n2 {d : Dt} {k a j b : Nat} {v : Int32} (h : b ≠ a) : dfi (uI d k a v) j b = dfi d j b := by rw [r_fi_I, if_neg (fun q => h q.2)]
theorem uCn {d : Dt} {a b : Nat} {F : Nat → Int32} {k : Nat} (h : b ≠ a) : dai (uCI d a F) b k = dai d b k := congrFun (uCI_n h) k
theorem uLn {d : Dt} {a b : Nat} {F : Nat → Int64} {k : Nat} (h : b ≠ a) : dal (uCL d a F) b k = dal d b k := congrFun (if_neg h) k
theorem uLs {d : Dt} {a : Nat} {F : Nat → Int64} {k : Nat} : dal (uCL d a F) a k = F k := congrFun (if_pos rfl) k
theorem uCs {d : Dt} {a : Nat} {F : Nat → Int32} {k : Nat} : dai (uCI d a F) a k = F k := congrFun (if_pos rfl) k
def OKc (o : Option (Int32 × Dt)) (G : Gh) (x : Nat) (q : Int32 × St) : Prop := ∃ d', o = some (q.1, d') ∧ CD q.2 G x d'
section
variable {sh : Sh} {d : Dt} {x : Nat} {σ : St} {G : Gh} {em sz ns : Nat}
theorem cd_lat (D : CD σ G x d) {f : Nat} : CD (s_lat σ f) G x (uI d 264 x (nI f)) := ⟨⟨⟨(fi_ne (by decide)).trans (D.1.1.1), (fi_ne (by decide)).trans (D.1.1.2.1), fi_eq⟩, fun h hh => ⟨(fi_ne (by decide)).trans ((D.1.2.1 h hh).1), (fi_ne (by decide)).trans ((D.1.2.1 h hh).2.1), (fi_ne (by decide)).trans ((D.1.2.1 h hh).2.2)⟩, fun p hp => ⟨(fi_ne (by decide)).trans ((D.1.2.2.1 p hp).1), (fi_ne (by decide)).trans ((D.1.2.2.1 p hp).2)⟩, fun c hc => ⟨(fi_ne (by decide)).trans ((D.1.2.2.2.1 c hc).1), (fi_ne (by decide)).trans ((D.1.2.2.2.1 c hc).2.1), (fi_ne (by decide)).trans ((D.1.2.2.2.1 c hc).2.2.1), (fi_ne (by decide)).trans ((D.1.2.2.2.1 c hc).2.2.2.1), (fi_ne (by decide)).trans ((D.1.2.2.2.1 c hc).2.2.2.2.1), (fi_ne (by decide)).trans ((D.1.2.2.2.1 c hc).2.2.2.2.2.1), (fi_ne (by decide)).trans ((D.1.2.2.2.1 c hc).2.2.2.2.2.2)⟩, (fi_ne (by decide)).trans (D.1.2.2.2.2.1), fun h hh => ⟨(fi_ne (by decide)).trans ((D.1.2.2.2.2.2 h hh).1), (fi_ne (by decide)).trans ((D.1.2.2.2.2.2 h hh).2)⟩⟩, D.2⟩
theorem cd_cme (S : CZ σ G x em sz ns sh) (D : CD σ G x d) {f v : Nat} : CD (s_cme σ (u1 (cme σ) f v)) G x (uAI d (x + 4) f (nI v)) := ⟨D.1, D.2.1, D.2.2.1, ⟨fun i hi => (by
    show _ = nI (u1 (cme σ) f v i)
    by_cases e : i = f
    · subst e; rw [ai_eq, u1_s]
    · rw [ai_n2 e, u1_n _ _ e]; exact D.2.2.2.1.1 i hi), fun h2 hh2 => ⟨fun k hk => (ai_ne (tne (t_h S hh2 (j := 2) (by decide)) (t_x S (j := 4) (by decide)) (by omega))).trans ((D.2.2.2.1.2.1 h2 hh2).1 k hk), fun k hk => (ai_ne (tne (t_h S hh2 (j := 5) (by decide)) (t_x S (j := 4) (by decide)) (by omega))).trans ((D.2.2.2.1.2.1 h2 hh2).2.1 k hk), fun k hk => (ai_ne (tne (t_h S hh2 (j := 8) (by decide)) (t_x S (j := 4) (by decide)) (by omega))).trans ((D.2.2.2.1.2.1 h2 hh2).2.2 k hk)⟩, fun c hc k hk => (ai_ne (tne (t_e S hc (j := 2) (by decide)) (t_x S (j := 4) (by decide)) (by omega))).trans (D.2.2.2.1.2.2 c hc k hk)⟩, D.2.2.2.2⟩
theorem cd_ask (D : CD σ G x d) {v : Int64} : CD (s_ask σ v) G x (uL d 265 x v) := ⟨D.1, ⟨fl_eq, fun c hc => (by rw [r_fl_L, if_neg (fun q => absurd q.1 (by decide))]; exact D.2.1.2 c hc)⟩, D.2.2⟩
theorem cd_skp (S : CZ σ G x em sz ns sh) (D : CD σ G x d) {h p : Nat} (hh : h < nh σ) {b : Bool} : CD (keepS σ h p b) G x (uAI d (HA G h + 5) p (bI b)) := ⟨D.1, D.2.1, D.2.2.1, ⟨fun i hi => (ai_ne (tne (t_x S (j := 4) (by decide)) (t_h S hh (j := 5) (by decide)) (by omega))).trans (D.2.2.2.1.1 i hi), fun h2 hh2 => ⟨fun k hk => (ai_ne (tne (t_h S hh2 (j := 2) (by decide)) (t_h S hh (j := 5) (by decide)) (by omega))).trans ((D.2.2.2.1.2.1 h2 hh2).1 k hk), fun k hk => (by
    show _ = bI (u2 (skp σ) h p b h2 k)
    unfold u2
    by_cases e : h2 = h
    · subst e
      by_cases g : k = p
      · subst g; rw [ai_eq, if_pos ⟨rfl, rfl⟩]
      · rw [ai_n2 g, if_neg (fun q => g q.2)]; exact (D.2.2.2.1.2.1 h2 hh2).2.1 k hk
    · rw [ai_ne (tne (t_h S hh2 (j := 5) (by decide)) (t_h S hh (j := 5) (by decide)) (by omega)), if_neg (fun q => e q.1)]; exact (D.2.2.2.1.2.1 h2 hh2).2.1 k hk), fun k hk => (ai_ne (tne (t_h S hh2 (j := 8) (by decide)) (t_h S hh (j := 5) (by decide)) (by omega))).trans ((D.2.2.2.1.2.1 h2 hh2).2.2 k hk)⟩, fun c hc k hk => (ai_ne (tne (t_e S hc (j := 2) (by decide)) (t_h S hh (j := 5) (by decide)) (by omega))).trans (D.2.2.2.1.2.2 c hc k hk)⟩, D.2.2.2.2⟩
theorem cd_leaf (S : CZ σ G x em sz ns sh) (D : CD σ G x d) {h i : Nat} (hh : h < nh σ) {v : Int64} : CD (s_lf σ (u2 (lf σ) h i v)) G x (uAL d (HA G h + 7) i v) := ⟨D.1, D.2.1, D.2.2.1, D.2.2.2.1, fun h2 hh2 k hk => (by
    show _ = u2 (lf σ) h i v h2 k
    unfold u2
    by_cases e : h2 = h
    · subst e
      by_cases g : k = i
      · subst g; rw [al_eq, if_pos ⟨rfl, rfl⟩]
      · rw [al_n2 g, if_neg (fun q => g q.2)]; exact D.2.2.2.2.1 h2 hh2 k hk
    · rw [al_ne (tne (t_h S hh2 (j := 7) (by decide)) (t_h S hh (j := 7) (by decide)) (by omega)), if_neg (fun q => e q.1)]; exact D.2.2.2.2.1 h2 hh2 k hk), D.2.2.2.2.2⟩
theorem cd_mark (S : CZ σ G x em sz ns sh) (D : CD σ G x d) {h i : Nat} (hh : h < nh σ) {b : Bool} : CD (s_thr σ (u2 (thr σ) h i b)) G x (uAI d (HA G h + 8) i (mkI b)) := ⟨D.1, D.2.1, D.2.2.1, ⟨fun i hi => (ai_ne (tne (t_x S (j := 4) (by decide)) (t_h S hh (j := 8) (by decide)) (by omega))).trans (D.2.2.2.1.1 i hi), fun h2 hh2 => ⟨fun k hk => (ai_ne (tne (t_h S hh2 (j := 2) (by decide)) (t_h S hh (j := 8) (by decide)) (by omega))).trans ((D.2.2.2.1.2.1 h2 hh2).1 k hk), fun k hk => (ai_ne (tne (t_h S hh2 (j := 5) (by decide)) (t_h S hh (j := 8) (by decide)) (by omega))).trans ((D.2.2.2.1.2.1 h2 hh2).2.1 k hk), fun k hk => (by
    show _ = mkI (u2 (thr σ) h i b h2 k)
    unfold u2
    by_cases e : h2 = h
    · subst e
      by_cases g : k = i
      · subst g; rw [ai_eq, if_pos ⟨rfl, rfl⟩]
      · rw [ai_n2 g, if_neg (fun q => g q.2)]; exact (D.2.2.2.1.2.1 h2 hh2).2.2 k hk
    · rw [ai_ne (tne (t_h S hh2 (j := 8) (by decide)) (t_h S hh (j := 8) (by decide)) (by omega)), if_neg (fun q => e q.1)]; exact (D.2.2.2.1.2.1 h2 hh2).2.2 k hk)⟩, fun c hc k hk => (ai_ne (tne (t_e S hc (j := 2) (by decide)) (t_h S hh (j := 8) (by decide)) (by omega))).trans (D.2.2.2.1.2.2 c hc k hk)⟩, D.2.2.2.2⟩
/-- a whole new row of marks, with its size -/
theorem cd_marks (S : CZ σ G x em sz ns sh) (D : CD σ G x d) {h n : Nat} (hh : h < nh σ) {F : Nat → Int32} {tt : Nat → Bool} (hF : ∀ k, k < n → F k = mkI (tt k)) : CD (s_thr (s_lm σ (u1 (lm σ) h n)) (fun y i => if y = h then tt i else thr σ y i)) G x (uCI (uI d 130 (HA G h + 6) (nI n)) (HA G h + 8) F) := ⟨(show qFI (s_lm σ (u1 (lm σ) h n)) G x (dfi (uI d 130 (HA G h + 6) (nI n))) from ⟨⟨(fi_ne (by decide)).trans (D.1.1.1), (fi_ne (by decide)).trans (D.1.1.2.1), (fi_ne (by decide)).trans (D.1.1.2.2)⟩, fun h2 hh2 => ⟨(fi_ne (by decide)).trans ((D.1.2.1 h2 hh2).1), (fi_ne (by decide)).trans ((D.1.2.1 h2 hh2).2.1), (by
    show _ = nI (u1 (lm σ) h n h2)
    by_cases e : h2 = h
    · subst e; rw [u1_s]; exact fi_eq
    · rw [u1_n _ _ e]; exact (fi_n2 (tne (t_h S hh2 (j := 6) (by decide)) (t_h S hh (j := 6) (by decide)) (by omega))).trans (D.1.2.1 h2 hh2).2.2)⟩, fun p2 hp2 => ⟨(fi_ne (by decide)).trans ((D.1.2.2.1 p2 hp2).1), (fi_ne (by decide)).trans ((D.1.2.2.1 p2 hp2).2)⟩, fun c2 hc2 => ⟨(fi_ne (by decide)).trans ((D.1.2.2.2.1 c2 hc2).1), (fi_ne (by decide)).trans ((D.1.2.2.2.1 c2 hc2).2.1), (fi_ne (by decide)).trans ((D.1.2.2.2.1 c2 hc2).2.2.1), (fi_ne (by decide)).trans ((D.1.2.2.2.1 c2 hc2).2.2.2.1), (fi_ne (by decide)).trans ((D.1.2.2.2.1 c2 hc2).2.2.2.2.1), (fi_ne (by decide)).trans ((D.1.2.2.2.1 c2 hc2).2.2.2.2.2.1), (fi_ne (by decide)).trans ((D.1.2.2.2.1 c2 hc2).2.2.2.2.2.2)⟩, (fi_ne (by decide)).trans (D.1.2.2.2.2.1), fun h2 hh2 => ⟨(fi_ne (by decide)).trans ((D.1.2.2.2.2.2 h2 hh2).1), (fi_ne (by decide)).trans ((D.1.2.2.2.2.2 h2 hh2).2)⟩⟩), D.2.1, D.2.2.1, ⟨fun i hi => (uCn (tne (t_x S (j := 4) (by decide)) (t_h S hh (j := 8) (by decide)) (by omega))).trans (D.2.2.2.1.1 i hi), fun h2 hh2 => ⟨fun k hk => (uCn (tne (t_h S hh2 (j := 2) (by decide)) (t_h S hh (j := 8) (by decide)) (by omega))).trans ((D.2.2.2.1.2.1 h2 hh2).1 k hk), fun k hk => (uCn (tne (t_h S hh2 (j := 5) (by decide)) (t_h S hh (j := 8) (by decide)) (by omega))).trans ((D.2.2.2.1.2.1 h2 hh2).2.1 k hk), fun k hk => (by
    show _ = mkI (if h2 = h then tt k else thr σ h2 k)
    have hk : k < u1 (lm σ) h n h2 := hk
    by_cases e : h2 = h
    · subst e; rw [u1_s] at hk; rw [if_pos rfl, uCs]; exact hF k hk
    · rw [u1_n _ _ e] at hk
      rw [if_neg e, uCn (tne (t_h S hh2 (j := 8) (by decide)) (t_h S hh (j := 8) (by decide)) (by omega))]; exact (D.2.2.2.1.2.1 h2 hh2).2.2 k hk)⟩, fun c hc k hk => (uCn (tne (t_e S hc (j := 2) (by decide)) (t_h S hh (j := 8) (by decide)) (by omega))).trans (D.2.2.2.1.2.2 c hc k hk)⟩, D.2.2.2.2⟩
theorem c_found (S : CZ σ G x em sz ns sh) (D : CD σ G x d) {f : Nat} (hf : f < 6) : OKc (fX6_found sh d x (nI f)) G x (-3, mtS σ f) := by
  have D1 := cd_lat D (f := f)
  have S1 : CZ (s_lat σ f) G x em sz ns sh := S
  have D2 := cd_cme S1 D1 (f := f) (v := cme σ f + 1)
  refine ⟨_, ?_, D2⟩
  unfold fX6_found fX6_found_b0
  rw [pI_v (sX_0 S), bd_v, cf_259 S1 D1, bd_v, bd_v, ca_4 S1 D1 hf, bd_v, nI_1, sI_v (sX_4 S) (by rw [nX_4 S]; exact hf) (by omega), bd_v]
  rfl
theorem c_tellAnd (S : CZ σ G x em sz ns sh) (D : CD σ G x d) (v : Int64) (r : Int32) : OKc (fX6_tellAnd sh d x v r) G x (r, s_ask σ v) := by
  refine ⟨_, ?_, cd_ask D⟩
  unfold fX6_tellAnd fX6_tellAnd_b0
  rw [pL_v (sX_0 S), bd_v]
theorem okc_id {o : Option (Int32 × Dt)} {q : Int32 × St} (h : OKc o G x q) : OKc (bd2 o (fun r d1 => some (r, d1))) G x q := by
  obtain ⟨d', h1, h2⟩ := h
  rw [h1]; exact ⟨d', rfl, h2⟩
theorem on_hp {a1 a2 : Int32} {K : Nat → Nat → Option (Int32 × Dt)} {good : Bool} {k : Nat} {q : Int32 × St} (D : CD σ G x d) (hB : WB σ) (hK : ∀ h p, h < nh σ → p < np σ → a1 = nI h → a2 = nI p → OKc (K (HA G h) (PA G p)) G x (gte (if good then seeG σ h p k else some (-1, σ)) q)) : OKc (on (if inN a1 (nh σ) then some (HA G (cl a1)) else none) (some ((-1 : Int32), d)) (fun a6 => on (if inN a2 (np σ) then some (PA G (cl a2)) else none) (some ((-1 : Int32), d)) (fun a7 => K a6 a7))) G x (gte (needG σ good a1 a2 k) q) := by
  have b1 := hB.1
  have b2 := hB.2.1
  unfold needG
  cases h1 : inN a1 (nh σ) with
  | false => exact ⟨d, rfl, D⟩
  | true =>
    cases h2 : inN a2 (np σ) with
    | false => exact ⟨d, rfl, D⟩
    | true =>
      obtain ⟨h, e1, rfl⟩ := inN_t h1
      obtain ⟨p, e2, rfl⟩ := inN_t h2
      have := hK h p e1 e2 rfl rfl
      simp (disch := omega) only [cl_nI, Bool.true_and, if_true, on_v]
      exact this
theorem see2 (S : CZ σ G x em sz ns sh) (D : CD σ G x d) (B : WB σ) {h p k : Nat} (hh : h < nh σ) (hp : p < np σ) (hk : k < 8) {K : Int32 → Dt → Option (Int32 × Dt)} {q : Int32 × St} (hK : seeG σ h p k = none → OKc (K 0 d) G x q) : OKc (bd2 (fX6_refusalToSee sh d x (some (HA G h)) (some (PA G p)) (nI k)) (fun r d1 => if r = 0 then K r d1 else some (r, d1))) G x (gte (seeG σ h p k) q) := by
  have b2 := B.2.1
  unfold fX6_refusalToSee fX6_refusalToSee_b0 seeG
  simp (disch := omega) only [bd_v, cf_100 S D, cf_160 S D, ca_h5 S D, c_isUnder S D B hp hk, kX_0 S, bI_0, show ∀ b : Bool, (bI b = (0 : Int32)) = (b = false) from fun b => propext (bI_0 b)]
  have hK : skp σ h p = false → isOfB (kin σ p) k = true → OKc (K 0 d) G x q := fun h1 h2 => hK (by unfold seeG; rw [h1, h2]; rfl)
  cases h1 : skp σ h p with
  | true =>
    obtain ⟨d', e1, e2⟩ := c_found S D (f := 1) (by decide)
    refine ⟨d', ?_, e2⟩
    have e1 : fX6_found sh d x 1 = some (-3, d') := e1
    simp [e1, bd2_v, gte]
  | false =>
    cases h2 : isOfB (kin σ p) k with
    | false =>
      obtain ⟨d', e1, e2⟩ := c_found S D (f := 3) (by decide)
      refine ⟨d', ?_, e2⟩
      have e1 : fX6_found sh d x 3 = some (-3, d') := e1
      simp [e1, bd2_v, gte]
    | true =>
      have := hK h1 h2
      simpa [bd2_v, gte] using this
/-! R: answers alone -/
theorem c_is (S : CZ σ G x em sz ns sh) (D : CD σ G x d) (B : WB σ) (a1 a2 : Int32) : fX6_is sh d x a1 a2 = some (isV σ a1 a2) := by
  have b2 := B.2.1
  unfold fX6_is fX6_is_b0 isV
  rw [kX_0 S, bd_v, c_pageAt S D B, bd_v]
  cases h1 : inN a1 (np σ) with
  | false => rfl
  | true =>
    obtain ⟨p, e1, rfl⟩ := inN_t h1
    rw [if_pos rfl, cl_nI (by omega), on_v, c_isKind, bd_v]
    cases h2 : inN a2 8 with
    | false => rfl
    | true =>
      obtain ⟨k, e2, rfl⟩ := inN_t h2
      rw [if_neg (by decide), kP_0 S e1, bd_v, c_isUnder S D B e1 e2, bd_v, c_oneIf, bd_v, cl_nI (by omega)]
      rfl
theorem c_knows (S : CZ σ G x em sz ns sh) (D : CD σ G x d) (B : WB σ) (w : Wel σ) (a1 a2 : Int32) : fX6_knows sh d x a1 a2 = some (knowsV σ a1 a2) := by
  have b2 := B.2.2.1
  unfold fX6_knows fX6_knows_b0 knowsV
  rw [kX_0 S, bd_v, c_entryAt S D B, bd_v, c_entryAt S D B, bd_v]
  cases h1 : inN a1 (nc σ) with
  | false => rfl
  | true =>
    cases h2 : inN a2 (nc σ) with
    | false => rfl
    | true =>
      obtain ⟨c, e1, rfl⟩ := inN_t h1
      obtain ⟨e, e2, rfl⟩ := inN_t h2
      rw [if_pos rfl, if_pos rfl, cl_nI (by omega), cl_nI (by omega), on_v, on_v, cf_72 S D e1, bd_v, bd_v, kE_1 S e1, bd_v, c_holds_e S D B w e1 e2, bd_v, c_oneIf, bd_v]
      rfl
theorem c_allHave (S : CZ σ G x em sz ns sh) (D : CD σ G x d) (B : WB σ) (w : Wel σ) {c : Nat} (hc : c < nc σ) : fX6_allHave sh d x (some (EA G c)) = some (allH σ c) := by
  have b1 := B.1
  have key : ∀ m j n, j + m = nh σ → m < n → ∃ b, fX6_allHave_b2 sh d n x (some (EA G c)) (nI j) = some b ∧ (b = true ↔ ∀ h, j ≤ h → h < nh σ → has σ h c = true) := by
    intro m
    induction m with
    | zero =>
      intro j n hj hn
      cases n with
      | zero => omega
      | succ n =>
        refine ⟨true, ?_, fun _ k h1 h2 => by omega, fun _ => rfl⟩
        simp (disch := omega) only [fX6_allHave_b2, bd_v, cf_262 S D, z_0, z_1, z_2, z_3, z_4, z_5, z_6, z_7, z_8, z_10, z_16, z_17, z_31, z_63, z_64, z_400, nI_add, pk_mul, nI_eq, nI_leI, nI_ltI, bI_z, nI_m9, bI_m9]
        rw [if_pos (by omega)]
    | succ m ih =>
      intro j n hj hn
      cases n with
      | zero => omega
      | succ n =>
        simp (disch := omega) only [fX6_allHave_b2, bd_v, on_v, cf_262 S D, c_hand_j S D B, cf_97 S D, kH_1 S, c_holds_h S D B w, z_0, z_1, z_2, z_3, z_4, z_5, z_6, z_7, z_8, z_10, z_16, z_17, z_31, z_63, z_64, z_400, nI_add, pk_mul, nI_eq, nI_leI, nI_ltI, bI_z, nI_m9, bI_m9, bI_0]
        rw [if_neg (by omega)]
        cases h1 : has σ j c with
        | false => exact ⟨false, by simp, ⟨fun q => Bool.noConfusion q, fun q => by have := q j (Nat.le_refl _) (by omega); rw [h1] at this; exact this⟩⟩
        | true =>
          obtain ⟨b, h2, h3⟩ := ih (j + 1) n (by omega) (by omega)
          refine ⟨b, by simpa using h2, h3.trans ⟨fun q k k1 k2 => ?_, fun q k k1 k2 => q k (by omega) k2⟩⟩
          by_cases e : k = j
          · rw [e]; exact h1
          · exact q k (by omega) k2
  obtain ⟨b, h1, h2⟩ := key (nh σ) 0 fu (by omega) (by show nh σ < 100000; omega)
  refine (show _ = some b from h1).trans ?_
  congr 1
  rw [Bool.eq_iff_iff, h2]
  unfold allH
  rw [Bool.not_eq_true', ← Bool.not_eq_true, anyN_iff]
  constructor
  · rintro q ⟨h, g1, g2⟩
    rw [q h (Nat.zero_le _) g1] at g2; cases g2
  · intro q h _ g
    cases hb : has σ h c with
    | true => rfl
    | false => exact (q ⟨h, g, by rw [hb]; rfl⟩).elim
theorem c_change (S : CZ σ G x em sz ns sh) (D : CD σ G x d) (B : WB σ) (w : Wel σ) (a1 a2 : Int32) : fX6_change sh d x a1 a2 = some (changeV σ a1 a2) := by
  have b2 := B.2.2.1
  unfold fX6_change fX6_change_b0 changeV
  rw [kX_0 S, bd_v, c_entryAt S D B, bd_v]
  cases h1 : inN a1 (nc σ) with
  | false => rfl
  | true =>
    obtain ⟨c, e1, rfl⟩ := inN_t h1
    rw [if_pos rfl, if_pos rfl, cl_nI (by omega), on_v, cf_65 S D e1, cf_66 S D e1, cf_70 S D e1, cf_72 S D e1, c_allHave S D B w e1]
    simp only [bd_v, kE_1 S e1, c_rsize (rc_e S D B w e1), c_oneIf]
    by_cases g0 : a2 = 0
    · rw [if_pos g0, if_pos g0]
    · rw [if_neg g0, if_neg g0]
      by_cases g1 : a2 = 1
      · rw [if_pos g1, if_pos g1]
      · rw [if_neg g1, if_neg g1]
        by_cases g2 : a2 = 2
        · rw [if_pos g2, if_pos g2]
        · rw [if_neg g2, if_neg g2]
          by_cases g3 : a2 = 3
          · rw [if_pos g3, if_pos g3]
          · rw [if_neg g3, if_neg g3]
            by_cases g4 : a2 = 4
            · rw [if_pos g4, if_pos g4]
            · rw [if_neg g4, if_neg g4]
theorem c_report (S : CZ σ G x em sz ns sh) (D : CD σ G x d) (B : WB σ) (w : Wel σ) {h k : Nat} (hh : h < nh σ) (hk : k < 5) : fX1_report sh d (HA G h) (nI k) = some (nI (if k = 0 then sm6 (up σ h) else if k = 1 then wn σ h else if k = 2 then gc σ h else if k = 3 then up σ h h else md σ h)) := by
  have b1 := B.1
  unfold fX1_report fX1_report_b0
  simp (disch := omega) only [bd_v, cf_97 S D, cf_98 S D, cf_99 S D, cf_102 S D, cf_96 S D, cf_192h S D, kH_1 S, kH_3 S, kH_4 S, c_size_o S D, c_size_w S D, c_rsize (rc_h S D B w hh), ca_h2 S D, z_0, z_1, z_2, z_3, z_4, z_5, z_6, z_7, z_8, z_10, z_16, z_17, z_31, z_63, z_64, z_400, nI_add, pk_mul, nI_eq, nI_leI, nI_ltI, bI_z, nI_m9, bI_m9]
  have : k = 0 ∨ k = 1 ∨ k = 2 ∨ k = 3 ∨ k = 4 := by omega
  rcases this with rfl | rfl | rfl | rfl | rfl <;> simp
theorem c_told (S : CZ σ G x em sz ns sh) (D : CD σ G x d) (B : WB σ) (w : Wel σ) (a1 a2 : Int32) : fX6_told sh d x a1 a2 = some (toldV σ a1 a2) := by
  have b1 := B.1
  unfold fX6_told fX6_told_b0 toldV
  rw [kX_0 S, bd_v, c_handAt S D B, bd_v]
  cases h1 : inN a1 (nh σ) with
  | false => rfl
  | true =>
    obtain ⟨h, e1, rfl⟩ := inN_t h1
    rw [if_pos rfl, if_pos rfl, cl_nI (by omega), on_v]
    by_cases g0 : a2 < 0
    · rw [if_pos g0]
      have : ∀ k, k < 5 → a2 ≠ nI k := fun k hk e => by rw [e] at g0; exact nI_pos (by omega) g0
      rw [if_neg (show ¬ a2 = 0 from this 0 (by decide)), if_neg (show ¬ a2 = 1 from this 1 (by decide)), if_neg (show ¬ a2 = 2 from this 2 (by decide)), if_neg (show ¬ a2 = 3 from this 3 (by decide)), if_neg (show ¬ a2 = 4 from this 4 (by decide))]
    · rw [if_neg g0]
      obtain ⟨k, hk, rfl⟩ := nI_of g0
      simp (disch := omega) only [z_0, z_1, z_2, z_3, z_4, z_5, z_6, z_7, z_8, z_10, z_16, z_17, z_31, z_63, z_64, z_400, nI_add, pk_mul, nI_eq, nI_leI, nI_ltI, bI_z, nI_m9, bI_m9]
      by_cases g1 : k ≤ 4
      · rw [if_pos g1, kH_0 S e1, bd_v, c_report S D B w e1 (by omega), bd_v]
        have : k = 0 ∨ k = 1 ∨ k = 2 ∨ k = 3 ∨ k = 4 := by omega
        rcases this with rfl | rfl | rfl | rfl | rfl <;> simp [wn]
      · rw [if_neg g1, if_neg (by omega), if_neg (by omega), if_neg (by omega), if_neg (by omega), if_neg (by omega)]
theorem c_compare (S : CZ σ G x em sz ns sh) (D : CD σ G x d) (B : WB σ) (w : Wel σ) (a1 a2 : Int32) : fX6_compare sh d x a1 a2 = some (compareV σ a1 a2) := by
  have b1 := B.1
  unfold fX6_compare fX6_compare_b0 compareV
  rw [kX_0 S, bd_v, c_handAt S D B, bd_v, c_handAt S D B, bd_v]
  cases h1 : inN a1 (nh σ) with
  | false => rfl
  | true =>
    cases h2 : inN a2 (nh σ) with
    | false => rfl
    | true =>
      obtain ⟨h, e1, rfl⟩ := inN_t h1
      obtain ⟨o, e2, rfl⟩ := inN_t h2
      rw [if_pos rfl, if_pos rfl, cl_nI (by omega), cl_nI (by omega), on_v, on_v]
      obtain ⟨b, q1, q2⟩ := c_covers (rc_h S D B w e2) (rc_h S D B w e1)
      obtain ⟨e, q3, q4⟩ := c_covers (rc_h S D B w e1) (rc_h S D B w e2)
      rw [← sub_cov B w (show h < 6 by omega), ← Bool.eq_iff_iff] at q2
      rw [← sub_cov B w (show o < 6 by omega), ← Bool.eq_iff_iff] at q4
      simp only [bd_v, cf_97 S D e1, cf_97 S D e2, kH_1 S e1, kH_1 S e2, q1, q3]
      rw [q2, q4]
      cases sub4 (has σ h) (has σ o) <;> cases sub4 (has σ o) (has σ h) <;> rfl
theorem c_asked (S : CZ σ G x em sz ns sh) (D : CD σ G x d) : fX6_asked sh d x = some (ask σ) := by
  unfold fX6_asked fX6_asked_b0
  rw [cf_265 S D, bd_v]
theorem c_finding (S : CZ σ G x em sz ns sh) (D : CD σ G x d) : fX6_finding sh d x = some (nI (lat σ)) := by
  unfold fX6_finding fX6_finding_b0
  rw [cf_264 S D, bd_v]
theorem c_count (S : CZ σ G x em sz ns sh) (D : CD σ G x d) (a1 : Int32) : fX6_count sh d x a1 = some (countV σ a1) := by
  unfold fX6_count fX6_count_b0 countV
  rw [cf_262 S D, cf_263 S D, cf_258 S D]
  simp only [bd_v, kX_3 S, c_size_x S D]
  split
  · rfl
  · split
    · rfl
    · split <;> rfl
theorem c_findings (S : CZ σ G x em sz ns sh) (D : CD σ G x d) (a1 : Int32) : fX6_findings sh d x a1 = some (findingsV σ a1) := by
  unfold fX6_findings fX6_findings_b0 findingsV
  have e1 : (1 : Int32).toInt = 1 := rfl
  have e5 : (5 : Int32).toInt = 5 := rfl
  by_cases g : a1 < 1
  · rw [if_pos g]
    rw [Int32.lt_iff_toInt_lt, e1] at g
    by_cases z : a1 = 0
    · rw [z]; rfl
    · have : inN a1 6 = false := by
        unfold inN
        have : a1.toInt ≠ 0 := fun q => z (Int32.toInt_inj.mp q)
        rw [decide_eq_false (by omega)]; rfl
      rw [this]; rfl
  · rw [if_neg g]
    rw [Int32.lt_iff_toInt_lt, e1] at g
    by_cases k : a1 ≤ 5
    · rw [if_pos k]
      rw [Int32.le_iff_toInt_le, e5] at k
      obtain ⟨f, hf, rfl⟩ := inN_t (x := a1) (n := 6) (by unfold inN; simp; omega)
      rw [nI_toInt (by omega)] at g
      simp (disch := omega) only [cf_259 S D, bd_v, ca_4 S D, inN_nI, cl_nI, z_0, z_1, z_2, z_3, z_4, z_5, z_6, z_7, z_8, z_10, z_16, z_17, z_31, z_63, z_64, z_400, nI_add, pk_mul, nI_eq, nI_leI, nI_ltI, bI_z, nI_m9, bI_m9]
      rw [if_pos (by simp; omega)]
    · rw [if_neg k]
      rw [Int32.le_iff_toInt_le, e5] at k
      have : inN a1 6 = false := by
        unfold inN
        rw [decide_eq_false (show ¬ a1.toInt < ((6 : Nat) : Int) by omega), Bool.and_false]
      rw [this]; rfl
end
