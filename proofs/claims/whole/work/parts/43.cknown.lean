/-! the class: what is KNOWN, HEADS -/
theorem cnt_ins {p q : Nat → Bool} {c : Nat} (hq : q c = false) : ∀ n, (∀ e, e < n → p e = (q e || decide (e = c))) → cnt p n = cnt q n + (if c < n then 1 else 0) := by
  intro n
  induction n with
  | zero => intro _; simp [cnt]
  | succ n ih =>
    intro h
    rw [cnt_s, cnt_s, ih (fun e he => h e (by omega)), h n (by omega)]
    by_cases e : n = c
    · subst e; rw [hq]; simp
    · have : (if c < n then 1 else 0) = (if c < n + 1 then 1 else 0) := by split <;> split <;> omega
      rw [← this]
      simp [e]; omega
theorem cnt_sub {p q : Nat → Bool} : ∀ {n : Nat}, (∀ e, e < n → p e = true → q e = true) → cnt p n ≤ cnt q n := by
  intro n
  induction n with
  | zero => intro _; exact Nat.le_refl _
  | succ n ih =>
    intro h
    have h1 := ih (fun e he => h e (by omega))
    have h2 := h n (by omega)
    rw [cnt_s, cnt_s]
    cases hp : p n with
    | false => simp; omega
    | true => rw [h2 hp]; simp; omega
theorem cnt_0 {p : Nat → Bool} : ∀ {n : Nat}, cnt p n = 0 → ∀ e, e < n → p e = false := by
  intro n
  induction n with
  | zero => intro _ e he; omega
  | succ n ih =>
    intro h e he
    rw [cnt_s] at h
    by_cases g : e = n
    · subst g
      cases hp : p e with
      | false => rfl
      | true => rw [hp] at h; simp at h
    · exact ih (by omega) e (by omega)
theorem cnt_1 {p : Nat → Bool} : ∀ {n : Nat}, (∀ a b, a < b → b < n → p a = true → p b = true → False) → cnt p n ≤ 1 := by
  intro n
  induction n with
  | zero => intro _; exact Nat.zero_le _
  | succ n ih =>
    intro h
    have h1 := ih (fun a b h1 h2 => h a b h1 (by omega))
    rw [cnt_s]
    cases hp : p n with
    | false => simp; exact h1
    | true =>
      have : cnt p n = 0 := by
        rw [show cnt p n = cnt (fun _ => false) n from cnt_cong (fun k hk => by
          cases hk2 : p k with
          | false => rfl
          | true => exact (h k n hk (by omega) hk2 hp).elim)]
        clear ih h h1 hp
        induction n with
        | zero => rfl
        | succ n ih => rw [cnt_s, ih]; rfl
      rw [this]; simp
section
variable {σ : St}
def belo (σ : St) (h p c : Nat) : Nat := cnt (fun e => hdB σ h p e && aft σ c e) (nc σ)
theorem hdk_r (w : Wel σ) (h p : Nat) : ∀ j, (j < hdn σ h p → ∃ c, hdk σ h p j = some c ∧ c < nc σ ∧ hdB σ h p c = true ∧ belo σ h p c = j) ∧ (j = hdn σ h p → hdk σ h p j = none) := by
  intro j
  induction j with
  | zero =>
    have b := nxh_b w h p none
    have e : hdk σ h p 0 = nxh σ h p none := rfl
    rw [e]
    cases hx : nxh σ h p none with
    | none =>
      rw [hx] at b
      have : hdn σ h p = 0 := by
        unfold hdn
        rw [show cnt (hdB σ h p) (nc σ) = cnt (fun _ => false) (nc σ) from cnt_cong (fun k hk => by have := b k hk; simpa [flo] using this)]
        generalize nc σ = n
        induction n with
        | zero => rfl
        | succ n ih => rw [cnt_s, ih]; rfl
      exact ⟨fun q => by omega, fun _ => rfl⟩
    | some c =>
      rw [hx] at b
      obtain ⟨b1, b2, b3⟩ := b
      have b2 : hdB σ h p c = true := by simpa [flo] using b2
      refine ⟨fun _ => ⟨c, rfl, b1, b2, ?_⟩, fun q => ?_⟩
      · unfold belo
        rw [show cnt (fun e => hdB σ h p e && aft σ c e) (nc σ) = cnt (fun _ => false) (nc σ) from cnt_cong (fun k hk => by
          cases g : hdB σ h p k with
          | false => rfl
          | true =>
            rcases b3 k hk (by simp [flo, g]) with q | q
            · rw [q, aft_irr]; rfl
            · rw [aft_asy q]; rfl)]
        generalize nc σ = n
        induction n with
        | zero => rfl
        | succ n ih => rw [cnt_s, ih]; rfl
      · have := cnt_0 q.symm c b1; rw [b2] at this; cases this
  | succ j ih =>
    by_cases hj : j < hdn σ h p
    · obtain ⟨c, c1, c2, c3, c4⟩ := ih.1 hj
      have b := nxh_b w h p (some c)
      have e : hdk σ h p (j + 1) = nxh σ h p (some c) := by
        show (match hdk σ h p j with
          | none => none
          | some b => nxh σ h p (some b)) = _
        rw [c1]
      -- those not above c
      have u : cnt (fun e => (hdB σ h p e && aft σ c e) || decide (e = c)) (nc σ) = j + 1 := by
        rw [cnt_ins (q := fun e => hdB σ h p e && aft σ c e) (c := c) (by rw [aft_irr, Bool.and_false]) (nc σ) (fun e he => rfl), if_pos c2]
        exact congrArg (· + 1) c4
      rw [e]
      cases hx : nxh σ h p (some c) with
      | none =>
        rw [hx] at b
        have : hdn σ h p = j + 1 := by
          rw [← u]
          refine cnt_cong fun e he => ?_
          have this : (hdB σ h p e && flo σ (some c) e) = false := b e he
          cases g : hdB σ h p e with
          | false =>
            have : e ≠ c := fun q => by rw [q, c3] at g; cases g
            simp [this]
          | true =>
            rw [g] at this
            have this : aft σ e c = false := by simpa [flo] using this
            rcases aft_tot w he c2 this with q | q
            · simp [q]
            · simp [q]
        exact ⟨fun q => by omega, fun _ => rfl⟩
      | some c' =>
        rw [hx] at b
        obtain ⟨b1, b2, b3⟩ := b
        have b2 : hdB σ h p c' = true ∧ aft σ c' c = true := by simpa [flo] using b2
        have v : belo σ h p c' = j + 1 := by
          rw [← u]
          unfold belo
          refine cnt_cong fun e he => ?_
          cases g : hdB σ h p e with
          | false =>
            have : e ≠ c := fun q => by rw [q, c3] at g; cases g
            simp [this]
          | true =>
            by_cases q : e = c
            · rw [q, b2.2]; simp
            · have q2 : decide (e = c) = false := by simp [q]
              rw [q2, Bool.or_false, Bool.true_and, Bool.true_and]
              cases g2 : aft σ c e with
              | true => exact aft_tr b2.2 g2
              | false =>
                have g3 : aft σ e c = true := (aft_tot w c2 he g2).elim (fun z => absurd z.symm q) id
                rcases b3 e he (by simp [flo, g, g3]) with z | z
                · rw [z, aft_irr]
                · exact aft_asy z
        refine ⟨fun _ => ⟨c', rfl, b1, b2.1, v⟩, fun q => ?_⟩
        have h1 : belo σ h p c' + 1 ≤ hdn σ h p := by
          have := cnt_ins (p := fun e => (hdB σ h p e && aft σ c' e) || decide (e = c')) (q := fun e => hdB σ h p e && aft σ c' e) (c := c') (by rw [aft_irr, Bool.and_false]) (nc σ) (fun e he => rfl)
          rw [if_pos b1] at this
          have k := cnt_sub (p := fun e => (hdB σ h p e && aft σ c' e) || decide (e = c')) (q := hdB σ h p) (n := nc σ) (fun e he hp => by
            by_cases z : e = c'
            · rw [z]; exact b2.1
            · simp [z] at hp; exact hp.1)
          unfold belo hdn
          omega
        omega
    · exact ⟨fun q => by omega, fun q => by omega⟩
theorem hd_6 (B : WB σ) (w : Wel σ) (h p : Nat) : hdn σ h p ≤ 6 := by
  unfold hdn
  rw [cnt_sm6 σ _ _ (fun c hc => w_mk B hc)]
  have one : ∀ k, cnt (fun c => decide (mk σ c = k) && hdB σ h p c) (nc σ) ≤ 1 := by
    intro k
    refine cnt_1 fun a b hab hb ha hb2 => ?_
    simp at ha hb2
    have h1 := kn_own w hb hab (by rw [ha.1, hb2.1])
    have h2 : knw σ h p a 0 = true := by
      unfold knw
      rw [anyN_iff]
      refine ⟨b, hb, ?_⟩
      have := hb2.2
      unfold hdB at this
      simp at this
      simp [this.1, h1]
    have := ha.2
    unfold hdB at this
    rw [h2] at this
    simp at this
  have := one 0; have := one 1; have := one 2; have := one 3; have := one 4; have := one 5
  dsimp only [sm6]
  omega
theorem kno_b (B : WB σ) (w : Wel σ) {h p s v k : Nat} (hk : k < 6) : kno σ h p s v k ≤ 400 := by
  rcases Nat.lt_or_ge 400 (kno σ h p s v k) with g | g
  · obtain ⟨c, h1, h2, h3⟩ := (kno_iff (u := 401) (by omega)).mp g
    have := b_ku B w h1 hk
    omega
  · exact g
def unk (σ : St) (h p s a v c : Nat) : Bool := ons σ p s c && (decide (ac σ c = a) && (has σ h c && !decide (od σ c ≤ kno σ h p s v (mk σ c))))
theorem kno_knw (B : WB σ) (w : Wel σ) {h p v c : Nat} (hc : c < nc σ) (hk : kin σ p ≠ 3) : decide (od σ c ≤ kno σ h p 0 v (mk σ c)) = knw σ h p c v := by
  rw [Bool.eq_iff_iff, decide_eq_true_eq, kno_iff (b_od B w hc).1]
  unfold knw
  rw [anyN_iff]
  constructor
  · rintro ⟨e, h1, h2, h3⟩
    rw [ons_0 hk] at h2
    refine ⟨e, h1, ?_⟩
    rw [kn_lt w B h1 hc]
    unfold onB
    simp at h2
    simp [h2, h3]
  · rintro ⟨e, h1, h2⟩
    rw [kn_lt w B h1 hc] at h2
    unfold onB at h2
    simp at h2
    refine ⟨e, h1, ?_, h2.2⟩
    rw [ons_0 hk]
    simp [h2]
theorem unk_opn (B : WB σ) (w : Wel σ) {h p a v : Nat} (hk : kin σ p ≠ 3) : cnt (unk σ h p 0 a v) (nc σ) = opn σ h p a v := by
  unfold opn
  refine cnt_cong fun c hc => ?_
  unfold unk onB
  rw [kno_knw B w hc hk, ons_0 hk]
  simp only [Bool.and_assoc]
theorem kno_gon (B : WB σ) (w : Wel σ) {h p s c : Nat} (hc : c < nc σ) (hk : kin σ p = 3) : decide (od σ c ≤ kno σ h p s 3 (mk σ c)) = gon σ h p s c := by
  rw [Bool.eq_iff_iff, decide_eq_true_eq, kno_iff (b_od B w hc).1]
  unfold gon
  rw [anyN_iff]
  constructor
  · rintro ⟨e, h1, h2, h3⟩
    refine ⟨e, h1, ?_⟩
    rw [kn_lt w B h1 hc]
    unfold onB
    unfold ons shl at h2
    rw [if_pos hk] at h2
    simp at h2
    simp [h2, h3]
  · rintro ⟨e, h1, h2⟩
    rw [kn_lt w B h1 hc] at h2
    unfold onB at h2
    simp at h2
    refine ⟨e, h1, ?_, h2.2.2⟩
    unfold ons shl
    rw [if_pos hk]
    simp [h2]
theorem unk_cin (B : WB σ) (w : Wel σ) {h p s : Nat} (hk : kin σ p = 3) : cnt (unk σ h p s 2 3) (nc σ) = cin σ h p s := by
  unfold cin
  refine cnt_cong fun c hc => ?_
  unfold unk onB
  rw [kno_gon B w hc hk]
  unfold ons shl
  rw [if_pos hk]
  cases decide (pg σ c = p) <;> cases decide (ax σ c = s) <;> cases decide (ac σ c = 2) <;> cases has σ h c <;> simp
end
section
variable {sh : Sh} {d : Dt} {x : Nat} {σ : St} {G : Gh} {em sz ns : Nat}
theorem rc_p (S : CZ σ G x em sz ns sh) (D : CD σ G x d) {p : Nat} (hp : p < np σ) {f : Nat → Nat} (hf : ∀ k, k < 6 → f k < 2 ^ 30) : RCH sh (kW d (PA G p + 2) f) (PA G p + 1) (PA G p + 2) f := ⟨sP_1 S hp, (D.2.2.1.2.2.1 p hp).2.2, sP_2 S hp, nP_2 S hp, fun k hk => ⟨kW_s hk, hf k hk⟩⟩
theorem c_empty_p (S : CZ σ G x em sz ns sh) (D : CD σ G x d) {p : Nat} (hp : p < np σ) : fX4_empty sh d (PA G p + 1) = some (kW d (PA G p + 2) (fun _ => 0)) := c_empty0 (sP_1 S hp) (D.2.2.1.2.2.1 p hp).2.2 (sP_2 S hp) (nP_2 S hp)
theorem c_gather (S : CZ σ G x em sz ns sh) (D : CD σ G x d) (B : WB σ) (w : Wel σ) {h p s a : Nat} (hh : h < nh σ) (hp : p < np σ) (hs : s < shn (kin σ p)) (ha : a < 8) : fX3_gatherKnown sh d (PA G p) (some (HA G h + 1)) (nI s) (nI (acC a)) = some (kW d (PA G p + 2) (kno σ h p s a)) := by
  have b3 := B.2.2.1
  have ha2 := acC_lt a ha
  have hD : ∀ f, CD σ G x (kW d (PA G p + 2) f) := fun f => cd_kn S D hp _
  have key := lp_ch (σ := σ) (G := G) (p := p) (s := s) (fun n f e => fX3_gatherKnown_b15 sh n (PA G p) (some (HA G h + 1)) (nI (acC a)) e (kW d (PA G p + 2) f)) (fun f => some (kW d (PA G p + 2) f)) (fun c f => if decide (ac σ c = a) && has σ h c then (fun k => max (f k) (ku σ c k)) else f) (fun f => ∀ k, k < 6 → f k < 2 ^ 30) (nc σ) (fun c f hc ho hf k hk => by
      have := b_ku B w hc hk
      have := hf k hk
      cases (decide (ac σ c = a) && has σ h c) with
      | false => rw [if_neg (by decide)]; omega
      | true => rw [if_pos rfl]; show max (f k) (ku σ c k) < _; omega) (fun n f _ => by simp only [fX3_gatherKnown_b15, on_0]) (fun n c f hc ho hf => by
    have b1 := wb_c B hc
    have b2 := acC_lt _ b1.2.2.2.2.1
    have b4 := acC_i _ b1.2.2.2.2.1 a ha
    have D1 := hD f
    have W1 := c_widen (rc_p S D hp hf) (rc_e S D1 B w hc) (tne (t_e S hc (j := 2) (by decide)) (t_p S hp (j := 2) (by decide)) (by omega))
    rw [kW_2] at W1
    have D2 := hD (fun k => max (f k) (ku σ c k))
    simp (disch := omega) only [fX3_gatherKnown_b15, on_v, bd_v, kH_1 S hh, c_holds_h S D1 B w hh hc, cf_73o S D1 hc ho, cf_67 S D1 hc, cf_163 S D1 hp, cf_72 S D1 hc, kP_1 S hp, W1, cf_73o S D2 hc ho, bI_0, nI_eq, b4]
    by_cases g : ac σ c = a
    · rw [if_pos g]
      cases h1 : has σ h c <;> simp [g]
    · rw [if_neg g]
      simp [g]) (nc σ) fu (fun _ => 0) (Nat.le_refl _) (by show nc σ < 100000; omega) (fun k _ => by omega)
  have D1 := hD (fun _ => 0)
  unfold fX3_gatherKnown fX3_gatherKnown_b0
  rw [cf_163 S D hp, bd_v, bd_v, kP_1 S hp, bd_v, c_empty_p S D hp, bd_v, cf_162 S D1 hp, bd_v, bd_v, ca_p3 S D1 hp hs, bd_v]
  exact key
theorem c_unknown (S : CZ σ G x em sz ns sh) (D : CD σ G x d) (B : WB σ) (w : Wel σ) {h p s a v : Nat} (hh : h < nh σ) (hp : p < np σ) (hs : s < shn (kin σ p)) (ha : a < 8) (hv : v < 8) : fX3_unknownTo sh d (PA G p) (some (HA G h + 1)) (nI s) (nI (acC a)) (nI (acC v)) = some (nI (cnt (unk σ h p s a v) (nc σ)), kW d (PA G p + 2) (kno σ h p s v)) := by
  have b3 := B.2.2.1
  have ha2 := acC_lt a ha
  have D1 : CD σ G x (kW d (PA G p + 2) (kno σ h p s v)) := cd_kn S D hp _
  have RP := rc_p S D hp (f := kno σ h p s v) (fun k hk => by have := kno_b B w (h := h) (p := p) (s := s) (v := v) hk; omega)
  have key := lp_ch (σ := σ) (G := G) (p := p) (s := s) (fun n b e => fX3_unknownTo_b19 sh n (PA G p) (some (HA G h + 1)) (nI (acC a)) (nI b) e (kW d (PA G p + 2) (kno σ h p s v))) (fun b => some (nI b, kW d (PA G p + 2) (kno σ h p s v))) (fun c b => if decide (ac σ c = a) && (has σ h c && !decide (od σ c ≤ kno σ h p s v (mk σ c))) then b + 1 else b) (fun _ => True) (nc σ) (fun _ _ _ _ _ => trivial) (fun n f _ => by simp only [fX3_unknownTo_b19, on_0]) (fun n c b hc ho _ => by
    have b1 := wb_c B hc
    have b2 := acC_lt _ b1.2.2.2.2.1
    have b4 := acC_i _ b1.2.2.2.2.1 a ha
    simp (disch := omega) only [fX3_unknownTo_b19, on_v, bd_v, kH_1 S hh, c_holds_h S D1 B w hh hc, c_holds S D1 B w RP hc, cf_73o S D1 hc ho, cf_67 S D1 hc, cf_163 S D1 hp, kP_1 S hp, bI_0, nI_eq, nI_1, b4]
    by_cases g : ac σ c = a
    · rw [if_pos g]
      cases h1 : has σ h c with
      | false => simp
      | true => cases h2 : decide (od σ c ≤ kno σ h p s v (mk σ c)) <;> simp [g]
    · rw [if_neg g]
      simp [g]) (nc σ) fu 0 (Nat.le_refl _) (by show nc σ < 100000; omega) trivial
  unfold fX3_unknownTo fX3_unknownTo_b0
  rw [kP_0 S hp, bd_v, c_gather S D B w hh hp hs hv, bd_v, cf_162 S D1 hp, bd_v, bd_v, ca_p3 S D1 hp hs, bd_v]
  refine key.trans ?_
  rw [fdn_cong (s2 := fun c b => if unk σ h p s a v c then b + 1 else b) (fun c b _ => by
    unfold unk
    cases ons σ p s c <;> rfl), fdn_cnt, Nat.zero_add]
theorem c_timesIn (S : CZ σ G x em sz ns sh) (D : CD σ G x d) (B : WB σ) (w : Wel σ) {h p k : Nat} (hh : h < nh σ) (hp : p < np σ) (hk : k < 64) (h3 : kin σ p = 3) : fX3_timesIn sh d (PA G p) (some (HA G h + 1)) (nI k) = some (nI (cin σ h p k), kW d (PA G p + 2) (kno σ h p k 3)) := by
  have hs : k < shn (kin σ p) := by unfold shn; rw [if_pos h3]; exact hk
  have e := c_unknown S D B w hh hp hs (a := 2) (v := 3) (by decide) (by decide)
  have e2 : shl σ p k = k := if_pos h3
  unfold fX3_timesIn fX3_timesIn_b0
  rw [kP_0 S hp, bd_v, c_shelfOf S D B hp, bd_v, e2, show (4 : Int32) = nI (acC 2) from rfl, show (5 : Int32) = nI (acC 3) from rfl, e, bd2_v, unk_cin B w h3]
theorem c_headCount (S : CZ σ G x em sz ns sh) (D : CD σ G x d) (B : WB σ) (w : Wel σ) {h p : Nat} (hh : h < nh σ) (hp : p < np σ) (h3 : kin σ p ≠ 3) : fX3_headCount sh d (PA G p) (some (HA G h + 1)) = some (nI (hdn σ h p), kW d (PA G p + 2) (kno σ h p 0 0)) := by
  have e := c_unknown S D B w hh hp shn_0 (a := 0) (v := 0) (by decide) (by decide)
  rw [unk_opn B w h3] at e
  unfold fX3_headCount fX3_headCount_b0
  rw [kP_0 S hp, bd_v]
  have e2 : fX3_unknownTo sh d (PA G p) (some (HA G h + 1)) 0 0 0 = some (nI (hdn σ h p), kW d (PA G p + 2) (kno σ h p 0 0)) := e
  rw [e2, bd2_v]
theorem c_isUp (S : CZ σ G x em sz ns sh) (D : CD σ G x d) (B : WB σ) (w : Wel σ) {h p : Nat} (hh : h < nh σ) (hp : p < np σ) (h3 : kin σ p ≠ 3) : ∃ F, fX3_isUp sh d (PA G p) (some (HA G h + 1)) = some (upB σ h p, uCI d (PA G p + 2) F) := by
  have b3 := B.2.2.1
  have hkp := B.2.2.2.1 p hp
  have e1 := c_unknown S D B w hh hp shn_0 (a := 7) (v := 6) (by decide) (by decide)
  have e2 := c_unknown S D B w hh hp shn_0 (a := 6) (v := 7) (by decide) (by decide)
  have e3 := c_sizeOf S D B w hh hp h3 (a := 6) (by decide)
  rw [unk_opn B w h3] at e1 e2
  have o1 : opn σ h p 7 6 ≤ nc σ := cnt_le _ _
  have o2 : opn σ h p 6 7 ≤ nc σ := cnt_le _ _
  have o3 : mdo σ h p 6 ≤ nc σ := cnt_le _ _
  have e1 : fX3_unknownTo sh d (PA G p) (some (HA G h + 1)) 0 7 6 = _ := e1
  have e2 : fX3_unknownTo sh d (PA G p) (some (HA G h + 1)) 0 6 7 = _ := e2
  have e3 : fX3_sizeOf sh d (PA G p) (some (HA G h + 1)) 6 = _ := e3
  unfold fX3_isUp fX3_isUp_b0 upB
  rw [cf_161 S D hp, bd_v, e1, e2, e3, bd_v, bd2_v, bd2_v]
  simp (disch := omega) only [z_0, z_1, z_2, z_3, z_4, z_5, z_6, z_7, z_8, z_10, z_16, z_17, z_31, z_63, z_64, z_400, nI_add, pk_mul, nI_eq, nI_leI, nI_ltI, bI_z, nI_m9, bI_m9]
  by_cases k : kin σ p = 7
  · rw [if_pos k, if_pos k]
    by_cases g : mdo σ h p 6 ≤ 0
    · rw [if_pos g]
      refine ⟨dai d (PA G p + 2), ?_⟩
      rw [uCI_0, decide_eq_false (by omega)]; rfl
    · rw [if_neg g, decide_eq_true (show 0 < mdo σ h p 6 by omega), Bool.true_and]
      by_cases g2 : opn σ h p 7 6 = 0
      · rw [if_pos g2, decide_eq_true g2]; exact ⟨_, rfl⟩
      · rw [if_neg g2, decide_eq_false g2]; exact ⟨_, rfl⟩
  · rw [if_neg k, if_neg k]
    by_cases g2 : opn σ h p 6 7 ≤ 0
    · rw [if_pos g2, decide_eq_false (by omega)]; exact ⟨_, rfl⟩
    · rw [if_neg g2, decide_eq_true (by omega)]; exact ⟨_, rfl⟩
theorem c_headAbove (S : CZ σ G x em sz ns sh) (D : CD σ G x d) (B : WB σ) (w : Wel σ) {h p : Nat} (hh : h < nh σ) (hp : p < np σ) (h4 : kin σ p = 4) {fl : Option Nat} (hfl : ∀ b, fl = some b → b < nc σ) : fX3_headAbove sh d (PA G p) (some (HA G h + 1)) (fl.map (EA G)) = some ((nxh σ h p fl).map (EA G), kW d (PA G p + 2) (kno σ h p 0 0)) := by
  have b3 := B.2.2.1
  have D1 : CD σ G x (kW d (PA G p + 2) (kno σ h p 0 0)) := cd_kn S D hp _
  have RP := rc_p S D hp (f := kno σ h p 0 0) (fun k hk => by have := kno_b B w (h := h) (p := p) (s := 0) (v := 0) hk; omega)
  have hg := c_gather S D B w hh hp shn_0 (s := 0) (a := 0) (by decide)
  have hg : fX3_gatherKnown sh d (PA G p) (some (HA G h + 1)) 0 0 = _ := hg
  have key := lp_ch (σ := σ) (G := G) (p := p) (s := 0) (fun n a e => fX3_headAbove_b17 sh n (PA G p) (some (HA G h + 1)) (fl.map (EA G)) (a.map (EA G)) e (kW d (PA G p + 2) (kno σ h p 0 0))) (fun a => some (a.map (EA G), kW d (PA G p + 2) (kno σ h p 0 0))) (fun c a => bstep (fun c => has σ h c && (!decide (od σ c ≤ kno σ h p 0 0 (mk σ c)) && flo σ fl c)) (fun b c => aft σ b c) c a) (fun a => ∀ b, a = some b → b < nc σ) (nc σ) (fun c a hc ho ha => bstep_lt hc ha) (fun n a _ => by simp only [fX3_headAbove_b17, on_0]) (fun n c a hc ho ha => by
    have hst : ∀ q : Bool, (has σ h c && (!decide (od σ c ≤ kno σ h p 0 0 (mk σ c)) && flo σ fl c)) = q → fX3_headAbove_b48 sh (fX3_headAbove_b17 sh n) (PA G p) (some (HA G h + 1)) (fl.map (EA G)) (a.map (EA G)) (some (EA G c)) (bI (has σ h c && !decide (od σ c ≤ kno σ h p 0 0 (mk σ c)))) (kW d (PA G p + 2) (kno σ h p 0 0)) = fX3_headAbove_b17 sh n (PA G p) (some (HA G h + 1)) (fl.map (EA G)) ((bstep (fun c => has σ h c && (!decide (od σ c ≤ kno σ h p 0 0 (mk σ c)) && flo σ fl c)) (fun b c => aft σ b c) c a).map (EA G)) ((prv σ p 0 c).map (EA G)) (kW d (PA G p + 2) (kno σ h p 0 0)) := by
      intro q hq
      have h68 : fX3_headAbove_b68 sh (fX3_headAbove_b17 sh n) (PA G p) (some (HA G h + 1)) (fl.map (EA G)) (a.map (EA G)) (some (EA G c)) (kW d (PA G p + 2) (kno σ h p 0 0)) = fX3_headAbove_b17 sh n (PA G p) (some (HA G h + 1)) (fl.map (EA G)) ((bstep (fun _ => true) (fun b c => aft σ b c) c a).map (EA G)) ((prv σ p 0 c).map (EA G)) (kW d (PA G p + 2) (kno σ h p 0 0)) := by
        unfold fX3_headAbove_b68
        cases a with
        | none =>
          simp only [Option.map_none, on_0, bd_v, cf_73o S D1 hc ho]
          rw [bstep_n rfl]; rfl
        | some b =>
          have hb := ha b rfl
          simp only [Option.map_some, on_v, bd_v, kE_0 S hc, c_isBelow S D1 B hc hb, cf_73o S D1 hc ho, bI_0]
          rw [bstep_s rfl]
          cases aft σ b c <;> simp
      unfold fX3_headAbove_b48
      cases h1 : (has σ h c && !decide (od σ c ≤ kno σ h p 0 0 (mk σ c))) with
      | false =>
        rw [if_pos (show bI false = 0 from rfl), bd_v, cf_73o S D1 hc ho, bd_v, bstep_0 (by
          show (has σ h c && (!decide (od σ c ≤ kno σ h p 0 0 (mk σ c)) && flo σ fl c)) = false
          rw [← Bool.and_assoc, h1, Bool.false_and])]
      | true =>
        rw [if_neg (by decide)]
        have hP : ∀ z, flo σ fl c = z → (has σ h c && (!decide (od σ c ≤ kno σ h p 0 0 (mk σ c)) && flo σ fl c)) = z := fun z hz => by rw [← Bool.and_assoc, h1, Bool.true_and]; exact hz
        have hb1 : flo σ fl c = true → bstep (fun c => has σ h c && (!decide (od σ c ≤ kno σ h p 0 0 (mk σ c)) && flo σ fl c)) (fun b c => aft σ b c) c a = bstep (fun _ => true) (fun b c => aft σ b c) c a := fun hz => by
          cases a with
          | none => rw [bstep_n (hP _ hz), bstep_n rfl]
          | some b => rw [bstep_s (hP _ hz), bstep_s rfl]
        cases fl with
        | none => rw [Option.map_none, on_0, hb1 rfl]; rw [Option.map_none] at h68; exact h68
        | some f0 =>
          have hf0 := hfl f0 rfl
          rw [Option.map_some, on_v, kE_0 S hf0, bd_v, c_isBelow S D1 B hf0 hc, bd_v]
          rw [Option.map_some] at h68
          cases h2 : aft σ c f0 with
          | false => rw [if_pos (show bI false = 0 from rfl), bd_v, cf_73o S D1 hc ho, bd_v, bstep_0 (hP _ h2)]
          | true => rw [if_neg (by decide), hb1 h2]; exact h68
    have hst := hst _ rfl
    simp only [fX3_headAbove_b17, on_v, bd_v, kH_1 S hh, c_holds_h S D1 B w hh hc, c_holds S D1 B w RP hc, cf_163 S D1 hp, kP_1 S hp, bI_0]
    cases h1 : has σ h c with
    | false => rw [h1] at hst; simpa [bI] using hst
    | true =>
      rw [h1] at hst
      cases h2 : decide (od σ c ≤ kno σ h p 0 0 (mk σ c)) with
      | false => rw [h2] at hst; simpa [bI] using hst
      | true => rw [h2] at hst; simpa [bI] using hst) (nc σ) fu none (Nat.le_refl _) (by show nc σ < 100000; omega) (fun b hb => by cases hb)
  unfold fX3_headAbove fX3_headAbove_b0
  rw [kP_0 S hp, bd_v, hg, bd_v, cf_162 S D1 hp, bd_v, bd_v, show (0 : Int32) = nI 0 from rfl, ca_p3 S D1 hp shn_0, bd_v]
  refine key.trans ?_
  congr 3
  refine lst_u (fun c => hdB σ h p c && flo σ fl c) ?_ (nxh_b w h p fl)
  rw [fdn_cong (s2 := bstep (fun c => hdB σ h p c && flo σ fl c) (fun b c => aft σ b c)) (fun c a hc => by
    refine bstep_c ?_
    show (hdB σ h p c && flo σ fl c) = (ons σ p 0 c && (has σ h c && (!decide (od σ c ≤ kno σ h p 0 0 (mk σ c)) && flo σ fl c)))
    rw [kno_knw B w hc (by omega), ons_0 (by omega)]
    unfold hdB onB
    by_cases g : pg σ c = p
    · rw [decide_eq_true g, acg_l w hc g (by omega)]; simp [Bool.and_assoc]
    · rw [decide_eq_false g]; simp)]
  exact bst_fdn (fun a b c h1 h2 => aft_bt a b c h1 h2) (fun b c hb hc hn _ _ => aft_rep w hb hc hn)
end
