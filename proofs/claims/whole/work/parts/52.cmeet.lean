/-! the class: queue, receive, come, meet -/
def wsI (G : Gh) (h i c : Nat) : Nat → Nat → Nat := fun y j => if y = h then (if j < i then ws G h j else if j = i then c else ws G h (j - 1)) else ws G y j
theorem wait_id {σ : St} {h c : Nat} (hw : wt σ h c = true) : waitS σ h c = σ := by
  have : u2 (wt σ) h c true = wt σ := by
    funext y e
    unfold u2
    by_cases g : y = h ∧ e = c
    · rw [if_pos g, g.1, g.2, hw]
    · rw [if_neg g]
  unfold waitS
  rw [this]; rfl
section
variable {sh : Sh} {d : Dt} {x : Nat} {σ : St} {G : Gh} {em mi sz ns : Nat}
theorem c_ins0 (S : CZ σ G x em sz ns sh) (D : CD σ G x d) (B : WB σ) (w : Wel σ) {h i c : Nat} (hh : h < nh σ) (hi : i ≤ wn σ h) (hc : c < nc σ) (hw : wt σ h c = false) (hcap : wn σ h < cap G (7 + h)) (hlo : ∀ j, j < i → aft σ c (ws G h j) = true) (hhi : ∀ j, i ≤ j → j < wn σ h → aft σ (ws G h j) c = true) : ∃ e, fJx4a65c_add_7a177_b38 em mi (HA G h + 4) (nI i) (some (EA G c)) (nI (wn σ h)) (some (DA G (7 + h))) sz ns sh d = some (sz, ns, sh, e) ∧ CD (waitS σ h c) (g_w G (wsI G h i c)) x e ∧ CZ (waitS σ h c) (g_w G (wsI G h i c)) x em sz ns sh := by
  have b1 := B.1
  have b3 := wn_nc B h
  have q := S.2.2.2.2.2.2 h hh
  have qk := (S.2.2.1.1 (7 + h) (by omega)).2.1 (by omega)
  have q6 := q_cap S (i := 7 + h) (by omega)
  have hf : ∀ y, y ≠ h → u2 (wt σ) h c true y = wt σ y := fun y hy => by
    funext e; exact if_neg (fun z => hy z.1)
  have hz : ∀ y, y ≠ h → wsI G h i c y = ws G y := fun y hy => by funext j; exact if_neg hy
  have hzh : ∀ j, wsI G h i c h j = if j < i then ws G h j else if j = i then c else ws G h (j - 1) := fun j => if_pos rfl
  have hn : cnt (u2 (wt σ) h c true h) (nc σ) = wn σ h + 1 := wn_wait hc hw
  have hF : ∀ j, j < wn σ h + 1 → (fun k => if k = i then some (EA G c) else va_cpy (dar d (DA G (7 + h))) (dar d (DA G (7 + h))) i (i + 1) (wn σ h - i) k) j = some (EA G (wsI G h i c h j)) := by
    intro j hj
    rw [hzh]
    show (if j = i then some (EA G c) else _) = _
    by_cases z : j = i
    · rw [if_pos z, if_neg (by omega), if_pos z]
    · rw [if_neg z]
      by_cases y : j < i
      · rw [if_pos y, pk_cpy_out (Or.inl (by omega))]
        exact (D.2.2.2.2.2.2.2.2.2 h hh).2 j (by omega)
      · rw [if_neg y, if_neg z, pk_cpy_in (by omega) (by omega), show i + (j - (i + 1)) = j - 1 by omega]
        exact (D.2.2.2.2.2.2.2.2.2 h hh).2 (j - 1) (by omega)
  refine ⟨_, ?_, cd_lw S D B hh (f := u2 (wt σ) h c true) (wz := wsI G h i c) (Or.inl (by omega)) hf hz hn hF, cz_lw S hh hf hz hn (by omega) (fun j hj => ?_) (fun j k hj hk => ?_) (fun e he => ?_)⟩
  · unfold fJx4a65c_add_7a177_b38
    have ecp : cpR sh d (DA G (7 + h)) (nI i) (DA G (7 + h)) (nI (i + 1)) (nI (wn σ h - i)) = some (uCR d (DA G (7 + h)) (va_cpy (dar d (DA G (7 + h))) (dar d (DA G (7 + h))) i (i + 1) (wn σ h - i))) := by
      unfold cpR
      rw [if_pos ⟨by
        unfold cpk
        rw [qk.1, qk.2.1, nI_clamp (by omega), nI_clamp (by omega), nI_clamp (by omega)]
        have p1 : ¬ nI (i + 1) < 0 := nI_pos (by omega)
        have p2 : ¬ nI i < 0 := nI_pos (by omega)
        have p3 : ¬ nI (wn σ h - i) < 0 := nI_pos (by omega)
        simp [p1, p2, p3]; omega, by
        unfold cpE
        rw [nI_clamp (by omega), nI_clamp (by omega), List.all_eq_true]
        intro j hj
        have hj := List.mem_range.mp hj
        rw [(D.2.2.2.2.2.2.2.2.2 h hh).2 _ (by omega), on_v, sE_0 S (w.2.2.2.2.1 h (by omega) _ (q.1 _ (by omega))).1]; rfl⟩, nI_clamp (by omega), nI_clamp (by omega), nI_clamp (by omega)]
    rw [bd_v, nI_1, pk_sub hi, ecp, bd_v, cst_e S hc, bd_v, sR_v qk.1 (by rw [qk.2.1]; omega) (by omega), bd_v, nI_1, pI_v (sH_4 S hh), bd_v, uAR_C, uCR_2, uCR_s]
  · rw [hzh]
    show u2 (wt σ) h c true h _ = true
    unfold u2
    by_cases z : j < i
    · rw [if_pos z]
      split
      · rfl
      · exact q.1 j (by omega)
    · rw [if_neg z]
      by_cases y : j = i
      · rw [if_pos y, if_pos ⟨rfl, rfl⟩]
      · rw [if_neg y]
        split
        · rfl
        · exact q.1 (j - 1) (by omega)
  · rw [hzh, hzh]
    have := q.2.1
    by_cases z : k < i
    · rw [if_pos z, if_pos (by omega)]; exact this j k hj (by omega)
    · rw [if_neg z]
      by_cases y : k = i
      · rw [if_pos y, if_pos (by omega)]; exact hlo j (by omega)
      · rw [if_neg y]
        by_cases v : j < i
        · rw [if_pos v]; exact this j (k - 1) (by omega) (by omega)
        · rw [if_neg v]
          by_cases u : j = i
          · rw [if_pos u]; exact hhi (k - 1) (by omega) (by omega)
          · rw [if_neg u]; exact this (j - 1) (k - 1) (by omega) (by omega)
  · have he : (if h = h ∧ e = c then true else wt σ h e) = true := he
    by_cases z : e = c
    · exact ⟨i, by omega, by rw [hzh, if_neg (by omega), if_pos rfl, z]⟩
    · rw [if_neg (fun g => z g.2)] at he
      obtain ⟨j, j1, j2⟩ := q.2.2 e he
      by_cases y : j < i
      · exact ⟨j, by omega, by rw [hzh, if_pos y]; exact j2⟩
      · exact ⟨j + 1, by omega, by rw [hzh, if_neg (by omega), if_neg (by omega), show j + 1 - 1 = j by omega]; exact j2⟩
theorem c_insert (S : CZ σ G x em sz ns sh) (D : CD σ G x d) (B : WB σ) (w : Wel σ) {h i c : Nat} (hh : h < nh σ) (hi : i ≤ wn σ h) (hc : c < nc σ) (hw : wt σ h c = false) (hlo : ∀ j, j < i → aft σ c (ws G h j) = true) (hhi : ∀ j, i ≤ j → j < wn σ h → aft σ (ws G h j) c = true) : ∃ sz2 ns2 sh2 e G2, fJx4a65c_add_7a177 em mi (HA G h + 4) (nI i) (some (EA G c)) sz ns sh d = some (sz2, ns2, sh2, e) ∧ CD (waitS σ h c) G2 x e ∧ CZ (waitS σ h c) G2 x em sz2 ns2 sh2 ∧ sameA G G2 := by
  have b1 := B.1
  have b3 := B.2.2.1
  have hwn : wn σ h < nc σ := cnt_all hc hw
  have D1 := cd_32 D (a := HA G h + 4) (v := dfi d 32 (HA G h + 4) + 1)
  have L1 := lr_32 (b := HA G h + 4) (v := dfi d 32 (HA G h + 4) + 1) (lr_w S D B w hh)
  have s4 := sH_4 S hh
  have q6 := q_cap S (i := 7 + h) (by omega)
  have er : fJx4a65c_rangeCheckForAdd_d00df sh d (HA G h + 4) (nI i) = some () := by
    unfold fJx4a65c_rangeCheckForAdd_d00df fJx4a65c_rangeCheckForAdd_d00df_b0
    rw [cf_34w S D hh, bd_v, if_neg (nI_nlt hi (by omega)), if_pos (nI_pos' (by omega))]
  unfold fJx4a65c_add_7a177 fJx4a65c_add_7a177_b0
  rw [kH_4 S hh, bd_v, er, bd_v, gI_v s4, bd_v, pI_v s4, bd_v]
  generalize uI d 32 (HA G h + 4) (dfi d 32 (HA G h + 4) + 1) = d1 at D1 L1
  rw [cf_34w S D1 hh, bd_v, cf_33w S D1 hh, bd_v, bd_v, lr_ln S L1, bd_v]
  simp (disch := omega) only [nI_eq]
  by_cases z : wn σ h = cap G (7 + h)
  · obtain ⟨G2, sz2, ns2, sh2, d2, g1, S2, D2, L2, c2, s2, -⟩ := c_grow (mi := mi) S D1 B L1 (by omega) z
    rw [if_pos z, g1, bw2_v]
    unfold fJx4a65c_add_7a177_b36
    obtain ⟨e, e1, e2, e3⟩ := c_ins0 (mi := mi) S2 D2 B w hh hi hc hw c2 (by rw [s2.2.2.2.2.1]; exact hlo) (by rw [s2.2.2.2.2.1]; exact hhi)
    rw [s2.1, s2.2.2.1] at e1
    exact ⟨_, _, _, e, _, e1, e2, e3, s2.1, s2.2.2.1, s2.2.1, s2.2.2.2.2.2⟩
  · have cn := (S.2.2.1.2.2.1 h hh).2
    rw [if_neg z]
    obtain ⟨e, e1, e2, e3⟩ := c_ins0 (mi := mi) S D1 B w hh hi hc hw (by omega) hlo hhi
    exact ⟨_, _, _, e, _, e1, e2, e3, rfl, rfl, rfl, rfl⟩
theorem c_queue (S : CZ σ G x em sz ns sh) (D : CD σ G x d) (B : WB σ) (w : Wel σ) {h c : Nat} (hh : h < nh σ) (hc : c < nc σ) (hw : wt σ h c = false) : ∃ sz2 ns2 sh2 e G2, fX1_queue em mi (HA G h) (some (EA G c)) sz ns sh d = some (sz2, ns2, sh2, e) ∧ CD (waitS σ h c) G2 x e ∧ CZ (waitS σ h c) G2 x em sz2 ns2 sh2 ∧ sameA G G2 := by
  have b1 := B.1
  have b3 := wn_nc B h
  have q := S.2.2.2.2.2.2 h hh
  have hlt : ∀ j, j < wn σ h → ws G h j < nc σ := fun j hj => (w.2.2.2.2.1 h (by omega) _ (q.1 j hj)).1
  have fin : ∀ i, i ≤ wn σ h → (∀ j, j < i → aft σ c (ws G h j) = true) → (∀ j, i ≤ j → j < wn σ h → aft σ (ws G h j) c = true) → ∃ sz2 ns2 sh2 e G2, fX1_queue_b37 em mi (HA G h) (some (EA G c)) (nI i) sz ns sh d = some (sz2, ns2, sh2, e) ∧ CD (waitS σ h c) G2 x e ∧ CZ (waitS σ h c) G2 x em sz2 ns2 sh2 ∧ sameA G G2 := by
    intro i hi h1 h2
    obtain ⟨sz2, ns2, sh2, e, G2, g1, g2⟩ := c_insert (mi := mi) S D B w hh hi hc hw h1 h2
    refine ⟨sz2, ns2, sh2, e, G2, ?_, g2⟩
    unfold fX1_queue_b37
    rw [cf_99 S D hh, bd_v, bd_v, kH_4 S hh, bd_v, g1, bw_v]; rfl
  have key : ∀ m j n, j + m = wn σ h → m < n → (∀ k, k < j → aft σ c (ws G h k) = true) → ∃ sz2 ns2 sh2 e G2, fX1_queue_b2 em mi n (HA G h) (some (EA G c)) (nI j) sz ns sh d = some (sz2, ns2, sh2, e) ∧ CD (waitS σ h c) G2 x e ∧ CZ (waitS σ h c) G2 x em sz2 ns2 sh2 ∧ sameA G G2 := by
    intro m
    induction m with
    | zero =>
      intro j n hj hn hp
      cases n with
      | zero => omega
      | succ n =>
        simp (disch := omega) only [fX1_queue_b2, bd_v, cf_99 S D, kH_4 S, c_size_w S D, nI_leI]
        rw [if_pos (by omega)]
        exact fin j (by omega) hp (fun k k1 k2 => by omega)
    | succ m ih =>
      intro j n hj hn hp
      cases n with
      | zero => omega
      | succ n =>
        have hj2 := hlt j (by omega)
        simp (disch := omega) only [fX1_queue_b2, bd_v, cf_99 S D, kH_4 S, c_size_w S D, nI_leI, c_get_w S D B, cst_e S hj2, kE_0 S hj2, c_isBelow S D B hj2 hc, bI_0, nI_1]
        rw [if_neg (by omega)]
        cases ha : aft σ c (ws G h j) with
        | true =>
          rw [if_neg (by decide)]
          exact ih (j + 1) n (by omega) (by omega) (fun k hk => by
            by_cases z : k = j
            · rw [z]; exact ha
            · exact hp k (by omega))
        | false =>
          rw [if_pos rfl]
          have hjc : aft σ (ws G h j) c = true := (aft_tot w hc hj2 ha).elim (fun z => by
            have := q.1 j (by omega); rw [← z, hw] at this; cases this) id
          exact fin j (by omega) hp (fun k k1 k2 => by
            by_cases z : k = j
            · rw [z]; exact hjc
            · exact aft_tr (q.2.1 j k (by omega) k2) hjc)
  exact key (wn σ h) 0 fu (by omega) (by show wn σ h < 100000; omega) (fun k hk => by omega)
theorem c_receive (S : CZ σ G x em sz ns sh) (D : CD σ G x d) (B : WB σ) (w : Wel σ) (N : Nrd σ) {h c : Nat} (hh : h < nh σ) (hc : c < nc σ) (hn : has σ h c = false) : ∃ sz2 ns2 sh2 e G2, fX1_receive em mi (HA G h) (some (EA G c)) sz ns sh d = some (nI (comS σ h c).1, sz2, ns2, sh2, e) ∧ CZ (comS σ h c).2 G2 x em sz2 ns2 sh2 ∧ CD (comS σ h c).2 G2 x e ∧ sameA G G2 := by
  have b1 := B.1
  have w1 := wel_wait w hh hc hn
  have B1 : WB (waitS σ h c) := B
  have b3 := wn_nc B1 h
  have fin : ∀ {sz2 ns2 : Nat} {sh2 : Sh} {e : Dt} {G2 : Gh}, CD (waitS σ h c) G2 x e → CZ (waitS σ h c) G2 x em sz2 ns2 sh2 → sameA G G2 → ∃ sz3 ns3 sh3 e3 G3, fX1_receive_b13 em mi (HA G h) sz2 ns2 sh2 e = some (nI (comS σ h c).1, sz3, ns3, sh3, e3) ∧ CZ (comS σ h c).2 G3 x em sz3 ns3 sh3 ∧ CD (comS σ h c).2 G3 x e3 ∧ sameA G G3 := by
    intro sz2 ns2 sh2 e G2 D2 S2 A2
    obtain ⟨e3, G3, g1, g2, g3, g4⟩ := c_inclReady (h := h) (A := wn (waitS σ h c) h) (wn (waitS σ h c) h) 0 0 0 401 fu (waitS σ h c) G2 e (by omega) (by omega) (by omega) (by omega) (by show wn (waitS σ h c) h < 100000; omega) b3 S2 D2 B1 w1 hh (fun j hj => by omega)
    refine ⟨_, _, _, e3, G3, ?_, g2, g3, g4.1.trans A2.1, g4.2.1.trans A2.2.1, g4.2.2.1.trans A2.2.2.1, g4.2.2.2.trans A2.2.2.2⟩
    have hh2 : h < nh (waitS σ h c) := hh
    unfold fX1_receive_b13
    rw [← A2.1, kH_0 S2 hh2, bd_v]
    unfold fX1_includeReady fX1_includeReady_b0
    rw [cf_99 S2 D2 hh2, bd_v, bd_v, kH_4 S2 hh2, bd_v, c_size_w S2 D2 hh2, bd_v]
    have g1 : fX1_includeReady_b12 sh2 fu (HA G2 h) (nI (wn (waitS σ h c) h)) 0 0 e = some (nI (comS σ h c).1, e3) := g1
    rw [g1, bd2_v]
  unfold fX1_receive fX1_receive_b0
  rw [kH_0 S hh, bd_v, c_awaits S D B w hh hc, bd_v]
  cases hw : wt σ h c with
  | true =>
    rw [if_neg (by decide)]
    have e := wait_id hw
    exact fin (by rw [e]; exact D) (by rw [e]; exact S) ⟨rfl, rfl, rfl, rfl⟩
  | false =>
    obtain ⟨sz2, ns2, sh2, e, G2, g1, g2, g3, g4⟩ := c_queue (mi := mi) S D B w hh hc hw
    rw [if_pos (show bI false = 0 from rfl), g1, bw_v]
    exact fin g2 g3 g4
end
def OKA (o : Option (Int32 × Wl)) (x em : Nat) (q : Int32 × St) : Prop := ∃ sz ns sh d G, o = some (q.1, sz, ns, sh, d) ∧ CZ q.2 G x em sz ns sh ∧ CD q.2 G x d ∧ cap G 13 = 0
section
variable {sh : Sh} {d : Dt} {x : Nat} {σ : St} {G : Gh} {em mi sz ns : Nat}
theorem c_come (S : CZ σ G x em sz ns sh) (D : CD σ G x d) (B : WB σ) (w : Wel σ) (N : Nrd σ) (h13 : cap G 13 = 0) (a1 a2 : Int32) : OKA (fX6_come em mi x a1 a2 sz ns sh d) x em (comV σ a1 a2) := by
  have b1 := B.1
  have b2 := B.2.2.1
  unfold fX6_come fX6_come_b0 comV
  rw [kX_0 S, bd_v, c_handAt S D B, bd_v, c_entryAt S D B, bd_v]
  cases h1 : inN a1 (nh σ) with
  | false => exact ⟨_, _, _, _, G, rfl, S, D, h13⟩
  | true =>
    cases h2 : inN a2 (nc σ) with
    | false => exact ⟨_, _, _, _, G, rfl, S, D, h13⟩
    | true =>
      obtain ⟨h, e1, rfl⟩ := inN_t h1
      obtain ⟨c, e2, rfl⟩ := inN_t h2
      rw [if_pos rfl, if_pos rfl, if_pos (show (true && true) = true from rfl), cl_nI (by omega), cl_nI (by omega), on_v, on_v, cf_97 S D e1, bd_v, bd_v, kH_1 S e1, bd_v, c_holds_h S D B w e1 e2, bd_v]
      cases h3 : has σ h c with
      | true =>
        rw [if_neg (by decide), if_pos rfl]
        exact ⟨_, _, _, _, G, rfl, S, D, h13⟩
      | false =>
        obtain ⟨sz2, ns2, sh2, e, G2, g1, g2, g3, g4⟩ := c_receive (mi := mi) S D B w N e1 e2 h3
        rw [if_pos (show bI false = 0 from rfl), if_neg (by decide), g1, bw2_v]
        unfold fX6_come_b48
        refine ⟨_, _, _, _, G2, ?_, g2, g3, g4.2.2.2.trans h13⟩
        rw [show (10 : Int32) = nI 10 from rfl, nI_add]
/-- of each maker the first that is lacking -/
def cand (σ : St) (G : Gh) (h o k : Nat) : Option Nat := if up σ o k + 1 ≤ up σ h k then some (ow G k (up σ o k)) else none
def cstep (σ : St) (c a : Option Nat) : Option Nat := match c with
  | none => a
  | some c => (match a with
    | none => some c
    | some b => if aft σ b c then some c else a)
theorem cand_p (S : CZ σ G x em sz ns sh) (B : WB σ) (w : Wel σ) {h o k c : Nat} (hh : h < 6) (hk : k < nh σ) (e : cand σ G h o k = some c) : c < nc σ ∧ mk σ c = k ∧ od σ c = up σ o k + 1 ∧ up σ o k + 1 ≤ up σ h k := by
  have b1 := B.1
  unfold cand at e
  by_cases g : up σ o k + 1 ≤ up σ h k
  · rw [if_pos g] at e
    cases e
    have := (w.2.1 h hh).2.2 k (by omega)
    have q := S.2.2.2.2.2.1 k hk (up σ o k) (by omega)
    exact ⟨q.1, q.2.1, q.2.2, g⟩
  · rw [if_neg g] at e; cases e
theorem c_lack (S : CZ σ G x em sz ns sh) (D : CD σ G x d) (B : WB σ) (w : Wel σ) {h o : Nat} (hh : h < nh σ) (ho : o < nh σ) : fX6_leastLacking sh d x (some (HA G h)) (some (HA G o)) = some ((lck σ h o).map (EA G)) := by
  have b1 := B.1
  have bu : ∀ y k, y < nh σ → k < 6 → up σ y k ≤ 400 := fun y k hy hk => b_up B w (by omega) hk
  have hI : ∀ j (a : Option Nat), j < nh σ → (∀ b, a = some b → b < nc σ) → ∀ b, cstep σ (cand σ G h o j) a = some b → b < nc σ := by
    intro j a hj ha b
    unfold cstep
    cases hc : cand σ G h o j with
    | none => exact ha b
    | some c =>
      have := (cand_p S B w (show h < 6 by omega) hj hc).1
      cases a with
      | none => intro e; cases e; exact this
      | some q =>
        show (if aft σ q c = true then some c else some q) = some b → _
        cases aft σ q c with
        | true => intro e; cases e; exact this
        | false => intro e; cases e; exact ha _ rfl
  have key := lp_for (fun n a y => fX6_leastLacking_b5 sh d n x (some (HA G h)) (some (HA G o)) (a.map (EA G)) y) (fun a => some (a.map (EA G))) (fun k a => cstep σ (cand σ G h o k) a) (nh σ) (fun _ a => ∀ b, a = some b → b < nc σ) (fun j a hj ha => hI j a hj ha) (fun n a _ => by
      simp (disch := omega) only [fX6_leastLacking_b5, bd_v, cf_262 S D, nI_leI]
      rw [if_pos (Nat.le_refl _)]) (fun n j a hj ha => by
      have q1 := bu o j ho (by omega)
      have q2 := bu h j hh (by omega)
      have h59 : ∀ t0 : Option Nat, (∀ c, t0 = some c → c < nc σ) → fX6_leastLacking_b67 sh d (fX6_leastLacking_b5 sh d n) x (some (HA G h)) (some (HA G o)) (a.map (EA G)) (nI j) (t0.map (EA G)) = fX6_leastLacking_b5 sh d n x (some (HA G h)) (some (HA G o)) ((cstep σ t0 a).map (EA G)) (nI (j + 1)) := by
        intro t0 ht
        unfold fX6_leastLacking_b67 cstep
        cases t0 with
        | none => rw [Option.map_none, on_0, nI_1]
        | some c =>
          have hc := ht c rfl
          rw [Option.map_some, on_v]
          cases a with
          | none => rw [Option.map_none, on_0, nI_1]; rfl
          | some b =>
            have hb := ha b rfl
            rw [Option.map_some, on_v, kE_0 S hc, bd_v, c_isBelow S D B hc hb, bd_v, nI_1]
            cases h9 : aft σ b c <;> simp [bI, h9]
      simp (disch := omega) only [fX6_leastLacking_b5, bd_v, on_v, cf_262 S D, c_hand_j S D B, nI_leI, cf_97 S D, cf_192h S D, ca_h2 S D, nI_1]
      rw [if_neg (by omega)]
      unfold cand
      by_cases g : up σ o j + 1 ≤ up σ h j
      · have hm := (w.2.1 h (by omega)).2.2 j (by omega)
        have hm4 := (B.2.2.2.2.2 j (by omega)).2
        have q := S.2.2.2.2.2.1 j hj (up σ o j) (by omega)
        have eo : fX1_ownAt sh d (HA G j) (nI (up σ o j + 1)) = some (some (EA G (ow G j (up σ o j)))) := by
          unfold fX1_ownAt fX1_ownAt_b0
          rw [if_neg (show ¬ nI (up σ o j + 1) < 1 from nI_nlt (b := 1) (by omega) (by omega))]
          simp (disch := omega) only [bd_v, cf_98 S D, kH_3 S, c_size_o S D, nI_leI, nI_pred, c_get_o S D B, cst_e S q.1]
          rw [if_pos (by omega)]
        rw [if_pos g, if_pos g, kH_0 S hj, bd_v, eo, bd_v]
        exact h59 (some (ow G j (up σ o j))) (fun c hc => by cases hc; exact q.1)
      · rw [if_neg g, if_neg g]
        unfold fX6_leastLacking_b56
        exact h59 none (fun c hc => by cases hc)) none (fun b hb => by cases hb) fu (by show nh σ < 100000; omega)
  refine (show _ = _ from key).trans ?_
  congr 2
  refine lst_u (fun c => has σ h c && !has σ o c) ?_ (lck_b w h o)
  -- what the fold found
  have inv : ∀ j, j ≤ nh σ → (fo (fun k a => cstep σ (cand σ G h o k) a) none j = none → ∀ k, k < j → cand σ G h o k = none) ∧ (∀ b, fo (fun k a => cstep σ (cand σ G h o k) a) none j = some b → (∃ k, k < j ∧ cand σ G h o k = some b) ∧ ∀ k, k < j → ∀ c, cand σ G h o k = some c → c = b ∨ aft σ c b = true) := by
    intro j
    induction j with
    | zero => intro _; exact ⟨fun _ k hk => by omega, fun b hb => by cases hb⟩
    | succ j ih =>
      intro hj
      obtain ⟨i1, i2⟩ := ih (by omega)
      rw [fo_s]
      generalize fo (fun k a => cstep σ (cand σ G h o k) a) none j = a at i1 i2
      unfold cstep
      cases hc : cand σ G h o j with
      | none =>
        refine ⟨fun z k hk => ?_, fun b hb => ?_⟩
        · by_cases e : k = j
          · rw [e]; exact hc
          · exact i1 z k (by omega)
        · obtain ⟨⟨k, k1, k2⟩, k3⟩ := i2 b hb
          refine ⟨⟨k, by omega, k2⟩, fun y hy c hyc => ?_⟩
          by_cases e : y = j
          · rw [e, hc] at hyc; cases hyc
          · exact k3 y (by omega) c hyc
      | some c =>
        have pc := cand_p S B w (show h < 6 by omega) (show j < nh σ by omega) hc
        cases a with
        | none =>
          refine ⟨fun z => (by cases z), fun b hb => ?_⟩
          cases hb
          refine ⟨⟨j, by omega, hc⟩, fun y hy e hye => ?_⟩
          by_cases g : y = j
          · rw [g, hc] at hye; cases hye; exact Or.inl rfl
          · rw [i1 rfl y (by omega)] at hye; cases hye
        | some q =>
          obtain ⟨⟨k, k1, k2⟩, k3⟩ := i2 q rfl
          have pq := cand_p S B w (show h < 6 by omega) (show k < nh σ by omega) k2
          show ((if aft σ q c = true then some c else some q) = none → _) ∧ ∀ b, (if aft σ q c = true then some c else some q) = some b → _
          cases hq : aft σ q c with
          | true =>
            refine ⟨fun z => (by cases z), fun b hb => ?_⟩
            cases hb
            refine ⟨⟨j, by omega, hc⟩, fun y hy e hye => ?_⟩
            by_cases g : y = j
            · rw [g, hc] at hye; cases hye; exact Or.inl rfl
            · right
              rcases k3 y (by omega) e hye with z | z
              · rw [z]; exact hq
              · exact aft_tr z hq
          | false =>
            refine ⟨fun z => (by cases z), fun b hb => ?_⟩
            cases hb
            refine ⟨⟨k, by omega, k2⟩, fun y hy e hye => ?_⟩
            by_cases g : y = j
            · rw [g, hc] at hye; cases hye
              exact (aft_tot w pq.1 pc.1 hq).elim (fun z => Or.inl z.symm) Or.inr
            · exact k3 y (by omega) e hye
  obtain ⟨i1, i2⟩ := inv (nh σ) (Nat.le_refl _)
  -- every lacking one is not below a candidate
  have low : ∀ e, e < nc σ → (has σ h e && !has σ o e) = true → ∃ k, k < nh σ ∧ ∃ c, cand σ G h o k = some c ∧ (e = c ∨ aft σ e c = true) := by
    intro e he hp
    have hp : has σ h e = true ∧ has σ o e = false := by simpa using hp
    have m1 := (wb_c B he).1
    have l1 := (has_iff.mp hp.1).2
    have l2 := has_f he hp.2
    have g : up σ o (mk σ e) + 1 ≤ up σ h (mk σ e) := by omega
    have hc : cand σ G h o (mk σ e) = some (ow G (mk σ e) (up σ o (mk σ e))) := if_pos g
    have pc := cand_p S B w (show h < 6 by omega) m1 hc
    refine ⟨_, m1, _, hc, ?_⟩
    by_cases z : od σ e = up σ o (mk σ e) + 1
    · exact Or.inl (od_inj w he pc.1 pc.2.1.symm (by omega))
    · right
      have : kn σ e (ow G (mk σ e) (up σ o (mk σ e))) = true := by
        refine kn_own w he ?_ pc.2.1
        rcases Nat.lt_or_ge (ow G (mk σ e) (up σ o (mk σ e))) e with y | y
        · exact y
        · have h1 := w_od w he
          have h2 := w_od w pc.1
          rw [pc.2.1] at h2
          have := mb_mono σ (mk σ e) y
          omega
      rw [aft_iff]
      exact Or.inl (w.2.2.2.1 e he _ this).1
  generalize fo (fun k a => cstep σ (cand σ G h o k) a) none (nh σ) = r at i1 i2
  cases r with
  | none =>
    intro e he
    cases hp : (has σ h e && !has σ o e) with
    | false => exact hp
    | true =>
      obtain ⟨k, k1, c, k2, -⟩ := low e he hp
      rw [i1 rfl k k1] at k2; cases k2
  | some b =>
    obtain ⟨⟨k, k1, k2⟩, k3⟩ := i2 b rfl
    have pb := cand_p S B w (show h < 6 by omega) k1 k2
    refine ⟨pb.1, ?_, fun e he hp => ?_⟩
    · have : has σ h b = true := has_iff.mpr ⟨pb.1, by rw [pb.2.1]; omega⟩
      have h2 : has σ o b = false := by
        cases hz : has σ o b with
        | false => rfl
        | true => have := (has_iff.mp hz).2; rw [pb.2.1] at this; omega
      show (has σ h b && !has σ o b) = true
      rw [this, h2]; rfl
    · obtain ⟨y, y1, c, y2, y3⟩ := low e he hp
      rcases k3 y y1 c y2 with z | z
      · rw [z] at y3; exact y3
      · right
        rcases y3 with v | v
        · rw [v]; exact z
        · exact aft_tr v z
end
