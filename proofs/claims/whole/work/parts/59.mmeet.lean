/-! the reference: come, meet -/
theorem incl_wait {σ : St} {h c : Nat} : inclS (waitS σ h c) h c = inclS σ h c := by
  have : u2 (u2 (wt σ) h c true) h c false = u2 (wt σ) h c false := by
    funext y e
    unfold u2
    by_cases g : y = h ∧ e = c
    · rw [if_pos g, if_pos g]
    · rw [if_neg g, if_neg g, if_neg g]
  show s_gc (s_wt (upS (waitS σ h c) h c) (u2 (u2 (wt σ) h c true) h c false)) (u1 (gc σ) h (max (gc σ h) (ct σ c))) = _
  rw [this]; rfl
section
variable {sh : Sh} {d : Dt} {mm : Nat} {σ : St}
/-- one that is READY is entered and waits no more -/
theorem m_take1 (S : MS sh mm) (E : MD d mm) (R : RM σ d mm) (B : WB σ) (w : Wel σ) {h c : Nat} (hh : h < nh σ) (hc : c < nc σ) (hr : rdy σ h c) (hn : has σ h c = false) : ∃ e1 e2, fX7_enter sh d (some (mm + 2)) (nI h) (nI c) = some e1 ∧ MD e1 mm ∧ fX7_leave sh e1 (some (mm + 3)) (nI h) (nI c) = some e2 ∧ MD e2 mm ∧ RM (inclS σ h c) e2 mm := by
  have b1 := B.1
  have b3 := B.2.2.1
  have q2 := S.2 2 (by decide) (by decide)
  have q2b : sh.2 (mm + 2) = 42 := q2.2
  have q3 := S.2 3 (by decide) (by decide)
  have q3b : sh.2 (mm + 3) = 42 := q3.2
  have R1 := rm_w_has (show c < 448 by omega) (f := u2 (up σ) h (mk σ c) (od σ c)) (h := h) (fun x hx e he => has_up w B hc hr hn x e) R
  have R2 := rm_w_wl (h := h) (show c < 448 by omega) R1
  exact ⟨_, _, m_enter q2.1 (by omega) (by omega) (by omega), E, m_leave q3.1 (by omega) (by omega) (by omega), E, rm_gc R2⟩
theorem m_takes_l {h : Nat} (S : MS sh mm) : ∀ (f : Nat) (τ : St) (k n : Nat) (d : Dt), Wel τ → WB τ → h < nh τ → RM τ d mm → MD d mm → wn τ h < f → f < n → ∃ e, fX7_takes_b5 sh n mm (nI h) (nI k) (oc (nxr τ h)) d = some (nI (run h f τ k).1, e) ∧ MD e mm ∧ RM (run h f τ k).2 e mm := by
  intro f
  induction f with
  | zero => intro τ k n d _ _ _ _ _ hf; omega
  | succ f ih =>
    intro τ k n d w B hh R E hf hn
    have b1 := B.1
    have b3 := B.2.2.1
    cases n with
    | zero => omega
    | succ n =>
      cases hx : nxr τ h with
      | none =>
        rw [run_0 hx]
        refine ⟨d, ?_, E, R⟩
        simp only [fX7_takes_b5]
        rw [if_pos (show oc none = -9 from rfl)]
      | some c =>
        obtain ⟨q1, q2, q3, q4⟩ := nxr_s w B (by omega) hx
        obtain ⟨e1, e2, g1, g2, g3, g4, g5⟩ := m_take1 S E R B w hh q1 q3 q4
        have w1 := wel_incl w B hh q1 q3 q4
        have hw := wn_incl q1 q2
        rw [run_1 hx]
        have hne : ¬ oc (some c) = -9 := fun q => ((nI_m9 (k := c) (by omega)).mp q).elim
        simp only [fX7_takes_b5]
        rw [if_neg hne, mg_291 S E, bd_v]
        show ∃ e, bd (fX7_enter sh d (some (mm + 2)) (nI h) (nI c)) _ = _ ∧ _
        rw [g1, bd_v, mg_292 S g2, bd_v]
        show ∃ e, bd (fX7_leave sh e1 (some (mm + 3)) (nI h) (nI c)) _ = _ ∧ _
        rw [g3, bd_v, m_nextReady S g4 g5 B (show h < 6 by omega), bd_v, nI_1]
        exact ih (inclS τ h c) (k + 1) n e2 w1 B hh g5 g4 (by omega) (by omega)
theorem m_come (S : MS sh mm) (E : MD d mm) (R : RM σ d mm) (B : WB σ) (w : Wel σ) (N : Nrd σ) (a1 a2 : Int32) : OKm (fX7_come sh d mm a1 a2) mm (comV σ a1 a2) := by
  have b1 := B.1
  have b3 := B.2.2.1
  unfold fX7_come fX7_come_b0 comV
  rw [mk_9 S, bd_v, m_isHand S R B, bd_v]
  cases h1 : inN a1 (nh σ) with
  | false => exact ⟨d, rfl, E, R⟩
  | true =>
    rw [if_neg (by decide), m_isChange S R B, bd_v]
    cases h2 : inN a2 (nc σ) with
    | false => exact ⟨d, rfl, E, R⟩
    | true =>
      obtain ⟨h, e1, rfl⟩ := inN_t h1
      obtain ⟨c, e2, rfl⟩ := inN_t h2
      rw [if_neg (by decide), if_pos (show (true && true) = true from rfl), mg_291 S E, bd_v, m_isIn_has S R (by omega) (by omega), bd_v, cl_nI (by omega), cl_nI (by omega)]
      cases h3 : has σ h c with
      | true => exact ⟨d, rfl, E, R⟩
      | false =>
        rw [if_pos (show bI false = 0 from rfl), m_isReady S E R B (by omega) e2, bd_v, if_neg (show ¬ false = true by decide)]
        cases h4 : sub4 (kn σ c) (has σ h) with
        | false =>
          have hr : ¬ rdy σ h c := fun q => by rw [(sub_rdy B w (by omega) e2).mpr q] at h4; cases h4
          have e0 : comS σ h c = (0, waitS σ h c) := run_0 (nxr_w0 w B N e1 e2 h3 hr)
          have q3 := S.2 3 (by decide) (by decide)
          have q3b : sh.2 (mm + 3) = 42 := q3.2
          rw [if_pos (show bI false = 0 from rfl), mg_292 S E, bd_v, m_enter q3.1 (by omega) (by omega) (by omega), bd_v, e0]
          exact ⟨_, rfl, E, rm_w_we (by omega) R⟩
        | true =>
          have hr := (sub_rdy B w (show h < 6 by omega) e2).mp h4
          have e0 : comS σ h c = run h 400 (inclS σ h c) 1 := (run_1 (nxr_w w B N e1 e2 h3 hr)).trans (by rw [incl_wait])
          obtain ⟨f1, f2, g1, g2, g3, g4, g5⟩ := m_take1 S E R B w e1 e2 hr h3
          have w1 := wel_incl w B e1 e2 hr h3
          have hw : wn (inclS σ h c) h < 400 := by
            have : wn (inclS σ h c) h < nc σ := cnt_all (p := wt (inclS σ h c) h) e2 (u2_s _ _ _ _)
            omega
          obtain ⟨e3, t1, t2, t3⟩ := m_takes_l S 400 (inclS σ h c) 1 99999 f2 w1 B e1 g5 g4 hw (by decide)
          have ht : fX7_takes sh d mm (nI h) (nI c) = some (nI (run h 400 (inclS σ h c) 1).1, e3) := by
            unfold fX7_takes fX7_takes_b0
            have key : ∀ n X, fX7_takes_b5 sh n mm (nI h) (nI 1) (oc (nxr (inclS σ h c) h)) f2 = X → fX7_takes_b5 sh (n + 1) mm (nI h) (nI 0) (nI c) d = X := by
              intro n X hX
              have hne : ¬ nI c = -9 := fun q => ((nI_m9 (k := c) (by omega)).mp q).elim
              simp only [fX7_takes_b5]
              rw [if_neg hne, mg_291 S E, bd_v, g1, bd_v, mg_292 S g2, bd_v, g3, bd_v, m_nextReady S g4 g5 B (show h < 6 by omega), bd_v, nI_1]
              exact hX
            exact key 99999 _ t1
          rw [if_neg (by decide), ht, bd2_v, e0]
          refine ⟨e3, ?_, t2, t3⟩
          rw [show (10 : Int32) = nI 10 from rfl, nI_add]
theorem m_best (S : MS sh mm) (E : MD d mm) (R : RM σ d mm) (B : WB σ) {h o k came : Nat} (hh : h < 6) (ho : o < 6) (k33 : Nat → Int32 → Int32 → Int32 → Int32 → Int32 → Dt → Option (Int32 × Dt)) (x3 : Int32) : fX7_meet_b51 sh k33 fu mm (nI h) (nI o) x3 (nI came) (-9) 0 d = fX7_meet_b143 sh k33 mm (nI h) (nI o) x3 (nI came) (oc (lck σ h o)) (bI (lck σ h o).isSome) d := by
  have b3 := B.2.2.1
  refine lp_for (fun n a y => fX7_meet_b51 sh k33 n mm (nI h) (nI o) x3 (nI came) (oc a) y d) (fun a => fX7_meet_b143 sh k33 mm (nI h) (nI o) x3 (nI came) (oc a) (bI a.isSome) d) (bstep (fun c => has σ h c && !has σ o c) (fun b c => aft σ b c)) (nc σ) (fun j a => ∀ b, a = some b → b < j) (fun j a hj ha => ?_) ?_ ?_ none (fun b hb => by cases hb) fu (by show nc σ < 100000; omega)
  · have := bstep_lt (P := fun c => has σ h c && !has σ o c) (rep := fun b c => aft σ b c) (c := j) (N := j + 1) (a := a) (by omega) (fun b hb => by have := ha b hb; omega)
    exact this
  · intro n a ha
    simp (disch := omega) only [fX7_meet_b51, mi_297 S, bd_v, rm_nc R, nI_leI]
    rw [if_pos (Nat.le_refl _)]
    cases a with
    | none => rw [if_pos (show oc none = -9 from rfl)]; rfl
    | some b =>
      have := ha b rfl
      rw [if_neg (show ¬ oc (some b) = -9 from fun q => ((nI_m9 (k := b) (by omega)).mp q).elim)]; rfl
  · intro n j a hj ha
    have h91 : ∀ q : Bool, q = (has σ h j && !has σ o j) → fX7_meet_b91 sh k33 (fX7_meet_b51 sh k33 n) mm (nI h) (nI o) x3 (nI came) (oc a) (nI j) (bI q) d = fX7_meet_b51 sh k33 n mm (nI h) (nI o) x3 (nI came) (oc (bstep (fun c => has σ h c && !has σ o c) (fun b c => aft σ b c) j a)) (nI (j + 1)) d := by
      intro q hq
      unfold fX7_meet_b91
      cases q with
      | false => rw [if_pos (show bI false = 0 from rfl), bstep_0 hq.symm, nI_1]
      | true =>
        rw [if_neg (by decide)]
        cases a with
        | none => rw [if_pos (show oc none = -9 from rfl), bstep_n hq.symm, nI_1]; rfl
        | some b =>
          have hb := ha b rfl
          rw [if_neg (show ¬ oc (some b) = -9 from fun q => ((nI_m9 (k := b) (by omega)).mp q).elim), mk_9 S, bd_v]
          show bd (fX7_isAfter sh d mm (nI b) (nI j)) _ = _
          rw [m_isAfter S E R B (show b < nc σ by omega) hj, bd_v, bstep_s hq.symm, nI_1]
          cases aft σ b j with
          | false => rw [if_pos (show bI false = 0 from rfl), if_neg (by decide)]
          | true => rw [if_neg (by decide), if_pos rfl]; rfl
    simp (disch := omega) only [fX7_meet_b51, mi_297 S, bd_v, rm_nc R, nI_leI, mg_291 S E, m_isIn_has S R, bI_0]
    rw [if_neg (by omega)]
    cases h1 : has σ h j with
    | false =>
      rw [if_pos rfl]
      exact h91 false (by rw [h1]; rfl)
    | true =>
      rw [if_neg (by decide)]
      cases h2 : has σ o j with
      | false => rw [if_pos rfl]; exact h91 true (by rw [h1, h2]; rfl)
      | true => rw [if_neg (by decide)]; exact h91 false (by rw [h1, h2]; rfl)
theorem m_meet_l {h o k : Nat} (S : MS sh mm) (hk : k < 2 ^ 31) : ∀ (f came n : Nat) (τ : St) (d : Dt), came + f = min k 401 → f + 1 < n → came ≤ cnt (has τ o) (nc τ) → Wel τ → WB τ → Nrd τ → h < nh τ → o < nh τ → RM τ d mm → MD d mm → OKm (fX7_meet_b33 sh n mm (nI h) (nI o) (nI k) (nI came) 1 d) mm (nI (meetR h o f τ came).1, (meetR h o f τ came).2) := by
  intro f
  induction f with
  | zero =>
    intro came n τ d hc hn hcnt w B N hh ho R E
    have b3 := B.2.2.1
    have : cnt (has τ o) (nc τ) ≤ nc τ := cnt_le _ _
    cases n with
    | zero => omega
    | succ n =>
      refine ⟨d, ?_, E, R⟩
      simp only [fX7_meet_b33]
      rw [if_neg (by decide), if_pos (nI_le (by omega) (by omega))]; rfl
  | succ f ih =>
    intro came n τ d hc hn hcnt w B N hh ho R E
    have b1 := B.1
    have b3 := B.2.2.1
    cases n with
    | zero => omega
    | succ n =>
      have e0 : meetR h o (f + 1) τ came = (match lck τ h o with
        | none => (came, τ)
        | some c => meetR h o f (comS τ o c).2 (came + 1)) := rfl
      simp only [fX7_meet_b33]
      rw [if_neg (by decide), if_neg (nI_ge (by omega) (by omega)), m_best S E R B (k := k) (by omega) (by omega), e0]
      unfold fX7_meet_b143
      cases hl : lck τ h o with
      | none =>
        rw [show bI (none : Option Nat).isSome = 0 from rfl, if_pos rfl]
        cases n with
        | zero => omega
        | succ n =>
          refine ⟨d, ?_, E, R⟩
          simp only [fX7_meet_b33]
          rw [if_pos trivial]
      | some c =>
        obtain ⟨q1, q2, q3, q4⟩ := lck_r w B (by omega) (by omega) hl
        obtain ⟨c1, c2, c3⟩ := com_ok w B N ho q1 q3
        obtain ⟨f1, f2, f3⟩ := com_has w B N ho q1 q3 q4
        have hcm := m_come S E R B w N (nI o) (nI c)
        have hv : comV τ (nI o) (nI c) = (nI (10 + (comS τ o c).1), (comS τ o c).2) := by
          unfold comV
          rw [inN_nI (by omega), inN_nI (by omega), decide_eq_true ho, decide_eq_true q1, if_pos (show (true && true) = true from rfl), cl_nI (by omega), cl_nI (by omega), q3, if_neg (by decide)]
        rw [hv] at hcm
        obtain ⟨e, t1, t2, t3⟩ := hcm
        rw [show bI (some c).isSome = 1 from rfl, if_neg (by decide), mk_9 S, bd_v]
        show OKm (bd2 (fX7_come sh d mm (nI o) (nI c)) _) mm _
        rw [t1, bd2_v, nI_1]
        refine ih (came + 1) n (comS τ o c).2 e (by omega) (by omega) ?_ c1 c2 c3 (by rw [f1.1]; exact hh) (by rw [f1.1]; exact ho) t3 t2
        have h1 := cnt_ins (p := fun e => has τ o e || decide (e = c)) (q := has τ o) (c := c) q3 (nc τ) (fun e he => rfl)
        rw [if_pos q1] at h1
        have h2 := cnt_sub (p := fun e => has τ o e || decide (e = c)) (q := has (comS τ o c).2 o) (n := nc τ) (fun e he hp => by
          by_cases z : e = c
          · rw [z]; exact f2
          · exact f3 o e (by simpa [z] using hp))
        rw [f1.2.2.1]
        omega
theorem m_meet (S : MS sh mm) (E : MD d mm) (R : RM σ d mm) (B : WB σ) (w : Wel σ) (N : Nrd σ) (a1 a2 a3 : Int32) : OKm (fX7_meet sh d mm a1 a2 a3) mm (meetV σ a1 a2 a3) := by
  have b1 := B.1
  unfold fX7_meet fX7_meet_b0 meetV
  rw [mk_9 S, bd_v, m_isHand S R B, bd_v]
  cases h1 : inN a1 (nh σ) with
  | false => exact ⟨d, rfl, E, R⟩
  | true =>
    rw [if_neg (by decide), m_isHand S R B, bd_v]
    cases h2 : inN a2 (nh σ) with
    | false => exact ⟨d, rfl, E, R⟩
    | true =>
      rw [if_neg (by decide)]
      by_cases g : a1 = a2
      · rw [if_pos g, decide_eq_true g]; exact ⟨d, rfl, E, R⟩
      · rw [if_neg g, decide_eq_false g]
        by_cases g3 : 0 ≤ a3.toInt
        · obtain ⟨h, e1, rfl⟩ := inN_t h1
          obtain ⟨o, e2, rfl⟩ := inN_t h2
          rw [if_pos ((ge0 a3).mpr g3), decide_eq_true g3, if_pos (by decide), cl_nI (by omega), cl_nI (by omega)]
          obtain ⟨k, hk, rfl⟩ := nI_of (x := a3) (by rw [lt0]; omega)
          rw [cl_nI hk]
          exact m_meet_l S hk (min k 401) 0 fu σ d (by omega) (by show min k 401 + 1 < 100000; omega) (Nat.zero_le _) w B N e1 e2 R E
        · rw [if_neg (fun q => g3 ((ge0 a3).mp q)), decide_eq_false g3]
          exact ⟨d, rfl, E, R⟩
end
