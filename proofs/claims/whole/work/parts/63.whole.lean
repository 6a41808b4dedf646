/-! the invariant is kept by every call -/
def GD (σ : St) : Prop := WB σ ∧ Wel σ ∧ Nrd σ
def PP (G : Gh) (x em sz ns : Nat) (sh : Sh) (σ : St) : Prop := GD σ ∧ CZ σ G x em sz ns sh
section
variable {σ : St} {P : St → Prop}
theorem gte_p {g : Option (Int32 × St)} {k : Int32 × St} (h1 : ∀ q, g = some q → P q.2) (h2 : g = none → P k.2) : P (gte g k).2 := by
  cases g with
  | none => exact h2 rfl
  | some q => exact h1 q rfl
theorem see_p (hm : ∀ f, P (mtS σ f)) {h p k : Nat} : ∀ q, seeG σ h p k = some q → P q.2 := by
  intro q hq
  unfold seeG at hq
  cases h1 : skp σ h p with
  | true => rw [h1] at hq; cases hq; exact hm 1
  | false =>
    rw [h1] at hq
    cases h2 : isOfB (kin σ p) k with
    | true => rw [h2] at hq; cases hq
    | false => rw [h2] at hq; cases hq; exact hm 3
theorem need_p (h0 : P σ) (hm : ∀ f, P (mtS σ f)) {good : Bool} {a1 a2 : Int32} {k : Nat} : ∀ q, needG σ good a1 a2 k = some q → P q.2 := by
  intro q hq
  unfold needG at hq
  cases h1 : (inN a1 (nh σ) && (inN a2 (np σ) && good)) with
  | true => rw [h1] at hq; exact see_p hm q hq
  | false => rw [h1] at hq; cases hq; exact h0
theorem nmk_p (h0 : P σ) (hm : ∀ f, P (mtS σ f)) {good : Bool} {a1 a2 : Int32} {k : Nat} : ∀ q, nmkG σ good a1 a2 k = some q → P q.2 := by
  intro q hq
  unfold nmkG at hq
  cases h1 : (inN a1 (nh σ) && (inN a2 (np σ) && good)) with
  | false => rw [h1] at hq; cases hq; exact h0
  | true =>
    rw [h1] at hq
    rw [if_pos rfl] at hq
    unfold chgG at hq
    by_cases z : nc σ = 400
    · rw [if_pos z] at hq; cases hq; exact h0
    · rw [if_neg z] at hq
      by_cases y : md σ (cl a1) ≤ up σ (cl a1) (cl a1)
      · rw [if_pos y] at hq; exact see_p hm q hq
      · rw [if_neg y] at hq; cases hq; exact h0
theorem acg_v : ∀ q, q < 8 → ((isOfB q 0 = true → acg q 0 = true) ∧ (isOfB q 2 = true → acg q 1 = true) ∧ (isOfB q 3 = true → acg q 2 = true ∧ acg q 3 = true) ∧ (isOfB q 5 = true → acg q 4 = true ∧ acg q 5 = true) ∧ (isOfB q 6 = true → acg q 6 = true ∧ acg q 7 = true)) := by decide
theorem gd_make (g : GD σ) {good : Bool} {a1 a2 : Int32} {kk k a : Nat} {v : Int64} (hg : nmkG σ good a1 a2 kk = none) (hk : k < 8) (ha : good = true → a < 64) (hc : ∀ q, q < 8 → isOfB q kk = true → acg q k = true) : GD (makeS σ (cl a1) (cl a2) k a v) := by
  obtain ⟨B, w, N⟩ := g
  obtain ⟨g0, h, p, e1, e2, e3, e4, e5, e6, e7⟩ := nmkG_none hg
  have b1 := B.1
  have b2 := B.2.1
  have b3 := B.2.2.1
  subst e3 e4
  rw [cl_nI (by omega), cl_nI (by omega)] at e7
  rw [cl_nI (by omega)] at e6
  rw [cl_nI (by omega), cl_nI (by omega)]
  have hk2 := hc _ (B.2.2.2.1 p e2) (seeG_none e7).2
  exact ⟨wb_make B w e1 e2 (by omega) hk (ha g0), wel_make B w e1 e2 e6 hk2, nrd_make B w N e1 e6⟩
theorem cl_in {a : Int32} {n : Nat} (hn : n < 2 ^ 31) (h : inN a n = true) : cl a < n := by
  obtain ⟨k, h1, rfl⟩ := inN_t h
  rw [cl_nI (by omega)]; exact h1
theorem gd_write (g : GD σ) (a1 a2 : Int32) (v : Int64) : GD (writeV σ a1 a2 v).2 := gte_p (nmk_p g (fun _ => g)) (fun h => gd_make g h (by decide) (fun _ => by decide) (fun q hq h => (acg_v q hq).1 h))
theorem gd_add (g : GD σ) (a1 a2 : Int32) (v : Int64) : GD (addV σ a1 a2 v).2 := gte_p (nmk_p g (fun _ => g)) (fun h => by
  split
  · exact g
  · exact gd_make g h (by decide) (fun _ => by decide) (fun q hq h => (acg_v q hq).2.1 h))
theorem gd_put (g : GD σ) (a1 a2 a3 : Int32) : GD (putV σ a1 a2 a3).2 := gte_p (nmk_p g (fun _ => g)) (fun h => gd_make g h (by decide) (fun z => cl_in (by decide) z) (fun q hq h => ((acg_v q hq).2.2.1 h).1))
theorem gd_take (g : GD σ) (a1 a2 a3 : Int32) : GD (takeV σ a1 a2 a3).2 := gte_p (nmk_p g (fun _ => g)) (fun h => by
  split
  · exact g
  · exact gd_make g h (by decide) (fun z => cl_in (by decide) z) (fun q hq h => ((acg_v q hq).2.2.1 h).2))
theorem gd_give (g : GD σ) (a1 a2 a3 : Int32) (v : Int64) : GD (giveV σ a1 a2 a3 v).2 := gte_p (nmk_p g (fun _ => g)) (fun h => by
  split
  · refine gd_make g h (by decide) (fun z => ?_) (fun q hq h => ((acg_v q hq).2.2.2.1 h).1)
    have b1 := g.1.1
    have z1 : inN a3 (nh σ) = true := by
      cases hz : inN a3 (nh σ) with
      | true => rfl
      | false => rw [hz] at z; cases z
    have := cl_in (by omega) z1
    omega
  · exact g)
theorem gd_spend (g : GD σ) (a1 a2 : Int32) (v : Int64) : GD (spendV σ a1 a2 v).2 := gte_p (nmk_p g (fun _ => g)) (fun h => by
  split
  · exact gd_make g h (by decide) (fun _ => by decide) (fun q hq h => ((acg_v q hq).2.2.2.1 h).2)
  · exact g)
theorem gd_raise (g : GD σ) (a1 a2 : Int32) (b : Bool) : GD (raiseV σ a1 a2 b).2 := gte_p (nmk_p g (fun _ => g)) (fun h => by
  cases b with
  | true => exact gd_make g h (by decide) (fun _ => by decide) (fun q hq h => ((acg_v q hq).2.2.2.2 h).1)
  | false => exact gd_make g h (by decide) (fun _ => by decide) (fun q hq h => ((acg_v q hq).2.2.2.2 h).2))
theorem gd_hand (g : GD σ) : GD (handV σ).2 := by
  obtain ⟨B, w, N⟩ := g
  have b1 := B.1
  unfold handV
  by_cases z : nh σ = 6
  · rw [if_pos z]; exact ⟨B, w, N⟩
  · rw [if_neg z]
    by_cases y : 0 < nc σ
    · rw [if_pos y]; exact ⟨B, w, N⟩
    · rw [if_neg y]; exact ⟨wb_hand B (by omega) (by omega), wel_hand w (by omega), N⟩
theorem gd_page (g : GD σ) (a1 : Int32) : GD (pageV σ a1).2 := by
  obtain ⟨B, w, N⟩ := g
  have b2 := B.2.1
  unfold pageV
  cases h1 : inN a1 8 with
  | false => exact ⟨B, w, N⟩
  | true =>
    rw [if_pos rfl]
    by_cases z : np σ = 10
    · rw [if_pos z]; exact ⟨B, w, N⟩
    · rw [if_neg z]; exact ⟨wb_page B (by omega) (cl_in (by decide) h1), wel_page B w, N⟩
theorem gd_come (g : GD σ) (a1 a2 : Int32) : GD (comV σ a1 a2).2 := by
  obtain ⟨B, w, N⟩ := g
  have b1 := B.1
  have b3 := B.2.2.1
  unfold comV
  cases h1 : inN a1 (nh σ) with
  | false => exact ⟨B, w, N⟩
  | true =>
    cases h2 : inN a2 (nc σ) with
    | false => exact ⟨B, w, N⟩
    | true =>
      rw [if_pos (show (true && true) = true from rfl)]
      cases h3 : has σ (cl a1) (cl a2) with
      | true => exact ⟨B, w, N⟩
      | false =>
        have := com_ok w B N (cl_in (by omega) h1) (cl_in (by omega) h2) h3
        exact ⟨this.2.1, this.1, this.2.2⟩
theorem gd_meet (g : GD σ) (a1 a2 a3 : Int32) : GD (meetV σ a1 a2 a3).2 := by
  obtain ⟨B, w, N⟩ := g
  have b1 := B.1
  unfold meetV
  cases h1 : inN a1 (nh σ) with
  | false => exact ⟨B, w, N⟩
  | true =>
    cases h2 : inN a2 (nh σ) with
    | false => exact ⟨B, w, N⟩
    | true =>
      split
      · have := meet_ok (min (cl a3) 401) σ 0 w B N (cl_in (by omega) h1) (cl_in (by omega) h2)
        exact ⟨this.2.1, this.1, this.2.2⟩
      · exact ⟨B, w, N⟩
theorem gd_lose (g : GD σ) (a1 : Int32) : GD (loseV σ a1).2 := by
  obtain ⟨B, w, N⟩ := g
  have b1 := B.1
  unfold loseV
  cases h1 : inN a1 (nh σ) with
  | false => exact ⟨B, w, N⟩
  | true => exact ⟨B, wel_lose B w (cl_in (by omega) h1), nrd_lose N⟩
end
section
variable {G : Gh} {x em sz ns : Nat} {sh : Sh} {σ : St}
theorem pp_value (g : PP G x em sz ns sh σ) (a1 a2 : Int32) : PP G x em sz ns sh (valueV σ a1 a2).2 := gte_p (need_p g (fun _ => g)) (fun _ => by
  cases tel σ (cl a1) (cl a2) with
  | none => exact g
  | some c => exact g)
theorem pp_sum (g : PP G x em sz ns sh σ) (a1 a2 : Int32) : PP G x em sz ns sh (sumV σ a1 a2).2 := gte_p (need_p g (fun _ => g)) (fun _ => g)
theorem pp_mean (g : PP G x em sz ns sh σ) (a1 a2 : Int32) : PP G x em sz ns sh (meanV σ a1 a2).2 := gte_p (need_p g (fun _ => g)) (fun _ => by split <;> exact g)
theorem pp_often (g : PP G x em sz ns sh σ) (a1 a2 a3 : Int32) : PP G x em sz ns sh (oftenV σ a1 a2 a3).2 := gte_p (need_p g (fun _ => g)) (fun _ => g)
theorem pp_inside (g : PP G x em sz ns sh σ) (a1 a2 a3 : Int32) : PP G x em sz ns sh (insideV σ a1 a2 a3).2 := gte_p (need_p g (fun _ => g)) (fun _ => by
  split
  · cases insO σ (cl a1) (cl a2) (cl a3) 64 with
    | none => exact g
    | some c => exact g
  · exact g)
theorem pp_heads (g : PP G x em sz ns sh σ) (a1 a2 : Int32) : PP G x em sz ns sh (headsV σ a1 a2).2 := gte_p (need_p g (fun _ => g)) (fun _ => g)
theorem pp_head (g : PP G x em sz ns sh σ) (a1 a2 a3 : Int32) : PP G x em sz ns sh (headV σ a1 a2 a3).2 := gte_p (need_p g (fun _ => g)) (fun _ => by
  split
  · cases hdk σ (cl a1) (cl a2) (cl a3) with
    | none => exact g
    | some c => exact g
  · exact g)
theorem pp_rights (g : PP G x em sz ns sh σ) (a1 a2 a3 : Int32) : PP G x em sz ns sh (rightsV σ a1 a2 a3).2 := gte_p (need_p g (fun _ => g)) (fun _ => g)
theorem pp_up (g : PP G x em sz ns sh σ) (a1 a2 : Int32) : PP G x em sz ns sh (upV σ a1 a2).2 := gte_p (need_p g (fun _ => g)) (fun _ => g)
theorem pp_keep (g : PP G x em sz ns sh σ) (a1 a2 : Int32) (b : Bool) : PP G x em sz ns sh (keepV σ a1 a2 b).2 := by
  have b1 := g.1.1.1
  unfold keepV
  cases h1 : inN a1 (nh σ) with
  | false => exact g
  | true =>
    cases h2 : inN a2 (np σ) with
    | false => exact g
    | true => exact ⟨⟨g.1.1, wel_keep g.1.2.1 (cl_in (by omega) h1), g.1.2.2⟩, g.2⟩
theorem pp_leaves (g : PP G x em sz ns sh σ) (a1 a2 : Int32) : PP G x em sz ns sh (leavesV σ a1 a2).2 := by
  have b1 := g.1.1.1
  unfold leavesV
  cases h1 : inN a1 (nh σ) with
  | false => exact g
  | true =>
    rw [if_pos rfl]
    by_cases z : a2.toInt ≤ 16
    · rw [if_pos z]
      by_cases y : 0 ≤ a2.toInt
      · rw [if_pos y]
        have := cl_in (a := a2) (n := 17) (by decide) (by unfold inN; simp; omega)
        exact ⟨⟨wb_lm g.1.1 (by omega), wel_lm g.1.2.1 (cl_in (by omega) h1), g.1.2.2⟩, g.2⟩
      · rw [if_neg y]; exact g
    · rw [if_neg z]; exact g
theorem pp_save (g : PP G x em sz ns sh σ) (a1 a2 : Int32) : PP G x em sz ns sh (saveV σ a1 a2).2 := by
  have b1 := g.1.1.1
  unfold saveV
  cases h1 : inN a1 (nh σ) with
  | false => exact g
  | true =>
    rw [if_pos rfl]
    cases h2 : inN a2 (lm σ (cl a1)) with
    | false => exact g
    | true =>
      have := cl_in (by omega) h1
      exact ⟨⟨g.1.1, wel_lf g.1.2.1 (fun y hy _ i _ => if_neg (fun q => by omega)), g.1.2.2⟩, g.2⟩
theorem pp_tear (g : PP G x em sz ns sh σ) (a1 a2 : Int32) : PP G x em sz ns sh (tearV σ a1 a2).2 := by
  unfold tearV
  split
  · split
    · split <;> exact g
    · exact g
  · exact g
theorem pp_leaf (g : PP G x em sz ns sh σ) (a1 a2 : Int32) : PP G x em sz ns sh (leafV σ a1 a2).2 := by
  unfold leafV
  split
  · split
    · split <;> exact g
    · exact g
  · exact g
theorem pp_copy (g : PP G x em sz ns sh σ) (a1 a2 a3 a4 a5 : Int32) : PP G x em sz ns sh (copyV σ a1 a2 a3 a4 a5).2 := by
  have b1 := g.1.1.1
  unfold copyV
  cases h1 : inN a1 (nh σ) with
  | false => exact g
  | true =>
    cases h2 : inN a3 (nh σ) with
    | false => exact g
    | true =>
      rw [if_pos (show (true && true) = true from rfl)]
      split
      · have := cl_in (by omega) h2
        exact ⟨⟨g.1.1, wel_lf g.1.2.1 (fun y hy _ i _ => if_neg (fun q => by omega)), g.1.2.2⟩, g.2⟩
      · exact g
end
section
variable (base em mi : Nat)
theorem iv_hand : IV_0 em mi (IVx base em mi) := by
  intro n x mm sz ns shC dC shM dM hn hI
  obtain ⟨σ, G, ⟨hx, Sm, E, R⟩, ⟨B, w, N⟩, S, D, h13⟩ := hI
  obtain ⟨sz9, ns9, sh9, d9, G9, c1, S9, D9, h9⟩ := c_hand (mi := mi) S D B w h13 
  obtain ⟨f, m1, m2, m3⟩ := m_hand Sm E R B 
  exact ⟨_, sz9, ns9, sh9, d9, f, c1, m1, (handV σ).2, G9, ⟨hx, Sm, m2, m3⟩, gd_hand ⟨B, w, N⟩ , S9, D9, h9⟩
theorem iv_page : IV_1 em mi (IVx base em mi) := by
  intro n x mm sz ns shC dC shM dM a1 hn hI
  obtain ⟨σ, G, ⟨hx, Sm, E, R⟩, ⟨B, w, N⟩, S, D, h13⟩ := hI
  obtain ⟨sz9, ns9, sh9, d9, G9, c1, S9, D9, h9⟩ := c_page (mi := mi) S D B w h13 a1
  obtain ⟨f, m1, m2, m3⟩ := m_page Sm E R B a1
  exact ⟨_, sz9, ns9, sh9, d9, f, c1, m1, (pageV σ a1).2, G9, ⟨hx, Sm, m2, m3⟩, gd_page ⟨B, w, N⟩ a1, S9, D9, h9⟩
theorem iv_is : IV_2 em mi (IVx base em mi) := by
  intro n x mm sz ns shC dC shM dM a1 a2 hn hI
  obtain ⟨σ, G, ⟨hx, Sm, E, R⟩, ⟨B, w, N⟩, S, D, h13⟩ := hI
  exact ⟨_, c_is S D B a1 a2, m_is Sm E R B a1 a2, σ, G, ⟨hx, Sm, E, R⟩, ⟨B, w, N⟩, S, D, h13⟩
theorem iv_keep : IV_3 em mi (IVx base em mi) := by
  intro n x mm sz ns shC dC shM dM a1 a2 a3 hn hI hz
  obtain ⟨σ, G, ⟨hx, Sm, E, R⟩, ⟨B, w, N⟩, S, D, h13⟩ := hI
  obtain ⟨b, rfl⟩ : ∃ b : Bool, a3 = bI b := by
    rcases hz with e | e
    · exact ⟨false, e⟩
    · exact ⟨true, e⟩
  obtain ⟨e, c1, c2⟩ := c_keep S D B a1 a2 b
  obtain ⟨f, m1, m2, m3⟩ := m_keep Sm E R B a1 a2 b
  have p := pp_keep ⟨⟨B, w, N⟩, S⟩ a1 a2 b
  exact ⟨_, e, f, c1, m1, (keepV σ a1 a2 b).2, G, ⟨hx, Sm, m2, m3⟩, p.1, p.2, c2, h13⟩
theorem iv_write : IV_4 em mi (IVx base em mi) := by
  intro n x mm sz ns shC dC shM dM a1 a2 a3 hn hI
  obtain ⟨σ, G, ⟨hx, Sm, E, R⟩, ⟨B, w, N⟩, S, D, h13⟩ := hI
  obtain ⟨sz9, ns9, sh9, d9, G9, c1, S9, D9, h9⟩ := c_write (mi := mi) S D B w h13 a1 a2 a3
  obtain ⟨f, m1, m2, m3⟩ := m_write Sm E R B w a1 a2 a3
  exact ⟨_, sz9, ns9, sh9, d9, f, c1, m1, (writeV σ a1 a2 a3).2, G9, ⟨hx, Sm, m2, m3⟩, gd_write ⟨B, w, N⟩ a1 a2 a3, S9, D9, h9⟩
theorem iv_add : IV_5 em mi (IVx base em mi) := by
  intro n x mm sz ns shC dC shM dM a1 a2 a3 hn hI
  obtain ⟨σ, G, ⟨hx, Sm, E, R⟩, ⟨B, w, N⟩, S, D, h13⟩ := hI
  obtain ⟨sz9, ns9, sh9, d9, G9, c1, S9, D9, h9⟩ := c_add (mi := mi) S D B w h13 a1 a2 a3
  obtain ⟨f, m1, m2, m3⟩ := m_add Sm E R B w a1 a2 a3
  exact ⟨_, sz9, ns9, sh9, d9, f, c1, m1, (addV σ a1 a2 a3).2, G9, ⟨hx, Sm, m2, m3⟩, gd_add ⟨B, w, N⟩ a1 a2 a3, S9, D9, h9⟩
theorem iv_put : IV_6 em mi (IVx base em mi) := by
  intro n x mm sz ns shC dC shM dM a1 a2 a3 hn hI
  obtain ⟨σ, G, ⟨hx, Sm, E, R⟩, ⟨B, w, N⟩, S, D, h13⟩ := hI
  obtain ⟨sz9, ns9, sh9, d9, G9, c1, S9, D9, h9⟩ := c_put (mi := mi) S D B w h13 a1 a2 a3
  obtain ⟨f, m1, m2, m3⟩ := m_put Sm E R B w a1 a2 a3
  exact ⟨_, sz9, ns9, sh9, d9, f, c1, m1, (putV σ a1 a2 a3).2, G9, ⟨hx, Sm, m2, m3⟩, gd_put ⟨B, w, N⟩ a1 a2 a3, S9, D9, h9⟩
theorem iv_take : IV_7 em mi (IVx base em mi) := by
  intro n x mm sz ns shC dC shM dM a1 a2 a3 hn hI
  obtain ⟨σ, G, ⟨hx, Sm, E, R⟩, ⟨B, w, N⟩, S, D, h13⟩ := hI
  obtain ⟨sz9, ns9, sh9, d9, G9, c1, S9, D9, h9⟩ := c_take (mi := mi) S D B w h13 a1 a2 a3
  obtain ⟨f, m1, m2, m3⟩ := m_take Sm E R B w a1 a2 a3
  exact ⟨_, sz9, ns9, sh9, d9, f, c1, m1, (takeV σ a1 a2 a3).2, G9, ⟨hx, Sm, m2, m3⟩, gd_take ⟨B, w, N⟩ a1 a2 a3, S9, D9, h9⟩
theorem iv_give : IV_8 em mi (IVx base em mi) := by
  intro n x mm sz ns shC dC shM dM a1 a2 a3 a4 hn hI
  obtain ⟨σ, G, ⟨hx, Sm, E, R⟩, ⟨B, w, N⟩, S, D, h13⟩ := hI
  obtain ⟨sz9, ns9, sh9, d9, G9, c1, S9, D9, h9⟩ := c_give (mi := mi) S D B w h13 a1 a2 a3 a4
  obtain ⟨f, m1, m2, m3⟩ := m_give Sm E R B w a1 a2 a3 a4
  exact ⟨_, sz9, ns9, sh9, d9, f, c1, m1, (giveV σ a1 a2 a3 a4).2, G9, ⟨hx, Sm, m2, m3⟩, gd_give ⟨B, w, N⟩ a1 a2 a3 a4, S9, D9, h9⟩
theorem iv_spend : IV_9 em mi (IVx base em mi) := by
  intro n x mm sz ns shC dC shM dM a1 a2 a3 hn hI
  obtain ⟨σ, G, ⟨hx, Sm, E, R⟩, ⟨B, w, N⟩, S, D, h13⟩ := hI
  obtain ⟨sz9, ns9, sh9, d9, G9, c1, S9, D9, h9⟩ := c_spend (mi := mi) S D B w h13 a1 a2 a3
  obtain ⟨f, m1, m2, m3⟩ := m_spend Sm E R B w a1 a2 a3
  exact ⟨_, sz9, ns9, sh9, d9, f, c1, m1, (spendV σ a1 a2 a3).2, G9, ⟨hx, Sm, m2, m3⟩, gd_spend ⟨B, w, N⟩ a1 a2 a3, S9, D9, h9⟩
theorem iv_raise : IV_10 em mi (IVx base em mi) := by
  intro n x mm sz ns shC dC shM dM a1 a2 a3 hn hI hz
  obtain ⟨σ, G, ⟨hx, Sm, E, R⟩, ⟨B, w, N⟩, S, D, h13⟩ := hI
  obtain ⟨b, rfl⟩ : ∃ b : Bool, a3 = bI b := by
    rcases hz with e | e
    · exact ⟨false, e⟩
    · exact ⟨true, e⟩
  obtain ⟨sz9, ns9, sh9, d9, G9, c1, S9, D9, h9⟩ := c_raise (mi := mi) S D B w h13 a1 a2 b
  obtain ⟨f, m1, m2, m3⟩ := m_raise Sm E R B w a1 a2 b
  exact ⟨_, sz9, ns9, sh9, d9, f, c1, m1, (raiseV σ a1 a2 b).2, G9, ⟨hx, Sm, m2, m3⟩, gd_raise ⟨B, w, N⟩ a1 a2 b, S9, D9, h9⟩
theorem iv_change : IV_11 em mi (IVx base em mi) := by
  intro n x mm sz ns shC dC shM dM a1 a2 hn hI
  obtain ⟨σ, G, ⟨hx, Sm, E, R⟩, ⟨B, w, N⟩, S, D, h13⟩ := hI
  exact ⟨_, c_change S D B w a1 a2, m_change Sm E R B w a1 a2, σ, G, ⟨hx, Sm, E, R⟩, ⟨B, w, N⟩, S, D, h13⟩
theorem iv_knows : IV_12 em mi (IVx base em mi) := by
  intro n x mm sz ns shC dC shM dM a1 a2 hn hI
  obtain ⟨σ, G, ⟨hx, Sm, E, R⟩, ⟨B, w, N⟩, S, D, h13⟩ := hI
  exact ⟨_, c_knows S D B w a1 a2, m_knows Sm E R B a1 a2, σ, G, ⟨hx, Sm, E, R⟩, ⟨B, w, N⟩, S, D, h13⟩
theorem iv_come : IV_13 em mi (IVx base em mi) := by
  intro n x mm sz ns shC dC shM dM a1 a2 hn hI
  obtain ⟨σ, G, ⟨hx, Sm, E, R⟩, ⟨B, w, N⟩, S, D, h13⟩ := hI
  obtain ⟨sz9, ns9, sh9, d9, G9, c1, S9, D9, h9⟩ := c_come (mi := mi) S D B w N h13 a1 a2
  obtain ⟨f, m1, m2, m3⟩ := m_come Sm E R B w N a1 a2
  exact ⟨_, sz9, ns9, sh9, d9, f, c1, m1, (comV σ a1 a2).2, G9, ⟨hx, Sm, m2, m3⟩, gd_come ⟨B, w, N⟩ a1 a2, S9, D9, h9⟩
theorem iv_meet : IV_14 em mi (IVx base em mi) := by
  intro n x mm sz ns shC dC shM dM a1 a2 a3 hn hI
  obtain ⟨σ, G, ⟨hx, Sm, E, R⟩, ⟨B, w, N⟩, S, D, h13⟩ := hI
  obtain ⟨sz9, ns9, sh9, d9, G9, c1, S9, D9, h9⟩ := c_meet (mi := mi) S D B w N h13 a1 a2 a3
  obtain ⟨f, m1, m2, m3⟩ := m_meet Sm E R B w N a1 a2 a3
  exact ⟨_, sz9, ns9, sh9, d9, f, c1, m1, (meetV σ a1 a2 a3).2, G9, ⟨hx, Sm, m2, m3⟩, gd_meet ⟨B, w, N⟩ a1 a2 a3, S9, D9, h9⟩
theorem iv_lose : IV_15 em mi (IVx base em mi) := by
  intro n x mm sz ns shC dC shM dM a1 hn hI
  obtain ⟨σ, G, ⟨hx, Sm, E, R⟩, ⟨B, w, N⟩, S, D, h13⟩ := hI
  obtain ⟨e, c1, c2, c3⟩ := c_lose S D B w a1
  obtain ⟨f, m1, m2, m3⟩ := m_lose Sm E R B w a1
  exact ⟨_, e, f, c1, m1, (loseV σ a1).2, G, ⟨hx, Sm, m2, m3⟩, gd_lose ⟨B, w, N⟩ a1, c3, c2, h13⟩
theorem iv_told : IV_16 em mi (IVx base em mi) := by
  intro n x mm sz ns shC dC shM dM a1 a2 hn hI
  obtain ⟨σ, G, ⟨hx, Sm, E, R⟩, ⟨B, w, N⟩, S, D, h13⟩ := hI
  exact ⟨_, c_told S D B w a1 a2, m_told Sm E R B w a1 a2, σ, G, ⟨hx, Sm, E, R⟩, ⟨B, w, N⟩, S, D, h13⟩
theorem iv_has : IV_17 em mi (IVx base em mi) := by
  intro n x mm sz ns shC dC shM dM a1 a2 hn hI
  obtain ⟨σ, G, ⟨hx, Sm, E, R⟩, ⟨B, w, N⟩, S, D, h13⟩ := hI
  exact ⟨_, c_has S D B w a1 a2, m_has Sm E R B a1 a2, σ, G, ⟨hx, Sm, E, R⟩, ⟨B, w, N⟩, S, D, h13⟩
theorem iv_compare : IV_18 em mi (IVx base em mi) := by
  intro n x mm sz ns shC dC shM dM a1 a2 hn hI
  obtain ⟨σ, G, ⟨hx, Sm, E, R⟩, ⟨B, w, N⟩, S, D, h13⟩ := hI
  exact ⟨_, c_compare S D B w a1 a2, m_compare Sm E R B a1 a2, σ, G, ⟨hx, Sm, E, R⟩, ⟨B, w, N⟩, S, D, h13⟩
theorem iv_value : IV_19 em mi (IVx base em mi) := by
  intro n x mm sz ns shC dC shM dM a1 a2 hn hI
  obtain ⟨σ, G, ⟨hx, Sm, E, R⟩, ⟨B, w, N⟩, S, D, h13⟩ := hI
  obtain ⟨e, c1, c2⟩ := c_value S D B w a1 a2
  obtain ⟨f, m1, m2, m3⟩ := m_value Sm E R B a1 a2
  have p := pp_value ⟨⟨B, w, N⟩, S⟩ a1 a2
  exact ⟨_, e, f, c1, m1, (valueV σ a1 a2).2, G, ⟨hx, Sm, m2, m3⟩, p.1, p.2, c2, h13⟩
theorem iv_sum : IV_20 em mi (IVx base em mi) := by
  intro n x mm sz ns shC dC shM dM a1 a2 hn hI
  obtain ⟨σ, G, ⟨hx, Sm, E, R⟩, ⟨B, w, N⟩, S, D, h13⟩ := hI
  obtain ⟨e, c1, c2⟩ := c_sum S D B w a1 a2
  obtain ⟨f, m1, m2, m3⟩ := m_sum Sm E R B a1 a2
  have p := pp_sum ⟨⟨B, w, N⟩, S⟩ a1 a2
  exact ⟨_, e, f, c1, m1, (sumV σ a1 a2).2, G, ⟨hx, Sm, m2, m3⟩, p.1, p.2, c2, h13⟩
theorem iv_mean : IV_21 em mi (IVx base em mi) := by
  intro n x mm sz ns shC dC shM dM a1 a2 hn hI
  obtain ⟨σ, G, ⟨hx, Sm, E, R⟩, ⟨B, w, N⟩, S, D, h13⟩ := hI
  obtain ⟨e, c1, c2⟩ := c_mean S D B w a1 a2
  obtain ⟨f, m1, m2, m3⟩ := m_mean Sm E R B a1 a2
  have p := pp_mean ⟨⟨B, w, N⟩, S⟩ a1 a2
  exact ⟨_, e, f, c1, m1, (meanV σ a1 a2).2, G, ⟨hx, Sm, m2, m3⟩, p.1, p.2, c2, h13⟩
theorem iv_often : IV_22 em mi (IVx base em mi) := by
  intro n x mm sz ns shC dC shM dM a1 a2 a3 hn hI
  obtain ⟨σ, G, ⟨hx, Sm, E, R⟩, ⟨B, w, N⟩, S, D, h13⟩ := hI
  obtain ⟨e, c1, c2⟩ := c_often S D B w a1 a2 a3
  obtain ⟨f, m1, m2, m3⟩ := m_often Sm E R B a1 a2 a3
  have p := pp_often ⟨⟨B, w, N⟩, S⟩ a1 a2 a3
  exact ⟨_, e, f, c1, m1, (oftenV σ a1 a2 a3).2, G, ⟨hx, Sm, m2, m3⟩, p.1, p.2, c2, h13⟩
theorem iv_inside : IV_23 em mi (IVx base em mi) := by
  intro n x mm sz ns shC dC shM dM a1 a2 a3 hn hI
  obtain ⟨σ, G, ⟨hx, Sm, E, R⟩, ⟨B, w, N⟩, S, D, h13⟩ := hI
  obtain ⟨e, c1, c2⟩ := c_inside S D B w a1 a2 a3
  obtain ⟨f, m1, m2, m3⟩ := m_inside Sm E R B a1 a2 a3
  have p := pp_inside ⟨⟨B, w, N⟩, S⟩ a1 a2 a3
  exact ⟨_, e, f, c1, m1, (insideV σ a1 a2 a3).2, G, ⟨hx, Sm, m2, m3⟩, p.1, p.2, c2, h13⟩
theorem iv_heads : IV_24 em mi (IVx base em mi) := by
  intro n x mm sz ns shC dC shM dM a1 a2 hn hI
  obtain ⟨σ, G, ⟨hx, Sm, E, R⟩, ⟨B, w, N⟩, S, D, h13⟩ := hI
  obtain ⟨e, c1, c2⟩ := c_heads S D B w a1 a2
  obtain ⟨f, m1, m2, m3⟩ := m_heads Sm E R B w a1 a2
  have p := pp_heads ⟨⟨B, w, N⟩, S⟩ a1 a2
  exact ⟨_, e, f, c1, m1, (headsV σ a1 a2).2, G, ⟨hx, Sm, m2, m3⟩, p.1, p.2, c2, h13⟩
theorem iv_head : IV_25 em mi (IVx base em mi) := by
  intro n x mm sz ns shC dC shM dM a1 a2 a3 hn hI
  obtain ⟨σ, G, ⟨hx, Sm, E, R⟩, ⟨B, w, N⟩, S, D, h13⟩ := hI
  obtain ⟨e, c1, c2⟩ := c_head S D B w a1 a2 a3
  obtain ⟨f, m1, m2, m3⟩ := m_head Sm E R B w a1 a2 a3
  have p := pp_head ⟨⟨B, w, N⟩, S⟩ a1 a2 a3
  exact ⟨_, e, f, c1, m1, (headV σ a1 a2 a3).2, G, ⟨hx, Sm, m2, m3⟩, p.1, p.2, c2, h13⟩
theorem iv_rights : IV_26 em mi (IVx base em mi) := by
  intro n x mm sz ns shC dC shM dM a1 a2 a3 hn hI
  obtain ⟨σ, G, ⟨hx, Sm, E, R⟩, ⟨B, w, N⟩, S, D, h13⟩ := hI
  obtain ⟨e, c1, c2⟩ := c_rights S D B w a1 a2 a3
  obtain ⟨f, m1, m2, m3⟩ := m_rights Sm E R B a1 a2 a3
  have p := pp_rights ⟨⟨B, w, N⟩, S⟩ a1 a2 a3
  exact ⟨_, e, f, c1, m1, (rightsV σ a1 a2 a3).2, G, ⟨hx, Sm, m2, m3⟩, p.1, p.2, c2, h13⟩
theorem iv_up : IV_27 em mi (IVx base em mi) := by
  intro n x mm sz ns shC dC shM dM a1 a2 hn hI
  obtain ⟨σ, G, ⟨hx, Sm, E, R⟩, ⟨B, w, N⟩, S, D, h13⟩ := hI
  obtain ⟨e, c1, c2⟩ := c_up S D B w a1 a2
  obtain ⟨f, m1, m2, m3⟩ := m_up Sm E R B a1 a2
  have p := pp_up ⟨⟨B, w, N⟩, S⟩ a1 a2
  exact ⟨_, e, f, c1, m1, (upV σ a1 a2).2, G, ⟨hx, Sm, m2, m3⟩, p.1, p.2, c2, h13⟩
theorem iv_alike : IV_28 em mi (IVx base em mi) := by
  intro n x mm sz ns shC dC shM dM a1 a2 a3 hn hI
  obtain ⟨σ, G, ⟨hx, Sm, E, R⟩, ⟨B, w, N⟩, S, D, h13⟩ := hI
  obtain ⟨e, c1, c2⟩ := c_alike S D B w a1 a2 a3
  obtain ⟨f, m1, m2, m3⟩ := m_alike Sm E R B w a1 a2 a3
  exact ⟨_, e, f, c1, m1, σ, G, ⟨hx, Sm, m2, m3⟩, ⟨B, w, N⟩, S, c2, h13⟩
theorem iv_leaves : IV_29 em mi (IVx base em mi) := by
  intro n x mm sz ns shC dC shM dM a1 a2 hn hI
  obtain ⟨σ, G, ⟨hx, Sm, E, R⟩, ⟨B, w, N⟩, S, D, h13⟩ := hI
  obtain ⟨e, c1, c2⟩ := c_leaves S D B a1 a2
  obtain ⟨f, m1, m2, m3⟩ := m_leaves Sm E R B a1 a2
  have p := pp_leaves ⟨⟨B, w, N⟩, S⟩ a1 a2
  exact ⟨_, e, f, c1, m1, (leavesV σ a1 a2).2, G, ⟨hx, Sm, m2, m3⟩, p.1, p.2, c2, h13⟩
theorem iv_save : IV_30 em mi (IVx base em mi) := by
  intro n x mm sz ns shC dC shM dM a1 a2 hn hI
  obtain ⟨σ, G, ⟨hx, Sm, E, R⟩, ⟨B, w, N⟩, S, D, h13⟩ := hI
  obtain ⟨e, c1, c2⟩ := c_save S D B a1 a2
  obtain ⟨f, m1, m2, m3⟩ := m_save Sm E R B a1 a2
  have p := pp_save ⟨⟨B, w, N⟩, S⟩ a1 a2
  exact ⟨_, e, f, c1, m1, (saveV σ a1 a2).2, G, ⟨hx, Sm, m2, m3⟩, p.1, p.2, c2, h13⟩
theorem iv_tear : IV_31 em mi (IVx base em mi) := by
  intro n x mm sz ns shC dC shM dM a1 a2 hn hI
  obtain ⟨σ, G, ⟨hx, Sm, E, R⟩, ⟨B, w, N⟩, S, D, h13⟩ := hI
  obtain ⟨e, c1, c2⟩ := c_tear S D B a1 a2
  obtain ⟨f, m1, m2, m3⟩ := m_tear Sm E R B a1 a2
  have p := pp_tear ⟨⟨B, w, N⟩, S⟩ a1 a2
  exact ⟨_, e, f, c1, m1, (tearV σ a1 a2).2, G, ⟨hx, Sm, m2, m3⟩, p.1, p.2, c2, h13⟩
theorem iv_leaf : IV_32 em mi (IVx base em mi) := by
  intro n x mm sz ns shC dC shM dM a1 a2 hn hI
  obtain ⟨σ, G, ⟨hx, Sm, E, R⟩, ⟨B, w, N⟩, S, D, h13⟩ := hI
  obtain ⟨e, c1, c2⟩ := c_leaf S D B a1 a2
  obtain ⟨f, m1, m2, m3⟩ := m_leaf Sm E R B a1 a2
  have p := pp_leaf ⟨⟨B, w, N⟩, S⟩ a1 a2
  exact ⟨_, e, f, c1, m1, (leafV σ a1 a2).2, G, ⟨hx, Sm, m2, m3⟩, p.1, p.2, c2, h13⟩
theorem iv_copy : IV_33 em mi (IVx base em mi) := by
  intro n x mm sz ns shC dC shM dM a1 a2 a3 a4 a5 hn hI
  obtain ⟨σ, G, ⟨hx, Sm, E, R⟩, ⟨B, w, N⟩, S, D, h13⟩ := hI
  obtain ⟨e, c1, c2⟩ := c_copy S D B a1 a2 a3 a4 a5
  obtain ⟨f, m1, m2, m3⟩ := m_copy Sm E R B a1 a2 a3 a4 a5
  have p := pp_copy ⟨⟨B, w, N⟩, S⟩ a1 a2 a3 a4 a5
  exact ⟨_, e, f, c1, m1, (copyV σ a1 a2 a3 a4 a5).2, G, ⟨hx, Sm, m2, m3⟩, p.1, p.2, c2, h13⟩
theorem iv_asked : IV_34 em mi (IVx base em mi) := by
  intro n x mm sz ns shC dC shM dM hn hI
  obtain ⟨σ, G, ⟨hx, Sm, E, R⟩, ⟨B, w, N⟩, S, D, h13⟩ := hI
  exact ⟨_, c_asked S D , m_asked Sm R , σ, G, ⟨hx, Sm, E, R⟩, ⟨B, w, N⟩, S, D, h13⟩
theorem iv_count : IV_35 em mi (IVx base em mi) := by
  intro n x mm sz ns shC dC shM dM a1 hn hI
  obtain ⟨σ, G, ⟨hx, Sm, E, R⟩, ⟨B, w, N⟩, S, D, h13⟩ := hI
  exact ⟨_, c_count S D a1, m_count Sm R a1, σ, G, ⟨hx, Sm, E, R⟩, ⟨B, w, N⟩, S, D, h13⟩
theorem iv_finding : IV_36 em mi (IVx base em mi) := by
  intro n x mm sz ns shC dC shM dM hn hI
  obtain ⟨σ, G, ⟨hx, Sm, E, R⟩, ⟨B, w, N⟩, S, D, h13⟩ := hI
  exact ⟨_, c_finding S D , m_finding Sm R , σ, G, ⟨hx, Sm, E, R⟩, ⟨B, w, N⟩, S, D, h13⟩
theorem iv_findings : IV_37 em mi (IVx base em mi) := by
  intro n x mm sz ns shC dC shM dM a1 hn hI
  obtain ⟨σ, G, ⟨hx, Sm, E, R⟩, ⟨B, w, N⟩, S, D, h13⟩ := hI
  exact ⟨_, c_findings S D a1, m_findings Sm E R a1, σ, G, ⟨hx, Sm, E, R⟩, ⟨B, w, N⟩, S, D, h13⟩
theorem iv_digest : IV_38 em mi (IVx base em mi) := by
  intro n x mm sz ns shC dC shM dM a1 hn hI
  obtain ⟨σ, G, ⟨hx, Sm, E, R⟩, ⟨B, w, N⟩, S, D, h13⟩ := hI
  obtain ⟨e, c1, c2⟩ := c_digest S D B w a1
  obtain ⟨f, m1, m2, m3⟩ := m_digest Sm E R B w a1
  exact ⟨_, e, f, c1, m1, σ, G, ⟨hx, Sm, m2, m3⟩, ⟨B, w, N⟩, S, c2, h13⟩
end
theorem iv_room {base em mi n x mm sz ns : Nat} {shC : Sh} {dC : Dt} {shM : Sh} {dM : Dt} (hI : IVx base em mi n x mm sz ns shC dC shM dM) : shC.1 x = 8 ∧ shM.1 mm = 9 ∧ sz ≤ base + 600000 ∧ ns ≤ 7302250 := by
  obtain ⟨σ, G, ⟨hx, Sm, E, R⟩, ⟨B, w, N⟩, S, D, h13⟩ := hI
  have b1 := B.1
  have b2 := B.2.1
  have b3 := B.2.2.1
  have q := S.2.2.2.1
  have c : sm13 (cap G) ≤ 7800 := by
    have h := fun i (hi : i < 13) => q_cap S (i := i) hi
    have := h 0 (by decide); have := h 1 (by decide); have := h 2 (by decide); have := h 3 (by decide); have := h 4 (by decide); have := h 5 (by decide); have := h 6 (by decide); have := h 7 (by decide); have := h 8 (by decide); have := h 9 (by decide); have := h 10 (by decide); have := h 11 (by decide); have := h 12 (by decide)
    unfold sm13
    omega
  unfold qR at q
  exact ⟨sX_0 S, Sm.1, by omega, by omega⟩
theorem iv_all (base em mi : Nat) (_ : em < base) : INVS base em mi (IVx base em mi) :=
  ⟨fun n x mm sz ns shC dC shM dM _ hI => iv_room hI, fun n x mm sz ns shC dC shM dM _ hI => hI, iv_hand base em mi, iv_page base em mi, iv_is base em mi, iv_keep base em mi, iv_write base em mi, iv_add base em mi, iv_put base em mi, iv_take base em mi, iv_give base em mi, iv_spend base em mi, iv_raise base em mi, iv_change base em mi, iv_knows base em mi, iv_come base em mi, iv_meet base em mi, iv_lose base em mi, iv_told base em mi, iv_has base em mi, iv_compare base em mi, iv_value base em mi, iv_sum base em mi, iv_mean base em mi, iv_often base em mi, iv_inside base em mi, iv_heads base em mi, iv_head base em mi, iv_rights base em mi, iv_up base em mi, iv_alike base em mi, iv_leaves base em mi, iv_save base em mi, iv_tear base em mi, iv_leaf base em mi, iv_copy base em mi, iv_asked base em mi, iv_count base em mi, iv_finding base em mi, iv_findings base em mi, iv_digest base em mi⟩
/-- from the entry, for every script of at most 3072 ints, the law comes to its end with true -/
theorem whole_start {p : Program} {e : Env} {s : State} {m : MethodId} {below : List Frame} {meth : Method} {c : Code} (l : Launch) {b L : Nat} {xs : Nat → Int32} (hL : L ≤ 3072) (C0 : lw_At p s m meth c b L xs) : W p l e room_1 s m #[Value.ref b] below meth c s.heap [] 0 0 (lw_Z below #[Value.ref b] s) (entryFrame m ([Value.ref b] : List Value).toArray 4) :=
  whole_open IVx (fun base em mi h => iv_all base em mi h) (fun base em mi h => iv_init base em mi h) hL C0
