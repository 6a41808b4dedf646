/-! loops that write: lose, leaves, copy; and inside -/
theorem lp_M {β : Type} (F : Nat → Dt → Int32 → Option β) (fin : Dt → Option β) (N : Nat) (I : Nat → Dt → Prop) (hend : ∀ n d, I N d → F (n + 1) d (nI N) = fin d) (hstep : ∀ n j d, j < N → I j d → ∃ d', I (j + 1) d' ∧ F (n + 1) d (nI j) = F n d' (nI (j + 1))) (d : Dt) (h0 : I 0 d) (n : Nat) (hn : N < n) : ∃ d', I N d' ∧ F n d (nI 0) = fin d' := by
  have key : ∀ m j n d, j + m = N → m < n → I j d → ∃ d', I N d' ∧ F n d (nI j) = fin d' := by
    intro m
    induction m with
    | zero =>
      intro j n d hj hn hI
      have : j = N := by omega
      subst this
      cases n with
      | zero => omega
      | succ n => exact ⟨d, hI, hend n d hI⟩
    | succ m ih =>
      intro j n d hj hn hI
      cases n with
      | zero => omega
      | succ n =>
        obtain ⟨d1, h1, h2⟩ := hstep n j d (by omega) hI
        obtain ⟨d2, h3, h4⟩ := ih (j + 1) n d1 (by omega) (by omega) h1
        exact ⟨d2, h3, h2.trans h4⟩
  exact key N 0 n d (by omega) hn h0
section
variable {d : Dt} {mm : Nat} {σ : St}
theorem rm_c_thr {f : Nat → Nat → Bool} (h : ∀ x, x < 6 → ∀ i, i < 16 → thr σ x i = f x i) (R : RM σ d mm) : RM (s_thr σ f) d mm :=
  ⟨R.1, R.2.1, R.2.2.1, R.2.2.2.1, R.2.2.2.2.1, R.2.2.2.2.2.1, R.2.2.2.2.2.2.1, fun x hx => ⟨(R.2.2.2.2.2.2.2.1 x hx).1, (R.2.2.2.2.2.2.2.1 x hx).2.1, fun i hi => ⟨((R.2.2.2.2.2.2.2.1 x hx).2.2 i hi).1.trans (congrArg bI (h x hx i hi)), ((R.2.2.2.2.2.2.2.1 x hx).2.2 i hi).2⟩⟩, R.2.2.2.2.2.2.2.2⟩
theorem rm_c_lf {f : Nat → Nat → Int64} (h : ∀ x, x < 6 → ∀ i, i < 16 → lf σ x i = f x i) (R : RM σ d mm) : RM (s_lf σ f) d mm :=
  ⟨R.1, R.2.1, R.2.2.1, R.2.2.2.1, R.2.2.2.2.1, R.2.2.2.2.2.1, R.2.2.2.2.2.2.1, fun x hx => ⟨(R.2.2.2.2.2.2.2.1 x hx).1, (R.2.2.2.2.2.2.2.1 x hx).2.1, fun i hi => ⟨((R.2.2.2.2.2.2.2.1 x hx).2.2 i hi).1, ((R.2.2.2.2.2.2.2.1 x hx).2.2 i hi).2.trans (h x hx i hi)⟩⟩, R.2.2.2.2.2.2.2.2⟩
theorem rm_c_skp {f : Nat → Nat → Bool} (h : ∀ x, x < 6 → ∀ i, i < 10 → skp σ x i = f x i) (R : RM σ d mm) : RM (s_skp σ f) d mm :=
  ⟨R.1, R.2.1, R.2.2.1, R.2.2.2.1, R.2.2.2.2.1, R.2.2.2.2.2.1, fun x hx i hi => (R.2.2.2.2.2.2.1 x hx i hi).trans (congrArg bI (h x hx i hi)), R.2.2.2.2.2.2.2.1, R.2.2.2.2.2.2.2.2⟩
def clrJ (d : Dt) (a s j : Nat) : Dt := (d.1, d.2.1, d.2.2.1, d.2.2.2.1, (fun b i => if b = a ∧ 7 * s ≤ i ∧ i < 7 * s + j then 0 else dal d b i), d.2.2.2.2.2)
theorem clrJ_al (a s j b i : Nat) : dal (clrJ d a s j) b i = if b = a ∧ 7 * s ≤ i ∧ i < 7 * s + j then 0 else dal d b i := rfl
theorem clrJ_s (a s j : Nat) : uAL (clrJ d a s j) a (7 * s + j) 0 = clrJ d a s (j + 1) := by
  show (d.1, d.2.1, d.2.2.1, d.2.2.2.1, u3 (dal (clrJ d a s j)) a (7 * s + j) 0, d.2.2.2.2.2) = (d.1, d.2.1, d.2.2.1, d.2.2.2.1, (fun b i => if b = a ∧ 7 * s ≤ i ∧ i < 7 * s + (j + 1) then 0 else dal d b i), d.2.2.2.2.2)
  have : u3 (dal (clrJ d a s j)) a (7 * s + j) 0 = (fun b i => if b = a ∧ 7 * s ≤ i ∧ i < 7 * s + (j + 1) then 0 else dal d b i) := by
    funext b i
    unfold u3
    rw [clrJ_al]
    by_cases h1 : b = a
    · by_cases h2 : i = 7 * s + j
      · rw [if_pos ⟨h1, h2⟩, if_pos ⟨h1, by omega, by omega⟩]
      · rw [if_neg (fun q => h2 q.2)]
        by_cases h3 : 7 * s ≤ i ∧ i < 7 * s + j
        · rw [if_pos ⟨h1, h3⟩, if_pos ⟨h1, by omega, by omega⟩]
        · rw [if_neg (fun q => h3 q.2), if_neg (fun q => h3 (by have := q.2; omega))]
    · rw [if_neg (fun q => h1 q.1), if_neg (fun q => h1 q.1), if_neg (fun q => h1 q.1)]
  rw [this]
theorem clrJ_0 (a s : Nat) : clrJ d a s 0 = d := by
  show (d.1, d.2.1, d.2.2.1, d.2.2.2.1, (fun b i => if b = a ∧ 7 * s ≤ i ∧ i < 7 * s + 0 then 0 else dal d b i), d.2.2.2.2.2) = d
  have : (fun b i => if b = a ∧ 7 * s ≤ i ∧ i < 7 * s + 0 then 0 else dal d b i) = dal d := by
    funext b i
    rw [if_neg (by omega)]
  rw [this]
  rfl
theorem m_clear {sh : Sh} {a s : Nat} (h1 : sh.1 a = 21) (h2 : 7 * s + 7 ≤ sh.2 a) (h3 : sh.2 a ≤ 2800) : fX7_clear sh d (some a) (nI s) = some (clrJ d a s 7) := by
  have key : ∀ m j n, j + m = 7 → m < n → fX7_clear_b2 sh n (some a) (nI s) (nI j) (clrJ d a s j) = some (clrJ d a s 7) := by
    intro m
    induction m with
    | zero =>
      intro j n hj hn
      cases n with
      | zero => omega
      | succ n =>
        have : j = 7 := by omega
        subst this
        simp only [fX7_clear_b2]
        rw [if_pos (by decide)]
    | succ m ih =>
      intro j n hj hn
      cases n with
      | zero => omega
      | succ n =>
        simp (disch := omega) only [fX7_clear_b2, z_0, z_1, z_2, z_3, z_4, z_5, z_6, z_7, z_8, z_10, z_16, z_17, z_31, z_63, z_64, z_400, nI_add, pk_mul, nI_eq, nI_leI, nI_ltI, bI_z, nI_m9, bI_m9, bd_v]
        rw [if_neg (by omega), sL_v h1 (by omega) (by omega), bd_v, clrJ_s]
        exact ih (j + 1) n (by omega) (by omega)
  have := key 7 0 fu (by omega) (by decide)
  rw [clrJ_0] at this
  exact this
theorem rm_c2 (w : Wel σ) (B : WB σ) {h : Nat} (R : RM σ d mm) : RM (s_up σ (fun x k => if x = h then 0 else up σ x k)) (clrJ d (mm + 2) h 7) mm := by
  have al : ∀ j i, j ≠ 2 → dal (clrJ d (mm + 2) h 7) (mm + j) i = dal d (mm + j) i := by
    intro j i hj; rw [clrJ_al, if_neg (by omega)]
  refine ⟨R.1, R.2.1, fun c hc => ⟨(R.2.2.1 c hc).1, (R.2.2.1 c hc).2.1, (R.2.2.1 c hc).2.2.1, (R.2.2.1 c hc).2.2.2.1, (R.2.2.1 c hc).2.2.2.2.1, (al 13 c (by decide)).trans (R.2.2.1 c hc).2.2.2.2.2⟩, fun c hc e he => ?_, fun x hx e he => ?_, fun x hx e he => ?_, R.2.2.2.2.2.2.1, fun x hx => ⟨(R.2.2.2.2.2.2.2.1 x hx).1, (R.2.2.2.2.2.2.2.1 x hx).2.1, fun i hi => ⟨((R.2.2.2.2.2.2.2.1 x hx).2.2 i hi).1, (al 20 _ (by decide)).trans ((R.2.2.2.2.2.2.2.1 x hx).2.2 i hi).2⟩⟩, R.2.2.2.2.2.2.2.2⟩
  · rw [al 14 _ (by decide)]; exact R.2.2.2.1 c hc e he
  · rw [clrJ_al]
    show _ = (decide (e < nc σ) && decide (od σ e ≤ if x = h then 0 else up σ x (mk σ e)))
    by_cases hxh : x = h
    · subst hxh
      rw [if_pos ⟨rfl, by omega, by omega⟩, if_pos rfl, bit_0]
      by_cases he2 : e < nc σ
      · have := w_od w he2
        simp [he2]; omega
      · simp [he2]
    · rw [if_neg (by omega), if_neg hxh]
      exact R.2.2.2.2.1 x hx e he
  · rw [al 3 _ (by decide)]; exact R.2.2.2.2.2.1 x hx e he
theorem rm_c3 {h : Nat} (R : RM σ d mm) : RM (s_wt σ (fun x c => if x = h then false else wt σ x c)) (clrJ d (mm + 3) h 7) mm := by
  have al : ∀ j i, j ≠ 3 → dal (clrJ d (mm + 3) h 7) (mm + j) i = dal d (mm + j) i := by
    intro j i hj; rw [clrJ_al, if_neg (by omega)]
  refine ⟨R.1, R.2.1, fun c hc => ⟨(R.2.2.1 c hc).1, (R.2.2.1 c hc).2.1, (R.2.2.1 c hc).2.2.1, (R.2.2.1 c hc).2.2.2.1, (R.2.2.1 c hc).2.2.2.2.1, (al 13 c (by decide)).trans (R.2.2.1 c hc).2.2.2.2.2⟩, fun c hc e he => ?_, fun x hx e he => ?_, fun x hx e he => ?_, R.2.2.2.2.2.2.1, fun x hx => ⟨(R.2.2.2.2.2.2.2.1 x hx).1, (R.2.2.2.2.2.2.2.1 x hx).2.1, fun i hi => ⟨((R.2.2.2.2.2.2.2.1 x hx).2.2 i hi).1, (al 20 _ (by decide)).trans ((R.2.2.2.2.2.2.2.1 x hx).2.2 i hi).2⟩⟩, R.2.2.2.2.2.2.2.2⟩
  · rw [al 14 _ (by decide)]; exact R.2.2.2.1 c hc e he
  · rw [al 2 _ (by decide)]; exact R.2.2.2.2.1 x hx e he
  · rw [clrJ_al]
    show _ = if x = h then false else wt σ x e
    by_cases hxh : x = h
    · subst hxh
      rw [if_pos ⟨rfl, by omega, by omega⟩, if_pos rfl, bit_0]
    · rw [if_neg (by omega), if_neg hxh]
      exact R.2.2.2.2.2.1 x hx e he
end
theorem ss_thr (σ : St) (f g : Nat → Nat → Bool) : s_thr (s_thr σ f) g = s_thr σ g := rfl
theorem sg_thr (σ : St) (f : Nat → Nat → Bool) : thr (s_thr σ f) = f := rfl
theorem ss_lf (σ : St) (f g : Nat → Nat → Int64) : s_lf (s_lf σ f) g = s_lf σ g := rfl
theorem sg_lf (σ : St) (f : Nat → Nat → Int64) : lf (s_lf σ f) = f := rfl
theorem ss_skp (σ : St) (f g : Nat → Nat → Bool) : s_skp (s_skp σ f) g = s_skp σ g := rfl
theorem sg_skp (σ : St) (f : Nat → Nat → Bool) : skp (s_skp σ f) = f := rfl
theorem ss_wt (σ : St) (f g : Nat → Nat → Bool) : s_wt (s_wt σ f) g = s_wt σ g := rfl
theorem sg_wt (σ : St) (f : Nat → Nat → Bool) : wt (s_wt σ f) = f := rfl
theorem ss_up (σ : St) (f g : Nat → Nat → Nat) : s_up (s_up σ f) g = s_up σ g := rfl
theorem sg_up (σ : St) (f : Nat → Nat → Nat) : up (s_up σ f) = f := rfl
theorem ss_gc (σ : St) (f g : Nat → Nat) : s_gc (s_gc σ f) g = s_gc σ g := rfl
theorem sg_gc (σ : St) (f : Nat → Nat) : gc (s_gc σ f) = f := rfl
theorem ss_md (σ : St) (f g : Nat → Nat) : s_md (s_md σ f) g = s_md σ g := rfl
theorem sg_md (σ : St) (f : Nat → Nat) : md (s_md σ f) = f := rfl
theorem cm_thr_lf (σ : St) (f : Nat → Nat → Bool) (g : Nat → Nat → Int64) : s_lf (s_thr σ f) g = s_thr (s_lf σ g) f := rfl
theorem rm_v_thr {d : Dt} {mm : Nat} {σ : St} {f : Nat → Nat → Bool} {h k : Nat} (hk : k < 16) {b : Bool} (R : RM (s_thr σ f) d mm) : RM (s_thr σ (u2 f h k b)) (uAI d (mm + 19) (16 * h + k) (bI b)) mm := by
  have := rm_w_thr (h := h) hk (b := b) R
  rw [ss_thr, sg_thr] at this; exact this
theorem rm_v_lf {d : Dt} {mm : Nat} {σ : St} {f : Nat → Nat → Int64} {h k : Nat} (hk : k < 16) {b : Int64} (R : RM (s_lf σ f) d mm) : RM (s_lf σ (u2 f h k b)) (uAL d (mm + 20) (16 * h + k) b) mm := by
  have := rm_w_lf (h := h) hk (b := b) R
  rw [ss_lf, sg_lf] at this; exact this
theorem rm_v_skp {d : Dt} {mm : Nat} {σ : St} {f : Nat → Nat → Bool} {h k : Nat} (hk : k < 10) {b : Bool} (R : RM (s_skp σ f) d mm) : RM (s_skp σ (u2 f h k b)) (uAI d (mm + 4) (10 * h + k) (bI b)) mm := by
  have := rm_w_skp (h := h) hk (b := b) R
  unfold keepS at this
  rw [ss_skp, sg_skp] at this; exact this
theorem rm_d_thr {d : Dt} {mm : Nat} {σ : St} {f g : Nat → Nat → Bool} (h : ∀ x, x < 6 → ∀ i, i < 16 → f x i = g x i) (R : RM (s_thr σ f) d mm) : RM (s_thr σ g) d mm := by
  have := rm_c_thr (f := g) (fun x hx i hi => by rw [sg_thr]; exact h x hx i hi) R
  rw [ss_thr] at this; exact this
theorem rm_d_lf {d : Dt} {mm : Nat} {σ : St} {f g : Nat → Nat → Int64} (h : ∀ x, x < 6 → ∀ i, i < 16 → f x i = g x i) (R : RM (s_lf σ f) d mm) : RM (s_lf σ g) d mm := by
  have := rm_c_lf (f := g) (fun x hx i hi => by rw [sg_lf]; exact h x hx i hi) R
  rw [ss_lf] at this; exact this
theorem rm_d_skp {d : Dt} {mm : Nat} {σ : St} {f g : Nat → Nat → Bool} (h : ∀ x, x < 6 → ∀ i, i < 10 → f x i = g x i) (R : RM (s_skp σ f) d mm) : RM (s_skp σ g) d mm := by
  have := rm_c_skp (f := g) (fun x hx i hi => by rw [sg_skp]; exact h x hx i hi) R
  rw [ss_skp] at this; exact this
section
variable {sh : Sh} {d : Dt} {mm : Nat} {σ : St}
theorem m_lose (S : MS sh mm) (E : MD d mm) (R : RM σ d mm) (B : WB σ) (w : Wel σ) (a1 : Int32) : OKm (fX7_lose sh d mm a1) mm (loseV σ a1) := by
  have b1 := B.1
  unfold fX7_lose fX7_lose_b0 loseV
  rw [mk_9 S, bd_v, m_isHand S R B, bd_v]
  cases h1 : inN a1 (nh σ) with
  | false => exact ⟨d, rfl, E, R⟩
  | true =>
    obtain ⟨h, e1, rfl⟩ := inN_t h1
    have q2 := S.2 2 (by decide) (by decide)
    have q2b : sh.2 (mm + 2) = 42 := q2.2
    have q3 := S.2 3 (by decide) (by decide)
    have q3b : sh.2 (mm + 3) = 42 := q3.2
    have E1 : MD (clrJ d (mm + 2) h 7) mm := E
    have R2 := rm_c3 (h := h) (rm_c2 w B (h := h) R)
    rw [if_neg (by decide), if_pos rfl, mg_291 S E, bd_v, m_size_has S R B (by omega), bd_v, bd_v, m_clear q2.1 (by omega) (by omega), bd_v, mg_292 S E1, bd_v, m_clear q3.1 (by omega) (by omega), bd_v, size_has B w (by omega), cl_nI (by omega)]
    generalize hd : clrJ (clrJ d (mm + 2) h 7) (mm + 3) h 7 = d1 at R2
    have E2 : MD d1 mm := by rw [← hd]; exact E
    generalize hs : s_wt (s_up σ (fun x k => if x = h then 0 else up σ x k)) (fun x c => if x = h then false else wt (s_up σ (fun x k => if x = h then 0 else up σ x k)) x c) = σ1 at R2
    have hk : skp σ1 = skp σ := by rw [← hs]; rfl
    obtain ⟨d2, ⟨I1, f, I2, I3, I4⟩, h2⟩ := lp_M (fun n d x => fX7_lose_b38 sh n mm (nI h) (nI (sm6 (up σ h))) x d) (fun d => some (nI (sm6 (up σ h)), d)) 10 (fun j d => MD d mm ∧ ∃ f, RM (s_skp σ1 f) d mm ∧ (∀ x i, x ≠ h → f x i = skp σ x i) ∧ ∀ i, i < j → f h i = false) (fun n d1 _ => by
        simp only [fX7_lose_b38]; rw [if_pos (by decide)]) (fun n j d1 hj ⟨D1, f, D2, D3, D4⟩ => by
        have n0 : vp_nar .boolean (nI 0) = bI false := rfl
        refine ⟨uAI d1 (mm + 4) (10 * h + j) (bI false), ⟨D1, u2 f h j false, rm_v_skp (show j < 10 by omega) D2, fun x i hx => ?_, fun i hi => ?_⟩, ?_⟩
        · unfold u2; rw [if_neg (fun q => hx q.1)]; exact D3 x i hx
        · unfold u2
          by_cases e : i = j
          · rw [if_pos ⟨rfl, e⟩]
          · rw [if_neg (fun q => e q.2)]; exact D4 i (by omega)
        · simp (disch := omega) only [fX7_lose_b38, mg_293 S D1, bd_v, on_v, on_0, mk_9 S, mA_1 S, mA_2 S, mA_3 S, mA_4 S, mA_5 S, mA_6 S, mA_7 S, mA_8 S, mA_9 S, mA_10 S, mA_11 S, mA_12 S, mA_13 S, mA_14 S, mA_15 S, mA_16 S, mA_17 S, mA_18 S, mA_19 S, mA_20 S, mA_21 S, mA_22 S, mi_288 S, mi_290 S, mi_295 S, mi_297 S, mi_308 S, mi_306 S, z_0, z_1, z_2, z_3, z_4, z_5, z_6, z_7, z_8, z_10, z_16, z_17, z_31, z_63, z_64, z_400, nI_add, pk_mul, nI_eq, nI_leI, nI_ltI, bI_z, nI_m9, bI_m9, bd2_v, gR_uI, gR_uL, gR_uAI, gR_uAL, gI_uL, gI_uAI, gI_uAL, gL_uI, gL_uAI, gL_uAL, r_ai_I, r_ai_L, r_ai_AL, r_al_I, r_al_L, r_al_AI, r_fi_L, r_fi_AI, r_fi_AL, r_fl_I, r_fl_AI, r_fl_AL, fi_ne, fi_eq, fl_eq, ai_ne, ai_n2, ai_eq, al_ne, al_n2, al_eq, mW_1 S, mW_2 S, mW_3 S, mW_4 S, mW_5 S, mW_6 S, mW_7 S, mW_8 S, mW_9 S, mW_10 S, mW_11 S, mW_12 S, mW_13 S, mW_14 S, mW_15 S, mW_16 S, mW_17 S, mW_18 S, mW_19 S, mW_20 S, mW_21 S, mW_22 S, mp_288 S, mp_290 S, mp_295 S, mp_297 S, mp_308 S, mp_306 S, n0]
          rw [if_neg (by omega)]) d1 ⟨E2, skp σ, by rw [← hk]; exact R2, fun _ _ _ => rfl, fun i hi => by omega⟩ fu (by decide)
    refine ⟨d2, h2, I1, rm_gc ?_⟩
    have := rm_d_skp (g := fun x p => if x = h then false else skp σ x p) (fun x hx i hi => by
      by_cases e : x = h
      · subst e; rw [if_pos rfl]; exact I4 i hi
      · rw [if_neg e]; exact I3 x i e) I2
    rw [← hs] at this
    exact this
theorem m_leaves (S : MS sh mm) (E : MD d mm) (R : RM σ d mm) (B : WB σ) (a1 a2 : Int32) : OKm (fX7_leaves sh d mm a1 a2) mm (leavesV σ a1 a2) := by
  have b1 := B.1
  unfold fX7_leaves fX7_leaves_b0 leavesV
  rw [mk_9 S, bd_v, m_isHand S R B, bd_v]
  cases h1 : inN a1 (nh σ) with
  | false => exact ⟨d, rfl, E, R⟩
  | true =>
    obtain ⟨h, e1, rfl⟩ := inN_t h1
    rw [if_neg (by decide), if_pos rfl, cl_nI (by omega)]
    have c16 : a2 ≤ 16 ↔ a2.toInt ≤ 16 := by rw [Int32.le_iff_toInt_le]; rfl
    by_cases h2 : a2.toInt ≤ 16
    · rw [if_pos (c16.mpr h2), if_pos h2]
      by_cases h3 : 0 ≤ a2.toInt
      · rw [if_pos ((ge0 a2).mpr h3), if_pos h3]
        obtain ⟨k, hk, rfl⟩ := inN_t (x := a2) (n := 17) (by unfold inN; simp; omega)
        rw [cl_nI (by omega)]
        simp (disch := omega) only [mg_311 S E, bd_v, mW_18 S]
        have R1 := rm_w_lm (h := h) (v := k) R
        obtain ⟨d2, ⟨I1, f, I2, I3, I4⟩, h2⟩ := lp_M (fun n d x => fX7_leaves_b35 sh n mm (nI h) (nI k) x d) (fun d => some (nI k, d)) 16 (fun j d => MD d mm ∧ ∃ f, RM (s_thr (s_lm σ (u1 (lm σ) h k)) f) d mm ∧ (∀ x i, x ≠ h → f x i = thr σ x i) ∧ ∀ i, i < j → f h i = false) (fun n d1 _ => by
            simp only [fX7_leaves_b35]; rw [if_pos (by decide)]) (fun n j d1 hj ⟨D1, f, D2, D3, D4⟩ => by
            have n0 : vp_nar .boolean (nI 0) = bI false := rfl
            refine ⟨uAI d1 (mm + 19) (16 * h + j) (bI false), ⟨D1, u2 f h j false, rm_v_thr (show j < 16 by omega) D2, fun x i hx => ?_, fun i hi => ?_⟩, ?_⟩
            · unfold u2; rw [if_neg (fun q => hx q.1)]; exact D3 x i hx
            · unfold u2
              by_cases e : i = j
              · rw [if_pos ⟨rfl, e⟩]
              · rw [if_neg (fun q => e q.2)]; exact D4 i (by omega)
            · simp (disch := omega) only [fX7_leaves_b35, mg_312 S D1, bd_v, on_v, on_0, mk_9 S, mA_1 S, mA_2 S, mA_3 S, mA_4 S, mA_5 S, mA_6 S, mA_7 S, mA_8 S, mA_9 S, mA_10 S, mA_11 S, mA_12 S, mA_13 S, mA_14 S, mA_15 S, mA_16 S, mA_17 S, mA_18 S, mA_19 S, mA_20 S, mA_21 S, mA_22 S, mi_288 S, mi_290 S, mi_295 S, mi_297 S, mi_308 S, mi_306 S, z_0, z_1, z_2, z_3, z_4, z_5, z_6, z_7, z_8, z_10, z_16, z_17, z_31, z_63, z_64, z_400, nI_add, pk_mul, nI_eq, nI_leI, nI_ltI, bI_z, nI_m9, bI_m9, bd2_v, gR_uI, gR_uL, gR_uAI, gR_uAL, gI_uL, gI_uAI, gI_uAL, gL_uI, gL_uAI, gL_uAL, r_ai_I, r_ai_L, r_ai_AL, r_al_I, r_al_L, r_al_AI, r_fi_L, r_fi_AI, r_fi_AL, r_fl_I, r_fl_AI, r_fl_AL, fi_ne, fi_eq, fl_eq, ai_ne, ai_n2, ai_eq, al_ne, al_n2, al_eq, mW_1 S, mW_2 S, mW_3 S, mW_4 S, mW_5 S, mW_6 S, mW_7 S, mW_8 S, mW_9 S, mW_10 S, mW_11 S, mW_12 S, mW_13 S, mW_14 S, mW_15 S, mW_16 S, mW_17 S, mW_18 S, mW_19 S, mW_20 S, mW_21 S, mW_22 S, mp_288 S, mp_290 S, mp_295 S, mp_297 S, mp_308 S, mp_306 S, n0]
              rw [if_neg (by omega)]) (uAI d (mm + 18) h (nI k)) ⟨E, thr σ, R1, fun _ _ _ => rfl, fun i hi => by omega⟩ fu (by decide)
        refine ⟨d2, h2, I1, ?_⟩
        exact rm_d_thr (g := fun x i => if x = h then false else thr σ x i) (fun x hx i hi => by
          by_cases e : x = h
          · subst e; rw [if_pos rfl]; exact I4 i hi
          · rw [if_neg e]; exact I3 x i e) I2
      · rw [if_neg (fun q => h3 ((ge0 a2).mp q)), if_neg h3]
        exact ok_id (m_meets S E R (f := 5) (by omega))
    · rw [if_neg (fun q => h2 (c16.mp q)), if_neg h2]; exact ⟨d, rfl, E, R⟩
end
def copyV (σ : St) (a1 a2 a3 a4 a5 : Int32) : Int32 × St := if inN a1 (nh σ) && inN a3 (nh σ) then (if 0 ≤ a2.toInt ∧ 0 ≤ a4.toInt ∧ 0 ≤ a5.toInt ∧ a2.toInt + a5.toInt ≤ lm σ (cl a1) ∧ a4.toInt + a5.toInt ≤ lm σ (cl a3) then (1, copyS σ (cl a1) (cl a2) (cl a3) (cl a4) (cl a5)) else (-3, mtS σ 2)) else (-1, σ)
theorem i64_sum (x y : Int32) : (x.toInt64 + y.toInt64).toInt = x.toInt + y.toInt := by
  have h1 := Int32.le_toInt x
  have h2 := Int32.toInt_lt x
  have h3 := Int32.le_toInt y
  have h4 := Int32.toInt_lt y
  rw [Int64.toInt_add, Int32.toInt_toInt64, Int32.toInt_toInt64]
  exact Int.bmod_eq_of_le (by omega) (by omega)
section
variable {sh : Sh} {d : Dt} {mm : Nat} {σ : St}
theorem m_copy_w (S : MS sh mm) (E : MD d mm) (R : RM σ d mm) {h i o j n : Nat} (hh : h < 6) (ho : o < 6) (hi : i + n ≤ 16) (hj : j + n ≤ 16) : OKm (fX7_copy_b76 sh fu mm (nI h) (nI i) (nI o) (nI j) (nI n) (nI 0) d) mm (1, copyS σ h i o j n) := by
  obtain ⟨d1, ⟨E1, R1, T1⟩, e1⟩ := lp_M (fun m d x => fX7_copy_b76 sh m mm (nI h) (nI i) (nI o) (nI j) (nI n) x d) (fun d => fX7_copy_b134 sh fu mm (nI o) (nI j) (nI n) (nI 0) d) n (fun k d => MD d mm ∧ RM σ d mm ∧ ∀ y, y < k → dal d (mm + 21) y = lf σ h (i + y) ∧ dai d (mm + 22) y = bI (thr σ h (i + y))) (fun m d1 _ => by
      simp (disch := omega) only [fX7_copy_b76, z_0, z_1, z_2, z_3, z_4, z_5, z_6, z_7, z_8, z_10, z_16, z_17, z_31, z_63, z_64, z_400, nI_add, pk_mul, nI_eq, nI_leI, nI_ltI, bI_z, nI_m9, bI_m9]; rw [if_pos (Nat.le_refl _)]) (fun m k d1 hk ⟨D1, D2, D3⟩ => by
      refine ⟨uAI (uAL d1 (mm + 21) k (lf σ h (i + k))) (mm + 22) k (bI (thr σ h (i + k))), ⟨D1, rm_w_22 (rm_w_21 D2), fun y hy => ?_⟩, ?_⟩
      · by_cases e : y = k
        · subst e; exact ⟨al_eq, ai_eq⟩
        · exact ⟨(al_n2 e).trans (D3 y (by omega)).1, (ai_n2 e).trans (D3 y (by omega)).2⟩
      · simp (disch := omega) only [fX7_copy_b76, bd_v, on_v, on_0, mk_9 S, mA_1 S, mA_2 S, mA_3 S, mA_4 S, mA_5 S, mA_6 S, mA_7 S, mA_8 S, mA_9 S, mA_10 S, mA_11 S, mA_12 S, mA_13 S, mA_14 S, mA_15 S, mA_16 S, mA_17 S, mA_18 S, mA_19 S, mA_20 S, mA_21 S, mA_22 S, mi_288 S, mi_290 S, mi_295 S, mi_297 S, mi_308 S, mi_306 S, z_0, z_1, z_2, z_3, z_4, z_5, z_6, z_7, z_8, z_10, z_16, z_17, z_31, z_63, z_64, z_400, nI_add, pk_mul, nI_eq, nI_leI, nI_ltI, bI_z, nI_m9, bI_m9, bd2_v, gR_uI, gR_uL, gR_uAI, gR_uAL, gI_uL, gI_uAI, gI_uAL, gL_uI, gL_uAI, gL_uAL, r_ai_I, r_ai_L, r_ai_AL, r_al_I, r_al_L, r_al_AI, r_fi_L, r_fi_AI, r_fi_AL, r_fl_I, r_fl_AI, r_fl_AL, fi_ne, fi_eq, fl_eq, ai_ne, ai_n2, ai_eq, al_ne, al_n2, al_eq, mW_1 S, mW_2 S, mW_3 S, mW_4 S, mW_5 S, mW_6 S, mW_7 S, mW_8 S, mW_9 S, mW_10 S, mW_11 S, mW_12 S, mW_13 S, mW_14 S, mW_15 S, mW_16 S, mW_17 S, mW_18 S, mW_19 S, mW_20 S, mW_21 S, mW_22 S, mp_288 S, mp_290 S, mp_295 S, mp_297 S, mp_308 S, mp_306 S, mg_312 S D1, mg_313 S D1, mg_314 S D1, mg_315 S D1, Nat.add_assoc, rm_thr D2, rm_lf D2, nar_z]
        rw [if_neg (by omega)]) d ⟨E, R, fun y hy => by omega⟩ fu (by show n < 100000; omega)
  obtain ⟨d2, ⟨E2, ⟨ft, fl, R2, F1, F2⟩, T2⟩, e2⟩ := lp_M (fun m d x => fX7_copy_b134 sh m mm (nI o) (nI j) (nI n) x d) (fun d => some ((1 : Int32), d)) n (fun k d => MD d mm ∧ (∃ ft fl, RM (s_lf (s_thr σ ft) fl) d mm ∧ (∀ x y, ft x y = if x = o ∧ j ≤ y ∧ y < j + k then thr σ h (i + (y - j)) else thr σ x y) ∧ (∀ x y, fl x y = if x = o ∧ j ≤ y ∧ y < j + k then lf σ h (i + (y - j)) else lf σ x y)) ∧ ∀ y, y < n → dal d (mm + 21) y = lf σ h (i + y) ∧ dai d (mm + 22) y = bI (thr σ h (i + y))) (fun m d1 _ => by
      simp (disch := omega) only [fX7_copy_b134, z_0, z_1, z_2, z_3, z_4, z_5, z_6, z_7, z_8, z_10, z_16, z_17, z_31, z_63, z_64, z_400, nI_add, pk_mul, nI_eq, nI_leI, nI_ltI, bI_z, nI_m9, bI_m9]; rw [if_pos (Nat.le_refl _)]) (fun m k d1 hk ⟨D1, ⟨ft, fl, D2, F1, F2⟩, D3⟩ => by
      refine ⟨uAI (uAL d1 (mm + 20) (16 * o + (j + k)) (lf σ h (i + k))) (mm + 19) (16 * o + (j + k)) (bI (thr σ h (i + k))), ⟨D1, ⟨u2 ft o (j + k) (thr σ h (i + k)), u2 fl o (j + k) (lf σ h (i + k)), ?_, fun x y => ?_, fun x y => ?_⟩, fun y hy => ?_⟩, ?_⟩
      · have q1 := rm_v_lf (h := o) (k := j + k) (by omega) (b := lf σ h (i + k)) D2
        rw [cm_thr_lf] at q1 ⊢
        exact rm_v_thr (h := o) (k := j + k) (by omega) q1
      · unfold u2
        by_cases e : x = o ∧ y = j + k
        · rw [if_pos e, if_pos ⟨e.1, by omega, by omega⟩]; congr 1; omega
        · rw [if_neg e, F1 x y]
          by_cases g : x = o ∧ j ≤ y ∧ y < j + k
          · rw [if_pos g, if_pos ⟨g.1, g.2.1, by omega⟩]
          · rw [if_neg g, if_neg (by omega)]
      · unfold u2
        by_cases e : x = o ∧ y = j + k
        · rw [if_pos e, if_pos ⟨e.1, by omega, by omega⟩]; congr 1; omega
        · rw [if_neg e, F2 x y]
          by_cases g : x = o ∧ j ≤ y ∧ y < j + k
          · rw [if_pos g, if_pos ⟨g.1, g.2.1, by omega⟩]
          · rw [if_neg g, if_neg (by omega)]
      · exact ⟨(al_ne (by omega)).trans (D3 y hy).1, (ai_ne (by omega)).trans (D3 y hy).2⟩
      · have q := D3 k hk
        simp (disch := omega) only [fX7_copy_b134, bd_v, on_v, on_0, mk_9 S, mA_1 S, mA_2 S, mA_3 S, mA_4 S, mA_5 S, mA_6 S, mA_7 S, mA_8 S, mA_9 S, mA_10 S, mA_11 S, mA_12 S, mA_13 S, mA_14 S, mA_15 S, mA_16 S, mA_17 S, mA_18 S, mA_19 S, mA_20 S, mA_21 S, mA_22 S, mi_288 S, mi_290 S, mi_295 S, mi_297 S, mi_308 S, mi_306 S, z_0, z_1, z_2, z_3, z_4, z_5, z_6, z_7, z_8, z_10, z_16, z_17, z_31, z_63, z_64, z_400, nI_add, pk_mul, nI_eq, nI_leI, nI_ltI, bI_z, nI_m9, bI_m9, bd2_v, gR_uI, gR_uL, gR_uAI, gR_uAL, gI_uL, gI_uAI, gI_uAL, gL_uI, gL_uAI, gL_uAL, r_ai_I, r_ai_L, r_ai_AL, r_al_I, r_al_L, r_al_AI, r_fi_L, r_fi_AI, r_fi_AL, r_fl_I, r_fl_AI, r_fl_AL, fi_ne, fi_eq, fl_eq, ai_ne, ai_n2, ai_eq, al_ne, al_n2, al_eq, mW_1 S, mW_2 S, mW_3 S, mW_4 S, mW_5 S, mW_6 S, mW_7 S, mW_8 S, mW_9 S, mW_10 S, mW_11 S, mW_12 S, mW_13 S, mW_14 S, mW_15 S, mW_16 S, mW_17 S, mW_18 S, mW_19 S, mW_20 S, mW_21 S, mW_22 S, mp_288 S, mp_290 S, mp_295 S, mp_297 S, mp_308 S, mp_306 S, mg_312 S D1, mg_313 S D1, mg_314 S D1, mg_315 S D1, Nat.add_assoc, q.1, q.2, nar_z]
        rw [if_neg (by omega)]) d1 ⟨E1, ⟨thr σ, lf σ, R1, fun x y => by rw [if_neg (by omega)], fun x y => by rw [if_neg (by omega)]⟩, T1⟩ fu (by show n < 100000; omega)
  refine ⟨d2, e1.trans e2, E2, ?_⟩
  have := rm_d_lf (g := fun x y => if x = o ∧ j ≤ y ∧ y < j + n then lf σ h (i + (y - j)) else lf σ x y) (fun x _ y _ => F2 x y) R2
  rw [cm_thr_lf] at this
  have := rm_d_thr (g := fun x y => if x = o ∧ j ≤ y ∧ y < j + n then thr σ h (i + (y - j)) else thr σ x y) (fun x _ y _ => F1 x y) this
  rw [← cm_thr_lf] at this
  exact this
theorem m_copy (S : MS sh mm) (E : MD d mm) (R : RM σ d mm) (B : WB σ) (a1 a2 a3 a4 a5 : Int32) : OKm (fX7_copy sh d mm a1 a2 a3 a4 a5) mm (copyV σ a1 a2 a3 a4 a5) := by
  have b1 := B.1
  have bad : OKm (fX7_copy_b67 sh mm d) mm (-3, mtS σ 2) := by
    unfold fX7_copy_b67
    rw [mk_9 S, bd_v]
    exact ok_id (m_meets S E R (f := 2) (by omega))
  unfold fX7_copy fX7_copy_b0 copyV
  rw [mk_9 S, bd_v, m_isHand S R B, bd_v, m_isHand S R B, bd_v]
  cases h1 : inN a1 (nh σ) with
  | false => exact ⟨d, rfl, E, R⟩
  | true =>
    cases h2 : inN a3 (nh σ) with
    | false => exact ⟨d, rfl, E, R⟩
    | true =>
      obtain ⟨h, e1, rfl⟩ := inN_t h1
      obtain ⟨o, e2, rfl⟩ := inN_t h2
      have hl := (B.2.2.2.2.2 h (by omega)).1
      have hl2 := (B.2.2.2.2.2 o (by omega)).1
      rw [if_neg (by decide), if_neg (by decide), if_pos (show (true && true) = true from rfl)]
      simp (disch := omega) only [lt0, mg_311 S E, bd_v, mA_18 S, rm_lm R, lg_gt0, lg_le0, i64_sum, Int32.toInt_toInt64, nI_toInt, cl_nI]
      by_cases g1 : a2.toInt < 0
      · rw [if_pos g1, if_neg (by omega)]; exact bad
      · rw [if_neg g1]
        by_cases g2 : a4.toInt < 0
        · rw [if_pos g2, if_neg (by omega)]; exact bad
        · rw [if_neg g2]
          by_cases g3 : a5.toInt < 0
          · rw [if_pos g3, if_neg (by omega)]; exact bad
          · rw [if_neg g3]
            by_cases g4 : (lm σ h : Int) < a2.toInt + a5.toInt
            · rw [if_pos g4, if_neg (by omega)]; exact bad
            · rw [if_neg g4]
              by_cases g5 : a4.toInt + a5.toInt ≤ (lm σ o : Int)
              · rw [if_pos g5, if_pos (by omega)]
                obtain ⟨i, hi, rfl⟩ := inN_t (x := a2) (n := 17) (by unfold inN; simp; omega)
                obtain ⟨j, hj, rfl⟩ := inN_t (x := a4) (n := 17) (by unfold inN; simp; omega)
                obtain ⟨n, hn, rfl⟩ := inN_t (x := a5) (n := 17) (by unfold inN; simp; omega)
                simp (disch := omega) only [nI_toInt] at g4 g5
                simp (disch := omega) only [cl_nI]
                exact m_copy_w S E R (by omega) (by omega) (by omega) (by omega)
              · rw [if_neg g5, if_neg (by omega)]; exact bad
end
/-- the i-th of the things in a BAG -/
def bgq (σ : St) (h p : Nat) (x : Nat) : Bool := decide (0 < cin σ h p x)
def insO (σ : St) (h p i : Nat) : Nat → Option Nat
  | 0 => none
  | n + 1 => match insO σ h p i n with
    | some y => some y
    | none => if bgq σ h p n && decide (cnt (bgq σ h p) n = i) then some n else none
theorem insO_mono {σ : St} {h p i x : Nat} : ∀ {n m : Nat}, insO σ h p i n = some x → n ≤ m → insO σ h p i m = some x := by
  intro n m h1 h2
  induction m with
  | zero => have : n = 0 := by omega
            subst this; exact h1
  | succ m ih =>
    by_cases e : n = m + 1
    · subst e; exact h1
    · show (match insO σ h p i m with
        | some y => some y
        | none => if bgq σ h p m && decide (cnt (bgq σ h p) m = i) then some m else none) = some x
      rw [ih (by omega)]
def insideV (σ : St) (a1 a2 a3 : Int32) : Int32 × St := gte (needG σ true a1 a2 3) (if 0 ≤ a3.toInt then (match insO σ (cl a1) (cl a2) (cl a3) 64 with
  | some x => (nI x, σ)
  | none => (-3, mtS σ 2)) else (-3, mtS σ 2))
section
variable {sh : Sh} {d : Dt} {mm : Nat} {σ : St}
theorem m_inside (S : MS sh mm) (E : MD d mm) (R : RM σ d mm) (B : WB σ) (a1 a2 a3 : Int32) : OKm (fX7_inside sh d mm a1 a2 a3) mm (insideV σ a1 a2 a3) := by
  have b1 := B.1
  have b2 := B.2.1
  have b3 := B.2.2.1
  have bad : OKm (fX7_inside_b63 sh mm d) mm (-3, mtS σ 2) := by
    unfold fX7_inside_b63
    rw [mk_9 S, bd_v]
    exact ok_id (m_meets S E R (f := 2) (by omega))
  unfold fX7_inside fX7_inside_b0 insideV
  rw [mk_9 S, bd_v]
  refine gate_m (m_need S E R B true a1 a2 (k := 3) (by omega)) fun hg => ?_
  obtain ⟨-, h, p, h1, h2, rfl, rfl, h5⟩ := needG_none hg
  simp (disch := omega) only [cl_nI]
  by_cases g1 : 0 ≤ a3.toInt
  · rw [if_pos g1]
    have g2 : ¬ a3 < 0 := by rw [lt0]; omega
    obtain ⟨i, hi, rfl⟩ := nI_of g2
    rw [cl_nI hi]
    have key : ∀ m j n, j + m = 64 → m < n → insO σ h p i j = none → cnt (bgq σ h p) j ≤ i → OKm (fX7_inside_b24 sh n mm (nI h) (nI p) (nI i) (nI (i - cnt (bgq σ h p) j)) (nI j) d) mm (match insO σ h p i 64 with
      | some x => (nI x, σ)
      | none => (-3, mtS σ 2)) := by
      intro m
      induction m with
      | zero =>
        intro j n hj hn q1 q2
        cases n with
        | zero => omega
        | succ n =>
          have : j = 64 := by omega
          subst this
          simp only [fX7_inside_b24]
          rw [if_pos (by decide), q1]
          exact bad
      | succ m ih =>
        intro j n hj hn q1 q2
        cases n with
        | zero => omega
        | succ n =>
          have hc : cin σ h p j ≤ nc σ := cnt_le _ _
          have hs := cnt_s (bgq σ h p) j
          simp (disch := omega) only [fX7_inside_b24, z_0, z_1, z_2, z_3, z_4, z_5, z_6, z_7, z_8, z_10, z_16, z_17, z_31, z_63, z_64, z_400, nI_add, pk_mul, nI_eq, nI_leI, nI_ltI, bI_z, nI_m9, bI_m9, m_countIn S E R B, mk_9 S, bd_v]
          rw [if_neg (by omega), if_neg (Nat.not_lt_zero _)]
          by_cases c1 : cin σ h p j ≤ 0
          · rw [if_pos c1]
            have hq : bgq σ h p j = false := by unfold bgq; simp; omega
            rw [hq] at hs
            have := ih (j + 1) n (by omega) (by omega) (by
              show (match insO σ h p i j with
                | some y => some y
                | none => if bgq σ h p j && decide (cnt (bgq σ h p) j = i) then some j else none) = none
              rw [q1, hq]; rfl) (by rw [hs]; simpa using q2)
            rw [hs] at this
            exact this
          · rw [if_neg c1]
            have hq : bgq σ h p j = true := by unfold bgq; simp; omega
            rw [hq] at hs
            by_cases c2 : i - cnt (bgq σ h p) j = 0
            · rw [if_pos c2]
              have : insO σ h p i (j + 1) = some j := by
                show (match insO σ h p i j with
                  | some y => some y
                  | none => if bgq σ h p j && decide (cnt (bgq σ h p) j = i) then some j else none) = some j
                rw [q1, hq, show cnt (bgq σ h p) j = i by omega]; simp
              rw [insO_mono this (by omega)]
              exact ⟨d, rfl, E, R⟩
            · rw [if_neg c2]
              have := ih (j + 1) n (by omega) (by omega) (by
                show (match insO σ h p i j with
                  | some y => some y
                  | none => if bgq σ h p j && decide (cnt (bgq σ h p) j = i) then some j else none) = none
                rw [q1, hq, decide_eq_false (by omega)]; rfl) (by rw [hs]; simp; omega)
              rw [hs] at this
              have e9 : nI (i - cnt (bgq σ h p) j) + -nI 1 = nI (i - (cnt (bgq σ h p) j + (if true = true then 1 else 0))) := by
                rw [show i - cnt (bgq σ h p) j = (i - (cnt (bgq σ h p) j + 1)) + 1 by omega]
                exact pk_m1 _
              rw [e9]
              exact this
    exact key 64 0 fu (by omega) (by decide) rfl (Nat.zero_le _)
  · rw [if_neg g1]
    have key : ∀ n, OKm (fX7_inside_b24 sh (n + 1) mm (nI h) (nI p) a3 a3 0 d) mm (-3, mtS σ 2) := by
      intro n
      simp only [fX7_inside_b24]
      rw [if_neg (by decide), if_pos (by rw [lt0]; omega)]
      exact bad
    exact key 99999
end
