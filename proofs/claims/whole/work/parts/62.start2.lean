/-! the start -/
def mSh (z : Nat) : Sh := nsh (nsh (nsh (nsh (nsh (nsh (nsh (nsh (nsh (nsh (nsh (nsh (nsh (nsh (nsh (nsh (nsh (nsh (nsh (nsh (nsh (nsh (nsh shE z 9 0) (z + 1) 20 6) (z + 2) 21 42) (z + 3) 21 42) (z + 4) 22 60) (z + 5) 20 6) (z + 6) 20 10) (z + 7) 20 400) (z + 8) 20 400) (z + 9) 20 400) (z + 10) 20 400) (z + 11) 20 400) (z + 12) 20 400) (z + 13) 21 400) (z + 14) 21 2800) (z + 15) 20 400) (z + 16) 21 404) (z + 17) 21 404) (z + 18) 20 6) (z + 19) 22 96) (z + 20) 21 96) (z + 21) 21 16) (z + 22) 22 16
def mDt (z : Nat) : Dt := uR (zA (uR (zA (uR (zA (uR (zA (uR (zA (uR (zA (uR (zA (uR (zA (uR (zA (uR (zA (uR (zA (uR (zA (uR (zA (uR (zA (uR (zA (uR (zA (uR (zA (uR (zA (uR (zA (uR (zA (uR (zA (uR (zA (zO dtE z) (z + 1)) 289 z (some (z + 1))) (z + 2)) 291 z (some (z + 2))) (z + 3)) 292 z (some (z + 3))) (z + 4)) 293 z (some (z + 4))) (z + 5)) 294 z (some (z + 5))) (z + 6)) 296 z (some (z + 6))) (z + 7)) 298 z (some (z + 7))) (z + 8)) 299 z (some (z + 8))) (z + 9)) 300 z (some (z + 9))) (z + 10)) 301 z (some (z + 10))) (z + 11)) 302 z (some (z + 11))) (z + 12)) 303 z (some (z + 12))) (z + 13)) 304 z (some (z + 13))) (z + 14)) 305 z (some (z + 14))) (z + 15)) 307 z (some (z + 15))) (z + 16)) 309 z (some (z + 16))) (z + 17)) 310 z (some (z + 17))) (z + 18)) 311 z (some (z + 18))) (z + 19)) 312 z (some (z + 19))) (z + 20)) 313 z (some (z + 20))) (z + 21)) 314 z (some (z + 21))) (z + 22)) 315 z (some (z + 22))
def iSh (z : Nat) : Sh := nsh (nsh (nsh (nsh (nsh (nsh (nsh (nsh (nsh shE z 8 0) (z + 1) 24 6) (z + 2) 25 10) (z + 3) 1 0) (z + 4) 20 6) (z + 5) 7 0) (z + 6) 21 64) (z + 7) 7 0) (z + 8) 21 64
def iDt (z em : Nat) : Dt := uR (uR (zA (zO (uR (uR (zA (zO (uR (zA (uR (LI (zO (uR (zA (uR (zA (zO dtE z) (z + 1)) 256 z (some (z + 1))) (z + 2)) 257 z (some (z + 2))) (z + 3)) (z + 3) em) 258 z (some (z + 3))) (z + 4)) 259 z (some (z + 4))) (z + 5)) (z + 6)) 224 (z + 5) (some (z + 6))) 260 z (some (z + 5))) (z + 7)) (z + 8)) 224 (z + 7) (some (z + 8))) 261 z (some (z + 7))
/-- nothing but noughts -/
def ZZ (d : Dt) : Prop := (∀ b i, dai d b i = 0) ∧ (∀ b i, dal d b i = 0) ∧ (∀ k b, dfi d k b = 0) ∧ (∀ k b, dfl d k b = 0)
section
variable {d : Dt}
theorem zz_E : ZZ dtE := ⟨fun _ _ => rfl, fun _ _ => rfl, fun _ _ => rfl, fun _ _ => rfl⟩
theorem zz_R {k a : Nat} {v : Option Nat} (h : ZZ d) : ZZ (uR d k a v) := h
theorem zz_O {a : Nat} (h : ZZ d) : ZZ (zO d a) := ⟨h.1, h.2.1, fun k b => by rw [zO_fi]; split; rfl; exact h.2.2.1 k b, fun k b => by rw [zO_fl]; split; rfl; exact h.2.2.2 k b⟩
theorem zz_A {a : Nat} (h : ZZ d) : ZZ (zA d a) := ⟨fun b i => by rw [zA_ai]; split; rfl; exact h.1 b i, fun b i => by rw [zA_al]; split; rfl; exact h.2.1 b i, h.2.2.1, h.2.2.2⟩
theorem zz_I {k a : Nat} (h : ZZ d) : ZZ (uI d k a 0) := ⟨h.1, h.2.1, fun k b => by rw [r_fi_I]; split; rfl; exact h.2.2.1 k b, h.2.2.2⟩
end
theorem m_init {em mi z ns : Nat} : fX7_init em mi z (z + 1) (ns + 28) (nsh shE z 9 0) (zO dtE z) = some (z + 23, ns + 28 + 7204, mSh z, mDt z) := by
  unfold fX7_init fX7_init_b0
  rw [show (6 : Int32) = nI 6 from rfl, nwA_v (by decide), bw_v]
  unfold fX7_init_b9
  rw [pR_v (by simp [nsh, va_up, Nat.add_assoc]), bd_v, show (42 : Int32) = nI 42 from rfl, nwA_v (by decide), bw_v]
  unfold fX7_init_b17
  rw [pR_v (by simp [nsh, va_up, Nat.add_assoc]), bd_v, show (42 : Int32) = nI 42 from rfl, nwA_v (by decide), bw_v]
  unfold fX7_init_b25
  rw [pR_v (by simp [nsh, va_up, Nat.add_assoc]), bd_v, show (60 : Int32) = nI 60 from rfl, nwA_v (by decide), bw_v]
  unfold fX7_init_b33
  rw [pR_v (by simp [nsh, va_up, Nat.add_assoc]), bd_v, show (6 : Int32) = nI 6 from rfl, nwA_v (by decide), bw_v]
  unfold fX7_init_b41
  rw [pR_v (by simp [nsh, va_up, Nat.add_assoc]), bd_v, show (10 : Int32) = nI 10 from rfl, nwA_v (by decide), bw_v]
  unfold fX7_init_b49
  rw [pR_v (by simp [nsh, va_up, Nat.add_assoc]), bd_v, show (400 : Int32) = nI 400 from rfl, nwA_v (by decide), bw_v]
  unfold fX7_init_b58
  rw [pR_v (by simp [nsh, va_up, Nat.add_assoc]), bd_v, show (400 : Int32) = nI 400 from rfl, nwA_v (by decide), bw_v]
  unfold fX7_init_b67
  rw [pR_v (by simp [nsh, va_up, Nat.add_assoc]), bd_v, show (400 : Int32) = nI 400 from rfl, nwA_v (by decide), bw_v]
  unfold fX7_init_b76
  rw [pR_v (by simp [nsh, va_up, Nat.add_assoc]), bd_v, show (400 : Int32) = nI 400 from rfl, nwA_v (by decide), bw_v]
  unfold fX7_init_b85
  rw [pR_v (by simp [nsh, va_up, Nat.add_assoc]), bd_v, show (400 : Int32) = nI 400 from rfl, nwA_v (by decide), bw_v]
  unfold fX7_init_b94
  rw [pR_v (by simp [nsh, va_up, Nat.add_assoc]), bd_v, show (400 : Int32) = nI 400 from rfl, nwA_v (by decide), bw_v]
  unfold fX7_init_b103
  rw [pR_v (by simp [nsh, va_up, Nat.add_assoc]), bd_v, show (400 : Int32) = nI 400 from rfl, nwA_v (by decide), bw_v]
  unfold fX7_init_b112
  rw [pR_v (by simp [nsh, va_up, Nat.add_assoc]), bd_v, show (2800 : Int32) = nI 2800 from rfl, nwA_v (by decide), bw_v]
  unfold fX7_init_b121
  rw [pR_v (by simp [nsh, va_up, Nat.add_assoc]), bd_v, show (400 : Int32) = nI 400 from rfl, nwA_v (by decide), bw_v]
  unfold fX7_init_b130
  rw [pR_v (by simp [nsh, va_up, Nat.add_assoc]), bd_v, show (404 : Int32) = nI 404 from rfl, nwA_v (by decide), bw_v]
  unfold fX7_init_b139
  rw [pR_v (by simp [nsh, va_up, Nat.add_assoc]), bd_v, show (404 : Int32) = nI 404 from rfl, nwA_v (by decide), bw_v]
  unfold fX7_init_b148
  rw [pR_v (by simp [nsh, va_up, Nat.add_assoc]), bd_v, show (6 : Int32) = nI 6 from rfl, nwA_v (by decide), bw_v]
  unfold fX7_init_b156
  rw [pR_v (by simp [nsh, va_up, Nat.add_assoc]), bd_v, show (96 : Int32) = nI 96 from rfl, nwA_v (by decide), bw_v]
  unfold fX7_init_b164
  rw [pR_v (by simp [nsh, va_up, Nat.add_assoc]), bd_v, show (96 : Int32) = nI 96 from rfl, nwA_v (by decide), bw_v]
  unfold fX7_init_b172
  rw [pR_v (by simp [nsh, va_up, Nat.add_assoc]), bd_v, show (16 : Int32) = nI 16 from rfl, nwA_v (by decide), bw_v]
  unfold fX7_init_b180
  rw [pR_v (by simp [nsh, va_up, Nat.add_assoc]), bd_v, show (16 : Int32) = nI 16 from rfl, nwA_v (by decide), bw_v]
  unfold fX7_init_b188
  rw [pR_v (by simp [nsh, va_up, Nat.add_assoc]), bd_v]
  rfl
theorem c_init {em mi z : Nat} : fX6_init em mi z (z + 1) 10 (nsh shE z 8 0) (zO dtE z) = some (z + 9, 167, iSh z, iDt z em) := by
  unfold fX6_init fX6_init_b0
  rw [show (6 : Int32) = nI 6 from rfl, nwA_v (by decide), bw_v]
  unfold fX6_init_b10
  rw [pR_v (by simp [nsh, va_up, Nat.add_assoc]), bd_v, show (10 : Int32) = nI 10 from rfl, nwA_v (by decide), bw_v]
  unfold fX6_init_b19 nwO
  rw [pR_v (by simp [nsh, va_up, Nat.add_assoc]), bd_v, bw_v]
  unfold fX6_init_b26
  rw [c_linit (by simp [nsh, va_up, Nat.add_assoc]), bw_v]
  unfold fX6_init_b30
  rw [pR_v (by simp [nsh, va_up, Nat.add_assoc]), bd_v, show (6 : Int32) = nI 6 from rfl, nwA_v (by decide), bw_v]
  unfold fX6_init_b38 nwO
  rw [pR_v (by simp [nsh, va_up, Nat.add_assoc]), bd_v, bw_v]
  unfold fX6_init_b45 fX5_init fX5_init_b0
  rw [show (64 : Int32) = nI 64 from rfl, nwA_v (by decide), bw_v]
  unfold fX5_init_b9
  rw [pR_v (by simp [nsh, va_up, Nat.add_assoc]), bd_v, bw_v]
  unfold fX6_init_b49 nwO
  rw [pR_v (by simp [nsh, va_up, Nat.add_assoc]), bd_v, bw_v]
  unfold fX6_init_b56 fX5_init fX5_init_b0
  rw [show (64 : Int32) = nI 64 from rfl, nwA_v (by decide), bw_v]
  unfold fX5_init_b9
  rw [pR_v (by simp [nsh, va_up, Nat.add_assoc]), bd_v, bw_v]
  unfold fX6_init_b60
  rw [pR_v (by simp [nsh, va_up, Nat.add_assoc]), bd_v]
  rfl
theorem ms_0 (z : Nat) : MS (mSh z) z := by
  refine ⟨by unfold mSh; simp [nsh, va_up], fun j h1 h2 => ?_⟩
  have : j = 1 ∨ j = 2 ∨ j = 3 ∨ j = 4 ∨ j = 5 ∨ j = 6 ∨ j = 7 ∨ j = 8 ∨ j = 9 ∨ j = 10 ∨ j = 11 ∨ j = 12 ∨ j = 13 ∨ j = 14 ∨ j = 15 ∨ j = 16 ∨ j = 17 ∨ j = 18 ∨ j = 19 ∨ j = 20 ∨ j = 21 ∨ j = 22 := by omega
  rcases this with rfl | rfl | rfl | rfl | rfl | rfl | rfl | rfl | rfl | rfl | rfl | rfl | rfl | rfl | rfl | rfl | rfl | rfl | rfl | rfl | rfl | rfl <;> (unfold mSh; simp [nsh, va_up, mKd, mLen])
theorem md_0 (z : Nat) : MD (mDt z) z := by
  intro j h1 h2
  have : j = 1 ∨ j = 2 ∨ j = 3 ∨ j = 4 ∨ j = 5 ∨ j = 6 ∨ j = 7 ∨ j = 8 ∨ j = 9 ∨ j = 10 ∨ j = 11 ∨ j = 12 ∨ j = 13 ∨ j = 14 ∨ j = 15 ∨ j = 16 ∨ j = 17 ∨ j = 18 ∨ j = 19 ∨ j = 20 ∨ j = 21 ∨ j = 22 := by omega
  rcases this with rfl | rfl | rfl | rfl | rfl | rfl | rfl | rfl | rfl | rfl | rfl | rfl | rfl | rfl | rfl | rfl | rfl | rfl | rfl | rfl | rfl | rfl <;> (unfold mDt; simp [r_fr_R, zA_fr, mFc])
theorem zz_m (z : Nat) : ZZ (mDt z) := by
  unfold mDt
  exact zz_R (zz_A (zz_R (zz_A (zz_R (zz_A (zz_R (zz_A (zz_R (zz_A (zz_R (zz_A (zz_R (zz_A (zz_R (zz_A (zz_R (zz_A (zz_R (zz_A (zz_R (zz_A (zz_R (zz_A (zz_R (zz_A (zz_R (zz_A (zz_R (zz_A (zz_R (zz_A (zz_R (zz_A (zz_R (zz_A (zz_R (zz_A (zz_R (zz_A (zz_R (zz_A (zz_R (zz_A (zz_O zz_E))))))))))))))))))))))))))))))))))))))))))))
theorem zz_i (z em : Nat) : ZZ (iDt z em) := by
  unfold iDt LI
  exact zz_R (zz_R (zz_A (zz_O (zz_R (zz_R (zz_A (zz_O (zz_R (zz_A (zz_R (zz_R (zz_I (zz_O (zz_R (zz_A (zz_R (zz_A (zz_O zz_E))))))))))))))))))
def st0 : St := (((((0, 0), 0), ((0, fun _ => 0), fun _ => 0)), (((fun _ => 0, fun _ => 0), fun _ => 0), ((fun _ => 0, fun _ _ => 0), fun _ => 0))), ((((fun _ _ => 0, fun _ => 0), fun _ => 0), ((fun _ => 0, fun _ => 0), 0)), (((fun _ => 0, fun _ _ => 0), fun _ _ => false), (fun _ _ => false, fun _ _ => false))))
theorem wb_0 : WB st0 := ⟨Nat.zero_le _, Nat.zero_le _, Nat.zero_le _, fun p hp => absurd hp (Nat.not_lt_zero _), fun c hc => absurd hc (Nat.not_lt_zero _), fun h hh => ⟨Nat.zero_le _, Nat.zero_le _⟩⟩
theorem wel_0 : Wel st0 := ⟨fun c hc => absurd hc (Nat.not_lt_zero _), fun h hh => ⟨rfl, rfl, fun k hk => Nat.zero_le _⟩, fun h hh c hc => absurd (has_iff.mp hc).1 (Nat.not_lt_zero _), fun c hc => absurd hc (Nat.not_lt_zero _), fun h hh c hc => absurd (show false = true from hc) (by decide), fun h hh hh2 => ⟨fun k hk => rfl, rfl, fun p hp => rfl, fun i hi => rfl⟩, fun c hc => absurd hc (Nat.not_lt_zero _)⟩
theorem nrd_0 : Nrd st0 := fun h hh c hc => absurd (show false = true from hc) (by decide)
theorem rm_0 (z : Nat) : RM st0 (mDt z) z := by
  have q := zz_m z
  refine ⟨⟨q.2.2.1 _ _, q.2.2.1 _ _, q.2.2.1 _ _, q.2.2.1 _ _, q.2.2.2 _ _⟩, fun p hp => absurd hp (Nat.not_lt_zero _), fun c hc => absurd hc (Nat.not_lt_zero _), fun c hc => absurd hc (Nat.not_lt_zero _), fun h hh e he => ?_, fun h hh e he => ?_, fun h hh p hp => q.1 _ _, fun h hh => ⟨q.1 _ _, q.1 _ _, fun i hi => ⟨q.1 _ _, q.2.1 _ _⟩⟩, fun f hf => q.1 _ _⟩
  · rw [q.2.1, bit_0]
    show false = (decide (e < 0) && _)
    rw [decide_eq_false (by omega)]; rfl
  · rw [q.2.1, bit_0]; rfl
def gh0 (base em : Nat) : Gh := (((fun _ => 0, fun _ => 0), (fun _ => 0, fun b => b - base)), ((fun _ => em, fun _ => 0), (fun _ _ => 0, fun _ _ => 0)))
theorem cz_0 {base em : Nat} (h : em < base) : CZ st0 (gh0 base em) base em (base + 32) 7399 (iSh base) := by
  refine ⟨⟨?_, ?_, fun h hh => absurd hh (Nat.not_lt_zero _), fun h hh => absurd hh (Nat.not_lt_zero _), fun h hh => absurd hh (Nat.not_lt_zero _), fun h hh => absurd hh (Nat.not_lt_zero _)⟩, ⟨fun j hj => ⟨?_, by omega⟩, fun h hh => absurd hh (Nat.not_lt_zero _), fun h hh => absurd hh (Nat.not_lt_zero _), fun h hh => absurd hh (Nat.not_lt_zero _), fun i hi hc => absurd hc (Nat.not_lt_zero _)⟩, ⟨fun i hi => ⟨fun _ => rfl, fun hc => absurd hc (Nat.not_lt_zero _), Nat.zero_le _⟩, Nat.le_refl _, fun h hh => absurd hh (Nat.not_lt_zero _), fun h _ _ => ⟨rfl, rfl⟩⟩, ?_, h, fun h hh => absurd hh (Nat.not_lt_zero _), fun h hh => absurd hh (Nat.not_lt_zero _)⟩
  · unfold iSh; simp [nsh, va_up]
  · unfold iSh; simp [nsh, va_up]
  · show base + j - base = j; omega
  · show base + 32 ≤ base + 40 + 9 * 0 + 4 * 0 + 3 * 0 + 0 + 0 ∧ 7399 ≤ 8000 + 100 * 0 + 80 * 0 + 21 * 0 + 4 * 0 + 7 * 0
    omega
theorem cd_0 (base em : Nat) : CD st0 (gh0 base em) base (iDt base em) := by
  have q := zz_i base em
  refine ⟨⟨⟨q.2.2.1 _ _, q.2.2.1 _ _, q.2.2.1 _ _⟩, fun h hh => absurd hh (Nat.not_lt_zero _), fun h hh => absurd hh (Nat.not_lt_zero _), fun h hh => absurd hh (Nat.not_lt_zero _), q.2.2.1 _ _, fun h hh => absurd hh (Nat.not_lt_zero _)⟩, ⟨q.2.2.2 _ _, fun h hh => absurd hh (Nat.not_lt_zero _)⟩, ⟨?_, fun h hh => absurd hh (Nat.not_lt_zero _), fun h hh => absurd hh (Nat.not_lt_zero _), fun h hh => absurd hh (Nat.not_lt_zero _), ?_, fun h hh => absurd hh (Nat.not_lt_zero _)⟩, ⟨fun i hi => q.1 _ _, fun h hh => absurd hh (Nat.not_lt_zero _), fun h hh => absurd hh (Nat.not_lt_zero _)⟩, fun h hh => absurd hh (Nat.not_lt_zero _), ⟨fun h hh => absurd hh (Nat.not_lt_zero _), fun h hh => absurd hh (Nat.not_lt_zero _), fun h hh => absurd hh (Nat.not_lt_zero _), fun h hh => absurd hh (Nat.not_lt_zero _), fun h hh => absurd hh (Nat.not_lt_zero _)⟩⟩
  · unfold iDt LI; simp [r_fi_I, r_fi_R, r_fi_L, r_fr_R, r_fr_I, r_fr_L, r_ai_I, r_ai_R, r_al_I, r_al_R, zO_fi, zO_fl, zO_fr, zO_ai, zO_al, zO_ar, zA_fi, zA_fl, zA_fr, zA_ai, zA_al, zA_arr, nI, bI]
  · show dfr (iDt base em) 33 (base + 3) = some em
    unfold iDt LI; simp [r_fi_I, r_fi_R, r_fi_L, r_fr_R, r_fr_I, r_fr_L, r_ai_I, r_ai_R, r_al_I, r_al_R, zO_fi, zO_fl, zO_fr, zO_ai, zO_al, zO_ar, zA_fi, zA_fl, zA_fr, zA_ai, zA_al, zA_arr, nI, bI]
/-! THE INVARIANT -/
def IVx (base em mi : Nat) : IVT := fun _ x mm sz ns shC dC shM dM => ∃ σ G, (x = base ∧ MS shM mm ∧ MD dM mm ∧ RM σ dM mm) ∧ (WB σ ∧ Wel σ ∧ Nrd σ) ∧ CZ σ G x em sz ns shC ∧ CD σ G x dC ∧ cap G 13 = 0
theorem iv_init (base em mi : Nat) (h : em < base) : INIT base em mi (IVx base em mi) := by
  refine ⟨base + 9, 167, iSh base, iDt base em, base + 9 + 23, _, mSh (base + 9), mDt (base + 9), c_init, m_init, st0, gh0 base em, ⟨rfl, ms_0 _, md_0 _, rm_0 _⟩, ⟨wb_0, wel_0, nrd_0⟩, ?_, cd_0 _ _, rfl⟩
  exact cz_0 h
