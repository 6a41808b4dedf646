/-! literals are numbers -/
theorem z_0 : (0 : Int32) = nI 0 := rfl
theorem z_1 : (1 : Int32) = nI 1 := rfl
theorem z_2 : (2 : Int32) = nI 2 := rfl
theorem z_3 : (3 : Int32) = nI 3 := rfl
theorem z_4 : (4 : Int32) = nI 4 := rfl
theorem z_5 : (5 : Int32) = nI 5 := rfl
theorem z_6 : (6 : Int32) = nI 6 := rfl
theorem z_7 : (7 : Int32) = nI 7 := rfl
theorem z_8 : (8 : Int32) = nI 8 := rfl
theorem z_10 : (10 : Int32) = nI 10 := rfl
theorem z_16 : (16 : Int32) = nI 16 := rfl
theorem z_17 : (17 : Int32) = nI 17 := rfl
theorem z_31 : (31 : Int32) = nI 31 := rfl
theorem z_63 : (63 : Int32) = nI 63 := rfl
theorem z_64 : (64 : Int32) = nI 64 := rfl
theorem z_400 : (400 : Int32) = nI 400 := rfl
theorem bI_z (b : Bool) : bI b = nI 0 ↔ b = false := by cases b <;> decide
theorem nI_m9 {k : Nat} (h : k < 2 ^ 31) : nI k = (-9 : Int32) ↔ False := by
  constructor
  · intro e
    have h1 := nI_pos h
    rw [e] at h1
    exact absurd (by decide) h1
  · intro e; cases e
theorem bI_m9 : ((-9 : Int32) = (-9 : Int32)) ↔ True := by simp
section
variable {d : Dt} {mm : Nat} {σ : St}
theorem rm_nh (R : RM σ d mm) : dfi d 290 mm = nI (nh σ) := R.1.1
theorem rm_np (R : RM σ d mm) : dfi d 295 mm = nI (np σ) := R.1.2.1
theorem rm_nc (R : RM σ d mm) : dfi d 297 mm = nI (nc σ) := R.1.2.2.1
theorem rm_lat (R : RM σ d mm) : dfi d 288 mm = nI (lat σ) := R.1.2.2.2.1
theorem rm_ask (R : RM σ d mm) : dfl d 306 mm = ask σ := R.1.2.2.2.2
theorem rm_kin (R : RM σ d mm) {p : Nat} (h : p < np σ) : dai d (mm + 6) p = nI (kin σ p) := R.2.1 p h
theorem rm_mk (R : RM σ d mm) {c : Nat} (h : c < nc σ) : dai d (mm + 7) c = nI (mk σ c) := (R.2.2.1 c h).1
theorem rm_pg (R : RM σ d mm) {c : Nat} (h : c < nc σ) : dai d (mm + 8) c = nI (pg σ c) := (R.2.2.1 c h).2.1
theorem rm_ct (R : RM σ d mm) {c : Nat} (h : c < nc σ) : dai d (mm + 9) c = nI (ct σ c) := (R.2.2.1 c h).2.2.1
theorem rm_ac (R : RM σ d mm) {c : Nat} (h : c < nc σ) : dai d (mm + 10) c = nI (ac σ c) := (R.2.2.1 c h).2.2.2.1
theorem rm_ax (R : RM σ d mm) {c : Nat} (h : c < nc σ) : dai d (mm + 11) c = nI (ax σ c) := (R.2.2.1 c h).2.2.2.2.1
theorem rm_vl (R : RM σ d mm) {c : Nat} (h : c < nc σ) : dal d (mm + 13) c = vl σ c := (R.2.2.1 c h).2.2.2.2.2
theorem rm_skp (R : RM σ d mm) {h p : Nat} (hh : h < 6) (hp : p < 10) : dai d (mm + 4) (10 * h + p) = bI (skp σ h p) := R.2.2.2.2.2.2.1 h hh p hp
theorem rm_md (R : RM σ d mm) {h : Nat} (hh : h < 6) : dai d (mm + 5) h = nI (md σ h) := (R.2.2.2.2.2.2.2.1 h hh).1
theorem rm_lm (R : RM σ d mm) {h : Nat} (hh : h < 6) : dai d (mm + 18) h = nI (lm σ h) := (R.2.2.2.2.2.2.2.1 h hh).2.1
theorem rm_thr (R : RM σ d mm) {h i : Nat} (hh : h < 6) (hi : i < 16) : dai d (mm + 19) (16 * h + i) = bI (thr σ h i) := ((R.2.2.2.2.2.2.2.1 h hh).2.2 i hi).1
theorem rm_lf (R : RM σ d mm) {h i : Nat} (hh : h < 6) (hi : i < 16) : dal d (mm + 20) (16 * h + i) = lf σ h i := ((R.2.2.2.2.2.2.2.1 h hh).2.2 i hi).2
theorem rm_cme (R : RM σ d mm) {f : Nat} (hf : f < 6) : dai d (mm + 1) f = nI (cme σ f) := R.2.2.2.2.2.2.2.2 f hf
theorem wb_c (B : WB σ) {c : Nat} (h : c < nc σ) : mk σ c < nh σ ∧ pg σ c < np σ ∧ ct σ c ≤ c + 1 ∧ 1 ≤ ct σ c ∧ ac σ c < 8 ∧ ax σ c < 64 := B.2.2.2.2.1 c h
end
/-! counted loops -/
def fo {A : Type} (step : Nat → A → A) (a : A) : Nat → A
  | 0 => a
  | n + 1 => step n (fo step a n)
theorem fo_s {A : Type} (step : Nat → A → A) (a : A) (n : Nat) : fo step a (n + 1) = step n (fo step a n) := rfl
theorem fo_I {A : Type} {step : Nat → A → A} {a : A} {N : Nat} {I : Nat → A → Prop} (hI : ∀ j a, j < N → I j a → I (j + 1) (step j a)) (h0 : I 0 a) : ∀ j, j ≤ N → I j (fo step a j)
  | 0, _ => h0
  | j + 1, h => hI j _ (by omega) (fo_I hI h0 j (by omega))
theorem lp_for {A β : Type} (F : Nat → A → Int32 → Option β) (fin : A → Option β) (step : Nat → A → A) (N : Nat) (I : Nat → A → Prop) (hI : ∀ j a, j < N → I j a → I (j + 1) (step j a)) (hend : ∀ n a, I N a → F (n + 1) a (nI N) = fin a) (hstep : ∀ n j a, j < N → I j a → F (n + 1) a (nI j) = F n (step j a) (nI (j + 1))) (a : A) (h0 : I 0 a) (n : Nat) (hn : N < n) : F n a (nI 0) = fin (fo step a N) := by
  have key : ∀ m j n, j + m = N → m < n → F n (fo step a j) (nI j) = fin (fo step a N) := by
    intro m
    induction m with
    | zero =>
      intro j n hj hn
      have : j = N := by omega
      subst this
      cases n with
      | zero => omega
      | succ n => exact hend n _ (fo_I hI h0 j (Nat.le_refl _))
    | succ m ih =>
      intro j n hj hn
      cases n with
      | zero => omega
      | succ n =>
        rw [hstep n j _ (by omega) (fo_I hI h0 j (by omega))]
        exact ih (j + 1) n (by omega) (by omega)
  exact key N 0 n (by omega) hn
theorem fo_cnt (p : Nat → Bool) : ∀ n, fo (fun c a => a + (if p c then 1 else 0)) 0 n = cnt p n
  | 0 => rfl
  | n + 1 => by rw [fo_s, fo_cnt p n]; rfl
def anyN (p : Nat → Bool) : Nat → Bool
  | 0 => false
  | n + 1 => anyN p n || p n
theorem anyN_iff (p : Nat → Bool) : ∀ n, anyN p n = true ↔ ∃ k, k < n ∧ p k = true
  | 0 => by
    constructor
    · intro h; cases h
    · rintro ⟨k, h, _⟩; omega
  | n + 1 => by
    show (anyN p n || p n) = true ↔ _
    rw [Bool.or_eq_true, anyN_iff p n]
    constructor
    · rintro (⟨k, h1, h2⟩ | h)
      · exact ⟨k, by omega, h2⟩
      · exact ⟨n, by omega, h⟩
    · rintro ⟨k, h1, h2⟩
      by_cases hk : k = n
      · subst hk; exact Or.inr h2
      · exact Or.inl ⟨k, by omega, h2⟩
theorem anyN_ex {p q : Nat → Bool} {n : Nat} (h : ∀ k, k < n → p k = q k) : anyN p n = anyN q n := by
  induction n with
  | zero => rfl
  | succ n ih => show (_ || _) = (_ || _); rw [ih (fun k hk => h k (by omega)), h n (by omega)]
theorem anyN_mono {p : Nat → Bool} {n m : Nat} (h : anyN p n = true) (hm : n ≤ m) : anyN p m = true := by
  rw [anyN_iff] at *
  obtain ⟨k, h1, h2⟩ := h
  exact ⟨k, by omega, h2⟩
theorem lp_any {β : Type} (F : Nat → Int32 → Int32 → Option β) (fin : Bool → Option β) (p : Nat → Bool) (N : Nat) (hend : ∀ n b, F (n + 1) (bI b) (nI N) = fin b) (hstop : ∀ n j, j < N → F (n + 1) (bI true) (nI j) = fin true) (hstep : ∀ n j, j < N → F (n + 1) (bI false) (nI j) = F n (bI (p j)) (nI (j + 1))) (n : Nat) (hn : N < n) : F n (bI false) (nI 0) = fin (anyN p N) := by
  have key : ∀ m j n, j + m = N → m < n → F n (bI (anyN p j)) (nI j) = fin (anyN p N) := by
    intro m
    induction m with
    | zero =>
      intro j n hj hn
      have : j = N := by omega
      subst this
      cases n with
      | zero => omega
      | succ n => exact hend n _
    | succ m ih =>
      intro j n hj hn
      cases n with
      | zero => omega
      | succ n =>
        cases hb : anyN p j with
        | true => rw [hstop n j (by omega), anyN_mono hb (by omega)]
        | false =>
          rw [hstep n j (by omega)]
          have := ih (j + 1) n (by omega) (by omega)
          rw [show anyN p (j + 1) = p j from by show (anyN p j || p j) = _; rw [hb, Bool.false_or]] at this
          exact this
  exact key N 0 n (by omega) hn
/-! words of the document over the state -/
def isOfB (k kind : Nat) : Bool := k == kind || (kind == 0 && (k == 1 || k == 4)) || (kind == 2 && k == 5) || (kind == 6 && k == 7)
def aft (σ : St) (c e : Nat) : Bool := decide (ct σ e < ct σ c) || (decide (ct σ c = ct σ e) && decide (mk σ e < mk σ c))
def onB (σ : St) (h p c w : Nat) : Bool := decide (pg σ c = p) && (decide (ac σ c = w) && has σ h c)
def ownC (σ : St) (h : Nat) : Nat := cnt (fun c => has σ h c && decide (mk σ c = h)) (nc σ)
def gcm (σ : St) (h : Nat) : Nat := fo (fun c a => if has σ h c && decide (a < ct σ c) then ct σ c else a) 0 (nc σ)
def mny (σ : St) (h p : Nat) : Nat := cnt (fun c => decide (pg σ c = p) && has σ h c) (nc σ)
def mdo (σ : St) (h p w : Nat) : Nat := cnt (fun c => onB σ h p c w) (nc σ)
def sumS (σ : St) (h p : Nat) : Int64 := fo (fun c s => s + (if onB σ h p c 1 then vl σ c else if onB σ h p c 5 then -vl σ c else 0)) 0 (nc σ)
def rgt (σ : St) (h p o : Nat) : Int64 := fo (fun c s => if decide (pg σ c = p) && has σ h c then (s + (if (decide (mk σ c = o) && decide (ac σ c = 1)) || (decide (ac σ c = 4) && decide (ax σ c = o)) then vl σ c else 0)) - (if decide (mk σ c = o) && (decide (ac σ c = 4) || decide (ac σ c = 5)) then vl σ c else 0) else s) 0 (nc σ)
def knw (σ : St) (h p c w : Nat) : Bool := anyN (fun e => onB σ h p e w && kn σ e c) (nc σ)
def gon (σ : St) (h p x c : Nat) : Bool := anyN (fun t => onB σ h p t 3 && (decide (ax σ t = x) && kn σ t c)) (nc σ)
def cin (σ : St) (h p x : Nat) : Nat := cnt (fun c => onB σ h p c 2 && (decide (ax σ c = x) && !gon σ h p x c)) (nc σ)
def opn (σ : St) (h p w v : Nat) : Nat := cnt (fun c => onB σ h p c w && !knw σ h p c v) (nc σ)
def upB (σ : St) (h p : Nat) : Bool := if kin σ p = 7 then decide (0 < mdo σ h p 6) && decide (opn σ h p 7 6 = 0) else decide (0 < opn σ h p 6 7)
def oc (a : Option Nat) : Int32 := match a with
  | none => -9
  | some c => nI c
def tel (σ : St) (h p : Nat) : Option Nat := fo (fun c a => if onB σ h p c 0 then (match a with
  | none => some c
  | some b => if aft σ c b = decide (kin σ p = 1) then a else some c) else a) none (nc σ)
def nxr (σ : St) (h : Nat) : Option Nat := fo (fun c a => if wt σ h c && sub4 (kn σ c) (has σ h) then (match a with
  | none => some c
  | some b => if aft σ b c then some c else a) else a) none (nc σ)
section
variable {sh : Sh} {d : Dt} {mm : Nat} {σ : St}
theorem m_isAfter (S : MS sh mm) (E : MD d mm) (R : RM σ d mm) (B : WB σ) {c e : Nat} (hc : c < nc σ) (he : e < nc σ) : fX7_isAfter sh d mm (nI c) (nI e) = some (aft σ c e) := by
  have hB := B.2.2.1
  have hB1 := B.1
  have b1 := wb_c B hc
  have b2 := wb_c B he
  unfold fX7_isAfter fX7_isAfter_b0
  simp (disch := omega) only [bd_v, on_v, on_0, mk_9 S, mg_289 S E, mg_291 S E, mg_292 S E, mg_293 S E, mg_294 S E, mg_296 S E, mg_298 S E, mg_299 S E, mg_300 S E, mg_301 S E, mg_302 S E, mg_303 S E, mg_304 S E, mg_305 S E, mg_307 S E, mg_309 S E, mg_310 S E, mg_311 S E, mg_312 S E, mg_313 S E, mg_314 S E, mg_315 S E, mA_1 S, mA_2 S, mA_3 S, mA_4 S, mA_5 S, mA_6 S, mA_7 S, mA_8 S, mA_9 S, mA_10 S, mA_11 S, mA_12 S, mA_13 S, mA_14 S, mA_15 S, mA_16 S, mA_17 S, mA_18 S, mA_19 S, mA_20 S, mA_21 S, mA_22 S, mi_288 S, mi_290 S, mi_295 S, mi_297 S, mi_308 S, mi_306 S, rm_nh R, rm_np R, rm_nc R, rm_lat R, rm_ask R, rm_kin R, rm_mk R, rm_pg R, rm_ct R, rm_ac R, rm_ax R, rm_vl R, rm_skp R, rm_md R, rm_lm R, rm_thr R, rm_lf R, rm_cme R, z_0, z_1, z_2, z_3, z_4, z_5, z_6, z_7, z_8, z_10, z_16, z_17, z_31, z_63, z_64, z_400, nI_add, pk_mul, nI_eq, nI_leI, nI_ltI, bI_z, nI_m9, bI_m9]
  unfold aft
  by_cases h1 : ct σ e < ct σ c
  · simp [h1]
  · by_cases h2 : ct σ c = ct σ e
    · by_cases h3 : mk σ c ≤ mk σ e
      · simp [h2, h3, Nat.not_lt.mpr h3]
      · simp [h2, h3, Nat.not_le.mp h3]
    · simp [h1, h2]
theorem m_isOf (S : MS sh mm) (E : MD d mm) (R : RM σ d mm) (B : WB σ) {p : Nat} (hp : p < np σ) {k : Nat} (hk : k < 8) : fX7_isOf sh d mm (nI p) (nI k) = some (isOfB (kin σ p) k) := by
  have hB := B.2.1
  have hkp := B.2.2.2.1 p hp
  unfold fX7_isOf fX7_isOf_b0 fX7_isOf_b26 fX7_isOf_b36
  simp (disch := omega) only [bd_v, on_v, on_0, mk_9 S, mg_289 S E, mg_291 S E, mg_292 S E, mg_293 S E, mg_294 S E, mg_296 S E, mg_298 S E, mg_299 S E, mg_300 S E, mg_301 S E, mg_302 S E, mg_303 S E, mg_304 S E, mg_305 S E, mg_307 S E, mg_309 S E, mg_310 S E, mg_311 S E, mg_312 S E, mg_313 S E, mg_314 S E, mg_315 S E, mA_1 S, mA_2 S, mA_3 S, mA_4 S, mA_5 S, mA_6 S, mA_7 S, mA_8 S, mA_9 S, mA_10 S, mA_11 S, mA_12 S, mA_13 S, mA_14 S, mA_15 S, mA_16 S, mA_17 S, mA_18 S, mA_19 S, mA_20 S, mA_21 S, mA_22 S, mi_288 S, mi_290 S, mi_295 S, mi_297 S, mi_308 S, mi_306 S, rm_nh R, rm_np R, rm_nc R, rm_lat R, rm_ask R, rm_kin R, rm_mk R, rm_pg R, rm_ct R, rm_ac R, rm_ax R, rm_vl R, rm_skp R, rm_md R, rm_lm R, rm_thr R, rm_lf R, rm_cme R, z_0, z_1, z_2, z_3, z_4, z_5, z_6, z_7, z_8, z_10, z_16, z_17, z_31, z_63, z_64, z_400, nI_add, pk_mul, nI_eq, nI_leI, nI_ltI, bI_z, nI_m9, bI_m9]
  generalize kin σ p = q at hkp ⊢
  clear hB hp R E S
  revert q k
  decide +kernel
theorem m_isOn (S : MS sh mm) (E : MD d mm) (R : RM σ d mm) (B : WB σ) {h p c w : Nat} (hh : h < 6) (hp : p < 2 ^ 30) (hw : w < 8) (hc : c < nc σ) : fX7_isOn sh d mm (nI h) (nI p) (nI c) (nI w) = some (onB σ h p c w) := by
  have hB := B.2.2.1
  have hB2 := B.2.1
  have b1 := wb_c B hc
  unfold fX7_isOn fX7_isOn_b0
  simp (disch := omega) only [bd_v, on_v, on_0, mk_9 S, mg_289 S E, mg_291 S E, mg_292 S E, mg_293 S E, mg_294 S E, mg_296 S E, mg_298 S E, mg_299 S E, mg_300 S E, mg_301 S E, mg_302 S E, mg_303 S E, mg_304 S E, mg_305 S E, mg_307 S E, mg_309 S E, mg_310 S E, mg_311 S E, mg_312 S E, mg_313 S E, mg_314 S E, mg_315 S E, mA_1 S, mA_2 S, mA_3 S, mA_4 S, mA_5 S, mA_6 S, mA_7 S, mA_8 S, mA_9 S, mA_10 S, mA_11 S, mA_12 S, mA_13 S, mA_14 S, mA_15 S, mA_16 S, mA_17 S, mA_18 S, mA_19 S, mA_20 S, mA_21 S, mA_22 S, mi_288 S, mi_290 S, mi_295 S, mi_297 S, mi_308 S, mi_306 S, rm_nh R, rm_np R, rm_nc R, rm_lat R, rm_ask R, rm_kin R, rm_mk R, rm_pg R, rm_ct R, rm_ac R, rm_ax R, rm_vl R, rm_skp R, rm_md R, rm_lm R, rm_thr R, rm_lf R, rm_cme R, z_0, z_1, z_2, z_3, z_4, z_5, z_6, z_7, z_8, z_10, z_16, z_17, z_31, z_63, z_64, z_400, nI_add, pk_mul, nI_eq, nI_leI, nI_ltI, bI_z, nI_m9, bI_m9, m_isIn_has S R]
  unfold onB
  by_cases h1 : pg σ c = p
  · by_cases h2 : ac σ c = w
    · cases h3 : has σ h c <;> simp [h1, h2]
    · simp [h1, h2]
  · simp [h1]
theorem m_ownOf (S : MS sh mm) (E : MD d mm) (R : RM σ d mm) (B : WB σ) {h : Nat} (hh : h < 6) : fX7_ownOf sh d mm (nI h) = some (nI (ownC σ h)) := by
  have hB := B.2.2.1
  have hB1 := B.1
  unfold ownC
  rw [← fo_cnt]
  refine lp_for (fun n a x => fX7_ownOf_b4 sh d n mm (nI h) (nI a) x) (fun a => some (nI a)) (fun c a => a + (if (has σ h c && decide (mk σ c = h)) then 1 else 0)) (nc σ) (fun _ _ => True) (fun _ _ _ _ => trivial) ?_ ?_ 0 trivial fu (by show nc σ < 100000; omega)
  · intro n a _
    simp (disch := omega) only [fX7_ownOf_b4, bd_v, on_v, on_0, mk_9 S, mg_289 S E, mg_291 S E, mg_292 S E, mg_293 S E, mg_294 S E, mg_296 S E, mg_298 S E, mg_299 S E, mg_300 S E, mg_301 S E, mg_302 S E, mg_303 S E, mg_304 S E, mg_305 S E, mg_307 S E, mg_309 S E, mg_310 S E, mg_311 S E, mg_312 S E, mg_313 S E, mg_314 S E, mg_315 S E, mA_1 S, mA_2 S, mA_3 S, mA_4 S, mA_5 S, mA_6 S, mA_7 S, mA_8 S, mA_9 S, mA_10 S, mA_11 S, mA_12 S, mA_13 S, mA_14 S, mA_15 S, mA_16 S, mA_17 S, mA_18 S, mA_19 S, mA_20 S, mA_21 S, mA_22 S, mi_288 S, mi_290 S, mi_295 S, mi_297 S, mi_308 S, mi_306 S, rm_nh R, rm_np R, rm_nc R, rm_lat R, rm_ask R, rm_kin R, rm_mk R, rm_pg R, rm_ct R, rm_ac R, rm_ax R, rm_vl R, rm_skp R, rm_md R, rm_lm R, rm_thr R, rm_lf R, rm_cme R, z_0, z_1, z_2, z_3, z_4, z_5, z_6, z_7, z_8, z_10, z_16, z_17, z_31, z_63, z_64, z_400, nI_add, pk_mul, nI_eq, nI_leI, nI_ltI, bI_z, nI_m9, bI_m9]
    simp
  · intro n j a hj _
    have b1 := wb_c B hj
    simp (disch := omega) only [fX7_ownOf_b4, bd_v, on_v, on_0, mk_9 S, mg_289 S E, mg_291 S E, mg_292 S E, mg_293 S E, mg_294 S E, mg_296 S E, mg_298 S E, mg_299 S E, mg_300 S E, mg_301 S E, mg_302 S E, mg_303 S E, mg_304 S E, mg_305 S E, mg_307 S E, mg_309 S E, mg_310 S E, mg_311 S E, mg_312 S E, mg_313 S E, mg_314 S E, mg_315 S E, mA_1 S, mA_2 S, mA_3 S, mA_4 S, mA_5 S, mA_6 S, mA_7 S, mA_8 S, mA_9 S, mA_10 S, mA_11 S, mA_12 S, mA_13 S, mA_14 S, mA_15 S, mA_16 S, mA_17 S, mA_18 S, mA_19 S, mA_20 S, mA_21 S, mA_22 S, mi_288 S, mi_290 S, mi_295 S, mi_297 S, mi_308 S, mi_306 S, rm_nh R, rm_np R, rm_nc R, rm_lat R, rm_ask R, rm_kin R, rm_mk R, rm_pg R, rm_ct R, rm_ac R, rm_ax R, rm_vl R, rm_skp R, rm_md R, rm_lm R, rm_thr R, rm_lf R, rm_cme R, z_0, z_1, z_2, z_3, z_4, z_5, z_6, z_7, z_8, z_10, z_16, z_17, z_31, z_63, z_64, z_400, nI_add, pk_mul, nI_eq, nI_leI, nI_ltI, bI_z, nI_m9, bI_m9, m_isIn_has S R]
    rw [if_neg (by omega)]
    cases h1 : has σ h j <;> by_cases h2 : mk σ j = h <;> simp [h2]
theorem m_greatestCount (S : MS sh mm) (E : MD d mm) (R : RM σ d mm) (B : WB σ) {h : Nat} (hh : h < 6) : fX7_greatestCount sh d mm (nI h) = some (nI (gcm σ h)) := by
  have hB := B.2.2.1
  refine lp_for (fun n a x => fX7_greatestCount_b4 sh d n mm (nI h) (nI a) x) (fun a => some (nI a)) (fun c a => if has σ h c && decide (a < ct σ c) then ct σ c else a) (nc σ) (fun j a => a ≤ j + 1) (fun j a hj ha => ?_) ?_ ?_ 0 (by omega) fu (by show nc σ < 100000; omega)
  · have b1 := wb_c B hj
    show (if _ then _ else _) ≤ _
    split <;> omega
  · intro n a _
    simp (disch := omega) only [fX7_greatestCount_b4, bd_v, on_v, on_0, mk_9 S, mg_289 S E, mg_291 S E, mg_292 S E, mg_293 S E, mg_294 S E, mg_296 S E, mg_298 S E, mg_299 S E, mg_300 S E, mg_301 S E, mg_302 S E, mg_303 S E, mg_304 S E, mg_305 S E, mg_307 S E, mg_309 S E, mg_310 S E, mg_311 S E, mg_312 S E, mg_313 S E, mg_314 S E, mg_315 S E, mA_1 S, mA_2 S, mA_3 S, mA_4 S, mA_5 S, mA_6 S, mA_7 S, mA_8 S, mA_9 S, mA_10 S, mA_11 S, mA_12 S, mA_13 S, mA_14 S, mA_15 S, mA_16 S, mA_17 S, mA_18 S, mA_19 S, mA_20 S, mA_21 S, mA_22 S, mi_288 S, mi_290 S, mi_295 S, mi_297 S, mi_308 S, mi_306 S, rm_nh R, rm_np R, rm_nc R, rm_lat R, rm_ask R, rm_kin R, rm_mk R, rm_pg R, rm_ct R, rm_ac R, rm_ax R, rm_vl R, rm_skp R, rm_md R, rm_lm R, rm_thr R, rm_lf R, rm_cme R, z_0, z_1, z_2, z_3, z_4, z_5, z_6, z_7, z_8, z_10, z_16, z_17, z_31, z_63, z_64, z_400, nI_add, pk_mul, nI_eq, nI_leI, nI_ltI, bI_z, nI_m9, bI_m9]
    simp
  · intro n j a hj ha
    have b1 := wb_c B hj
    simp (disch := omega) only [fX7_greatestCount_b4, bd_v, on_v, on_0, mk_9 S, mg_289 S E, mg_291 S E, mg_292 S E, mg_293 S E, mg_294 S E, mg_296 S E, mg_298 S E, mg_299 S E, mg_300 S E, mg_301 S E, mg_302 S E, mg_303 S E, mg_304 S E, mg_305 S E, mg_307 S E, mg_309 S E, mg_310 S E, mg_311 S E, mg_312 S E, mg_313 S E, mg_314 S E, mg_315 S E, mA_1 S, mA_2 S, mA_3 S, mA_4 S, mA_5 S, mA_6 S, mA_7 S, mA_8 S, mA_9 S, mA_10 S, mA_11 S, mA_12 S, mA_13 S, mA_14 S, mA_15 S, mA_16 S, mA_17 S, mA_18 S, mA_19 S, mA_20 S, mA_21 S, mA_22 S, mi_288 S, mi_290 S, mi_295 S, mi_297 S, mi_308 S, mi_306 S, rm_nh R, rm_np R, rm_nc R, rm_lat R, rm_ask R, rm_kin R, rm_mk R, rm_pg R, rm_ct R, rm_ac R, rm_ax R, rm_vl R, rm_skp R, rm_md R, rm_lm R, rm_thr R, rm_lf R, rm_cme R, z_0, z_1, z_2, z_3, z_4, z_5, z_6, z_7, z_8, z_10, z_16, z_17, z_31, z_63, z_64, z_400, nI_add, pk_mul, nI_eq, nI_leI, nI_ltI, bI_z, nI_m9, bI_m9, m_isIn_has S R]
    rw [if_neg (by omega)]
    cases h1 : has σ h j <;> by_cases h2 : ct σ j ≤ a <;> simp [h2, Nat.not_lt.mpr, Nat.not_le.mp]
theorem m_manyOn (S : MS sh mm) (E : MD d mm) (R : RM σ d mm) (B : WB σ) {h p : Nat} (hh : h < 6) (hp : p < 2 ^ 30) : fX7_manyOn sh d mm (nI h) (nI p) = some (nI (mny σ h p)) := by
  have hB := B.2.2.1
  have hB2 := B.2.1
  unfold mny
  rw [← fo_cnt]
  refine lp_for (fun n a x => fX7_manyOn_b5 sh d n mm (nI h) (nI p) (nI a) x) (fun a => some (nI a)) (fun c a => a + (if (decide (pg σ c = p) && has σ h c) then 1 else 0)) (nc σ) (fun _ _ => True) (fun _ _ _ _ => trivial) ?_ ?_ 0 trivial fu (by show nc σ < 100000; omega)
  · intro n a _
    simp (disch := omega) only [fX7_manyOn_b5, bd_v, on_v, on_0, mk_9 S, mg_289 S E, mg_291 S E, mg_292 S E, mg_293 S E, mg_294 S E, mg_296 S E, mg_298 S E, mg_299 S E, mg_300 S E, mg_301 S E, mg_302 S E, mg_303 S E, mg_304 S E, mg_305 S E, mg_307 S E, mg_309 S E, mg_310 S E, mg_311 S E, mg_312 S E, mg_313 S E, mg_314 S E, mg_315 S E, mA_1 S, mA_2 S, mA_3 S, mA_4 S, mA_5 S, mA_6 S, mA_7 S, mA_8 S, mA_9 S, mA_10 S, mA_11 S, mA_12 S, mA_13 S, mA_14 S, mA_15 S, mA_16 S, mA_17 S, mA_18 S, mA_19 S, mA_20 S, mA_21 S, mA_22 S, mi_288 S, mi_290 S, mi_295 S, mi_297 S, mi_308 S, mi_306 S, rm_nh R, rm_np R, rm_nc R, rm_lat R, rm_ask R, rm_kin R, rm_mk R, rm_pg R, rm_ct R, rm_ac R, rm_ax R, rm_vl R, rm_skp R, rm_md R, rm_lm R, rm_thr R, rm_lf R, rm_cme R, z_0, z_1, z_2, z_3, z_4, z_5, z_6, z_7, z_8, z_10, z_16, z_17, z_31, z_63, z_64, z_400, nI_add, pk_mul, nI_eq, nI_leI, nI_ltI, bI_z, nI_m9, bI_m9]
    simp
  · intro n j a hj _
    have b1 := wb_c B hj
    simp (disch := omega) only [fX7_manyOn_b5, bd_v, on_v, on_0, mk_9 S, mg_289 S E, mg_291 S E, mg_292 S E, mg_293 S E, mg_294 S E, mg_296 S E, mg_298 S E, mg_299 S E, mg_300 S E, mg_301 S E, mg_302 S E, mg_303 S E, mg_304 S E, mg_305 S E, mg_307 S E, mg_309 S E, mg_310 S E, mg_311 S E, mg_312 S E, mg_313 S E, mg_314 S E, mg_315 S E, mA_1 S, mA_2 S, mA_3 S, mA_4 S, mA_5 S, mA_6 S, mA_7 S, mA_8 S, mA_9 S, mA_10 S, mA_11 S, mA_12 S, mA_13 S, mA_14 S, mA_15 S, mA_16 S, mA_17 S, mA_18 S, mA_19 S, mA_20 S, mA_21 S, mA_22 S, mi_288 S, mi_290 S, mi_295 S, mi_297 S, mi_308 S, mi_306 S, rm_nh R, rm_np R, rm_nc R, rm_lat R, rm_ask R, rm_kin R, rm_mk R, rm_pg R, rm_ct R, rm_ac R, rm_ax R, rm_vl R, rm_skp R, rm_md R, rm_lm R, rm_thr R, rm_lf R, rm_cme R, z_0, z_1, z_2, z_3, z_4, z_5, z_6, z_7, z_8, z_10, z_16, z_17, z_31, z_63, z_64, z_400, nI_add, pk_mul, nI_eq, nI_leI, nI_ltI, bI_z, nI_m9, bI_m9, m_isIn_has S R]
    rw [if_neg (by omega)]
    cases h1 : has σ h j <;> by_cases h2 : pg σ j = p <;> simp [h2]
theorem m_manyDo (S : MS sh mm) (E : MD d mm) (R : RM σ d mm) (B : WB σ) {h p w : Nat} (hh : h < 6) (hp : p < 2 ^ 30) (hw : w < 8) : fX7_manyDo sh d mm (nI h) (nI p) (nI w) = some (nI (mdo σ h p w)) := by
  have hB := B.2.2.1
  unfold mdo
  rw [← fo_cnt]
  refine lp_for (fun n a x => fX7_manyDo_b6 sh d n mm (nI h) (nI p) (nI w) (nI a) x) (fun a => some (nI a)) (fun c a => a + (if onB σ h p c w then 1 else 0)) (nc σ) (fun _ _ => True) (fun _ _ _ _ => trivial) ?_ ?_ 0 trivial fu (by show nc σ < 100000; omega)
  · intro n a _
    simp (disch := omega) only [fX7_manyDo_b6, bd_v, on_v, on_0, mk_9 S, mg_289 S E, mg_291 S E, mg_292 S E, mg_293 S E, mg_294 S E, mg_296 S E, mg_298 S E, mg_299 S E, mg_300 S E, mg_301 S E, mg_302 S E, mg_303 S E, mg_304 S E, mg_305 S E, mg_307 S E, mg_309 S E, mg_310 S E, mg_311 S E, mg_312 S E, mg_313 S E, mg_314 S E, mg_315 S E, mA_1 S, mA_2 S, mA_3 S, mA_4 S, mA_5 S, mA_6 S, mA_7 S, mA_8 S, mA_9 S, mA_10 S, mA_11 S, mA_12 S, mA_13 S, mA_14 S, mA_15 S, mA_16 S, mA_17 S, mA_18 S, mA_19 S, mA_20 S, mA_21 S, mA_22 S, mi_288 S, mi_290 S, mi_295 S, mi_297 S, mi_308 S, mi_306 S, rm_nh R, rm_np R, rm_nc R, rm_lat R, rm_ask R, rm_kin R, rm_mk R, rm_pg R, rm_ct R, rm_ac R, rm_ax R, rm_vl R, rm_skp R, rm_md R, rm_lm R, rm_thr R, rm_lf R, rm_cme R, z_0, z_1, z_2, z_3, z_4, z_5, z_6, z_7, z_8, z_10, z_16, z_17, z_31, z_63, z_64, z_400, nI_add, pk_mul, nI_eq, nI_leI, nI_ltI, bI_z, nI_m9, bI_m9]
    simp
  · intro n j a hj _
    simp (disch := omega) only [fX7_manyDo_b6, bd_v, on_v, on_0, mk_9 S, mg_289 S E, mg_291 S E, mg_292 S E, mg_293 S E, mg_294 S E, mg_296 S E, mg_298 S E, mg_299 S E, mg_300 S E, mg_301 S E, mg_302 S E, mg_303 S E, mg_304 S E, mg_305 S E, mg_307 S E, mg_309 S E, mg_310 S E, mg_311 S E, mg_312 S E, mg_313 S E, mg_314 S E, mg_315 S E, mA_1 S, mA_2 S, mA_3 S, mA_4 S, mA_5 S, mA_6 S, mA_7 S, mA_8 S, mA_9 S, mA_10 S, mA_11 S, mA_12 S, mA_13 S, mA_14 S, mA_15 S, mA_16 S, mA_17 S, mA_18 S, mA_19 S, mA_20 S, mA_21 S, mA_22 S, mi_288 S, mi_290 S, mi_295 S, mi_297 S, mi_308 S, mi_306 S, rm_nh R, rm_np R, rm_nc R, rm_lat R, rm_ask R, rm_kin R, rm_mk R, rm_pg R, rm_ct R, rm_ac R, rm_ax R, rm_vl R, rm_skp R, rm_md R, rm_lm R, rm_thr R, rm_lf R, rm_cme R, z_0, z_1, z_2, z_3, z_4, z_5, z_6, z_7, z_8, z_10, z_16, z_17, z_31, z_63, z_64, z_400, nI_add, pk_mul, nI_eq, nI_leI, nI_ltI, bI_z, nI_m9, bI_m9, m_isOn S E R B]
    rw [if_neg (by omega)]
    cases h1 : onB σ h p j w <;> simp
theorem m_sumOf (S : MS sh mm) (E : MD d mm) (R : RM σ d mm) (B : WB σ) {h p : Nat} (hh : h < 6) (hp : p < 2 ^ 30) : fX7_sumOf sh d mm (nI h) (nI p) = some (sumS σ h p) := by
  have hB := B.2.2.1
  refine lp_for (fun n a x => fX7_sumOf_b5 sh d n mm (nI h) (nI p) a x) (fun a => some a) (fun c s => s + (if onB σ h p c 1 then vl σ c else if onB σ h p c 5 then -vl σ c else 0)) (nc σ) (fun _ _ => True) (fun _ _ _ _ => trivial) ?_ ?_ 0 trivial fu (by show nc σ < 100000; omega)
  · intro n a _
    simp (disch := omega) only [fX7_sumOf_b5, bd_v, on_v, on_0, mk_9 S, mg_289 S E, mg_291 S E, mg_292 S E, mg_293 S E, mg_294 S E, mg_296 S E, mg_298 S E, mg_299 S E, mg_300 S E, mg_301 S E, mg_302 S E, mg_303 S E, mg_304 S E, mg_305 S E, mg_307 S E, mg_309 S E, mg_310 S E, mg_311 S E, mg_312 S E, mg_313 S E, mg_314 S E, mg_315 S E, mA_1 S, mA_2 S, mA_3 S, mA_4 S, mA_5 S, mA_6 S, mA_7 S, mA_8 S, mA_9 S, mA_10 S, mA_11 S, mA_12 S, mA_13 S, mA_14 S, mA_15 S, mA_16 S, mA_17 S, mA_18 S, mA_19 S, mA_20 S, mA_21 S, mA_22 S, mi_288 S, mi_290 S, mi_295 S, mi_297 S, mi_308 S, mi_306 S, rm_nh R, rm_np R, rm_nc R, rm_lat R, rm_ask R, rm_kin R, rm_mk R, rm_pg R, rm_ct R, rm_ac R, rm_ax R, rm_vl R, rm_skp R, rm_md R, rm_lm R, rm_thr R, rm_lf R, rm_cme R, z_0, z_1, z_2, z_3, z_4, z_5, z_6, z_7, z_8, z_10, z_16, z_17, z_31, z_63, z_64, z_400, nI_add, pk_mul, nI_eq, nI_leI, nI_ltI, bI_z, nI_m9, bI_m9]
    simp
  · intro n j a hj _
    simp (disch := omega) only [fX7_sumOf_b5, bd_v, on_v, on_0, mk_9 S, mg_289 S E, mg_291 S E, mg_292 S E, mg_293 S E, mg_294 S E, mg_296 S E, mg_298 S E, mg_299 S E, mg_300 S E, mg_301 S E, mg_302 S E, mg_303 S E, mg_304 S E, mg_305 S E, mg_307 S E, mg_309 S E, mg_310 S E, mg_311 S E, mg_312 S E, mg_313 S E, mg_314 S E, mg_315 S E, mA_1 S, mA_2 S, mA_3 S, mA_4 S, mA_5 S, mA_6 S, mA_7 S, mA_8 S, mA_9 S, mA_10 S, mA_11 S, mA_12 S, mA_13 S, mA_14 S, mA_15 S, mA_16 S, mA_17 S, mA_18 S, mA_19 S, mA_20 S, mA_21 S, mA_22 S, mi_288 S, mi_290 S, mi_295 S, mi_297 S, mi_308 S, mi_306 S, rm_nh R, rm_np R, rm_nc R, rm_lat R, rm_ask R, rm_kin R, rm_mk R, rm_pg R, rm_ct R, rm_ac R, rm_ax R, rm_vl R, rm_skp R, rm_md R, rm_lm R, rm_thr R, rm_lf R, rm_cme R, z_0, z_1, z_2, z_3, z_4, z_5, z_6, z_7, z_8, z_10, z_16, z_17, z_31, z_63, z_64, z_400, nI_add, pk_mul, nI_eq, nI_leI, nI_ltI, bI_z, nI_m9, bI_m9, m_isOn S E R B]
    rw [if_neg (by omega)]
    cases h1 : onB σ h p j 1 <;> cases h2 : onB σ h p j 5 <;> simp
theorem m_rightsOf (S : MS sh mm) (E : MD d mm) (R : RM σ d mm) (B : WB σ) {h p o : Nat} (hh : h < 6) (hp : p < 2 ^ 30) (ho : o < 2 ^ 30) : fX7_rightsOf sh d mm (nI h) (nI p) (nI o) = some (rgt σ h p o) := by
  have hB := B.2.2.1
  have hB1 := B.1
  have hB2 := B.2.1
  refine lp_for (fun n a x => fX7_rightsOf_b6 sh d n mm (nI h) (nI p) (nI o) a x) (fun a => some a) (fun c s => if decide (pg σ c = p) && has σ h c then (s + (if (decide (mk σ c = o) && decide (ac σ c = 1)) || (decide (ac σ c = 4) && decide (ax σ c = o)) then vl σ c else 0)) - (if decide (mk σ c = o) && (decide (ac σ c = 4) || decide (ac σ c = 5)) then vl σ c else 0) else s) (nc σ) (fun _ _ => True) (fun _ _ _ _ => trivial) ?_ ?_ 0 trivial fu (by show nc σ < 100000; omega)
  · intro n a _
    simp (disch := omega) only [fX7_rightsOf_b6, bd_v, on_v, on_0, mk_9 S, mg_289 S E, mg_291 S E, mg_292 S E, mg_293 S E, mg_294 S E, mg_296 S E, mg_298 S E, mg_299 S E, mg_300 S E, mg_301 S E, mg_302 S E, mg_303 S E, mg_304 S E, mg_305 S E, mg_307 S E, mg_309 S E, mg_310 S E, mg_311 S E, mg_312 S E, mg_313 S E, mg_314 S E, mg_315 S E, mA_1 S, mA_2 S, mA_3 S, mA_4 S, mA_5 S, mA_6 S, mA_7 S, mA_8 S, mA_9 S, mA_10 S, mA_11 S, mA_12 S, mA_13 S, mA_14 S, mA_15 S, mA_16 S, mA_17 S, mA_18 S, mA_19 S, mA_20 S, mA_21 S, mA_22 S, mi_288 S, mi_290 S, mi_295 S, mi_297 S, mi_308 S, mi_306 S, rm_nh R, rm_np R, rm_nc R, rm_lat R, rm_ask R, rm_kin R, rm_mk R, rm_pg R, rm_ct R, rm_ac R, rm_ax R, rm_vl R, rm_skp R, rm_md R, rm_lm R, rm_thr R, rm_lf R, rm_cme R, z_0, z_1, z_2, z_3, z_4, z_5, z_6, z_7, z_8, z_10, z_16, z_17, z_31, z_63, z_64, z_400, nI_add, pk_mul, nI_eq, nI_leI, nI_ltI, bI_z, nI_m9, bI_m9]
    simp
  · intro n j a hj _
    have b1 := wb_c B hj
    have tail : ∀ (k : Nat → Int32 → Int32 → Int32 → Int64 → Int32 → Option Int64) (b : Bool), fX7_rightsOf_b55 sh d k mm (nI h) (nI p) (nI o) a (nI j) (bI b) = k mm (nI h) (nI p) (nI o) ((a + (if (b && decide (ac σ j = 1)) || (decide (ac σ j = 4) && decide (ax σ j = o)) then vl σ j else 0)) - (if b && (decide (ac σ j = 4) || decide (ac σ j = 5)) then vl σ j else 0)) (nI (j + 1)) := by
      intro k b
      cases b <;> by_cases h4 : ax σ j = o <;> by_cases h5 : ac σ j = 4 <;> by_cases h6 : ac σ j = 1 <;> by_cases h7 : ac σ j = 5 <;> (try omega) <;> simp (maxSteps := 4000000) (disch := omega) [fX7_rightsOf_b55, fX7_rightsOf_b75, fX7_rightsOf_b97, fX7_rightsOf_b108, fX7_rightsOf_b140, h4, h5, h6, h7, bd_v, on_v, on_0, mk_9 S, mg_289 S E, mg_291 S E, mg_292 S E, mg_293 S E, mg_294 S E, mg_296 S E, mg_298 S E, mg_299 S E, mg_300 S E, mg_301 S E, mg_302 S E, mg_303 S E, mg_304 S E, mg_305 S E, mg_307 S E, mg_309 S E, mg_310 S E, mg_311 S E, mg_312 S E, mg_313 S E, mg_314 S E, mg_315 S E, mA_1 S, mA_2 S, mA_3 S, mA_4 S, mA_5 S, mA_6 S, mA_7 S, mA_8 S, mA_9 S, mA_10 S, mA_11 S, mA_12 S, mA_13 S, mA_14 S, mA_15 S, mA_16 S, mA_17 S, mA_18 S, mA_19 S, mA_20 S, mA_21 S, mA_22 S, mi_288 S, mi_290 S, mi_295 S, mi_297 S, mi_308 S, mi_306 S, rm_nh R, rm_np R, rm_nc R, rm_lat R, rm_ask R, rm_kin R, rm_mk R, rm_pg R, rm_ct R, rm_ac R, rm_ax R, rm_vl R, rm_skp R, rm_md R, rm_lm R, rm_thr R, rm_lf R, rm_cme R, z_0, z_1, z_2, z_3, z_4, z_5, z_6, z_7, z_8, z_10, z_16, z_17, z_31, z_63, z_64, z_400, nI_add, pk_mul, nI_eq, nI_leI, nI_ltI, bI_z, nI_m9, bI_m9]
    have t1 := fun k => tail k true
    have t0 := fun k => tail k false
    simp only [show bI true = nI 1 from rfl, show bI false = nI 0 from rfl] at t1 t0
    simp (disch := omega) only [fX7_rightsOf_b6, bd_v, on_v, on_0, mk_9 S, mg_289 S E, mg_291 S E, mg_292 S E, mg_293 S E, mg_294 S E, mg_296 S E, mg_298 S E, mg_299 S E, mg_300 S E, mg_301 S E, mg_302 S E, mg_303 S E, mg_304 S E, mg_305 S E, mg_307 S E, mg_309 S E, mg_310 S E, mg_311 S E, mg_312 S E, mg_313 S E, mg_314 S E, mg_315 S E, mA_1 S, mA_2 S, mA_3 S, mA_4 S, mA_5 S, mA_6 S, mA_7 S, mA_8 S, mA_9 S, mA_10 S, mA_11 S, mA_12 S, mA_13 S, mA_14 S, mA_15 S, mA_16 S, mA_17 S, mA_18 S, mA_19 S, mA_20 S, mA_21 S, mA_22 S, mi_288 S, mi_290 S, mi_295 S, mi_297 S, mi_308 S, mi_306 S, rm_nh R, rm_np R, rm_nc R, rm_lat R, rm_ask R, rm_kin R, rm_mk R, rm_pg R, rm_ct R, rm_ac R, rm_ax R, rm_vl R, rm_skp R, rm_md R, rm_lm R, rm_thr R, rm_lf R, rm_cme R, z_0, z_1, z_2, z_3, z_4, z_5, z_6, z_7, z_8, z_10, z_16, z_17, z_31, z_63, z_64, z_400, nI_add, pk_mul, nI_eq, nI_leI, nI_ltI, bI_z, nI_m9, bI_m9, m_isIn_has S R, t0, t1]
    rw [if_neg (by omega)]
    cases h1 : has σ h j <;> by_cases h2 : pg σ j = p <;> by_cases h3 : mk σ j = o <;> simp [h2, h3]
theorem m_isKnown (S : MS sh mm) (E : MD d mm) (R : RM σ d mm) (B : WB σ) {h p c w : Nat} (hh : h < 6) (hp : p < 2 ^ 30) (hw : w < 8) (hc : c < 448) : fX7_isKnown sh d mm (nI h) (nI p) (nI c) (nI w) = some (knw σ h p c w) := by
  have hB := B.2.2.1
  refine lp_any (fun n a x => fX7_isKnown_b6 sh d n mm (nI h) (nI p) (nI c) (nI w) a x) (fun a => some a) (fun e => onB σ h p e w && kn σ e c) (nc σ) ?_ ?_ ?_ fu (by show nc σ < 100000; omega)
  · intro n b
    simp (disch := omega) only [fX7_isKnown_b6, bd_v, on_v, on_0, mk_9 S, mg_289 S E, mg_291 S E, mg_292 S E, mg_293 S E, mg_294 S E, mg_296 S E, mg_298 S E, mg_299 S E, mg_300 S E, mg_301 S E, mg_302 S E, mg_303 S E, mg_304 S E, mg_305 S E, mg_307 S E, mg_309 S E, mg_310 S E, mg_311 S E, mg_312 S E, mg_313 S E, mg_314 S E, mg_315 S E, mA_1 S, mA_2 S, mA_3 S, mA_4 S, mA_5 S, mA_6 S, mA_7 S, mA_8 S, mA_9 S, mA_10 S, mA_11 S, mA_12 S, mA_13 S, mA_14 S, mA_15 S, mA_16 S, mA_17 S, mA_18 S, mA_19 S, mA_20 S, mA_21 S, mA_22 S, mi_288 S, mi_290 S, mi_295 S, mi_297 S, mi_308 S, mi_306 S, rm_nh R, rm_np R, rm_nc R, rm_lat R, rm_ask R, rm_kin R, rm_mk R, rm_pg R, rm_ct R, rm_ac R, rm_ax R, rm_vl R, rm_skp R, rm_md R, rm_lm R, rm_thr R, rm_lf R, rm_cme R, z_0, z_1, z_2, z_3, z_4, z_5, z_6, z_7, z_8, z_10, z_16, z_17, z_31, z_63, z_64, z_400, nI_add, pk_mul, nI_eq, nI_leI, nI_ltI, bI_z, nI_m9, bI_m9]
    cases b <;> simp [bI, nI]
  · intro n j hj
    simp (disch := omega) only [fX7_isKnown_b6, bd_v, on_v, on_0, mk_9 S, mg_289 S E, mg_291 S E, mg_292 S E, mg_293 S E, mg_294 S E, mg_296 S E, mg_298 S E, mg_299 S E, mg_300 S E, mg_301 S E, mg_302 S E, mg_303 S E, mg_304 S E, mg_305 S E, mg_307 S E, mg_309 S E, mg_310 S E, mg_311 S E, mg_312 S E, mg_313 S E, mg_314 S E, mg_315 S E, mA_1 S, mA_2 S, mA_3 S, mA_4 S, mA_5 S, mA_6 S, mA_7 S, mA_8 S, mA_9 S, mA_10 S, mA_11 S, mA_12 S, mA_13 S, mA_14 S, mA_15 S, mA_16 S, mA_17 S, mA_18 S, mA_19 S, mA_20 S, mA_21 S, mA_22 S, mi_288 S, mi_290 S, mi_295 S, mi_297 S, mi_308 S, mi_306 S, rm_nh R, rm_np R, rm_nc R, rm_lat R, rm_ask R, rm_kin R, rm_mk R, rm_pg R, rm_ct R, rm_ac R, rm_ax R, rm_vl R, rm_skp R, rm_md R, rm_lm R, rm_thr R, rm_lf R, rm_cme R, z_0, z_1, z_2, z_3, z_4, z_5, z_6, z_7, z_8, z_10, z_16, z_17, z_31, z_63, z_64, z_400, nI_add, pk_mul, nI_eq, nI_leI, nI_ltI, bI_z, nI_m9, bI_m9]
    simp [bI, nI]
  · intro n j hj
    simp (disch := omega) only [fX7_isKnown_b6, bd_v, on_v, on_0, mk_9 S, mg_289 S E, mg_291 S E, mg_292 S E, mg_293 S E, mg_294 S E, mg_296 S E, mg_298 S E, mg_299 S E, mg_300 S E, mg_301 S E, mg_302 S E, mg_303 S E, mg_304 S E, mg_305 S E, mg_307 S E, mg_309 S E, mg_310 S E, mg_311 S E, mg_312 S E, mg_313 S E, mg_314 S E, mg_315 S E, mA_1 S, mA_2 S, mA_3 S, mA_4 S, mA_5 S, mA_6 S, mA_7 S, mA_8 S, mA_9 S, mA_10 S, mA_11 S, mA_12 S, mA_13 S, mA_14 S, mA_15 S, mA_16 S, mA_17 S, mA_18 S, mA_19 S, mA_20 S, mA_21 S, mA_22 S, mi_288 S, mi_290 S, mi_295 S, mi_297 S, mi_308 S, mi_306 S, rm_nh R, rm_np R, rm_nc R, rm_lat R, rm_ask R, rm_kin R, rm_mk R, rm_pg R, rm_ct R, rm_ac R, rm_ax R, rm_vl R, rm_skp R, rm_md R, rm_lm R, rm_thr R, rm_lf R, rm_cme R, z_0, z_1, z_2, z_3, z_4, z_5, z_6, z_7, z_8, z_10, z_16, z_17, z_31, z_63, z_64, z_400, nI_add, pk_mul, nI_eq, nI_leI, nI_ltI, bI_z, nI_m9, bI_m9, m_isOn S E R B, m_isIn_kn S R B]
    rw [if_neg (by omega)]
    cases h1 : onB σ h p j w <;> cases h2 : kn σ j c <;> simp [bI, nI]
theorem m_countIn (S : MS sh mm) (E : MD d mm) (R : RM σ d mm) (B : WB σ) {h p x : Nat} (hh : h < 6) (hp : p < 2 ^ 30) (hx : x < 64) : fX7_countIn sh d mm (nI h) (nI p) (nI x) = some (nI (cin σ h p x)) := by
  have hB := B.2.2.1
  unfold cin
  rw [← fo_cnt]
  refine lp_for (fun n a y => fX7_countIn_b6 sh d n mm (nI h) (nI p) (nI x) (nI a) y) (fun a => some (nI a)) (fun c a => a + (if (onB σ h p c 2 && (decide (ax σ c = x) && !gon σ h p x c)) then 1 else 0)) (nc σ) (fun _ _ => True) (fun _ _ _ _ => trivial) ?_ ?_ 0 trivial fu (by show nc σ < 100000; omega)
  · intro n a _
    simp (disch := omega) only [fX7_countIn_b6, bd_v, on_v, on_0, mk_9 S, mg_289 S E, mg_291 S E, mg_292 S E, mg_293 S E, mg_294 S E, mg_296 S E, mg_298 S E, mg_299 S E, mg_300 S E, mg_301 S E, mg_302 S E, mg_303 S E, mg_304 S E, mg_305 S E, mg_307 S E, mg_309 S E, mg_310 S E, mg_311 S E, mg_312 S E, mg_313 S E, mg_314 S E, mg_315 S E, mA_1 S, mA_2 S, mA_3 S, mA_4 S, mA_5 S, mA_6 S, mA_7 S, mA_8 S, mA_9 S, mA_10 S, mA_11 S, mA_12 S, mA_13 S, mA_14 S, mA_15 S, mA_16 S, mA_17 S, mA_18 S, mA_19 S, mA_20 S, mA_21 S, mA_22 S, mi_288 S, mi_290 S, mi_295 S, mi_297 S, mi_308 S, mi_306 S, rm_nh R, rm_np R, rm_nc R, rm_lat R, rm_ask R, rm_kin R, rm_mk R, rm_pg R, rm_ct R, rm_ac R, rm_ax R, rm_vl R, rm_skp R, rm_md R, rm_lm R, rm_thr R, rm_lf R, rm_cme R, z_0, z_1, z_2, z_3, z_4, z_5, z_6, z_7, z_8, z_10, z_16, z_17, z_31, z_63, z_64, z_400, nI_add, pk_mul, nI_eq, nI_leI, nI_ltI, bI_z, nI_m9, bI_m9]
    simp
  · intro n j a hj _
    have b1 := wb_c B hj
    have hin : fX7_countIn_b44 sh d (fX7_countIn_b6 sh d n) fu mm (nI h) (nI p) (nI x) (nI a) (nI j) (nI 0) (nI 0) = fX7_countIn_b108 sh d (fX7_countIn_b6 sh d n) mm (nI h) (nI p) (nI x) (nI a) (nI j) (bI (gon σ h p x j)) := by
      refine lp_any (fun m b y => fX7_countIn_b44 sh d (fX7_countIn_b6 sh d n) m mm (nI h) (nI p) (nI x) (nI a) (nI j) b y) (fun b => fX7_countIn_b108 sh d (fX7_countIn_b6 sh d n) mm (nI h) (nI p) (nI x) (nI a) (nI j) (bI b)) (fun t => onB σ h p t 3 && (decide (ax σ t = x) && kn σ t j)) (nc σ) ?_ ?_ ?_ fu (by show nc σ < 100000; omega)
      · intro m b
        simp (disch := omega) only [fX7_countIn_b44, bd_v, on_v, on_0, mk_9 S, mg_289 S E, mg_291 S E, mg_292 S E, mg_293 S E, mg_294 S E, mg_296 S E, mg_298 S E, mg_299 S E, mg_300 S E, mg_301 S E, mg_302 S E, mg_303 S E, mg_304 S E, mg_305 S E, mg_307 S E, mg_309 S E, mg_310 S E, mg_311 S E, mg_312 S E, mg_313 S E, mg_314 S E, mg_315 S E, mA_1 S, mA_2 S, mA_3 S, mA_4 S, mA_5 S, mA_6 S, mA_7 S, mA_8 S, mA_9 S, mA_10 S, mA_11 S, mA_12 S, mA_13 S, mA_14 S, mA_15 S, mA_16 S, mA_17 S, mA_18 S, mA_19 S, mA_20 S, mA_21 S, mA_22 S, mi_288 S, mi_290 S, mi_295 S, mi_297 S, mi_308 S, mi_306 S, rm_nh R, rm_np R, rm_nc R, rm_lat R, rm_ask R, rm_kin R, rm_mk R, rm_pg R, rm_ct R, rm_ac R, rm_ax R, rm_vl R, rm_skp R, rm_md R, rm_lm R, rm_thr R, rm_lf R, rm_cme R, z_0, z_1, z_2, z_3, z_4, z_5, z_6, z_7, z_8, z_10, z_16, z_17, z_31, z_63, z_64, z_400, nI_add, pk_mul, nI_eq, nI_leI, nI_ltI, bI_z, nI_m9, bI_m9]
        simp
      · intro m i hi
        simp (disch := omega) only [fX7_countIn_b44, bd_v, on_v, on_0, mk_9 S, mg_289 S E, mg_291 S E, mg_292 S E, mg_293 S E, mg_294 S E, mg_296 S E, mg_298 S E, mg_299 S E, mg_300 S E, mg_301 S E, mg_302 S E, mg_303 S E, mg_304 S E, mg_305 S E, mg_307 S E, mg_309 S E, mg_310 S E, mg_311 S E, mg_312 S E, mg_313 S E, mg_314 S E, mg_315 S E, mA_1 S, mA_2 S, mA_3 S, mA_4 S, mA_5 S, mA_6 S, mA_7 S, mA_8 S, mA_9 S, mA_10 S, mA_11 S, mA_12 S, mA_13 S, mA_14 S, mA_15 S, mA_16 S, mA_17 S, mA_18 S, mA_19 S, mA_20 S, mA_21 S, mA_22 S, mi_288 S, mi_290 S, mi_295 S, mi_297 S, mi_308 S, mi_306 S, rm_nh R, rm_np R, rm_nc R, rm_lat R, rm_ask R, rm_kin R, rm_mk R, rm_pg R, rm_ct R, rm_ac R, rm_ax R, rm_vl R, rm_skp R, rm_md R, rm_lm R, rm_thr R, rm_lf R, rm_cme R, z_0, z_1, z_2, z_3, z_4, z_5, z_6, z_7, z_8, z_10, z_16, z_17, z_31, z_63, z_64, z_400, nI_add, pk_mul, nI_eq, nI_leI, nI_ltI, bI_z, nI_m9, bI_m9]
        simp
      · intro m i hi
        have b2 := wb_c B hi
        simp (disch := omega) only [fX7_countIn_b44, bd_v, on_v, on_0, mk_9 S, mg_289 S E, mg_291 S E, mg_292 S E, mg_293 S E, mg_294 S E, mg_296 S E, mg_298 S E, mg_299 S E, mg_300 S E, mg_301 S E, mg_302 S E, mg_303 S E, mg_304 S E, mg_305 S E, mg_307 S E, mg_309 S E, mg_310 S E, mg_311 S E, mg_312 S E, mg_313 S E, mg_314 S E, mg_315 S E, mA_1 S, mA_2 S, mA_3 S, mA_4 S, mA_5 S, mA_6 S, mA_7 S, mA_8 S, mA_9 S, mA_10 S, mA_11 S, mA_12 S, mA_13 S, mA_14 S, mA_15 S, mA_16 S, mA_17 S, mA_18 S, mA_19 S, mA_20 S, mA_21 S, mA_22 S, mi_288 S, mi_290 S, mi_295 S, mi_297 S, mi_308 S, mi_306 S, rm_nh R, rm_np R, rm_nc R, rm_lat R, rm_ask R, rm_kin R, rm_mk R, rm_pg R, rm_ct R, rm_ac R, rm_ax R, rm_vl R, rm_skp R, rm_md R, rm_lm R, rm_thr R, rm_lf R, rm_cme R, z_0, z_1, z_2, z_3, z_4, z_5, z_6, z_7, z_8, z_10, z_16, z_17, z_31, z_63, z_64, z_400, nI_add, pk_mul, nI_eq, nI_leI, nI_ltI, bI_z, nI_m9, bI_m9, m_isOn S E R B, m_isIn_kn S R B]
        rw [if_neg (by omega)]
        cases h1 : onB σ h p i 3 <;> cases h2 : kn σ i j <;> by_cases h3 : ax σ i = x <;> simp [h3, bI, nI]
    simp (disch := omega) only [fX7_countIn_b6, bd_v, on_v, on_0, mk_9 S, mg_289 S E, mg_291 S E, mg_292 S E, mg_293 S E, mg_294 S E, mg_296 S E, mg_298 S E, mg_299 S E, mg_300 S E, mg_301 S E, mg_302 S E, mg_303 S E, mg_304 S E, mg_305 S E, mg_307 S E, mg_309 S E, mg_310 S E, mg_311 S E, mg_312 S E, mg_313 S E, mg_314 S E, mg_315 S E, mA_1 S, mA_2 S, mA_3 S, mA_4 S, mA_5 S, mA_6 S, mA_7 S, mA_8 S, mA_9 S, mA_10 S, mA_11 S, mA_12 S, mA_13 S, mA_14 S, mA_15 S, mA_16 S, mA_17 S, mA_18 S, mA_19 S, mA_20 S, mA_21 S, mA_22 S, mi_288 S, mi_290 S, mi_295 S, mi_297 S, mi_308 S, mi_306 S, rm_nh R, rm_np R, rm_nc R, rm_lat R, rm_ask R, rm_kin R, rm_mk R, rm_pg R, rm_ct R, rm_ac R, rm_ax R, rm_vl R, rm_skp R, rm_md R, rm_lm R, rm_thr R, rm_lf R, rm_cme R, z_0, z_1, z_2, z_3, z_4, z_5, z_6, z_7, z_8, z_10, z_16, z_17, z_31, z_63, z_64, z_400, nI_add, pk_mul, nI_eq, nI_leI, nI_ltI, bI_z, nI_m9, bI_m9, m_isOn S E R B, hin, fX7_countIn_b108]
    rw [if_neg (by omega)]
    cases h1 : onB σ h p j 2 <;> cases h2 : gon σ h p x j <;> by_cases h3 : ax σ j = x <;> simp [h3]
theorem m_isUp_l (S : MS sh mm) (E : MD d mm) (R : RM σ d mm) (B : WB σ) {h p w v : Nat} (hh : h < 6) (hp : p < 2 ^ 30) (hw : w < 8) {x3 : Int32} (hv : (x3 = nI 0 ∧ v = 7) ∨ (x3 = nI 1 ∧ v = 6)) : fX7_isUp_b36 sh d fu mm (nI h) (nI p) x3 (nI w) (nI 0) (nI 0) = some (if x3 = nI 0 then decide (0 < opn σ h p w v) else decide (0 < mdo σ h p 6) && decide (opn σ h p w v = 0)) := by
  have hB := B.2.2.1
  have hm : mdo σ h p 6 ≤ nc σ := cnt_le _ _
  unfold opn
  rw [← fo_cnt]
  refine lp_for (fun n a y => fX7_isUp_b36 sh d n mm (nI h) (nI p) x3 (nI w) (nI a) y) (fun a => some (if x3 = nI 0 then decide (0 < a) else decide (0 < mdo σ h p 6) && decide (a = 0))) (fun c a => a + (if (onB σ h p c w && !knw σ h p c v) then 1 else 0)) (nc σ) (fun j a => a ≤ j) (fun j a hj ha => ?_) ?_ ?_ 0 (Nat.le_refl _) fu (by show nc σ < 100000; omega)
  · show a + (if _ then 1 else 0) ≤ _
    split <;> omega
  · intro n a ha
    rcases hv with ⟨rfl, rfl⟩ | ⟨rfl, rfl⟩
    · simp (disch := omega) only [fX7_isUp_b36, bd_v, on_v, on_0, mk_9 S, mg_289 S E, mg_291 S E, mg_292 S E, mg_293 S E, mg_294 S E, mg_296 S E, mg_298 S E, mg_299 S E, mg_300 S E, mg_301 S E, mg_302 S E, mg_303 S E, mg_304 S E, mg_305 S E, mg_307 S E, mg_309 S E, mg_310 S E, mg_311 S E, mg_312 S E, mg_313 S E, mg_314 S E, mg_315 S E, mA_1 S, mA_2 S, mA_3 S, mA_4 S, mA_5 S, mA_6 S, mA_7 S, mA_8 S, mA_9 S, mA_10 S, mA_11 S, mA_12 S, mA_13 S, mA_14 S, mA_15 S, mA_16 S, mA_17 S, mA_18 S, mA_19 S, mA_20 S, mA_21 S, mA_22 S, mi_288 S, mi_290 S, mi_295 S, mi_297 S, mi_308 S, mi_306 S, rm_nh R, rm_np R, rm_nc R, rm_lat R, rm_ask R, rm_kin R, rm_mk R, rm_pg R, rm_ct R, rm_ac R, rm_ax R, rm_vl R, rm_skp R, rm_md R, rm_lm R, rm_thr R, rm_lf R, rm_cme R, z_0, z_1, z_2, z_3, z_4, z_5, z_6, z_7, z_8, z_10, z_16, z_17, z_31, z_63, z_64, z_400, nI_add, pk_mul, nI_eq, nI_leI, nI_ltI, bI_z, nI_m9, bI_m9]
      by_cases h1 : a = 0 <;> simp [h1]
      omega
    · simp (disch := omega) only [fX7_isUp_b36, bd_v, on_v, on_0, mk_9 S, mg_289 S E, mg_291 S E, mg_292 S E, mg_293 S E, mg_294 S E, mg_296 S E, mg_298 S E, mg_299 S E, mg_300 S E, mg_301 S E, mg_302 S E, mg_303 S E, mg_304 S E, mg_305 S E, mg_307 S E, mg_309 S E, mg_310 S E, mg_311 S E, mg_312 S E, mg_313 S E, mg_314 S E, mg_315 S E, mA_1 S, mA_2 S, mA_3 S, mA_4 S, mA_5 S, mA_6 S, mA_7 S, mA_8 S, mA_9 S, mA_10 S, mA_11 S, mA_12 S, mA_13 S, mA_14 S, mA_15 S, mA_16 S, mA_17 S, mA_18 S, mA_19 S, mA_20 S, mA_21 S, mA_22 S, mi_288 S, mi_290 S, mi_295 S, mi_297 S, mi_308 S, mi_306 S, rm_nh R, rm_np R, rm_nc R, rm_lat R, rm_ask R, rm_kin R, rm_mk R, rm_pg R, rm_ct R, rm_ac R, rm_ax R, rm_vl R, rm_skp R, rm_md R, rm_lm R, rm_thr R, rm_lf R, rm_cme R, z_0, z_1, z_2, z_3, z_4, z_5, z_6, z_7, z_8, z_10, z_16, z_17, z_31, z_63, z_64, z_400, nI_add, pk_mul, nI_eq, nI_leI, nI_ltI, bI_z, nI_m9, bI_m9, m_manyDo S E R B]
      by_cases h1 : a = 0 <;> by_cases h2 : mdo σ h p 6 = 0 <;> simp [h1, h2]
      omega
  · intro n j a hj ha
    rcases hv with ⟨rfl, rfl⟩ | ⟨rfl, rfl⟩
    · simp (disch := omega) only [fX7_isUp_b36, fX7_isUp_b76, bd_v, on_v, on_0, mk_9 S, mg_289 S E, mg_291 S E, mg_292 S E, mg_293 S E, mg_294 S E, mg_296 S E, mg_298 S E, mg_299 S E, mg_300 S E, mg_301 S E, mg_302 S E, mg_303 S E, mg_304 S E, mg_305 S E, mg_307 S E, mg_309 S E, mg_310 S E, mg_311 S E, mg_312 S E, mg_313 S E, mg_314 S E, mg_315 S E, mA_1 S, mA_2 S, mA_3 S, mA_4 S, mA_5 S, mA_6 S, mA_7 S, mA_8 S, mA_9 S, mA_10 S, mA_11 S, mA_12 S, mA_13 S, mA_14 S, mA_15 S, mA_16 S, mA_17 S, mA_18 S, mA_19 S, mA_20 S, mA_21 S, mA_22 S, mi_288 S, mi_290 S, mi_295 S, mi_297 S, mi_308 S, mi_306 S, rm_nh R, rm_np R, rm_nc R, rm_lat R, rm_ask R, rm_kin R, rm_mk R, rm_pg R, rm_ct R, rm_ac R, rm_ax R, rm_vl R, rm_skp R, rm_md R, rm_lm R, rm_thr R, rm_lf R, rm_cme R, z_0, z_1, z_2, z_3, z_4, z_5, z_6, z_7, z_8, z_10, z_16, z_17, z_31, z_63, z_64, z_400, nI_add, pk_mul, nI_eq, nI_leI, nI_ltI, bI_z, nI_m9, bI_m9, m_isOn S E R B, m_isKnown S E R B]
      rw [if_neg (by omega)]
      cases h1 : onB σ h p j w <;> cases h2 : knw σ h p j 7 <;> simp
    · simp (disch := omega) only [fX7_isUp_b36, fX7_isUp_b76, bd_v, on_v, on_0, mk_9 S, mg_289 S E, mg_291 S E, mg_292 S E, mg_293 S E, mg_294 S E, mg_296 S E, mg_298 S E, mg_299 S E, mg_300 S E, mg_301 S E, mg_302 S E, mg_303 S E, mg_304 S E, mg_305 S E, mg_307 S E, mg_309 S E, mg_310 S E, mg_311 S E, mg_312 S E, mg_313 S E, mg_314 S E, mg_315 S E, mA_1 S, mA_2 S, mA_3 S, mA_4 S, mA_5 S, mA_6 S, mA_7 S, mA_8 S, mA_9 S, mA_10 S, mA_11 S, mA_12 S, mA_13 S, mA_14 S, mA_15 S, mA_16 S, mA_17 S, mA_18 S, mA_19 S, mA_20 S, mA_21 S, mA_22 S, mi_288 S, mi_290 S, mi_295 S, mi_297 S, mi_308 S, mi_306 S, rm_nh R, rm_np R, rm_nc R, rm_lat R, rm_ask R, rm_kin R, rm_mk R, rm_pg R, rm_ct R, rm_ac R, rm_ax R, rm_vl R, rm_skp R, rm_md R, rm_lm R, rm_thr R, rm_lf R, rm_cme R, z_0, z_1, z_2, z_3, z_4, z_5, z_6, z_7, z_8, z_10, z_16, z_17, z_31, z_63, z_64, z_400, nI_add, pk_mul, nI_eq, nI_leI, nI_ltI, bI_z, nI_m9, bI_m9, m_isOn S E R B, m_isKnown S E R B]
      rw [if_neg (by omega)]
      cases h1 : onB σ h p j w <;> cases h2 : knw σ h p j 6 <;> simp
theorem m_isUp (S : MS sh mm) (E : MD d mm) (R : RM σ d mm) (B : WB σ) {h p : Nat} (hh : h < 6) (hp : p < np σ) : fX7_isUp sh d mm (nI h) (nI p) = some (upB σ h p) := by
  have hB := B.2.1
  have hk := B.2.2.2.1 p hp
  unfold fX7_isUp fX7_isUp_b0 fX7_isUp_b16 upB
  have e0 := m_isUp_l S E R B (p := p) (w := 6) (v := 7) hh (by omega) (by omega) (Or.inl ⟨rfl, rfl⟩)
  have e1 := m_isUp_l S E R B (p := p) (w := 7) (v := 6) hh (by omega) (by omega) (Or.inr ⟨rfl, rfl⟩)
  simp (disch := omega) only [bd_v, on_v, on_0, mk_9 S, mg_289 S E, mg_291 S E, mg_292 S E, mg_293 S E, mg_294 S E, mg_296 S E, mg_298 S E, mg_299 S E, mg_300 S E, mg_301 S E, mg_302 S E, mg_303 S E, mg_304 S E, mg_305 S E, mg_307 S E, mg_309 S E, mg_310 S E, mg_311 S E, mg_312 S E, mg_313 S E, mg_314 S E, mg_315 S E, mA_1 S, mA_2 S, mA_3 S, mA_4 S, mA_5 S, mA_6 S, mA_7 S, mA_8 S, mA_9 S, mA_10 S, mA_11 S, mA_12 S, mA_13 S, mA_14 S, mA_15 S, mA_16 S, mA_17 S, mA_18 S, mA_19 S, mA_20 S, mA_21 S, mA_22 S, mi_288 S, mi_290 S, mi_295 S, mi_297 S, mi_308 S, mi_306 S, rm_nh R, rm_np R, rm_nc R, rm_lat R, rm_ask R, rm_kin R, rm_mk R, rm_pg R, rm_ct R, rm_ac R, rm_ax R, rm_vl R, rm_skp R, rm_md R, rm_lm R, rm_thr R, rm_lf R, rm_cme R, z_0, z_1, z_2, z_3, z_4, z_5, z_6, z_7, z_8, z_10, z_16, z_17, z_31, z_63, z_64, z_400, nI_add, pk_mul, nI_eq, nI_leI, nI_ltI, bI_z, nI_m9, bI_m9, e0, e1]
  by_cases h1 : kin σ p = 7 <;> simp [h1]
theorem m_telling (S : MS sh mm) (E : MD d mm) (R : RM σ d mm) (B : WB σ) {h p : Nat} (hh : h < 6) (hp : p < np σ) : fX7_telling sh d mm (nI h) (nI p) = some (oc (tel σ h p)) := by
  have hB := B.2.2.1
  have hB2 := B.2.1
  have hk := B.2.2.2.1 p hp
  refine lp_for (fun n a x => fX7_telling_b6 sh d n mm (nI h) (nI p) (oc a) x) (fun a => some (oc a)) (fun c a => if onB σ h p c 0 then (match a with
  | none => some c
  | some b => if aft σ c b = decide (kin σ p = 1) then a else some c) else a) (nc σ) (fun j a => ∀ b, a = some b → b < j) (fun j a hj ha => ?_) ?_ ?_ none (fun b hb => by cases hb) fu (by show nc σ < 100000; omega)
  · intro b
    cases h1 : onB σ h p j 0 with
    | false => intro e; have := ha b e; omega
    | true =>
      cases a with
      | none => intro e; cases e; omega
      | some a =>
        have := ha a rfl
        simp only [if_true]
        split <;> intro e <;> cases e <;> omega
  · intro n a _
    simp (disch := omega) only [fX7_telling_b6, bd_v, on_v, on_0, mk_9 S, mg_289 S E, mg_291 S E, mg_292 S E, mg_293 S E, mg_294 S E, mg_296 S E, mg_298 S E, mg_299 S E, mg_300 S E, mg_301 S E, mg_302 S E, mg_303 S E, mg_304 S E, mg_305 S E, mg_307 S E, mg_309 S E, mg_310 S E, mg_311 S E, mg_312 S E, mg_313 S E, mg_314 S E, mg_315 S E, mA_1 S, mA_2 S, mA_3 S, mA_4 S, mA_5 S, mA_6 S, mA_7 S, mA_8 S, mA_9 S, mA_10 S, mA_11 S, mA_12 S, mA_13 S, mA_14 S, mA_15 S, mA_16 S, mA_17 S, mA_18 S, mA_19 S, mA_20 S, mA_21 S, mA_22 S, mi_288 S, mi_290 S, mi_295 S, mi_297 S, mi_308 S, mi_306 S, rm_nh R, rm_np R, rm_nc R, rm_lat R, rm_ask R, rm_kin R, rm_mk R, rm_pg R, rm_ct R, rm_ac R, rm_ax R, rm_vl R, rm_skp R, rm_md R, rm_lm R, rm_thr R, rm_lf R, rm_cme R, z_0, z_1, z_2, z_3, z_4, z_5, z_6, z_7, z_8, z_10, z_16, z_17, z_31, z_63, z_64, z_400, nI_add, pk_mul, nI_eq, nI_leI, nI_ltI, bI_z, nI_m9, bI_m9]
    simp
  · intro n j a hj ha
    cases a with
    | none =>
      simp (disch := omega) only [fX7_telling_b6, fX7_telling_b63, oc, bd_v, on_v, on_0, mk_9 S, mg_289 S E, mg_291 S E, mg_292 S E, mg_293 S E, mg_294 S E, mg_296 S E, mg_298 S E, mg_299 S E, mg_300 S E, mg_301 S E, mg_302 S E, mg_303 S E, mg_304 S E, mg_305 S E, mg_307 S E, mg_309 S E, mg_310 S E, mg_311 S E, mg_312 S E, mg_313 S E, mg_314 S E, mg_315 S E, mA_1 S, mA_2 S, mA_3 S, mA_4 S, mA_5 S, mA_6 S, mA_7 S, mA_8 S, mA_9 S, mA_10 S, mA_11 S, mA_12 S, mA_13 S, mA_14 S, mA_15 S, mA_16 S, mA_17 S, mA_18 S, mA_19 S, mA_20 S, mA_21 S, mA_22 S, mi_288 S, mi_290 S, mi_295 S, mi_297 S, mi_308 S, mi_306 S, rm_nh R, rm_np R, rm_nc R, rm_lat R, rm_ask R, rm_kin R, rm_mk R, rm_pg R, rm_ct R, rm_ac R, rm_ax R, rm_vl R, rm_skp R, rm_md R, rm_lm R, rm_thr R, rm_lf R, rm_cme R, z_0, z_1, z_2, z_3, z_4, z_5, z_6, z_7, z_8, z_10, z_16, z_17, z_31, z_63, z_64, z_400, nI_add, pk_mul, nI_eq, nI_leI, nI_ltI, bI_z, nI_m9, bI_m9, m_isOn S E R B]
      rw [if_neg (by omega)]
      cases h1 : onB σ h p j 0 <;> simp
    | some b =>
      have hb := ha b rfl
      simp (disch := omega) only [fX7_telling_b6, fX7_telling_b63, fX7_telling_b55, oc, bd_v, on_v, on_0, mk_9 S, mg_289 S E, mg_291 S E, mg_292 S E, mg_293 S E, mg_294 S E, mg_296 S E, mg_298 S E, mg_299 S E, mg_300 S E, mg_301 S E, mg_302 S E, mg_303 S E, mg_304 S E, mg_305 S E, mg_307 S E, mg_309 S E, mg_310 S E, mg_311 S E, mg_312 S E, mg_313 S E, mg_314 S E, mg_315 S E, mA_1 S, mA_2 S, mA_3 S, mA_4 S, mA_5 S, mA_6 S, mA_7 S, mA_8 S, mA_9 S, mA_10 S, mA_11 S, mA_12 S, mA_13 S, mA_14 S, mA_15 S, mA_16 S, mA_17 S, mA_18 S, mA_19 S, mA_20 S, mA_21 S, mA_22 S, mi_288 S, mi_290 S, mi_295 S, mi_297 S, mi_308 S, mi_306 S, rm_nh R, rm_np R, rm_nc R, rm_lat R, rm_ask R, rm_kin R, rm_mk R, rm_pg R, rm_ct R, rm_ac R, rm_ax R, rm_vl R, rm_skp R, rm_md R, rm_lm R, rm_thr R, rm_lf R, rm_cme R, z_0, z_1, z_2, z_3, z_4, z_5, z_6, z_7, z_8, z_10, z_16, z_17, z_31, z_63, z_64, z_400, nI_add, pk_mul, nI_eq, nI_leI, nI_ltI, bI_z, nI_m9, bI_m9, m_isOn S E R B, m_isAfter S E R B]
      rw [if_neg (by omega)]
      cases h1 : onB σ h p j 0 <;> cases h2 : aft σ j b <;> by_cases h3 : kin σ p = 1 <;> simp [h3, bI, nI]
theorem m_nextReady (S : MS sh mm) (E : MD d mm) (R : RM σ d mm) (B : WB σ) {h : Nat} (hh : h < 6) : fX7_nextReady sh d mm (nI h) = some (oc (nxr σ h)) := by
  have hB := B.2.2.1
  refine lp_for (fun n a x => fX7_nextReady_b5 sh d n mm (nI h) (oc a) x) (fun a => some (oc a)) (fun c a => if wt σ h c && sub4 (kn σ c) (has σ h) then (match a with
  | none => some c
  | some b => if aft σ b c then some c else a) else a) (nc σ) (fun j a => ∀ b, a = some b → b < j) (fun j a hj ha => ?_) ?_ ?_ none (fun b hb => by cases hb) fu (by show nc σ < 100000; omega)
  · intro b
    cases h1 : wt σ h j && sub4 (kn σ j) (has σ h) with
    | false => intro e; have := ha b e; omega
    | true =>
      cases a with
      | none => intro e; cases e; omega
      | some a =>
        have := ha a rfl
        simp only [if_true]
        split <;> intro e <;> cases e <;> omega
  · intro n a _
    simp (disch := omega) only [fX7_nextReady_b5, bd_v, on_v, on_0, mk_9 S, mg_289 S E, mg_291 S E, mg_292 S E, mg_293 S E, mg_294 S E, mg_296 S E, mg_298 S E, mg_299 S E, mg_300 S E, mg_301 S E, mg_302 S E, mg_303 S E, mg_304 S E, mg_305 S E, mg_307 S E, mg_309 S E, mg_310 S E, mg_311 S E, mg_312 S E, mg_313 S E, mg_314 S E, mg_315 S E, mA_1 S, mA_2 S, mA_3 S, mA_4 S, mA_5 S, mA_6 S, mA_7 S, mA_8 S, mA_9 S, mA_10 S, mA_11 S, mA_12 S, mA_13 S, mA_14 S, mA_15 S, mA_16 S, mA_17 S, mA_18 S, mA_19 S, mA_20 S, mA_21 S, mA_22 S, mi_288 S, mi_290 S, mi_295 S, mi_297 S, mi_308 S, mi_306 S, rm_nh R, rm_np R, rm_nc R, rm_lat R, rm_ask R, rm_kin R, rm_mk R, rm_pg R, rm_ct R, rm_ac R, rm_ax R, rm_vl R, rm_skp R, rm_md R, rm_lm R, rm_thr R, rm_lf R, rm_cme R, z_0, z_1, z_2, z_3, z_4, z_5, z_6, z_7, z_8, z_10, z_16, z_17, z_31, z_63, z_64, z_400, nI_add, pk_mul, nI_eq, nI_leI, nI_ltI, bI_z, nI_m9, bI_m9]
    simp
  · intro n j a hj ha
    cases a with
    | none =>
      simp (disch := omega) only [fX7_nextReady_b5, fX7_nextReady_b39, oc, bd_v, on_v, on_0, mk_9 S, mg_289 S E, mg_291 S E, mg_292 S E, mg_293 S E, mg_294 S E, mg_296 S E, mg_298 S E, mg_299 S E, mg_300 S E, mg_301 S E, mg_302 S E, mg_303 S E, mg_304 S E, mg_305 S E, mg_307 S E, mg_309 S E, mg_310 S E, mg_311 S E, mg_312 S E, mg_313 S E, mg_314 S E, mg_315 S E, mA_1 S, mA_2 S, mA_3 S, mA_4 S, mA_5 S, mA_6 S, mA_7 S, mA_8 S, mA_9 S, mA_10 S, mA_11 S, mA_12 S, mA_13 S, mA_14 S, mA_15 S, mA_16 S, mA_17 S, mA_18 S, mA_19 S, mA_20 S, mA_21 S, mA_22 S, mi_288 S, mi_290 S, mi_295 S, mi_297 S, mi_308 S, mi_306 S, rm_nh R, rm_np R, rm_nc R, rm_lat R, rm_ask R, rm_kin R, rm_mk R, rm_pg R, rm_ct R, rm_ac R, rm_ax R, rm_vl R, rm_skp R, rm_md R, rm_lm R, rm_thr R, rm_lf R, rm_cme R, z_0, z_1, z_2, z_3, z_4, z_5, z_6, z_7, z_8, z_10, z_16, z_17, z_31, z_63, z_64, z_400, nI_add, pk_mul, nI_eq, nI_leI, nI_ltI, bI_z, nI_m9, bI_m9, m_isIn_wt S R, m_isReady S E R B]
      rw [if_neg (by omega)]
      cases h1 : wt σ h j <;> cases h2 : sub4 (kn σ j) (has σ h) <;> simp
    | some b =>
      have hb := ha b rfl
      simp (disch := omega) only [fX7_nextReady_b5, fX7_nextReady_b39, oc, bd_v, on_v, on_0, mk_9 S, mg_289 S E, mg_291 S E, mg_292 S E, mg_293 S E, mg_294 S E, mg_296 S E, mg_298 S E, mg_299 S E, mg_300 S E, mg_301 S E, mg_302 S E, mg_303 S E, mg_304 S E, mg_305 S E, mg_307 S E, mg_309 S E, mg_310 S E, mg_311 S E, mg_312 S E, mg_313 S E, mg_314 S E, mg_315 S E, mA_1 S, mA_2 S, mA_3 S, mA_4 S, mA_5 S, mA_6 S, mA_7 S, mA_8 S, mA_9 S, mA_10 S, mA_11 S, mA_12 S, mA_13 S, mA_14 S, mA_15 S, mA_16 S, mA_17 S, mA_18 S, mA_19 S, mA_20 S, mA_21 S, mA_22 S, mi_288 S, mi_290 S, mi_295 S, mi_297 S, mi_308 S, mi_306 S, rm_nh R, rm_np R, rm_nc R, rm_lat R, rm_ask R, rm_kin R, rm_mk R, rm_pg R, rm_ct R, rm_ac R, rm_ax R, rm_vl R, rm_skp R, rm_md R, rm_lm R, rm_thr R, rm_lf R, rm_cme R, z_0, z_1, z_2, z_3, z_4, z_5, z_6, z_7, z_8, z_10, z_16, z_17, z_31, z_63, z_64, z_400, nI_add, pk_mul, nI_eq, nI_leI, nI_ltI, bI_z, nI_m9, bI_m9, m_isIn_wt S R, m_isReady S E R B, m_isAfter S E R B]
      rw [if_neg (by omega)]
      cases h1 : wt σ h j <;> cases h2 : sub4 (kn σ j) (has σ h) <;> cases h3 : aft σ b j <;> simp
end
