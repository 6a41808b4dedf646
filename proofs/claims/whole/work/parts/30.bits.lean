/-! numbers and bits -/
def bitL (w : Int64) (i : Nat) : Bool := w.toBitVec.getLsbD i
theorem m_div {c d : Nat} (hc : c < 2 ^ 31) (h0 : 0 < d) (hd : d < 2 ^ 31) : nI c / nI d = nI (c / d) := pk_div hc h0 hd
theorem m_mod {c d : Nat} (hc : c < 2 ^ 31) (h0 : 0 < d) (hd : d < 2 ^ 31) : nI c - nI c / nI d * nI d = nI (c % d) := pk_rem hc h0 hd
theorem sh_amt : ∀ k, k < 64 → ((nI k).toInt64 &&& 63).toBitVec.smod 64 = BitVec.ofNat 64 k := by decide +kernel
theorem sh_amt2 {k : Nat} (h : k < 64) : (((nI k).toInt64 &&& 63).toBitVec.smod 64).toNat = k := by
  rw [sh_amt k h, BitVec.toNat_ofNat]; omega
theorem bv_shr (x s : Int64) : (x >>> s).toBitVec = x.toBitVec.sshiftRight' (s.toBitVec.smod 64) := rfl
theorem bv_shl (x s : Int64) : (x <<< s).toBitVec = x.toBitVec <<< (s.toBitVec.smod 64) := rfl
theorem bit_test (w : Int64) {k : Nat} (hk : k < 64) : ((w >>> ((nI k).toInt64 &&& 63)) &&& 1) = 1 ↔ bitL w k = true := by
  have h1 : ((w >>> ((nI k).toInt64 &&& 63)) &&& 1).toBitVec.getLsbD 0 = w.toBitVec.getLsbD k := by
    rw [Int64.toBitVec_and, BitVec.getLsbD_and, bv_shr]
    simp only [BitVec.sshiftRight', sh_amt2 hk]
    rw [BitVec.getLsbD_sshiftRight]
    simp [hk]
  constructor
  · intro h
    rw [h] at h1
    unfold bitL
    rw [← h1]
    decide
  · intro h
    unfold bitL at h
    rw [h] at h1
    apply Int64.toBitVec_inj.mp
    apply BitVec.eq_of_getLsbD_eq
    intro i hi
    cases i with
    | zero => rw [h1]; rfl
    | succ i =>
      rw [Int64.toBitVec_and, BitVec.getLsbD_and]
      have : (1 : Int64).toBitVec.getLsbD (i + 1) = false := by
        show (1#64).getLsbD (i + 1) = false
        simp [BitVec.getLsbD_one]
      rw [this, Bool.and_false]
theorem cmp0 (x y : Int64) : lg_cmp x y = 0 ↔ x = y := by
  unfold lg_cmp
  constructor
  · intro h
    by_cases h1 : x > y
    · simp [h1] at h
    · by_cases h2 : x = y
      · exact h2
      · simp [h1, h2] at h
  · intro h; subst h; simp
theorem bit_one {k j : Nat} (hk : k < 64) (hj : j < 64) : bitL ((1 : Int64) <<< ((nI k).toInt64 &&& 63)) j = decide (j = k) := by
  unfold bitL
  rw [bv_shl, sh_amt k hk]
  show ((1#64) <<< (BitVec.ofNat 64 k)).getLsbD j = _
  have h1 : (1#64) <<< (BitVec.ofNat 64 k) = BitVec.twoPow 64 k := by
    rw [BitVec.shiftLeft_eq', BitVec.toNat_ofNat, Nat.mod_eq_of_lt (by omega), BitVec.twoPow_eq]
  rw [h1, BitVec.getLsbD_twoPow]
  simp [hj, eq_comm]
  exact fun h => h ▸ hk
theorem bit_or (w v : Int64) (j : Nat) : bitL (w ||| v) j = (bitL w j || bitL v j) := by
  unfold bitL; rw [Int64.toBitVec_or, BitVec.getLsbD_or]
theorem bit_and (w v : Int64) (j : Nat) : bitL (w &&& v) j = (bitL w j && bitL v j) := by
  unfold bitL; rw [Int64.toBitVec_and, BitVec.getLsbD_and]
theorem bit_not (w : Int64) {j : Nat} (hj : j < 64) : bitL (w ^^^ (-1)) j = !bitL w j := by
  unfold bitL
  rw [Int64.toBitVec_xor, BitVec.getLsbD_xor]
  have : ((-1 : Int64)).toBitVec = BitVec.allOnes 64 := by decide
  rw [this, BitVec.getLsbD_allOnes]
  simp [hj]
theorem bit_ext {w v : Int64} (h : ∀ j, j < 64 → bitL w j = bitL v j) : w = v := by
  apply Int64.toBitVec_inj.mp
  apply BitVec.eq_of_getLsbD_eq
  intro i hi
  exact h i hi
theorem bit_0 (j : Nat) : bitL 0 j = false := by
  unfold bitL
  show (0#64).getLsbD j = false
  simp
theorem bit_sub (w v : Int64) : (w &&& (v ^^^ (-1))) = 0 ↔ ∀ j, j < 64 → bitL w j = true → bitL v j = true := by
  constructor
  · intro h j hj hw
    have h1 : bitL (w &&& (v ^^^ (-1))) j = false := by rw [h]; exact bit_0 j
    rw [bit_and, bit_not v hj, hw, Bool.true_and] at h1
    simpa using h1
  · intro h
    apply bit_ext
    intro j hj
    rw [bit_and, bit_not v hj, bit_0]
    cases hw : bitL w j with
    | false => rfl
    | true => rw [h j hj hw]; rfl
/-! reading what was written -/
theorem ix_nI {sh : Sh} {kd a k : Nat} (h1 : sh.1 a = kd) (h2 : k < sh.2 a) (h3 : k < 2 ^ 31) : ix sh kd a (nI k) = some k := by
  unfold ix
  rw [if_pos h1, if_neg (nI_pos h3), nI_clamp h3, if_neg (Nat.not_le.mpr h2)]
theorem aI_v {sh : Sh} {d : Dt} {kd a k : Nat} (h1 : sh.1 a = kd) (h2 : k < sh.2 a) (h3 : k < 2 ^ 31) : aI sh d kd a (nI k) = some (dai d a k) := by
  unfold aI; rw [ix_nI h1 h2 h3]; rfl
theorem aL_v {sh : Sh} {d : Dt} {kd a k : Nat} (h1 : sh.1 a = kd) (h2 : k < sh.2 a) (h3 : k < 2 ^ 31) : aL sh d kd a (nI k) = some (dal d a k) := by
  unfold aL; rw [ix_nI h1 h2 h3]; rfl
theorem aR_v {sh : Sh} {d : Dt} {kd a k : Nat} (h1 : sh.1 a = kd) (h2 : k < sh.2 a) (h3 : k < 2 ^ 31) : aR sh d kd a (nI k) = some (dar d a k) := by
  unfold aR; rw [ix_nI h1 h2 h3]; rfl
theorem sI_v {sh : Sh} {d : Dt} {kd a k : Nat} {v : Int32} (h1 : sh.1 a = kd) (h2 : k < sh.2 a) (h3 : k < 2 ^ 31) : sI sh d kd a (nI k) v = some (uAI d a k v) := by
  unfold sI; rw [ix_nI h1 h2 h3]; rfl
theorem sZ_v {sh : Sh} {d : Dt} {kd a k : Nat} {v : Int32} (h1 : sh.1 a = kd) (h2 : k < sh.2 a) (h3 : k < 2 ^ 31) : sZ sh d kd a (nI k) v = some (uAI d a k (vp_nar .boolean v)) := by
  unfold sZ; rw [ix_nI h1 h2 h3]; rfl
theorem sL_v {sh : Sh} {d : Dt} {kd a k : Nat} {v : Int64} (h1 : sh.1 a = kd) (h2 : k < sh.2 a) (h3 : k < 2 ^ 31) : sL sh d kd a (nI k) v = some (uAL d a k v) := by
  unfold sL; rw [ix_nI h1 h2 h3]; rfl
theorem sR_v {sh : Sh} {d : Dt} {kd a k : Nat} {v : Option Nat} (h1 : sh.1 a = kd) (h2 : k < sh.2 a) (h3 : k < 2 ^ 31) : sR sh d kd a (nI k) v = some (uAR d a k v) := by
  unfold sR; rw [ix_nI h1 h2 h3]; rfl
theorem gI_v {sh : Sh} {d : Dt} {kd k a : Nat} (h : sh.1 a = kd) : gI sh d kd k a = some (dfi d k a) := if_pos h
theorem gL_v {sh : Sh} {d : Dt} {kd k a : Nat} (h : sh.1 a = kd) : gL sh d kd k a = some (dfl d k a) := if_pos h
theorem gR_v {sh : Sh} {d : Dt} {kd k a : Nat} (h : sh.1 a = kd) : gR sh d kd k a = some (dfr d k a) := if_pos h
theorem pI_v {sh : Sh} {d : Dt} {kd k a : Nat} {v : Int32} (h : sh.1 a = kd) : pI sh d kd k a v = some (uI d k a v) := if_pos h
theorem pL_v {sh : Sh} {d : Dt} {kd k a : Nat} {v : Int64} (h : sh.1 a = kd) : pL sh d kd k a v = some (uL d k a v) := if_pos h
theorem pR_v {sh : Sh} {d : Dt} {kd k a : Nat} {v : Option Nat} (h : sh.1 a = kd) : pR sh d kd k a v = some (uR d k a v) := if_pos h
theorem kc_v {sh : Sh} {kd a : Nat} (h : sh.1 a = kd) : kc sh kd a = some () := if_pos h
/-! the maps behind the writes -/
theorem r_fi_I (d : Dt) (k a j b : Nat) (v : Int32) : dfi (uI d k a v) j b = if j = k ∧ b = a then v else dfi d j b := rfl
theorem r_fi_L (d : Dt) (k a : Nat) (v : Int64) : dfi (uL d k a v) = dfi d := rfl
theorem r_fi_R (d : Dt) (k a : Nat) (v : Option Nat) : dfi (uR d k a v) = dfi d := rfl
theorem r_fi_AI (d : Dt) (k a : Nat) (v : Int32) : dfi (uAI d k a v) = dfi d := rfl
theorem r_fi_AL (d : Dt) (k a : Nat) (v : Int64) : dfi (uAL d k a v) = dfi d := rfl
theorem r_fi_AR (d : Dt) (k a : Nat) (v : Option Nat) : dfi (uAR d k a v) = dfi d := rfl
theorem r_fl_L (d : Dt) (k a j b : Nat) (v : Int64) : dfl (uL d k a v) j b = if j = k ∧ b = a then v else dfl d j b := rfl
theorem r_fl_I (d : Dt) (k a : Nat) (v : Int32) : dfl (uI d k a v) = dfl d := rfl
theorem r_fl_R (d : Dt) (k a : Nat) (v : Option Nat) : dfl (uR d k a v) = dfl d := rfl
theorem r_fl_AI (d : Dt) (k a : Nat) (v : Int32) : dfl (uAI d k a v) = dfl d := rfl
theorem r_fl_AL (d : Dt) (k a : Nat) (v : Int64) : dfl (uAL d k a v) = dfl d := rfl
theorem r_fl_AR (d : Dt) (k a : Nat) (v : Option Nat) : dfl (uAR d k a v) = dfl d := rfl
theorem r_fr_R (d : Dt) (k a j b : Nat) (v : Option Nat) : dfr (uR d k a v) j b = if j = k ∧ b = a then v else dfr d j b := rfl
theorem r_fr_I (d : Dt) (k a : Nat) (v : Int32) : dfr (uI d k a v) = dfr d := rfl
theorem r_fr_L (d : Dt) (k a : Nat) (v : Int64) : dfr (uL d k a v) = dfr d := rfl
theorem r_fr_AI (d : Dt) (k a : Nat) (v : Int32) : dfr (uAI d k a v) = dfr d := rfl
theorem r_fr_AL (d : Dt) (k a : Nat) (v : Int64) : dfr (uAL d k a v) = dfr d := rfl
theorem r_fr_AR (d : Dt) (k a : Nat) (v : Option Nat) : dfr (uAR d k a v) = dfr d := rfl
theorem r_ai_AI (d : Dt) (a i b j : Nat) (v : Int32) : dai (uAI d a i v) b j = if b = a ∧ j = i then v else dai d b j := rfl
theorem r_ai_I (d : Dt) (k a : Nat) (v : Int32) : dai (uI d k a v) = dai d := rfl
theorem r_ai_L (d : Dt) (k a : Nat) (v : Int64) : dai (uL d k a v) = dai d := rfl
theorem r_ai_R (d : Dt) (k a : Nat) (v : Option Nat) : dai (uR d k a v) = dai d := rfl
theorem r_ai_AL (d : Dt) (k a : Nat) (v : Int64) : dai (uAL d k a v) = dai d := rfl
theorem r_ai_AR (d : Dt) (k a : Nat) (v : Option Nat) : dai (uAR d k a v) = dai d := rfl
theorem r_al_AL (d : Dt) (a i b j : Nat) (v : Int64) : dal (uAL d a i v) b j = if b = a ∧ j = i then v else dal d b j := rfl
theorem r_al_I (d : Dt) (k a : Nat) (v : Int32) : dal (uI d k a v) = dal d := rfl
theorem r_al_L (d : Dt) (k a : Nat) (v : Int64) : dal (uL d k a v) = dal d := rfl
theorem r_al_R (d : Dt) (k a : Nat) (v : Option Nat) : dal (uR d k a v) = dal d := rfl
theorem r_al_AI (d : Dt) (k a : Nat) (v : Int32) : dal (uAI d k a v) = dal d := rfl
theorem r_al_AR (d : Dt) (k a : Nat) (v : Option Nat) : dal (uAR d k a v) = dal d := rfl
theorem r_ar_AR (d : Dt) (a i b j : Nat) (v : Option Nat) : dar (uAR d a i v) b j = if b = a ∧ j = i then v else dar d b j := rfl
theorem r_ar_I (d : Dt) (k a : Nat) (v : Int32) : dar (uI d k a v) = dar d := rfl
theorem r_ar_L (d : Dt) (k a : Nat) (v : Int64) : dar (uL d k a v) = dar d := rfl
theorem r_ar_R (d : Dt) (k a : Nat) (v : Option Nat) : dar (uR d k a v) = dar d := rfl
theorem r_ar_AI (d : Dt) (k a : Nat) (v : Int32) : dar (uAI d k a v) = dar d := rfl
theorem r_ar_AL (d : Dt) (k a : Nat) (v : Int64) : dar (uAL d k a v) = dar d := rfl
theorem bI_0 (b : Bool) : bI b = 0 ↔ b = false := by cases b <;> decide
theorem nar_z (b : Bool) : vp_nar .boolean (bI b) = bI b := by cases b <;> rfl
