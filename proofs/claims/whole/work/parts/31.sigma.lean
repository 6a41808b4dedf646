/-! the reference's world: its object at mm, its arrays behind it -/
def mKd (j : Nat) : Nat := ([0, 20, 21, 21, 22, 20, 20, 20, 20, 20, 20, 20, 20, 21, 21, 20, 21, 21, 20, 22, 21, 21, 22] : List Nat).getD j 0
def mLen (j : Nat) : Nat := ([0, 6, 42, 42, 60, 6, 10, 400, 400, 400, 400, 400, 400, 400, 2800, 400, 404, 404, 6, 96, 96, 16, 16] : List Nat).getD j 0
def mFc (j : Nat) : Nat := ([0, 289, 291, 292, 293, 294, 296, 298, 299, 300, 301, 302, 303, 304, 305, 307, 309, 310, 311, 312, 313, 314, 315] : List Nat).getD j 0
def MS (sh : Sh) (mm : Nat) : Prop := sh.1 mm = 9 ∧ ∀ j, 1 ≤ j → j ≤ 22 → sh.1 (mm + j) = mKd j ∧ sh.2 (mm + j) = mLen j
def MD (d : Dt) (mm : Nat) : Prop := ∀ j, 1 ≤ j → j ≤ 22 → dfr d (mFc j) mm = some (mm + j)
theorem md_I {d : Dt} {mm k a : Nat} {v : Int32} (h : MD d mm) : MD (uI d k a v) mm := h
theorem md_L {d : Dt} {mm k a : Nat} {v : Int64} (h : MD d mm) : MD (uL d k a v) mm := h
theorem md_AI {d : Dt} {mm k a : Nat} {v : Int32} (h : MD d mm) : MD (uAI d k a v) mm := h
theorem md_AL {d : Dt} {mm k a : Nat} {v : Int64} (h : MD d mm) : MD (uAL d k a v) mm := h
section
variable {sh : Sh} {d : Dt} {mm : Nat}
theorem mk_9 (S : MS sh mm) : kc sh 9 mm = some () := kc_v S.1
theorem mg_289 (S : MS sh mm) (E : MD d mm) : gR sh d 9 289 mm = some (some (mm + 1)) := by rw [gR_v S.1]; exact congrArg some (E 1 (by decide) (by decide))
theorem mA_1 (S : MS sh mm) (d : Dt) {k : Nat} (h : k < 6) : aI sh d 20 (mm + 1) (nI k) = some (dai d (mm + 1) k) := aI_v (S.2 1 (by decide) (by decide)).1 (by rw [(S.2 1 (by decide) (by decide)).2]; exact h) (by omega)
theorem mW_1 (S : MS sh mm) (d : Dt) {k : Nat} (v : Int32) (h : k < 6) : sI sh d 20 (mm + 1) (nI k) v = some (uAI d (mm + 1) k v) := sI_v (S.2 1 (by decide) (by decide)).1 (by rw [(S.2 1 (by decide) (by decide)).2]; exact h) (by omega)
theorem mg_291 (S : MS sh mm) (E : MD d mm) : gR sh d 9 291 mm = some (some (mm + 2)) := by rw [gR_v S.1]; exact congrArg some (E 2 (by decide) (by decide))
theorem mA_2 (S : MS sh mm) (d : Dt) {k : Nat} (h : k < 42) : aL sh d 21 (mm + 2) (nI k) = some (dal d (mm + 2) k) := aL_v (S.2 2 (by decide) (by decide)).1 (by rw [(S.2 2 (by decide) (by decide)).2]; exact h) (by omega)
theorem mW_2 (S : MS sh mm) (d : Dt) {k : Nat} (v : Int64) (h : k < 42) : sL sh d 21 (mm + 2) (nI k) v = some (uAL d (mm + 2) k v) := sL_v (S.2 2 (by decide) (by decide)).1 (by rw [(S.2 2 (by decide) (by decide)).2]; exact h) (by omega)
theorem mg_292 (S : MS sh mm) (E : MD d mm) : gR sh d 9 292 mm = some (some (mm + 3)) := by rw [gR_v S.1]; exact congrArg some (E 3 (by decide) (by decide))
theorem mA_3 (S : MS sh mm) (d : Dt) {k : Nat} (h : k < 42) : aL sh d 21 (mm + 3) (nI k) = some (dal d (mm + 3) k) := aL_v (S.2 3 (by decide) (by decide)).1 (by rw [(S.2 3 (by decide) (by decide)).2]; exact h) (by omega)
theorem mW_3 (S : MS sh mm) (d : Dt) {k : Nat} (v : Int64) (h : k < 42) : sL sh d 21 (mm + 3) (nI k) v = some (uAL d (mm + 3) k v) := sL_v (S.2 3 (by decide) (by decide)).1 (by rw [(S.2 3 (by decide) (by decide)).2]; exact h) (by omega)
theorem mg_293 (S : MS sh mm) (E : MD d mm) : gR sh d 9 293 mm = some (some (mm + 4)) := by rw [gR_v S.1]; exact congrArg some (E 4 (by decide) (by decide))
theorem mA_4 (S : MS sh mm) (d : Dt) {k : Nat} (h : k < 60) : aI sh d 22 (mm + 4) (nI k) = some (dai d (mm + 4) k) := aI_v (S.2 4 (by decide) (by decide)).1 (by rw [(S.2 4 (by decide) (by decide)).2]; exact h) (by omega)
theorem mW_4 (S : MS sh mm) (d : Dt) {k : Nat} (v : Int32) (h : k < 60) : sZ sh d 22 (mm + 4) (nI k) v = some (uAI d (mm + 4) k (vp_nar .boolean v)) := sZ_v (S.2 4 (by decide) (by decide)).1 (by rw [(S.2 4 (by decide) (by decide)).2]; exact h) (by omega)
theorem mg_294 (S : MS sh mm) (E : MD d mm) : gR sh d 9 294 mm = some (some (mm + 5)) := by rw [gR_v S.1]; exact congrArg some (E 5 (by decide) (by decide))
theorem mA_5 (S : MS sh mm) (d : Dt) {k : Nat} (h : k < 6) : aI sh d 20 (mm + 5) (nI k) = some (dai d (mm + 5) k) := aI_v (S.2 5 (by decide) (by decide)).1 (by rw [(S.2 5 (by decide) (by decide)).2]; exact h) (by omega)
theorem mW_5 (S : MS sh mm) (d : Dt) {k : Nat} (v : Int32) (h : k < 6) : sI sh d 20 (mm + 5) (nI k) v = some (uAI d (mm + 5) k v) := sI_v (S.2 5 (by decide) (by decide)).1 (by rw [(S.2 5 (by decide) (by decide)).2]; exact h) (by omega)
theorem mg_296 (S : MS sh mm) (E : MD d mm) : gR sh d 9 296 mm = some (some (mm + 6)) := by rw [gR_v S.1]; exact congrArg some (E 6 (by decide) (by decide))
theorem mA_6 (S : MS sh mm) (d : Dt) {k : Nat} (h : k < 10) : aI sh d 20 (mm + 6) (nI k) = some (dai d (mm + 6) k) := aI_v (S.2 6 (by decide) (by decide)).1 (by rw [(S.2 6 (by decide) (by decide)).2]; exact h) (by omega)
theorem mW_6 (S : MS sh mm) (d : Dt) {k : Nat} (v : Int32) (h : k < 10) : sI sh d 20 (mm + 6) (nI k) v = some (uAI d (mm + 6) k v) := sI_v (S.2 6 (by decide) (by decide)).1 (by rw [(S.2 6 (by decide) (by decide)).2]; exact h) (by omega)
theorem mg_298 (S : MS sh mm) (E : MD d mm) : gR sh d 9 298 mm = some (some (mm + 7)) := by rw [gR_v S.1]; exact congrArg some (E 7 (by decide) (by decide))
theorem mA_7 (S : MS sh mm) (d : Dt) {k : Nat} (h : k < 400) : aI sh d 20 (mm + 7) (nI k) = some (dai d (mm + 7) k) := aI_v (S.2 7 (by decide) (by decide)).1 (by rw [(S.2 7 (by decide) (by decide)).2]; exact h) (by omega)
theorem mW_7 (S : MS sh mm) (d : Dt) {k : Nat} (v : Int32) (h : k < 400) : sI sh d 20 (mm + 7) (nI k) v = some (uAI d (mm + 7) k v) := sI_v (S.2 7 (by decide) (by decide)).1 (by rw [(S.2 7 (by decide) (by decide)).2]; exact h) (by omega)
theorem mg_299 (S : MS sh mm) (E : MD d mm) : gR sh d 9 299 mm = some (some (mm + 8)) := by rw [gR_v S.1]; exact congrArg some (E 8 (by decide) (by decide))
theorem mA_8 (S : MS sh mm) (d : Dt) {k : Nat} (h : k < 400) : aI sh d 20 (mm + 8) (nI k) = some (dai d (mm + 8) k) := aI_v (S.2 8 (by decide) (by decide)).1 (by rw [(S.2 8 (by decide) (by decide)).2]; exact h) (by omega)
theorem mW_8 (S : MS sh mm) (d : Dt) {k : Nat} (v : Int32) (h : k < 400) : sI sh d 20 (mm + 8) (nI k) v = some (uAI d (mm + 8) k v) := sI_v (S.2 8 (by decide) (by decide)).1 (by rw [(S.2 8 (by decide) (by decide)).2]; exact h) (by omega)
theorem mg_300 (S : MS sh mm) (E : MD d mm) : gR sh d 9 300 mm = some (some (mm + 9)) := by rw [gR_v S.1]; exact congrArg some (E 9 (by decide) (by decide))
theorem mA_9 (S : MS sh mm) (d : Dt) {k : Nat} (h : k < 400) : aI sh d 20 (mm + 9) (nI k) = some (dai d (mm + 9) k) := aI_v (S.2 9 (by decide) (by decide)).1 (by rw [(S.2 9 (by decide) (by decide)).2]; exact h) (by omega)
theorem mW_9 (S : MS sh mm) (d : Dt) {k : Nat} (v : Int32) (h : k < 400) : sI sh d 20 (mm + 9) (nI k) v = some (uAI d (mm + 9) k v) := sI_v (S.2 9 (by decide) (by decide)).1 (by rw [(S.2 9 (by decide) (by decide)).2]; exact h) (by omega)
theorem mg_301 (S : MS sh mm) (E : MD d mm) : gR sh d 9 301 mm = some (some (mm + 10)) := by rw [gR_v S.1]; exact congrArg some (E 10 (by decide) (by decide))
theorem mA_10 (S : MS sh mm) (d : Dt) {k : Nat} (h : k < 400) : aI sh d 20 (mm + 10) (nI k) = some (dai d (mm + 10) k) := aI_v (S.2 10 (by decide) (by decide)).1 (by rw [(S.2 10 (by decide) (by decide)).2]; exact h) (by omega)
theorem mW_10 (S : MS sh mm) (d : Dt) {k : Nat} (v : Int32) (h : k < 400) : sI sh d 20 (mm + 10) (nI k) v = some (uAI d (mm + 10) k v) := sI_v (S.2 10 (by decide) (by decide)).1 (by rw [(S.2 10 (by decide) (by decide)).2]; exact h) (by omega)
theorem mg_302 (S : MS sh mm) (E : MD d mm) : gR sh d 9 302 mm = some (some (mm + 11)) := by rw [gR_v S.1]; exact congrArg some (E 11 (by decide) (by decide))
theorem mA_11 (S : MS sh mm) (d : Dt) {k : Nat} (h : k < 400) : aI sh d 20 (mm + 11) (nI k) = some (dai d (mm + 11) k) := aI_v (S.2 11 (by decide) (by decide)).1 (by rw [(S.2 11 (by decide) (by decide)).2]; exact h) (by omega)
theorem mW_11 (S : MS sh mm) (d : Dt) {k : Nat} (v : Int32) (h : k < 400) : sI sh d 20 (mm + 11) (nI k) v = some (uAI d (mm + 11) k v) := sI_v (S.2 11 (by decide) (by decide)).1 (by rw [(S.2 11 (by decide) (by decide)).2]; exact h) (by omega)
theorem mg_303 (S : MS sh mm) (E : MD d mm) : gR sh d 9 303 mm = some (some (mm + 12)) := by rw [gR_v S.1]; exact congrArg some (E 12 (by decide) (by decide))
theorem mA_12 (S : MS sh mm) (d : Dt) {k : Nat} (h : k < 400) : aI sh d 20 (mm + 12) (nI k) = some (dai d (mm + 12) k) := aI_v (S.2 12 (by decide) (by decide)).1 (by rw [(S.2 12 (by decide) (by decide)).2]; exact h) (by omega)
theorem mW_12 (S : MS sh mm) (d : Dt) {k : Nat} (v : Int32) (h : k < 400) : sI sh d 20 (mm + 12) (nI k) v = some (uAI d (mm + 12) k v) := sI_v (S.2 12 (by decide) (by decide)).1 (by rw [(S.2 12 (by decide) (by decide)).2]; exact h) (by omega)
theorem mg_304 (S : MS sh mm) (E : MD d mm) : gR sh d 9 304 mm = some (some (mm + 13)) := by rw [gR_v S.1]; exact congrArg some (E 13 (by decide) (by decide))
theorem mA_13 (S : MS sh mm) (d : Dt) {k : Nat} (h : k < 400) : aL sh d 21 (mm + 13) (nI k) = some (dal d (mm + 13) k) := aL_v (S.2 13 (by decide) (by decide)).1 (by rw [(S.2 13 (by decide) (by decide)).2]; exact h) (by omega)
theorem mW_13 (S : MS sh mm) (d : Dt) {k : Nat} (v : Int64) (h : k < 400) : sL sh d 21 (mm + 13) (nI k) v = some (uAL d (mm + 13) k v) := sL_v (S.2 13 (by decide) (by decide)).1 (by rw [(S.2 13 (by decide) (by decide)).2]; exact h) (by omega)
theorem mg_305 (S : MS sh mm) (E : MD d mm) : gR sh d 9 305 mm = some (some (mm + 14)) := by rw [gR_v S.1]; exact congrArg some (E 14 (by decide) (by decide))
theorem mA_14 (S : MS sh mm) (d : Dt) {k : Nat} (h : k < 2800) : aL sh d 21 (mm + 14) (nI k) = some (dal d (mm + 14) k) := aL_v (S.2 14 (by decide) (by decide)).1 (by rw [(S.2 14 (by decide) (by decide)).2]; exact h) (by omega)
theorem mW_14 (S : MS sh mm) (d : Dt) {k : Nat} (v : Int64) (h : k < 2800) : sL sh d 21 (mm + 14) (nI k) v = some (uAL d (mm + 14) k v) := sL_v (S.2 14 (by decide) (by decide)).1 (by rw [(S.2 14 (by decide) (by decide)).2]; exact h) (by omega)
theorem mg_307 (S : MS sh mm) (E : MD d mm) : gR sh d 9 307 mm = some (some (mm + 15)) := by rw [gR_v S.1]; exact congrArg some (E 15 (by decide) (by decide))
theorem mA_15 (S : MS sh mm) (d : Dt) {k : Nat} (h : k < 400) : aI sh d 20 (mm + 15) (nI k) = some (dai d (mm + 15) k) := aI_v (S.2 15 (by decide) (by decide)).1 (by rw [(S.2 15 (by decide) (by decide)).2]; exact h) (by omega)
theorem mW_15 (S : MS sh mm) (d : Dt) {k : Nat} (v : Int32) (h : k < 400) : sI sh d 20 (mm + 15) (nI k) v = some (uAI d (mm + 15) k v) := sI_v (S.2 15 (by decide) (by decide)).1 (by rw [(S.2 15 (by decide) (by decide)).2]; exact h) (by omega)
theorem mg_309 (S : MS sh mm) (E : MD d mm) : gR sh d 9 309 mm = some (some (mm + 16)) := by rw [gR_v S.1]; exact congrArg some (E 16 (by decide) (by decide))
theorem mA_16 (S : MS sh mm) (d : Dt) {k : Nat} (h : k < 404) : aL sh d 21 (mm + 16) (nI k) = some (dal d (mm + 16) k) := aL_v (S.2 16 (by decide) (by decide)).1 (by rw [(S.2 16 (by decide) (by decide)).2]; exact h) (by omega)
theorem mW_16 (S : MS sh mm) (d : Dt) {k : Nat} (v : Int64) (h : k < 404) : sL sh d 21 (mm + 16) (nI k) v = some (uAL d (mm + 16) k v) := sL_v (S.2 16 (by decide) (by decide)).1 (by rw [(S.2 16 (by decide) (by decide)).2]; exact h) (by omega)
theorem mg_310 (S : MS sh mm) (E : MD d mm) : gR sh d 9 310 mm = some (some (mm + 17)) := by rw [gR_v S.1]; exact congrArg some (E 17 (by decide) (by decide))
theorem mA_17 (S : MS sh mm) (d : Dt) {k : Nat} (h : k < 404) : aL sh d 21 (mm + 17) (nI k) = some (dal d (mm + 17) k) := aL_v (S.2 17 (by decide) (by decide)).1 (by rw [(S.2 17 (by decide) (by decide)).2]; exact h) (by omega)
theorem mW_17 (S : MS sh mm) (d : Dt) {k : Nat} (v : Int64) (h : k < 404) : sL sh d 21 (mm + 17) (nI k) v = some (uAL d (mm + 17) k v) := sL_v (S.2 17 (by decide) (by decide)).1 (by rw [(S.2 17 (by decide) (by decide)).2]; exact h) (by omega)
theorem mg_311 (S : MS sh mm) (E : MD d mm) : gR sh d 9 311 mm = some (some (mm + 18)) := by rw [gR_v S.1]; exact congrArg some (E 18 (by decide) (by decide))
theorem mA_18 (S : MS sh mm) (d : Dt) {k : Nat} (h : k < 6) : aI sh d 20 (mm + 18) (nI k) = some (dai d (mm + 18) k) := aI_v (S.2 18 (by decide) (by decide)).1 (by rw [(S.2 18 (by decide) (by decide)).2]; exact h) (by omega)
theorem mW_18 (S : MS sh mm) (d : Dt) {k : Nat} (v : Int32) (h : k < 6) : sI sh d 20 (mm + 18) (nI k) v = some (uAI d (mm + 18) k v) := sI_v (S.2 18 (by decide) (by decide)).1 (by rw [(S.2 18 (by decide) (by decide)).2]; exact h) (by omega)
theorem mg_312 (S : MS sh mm) (E : MD d mm) : gR sh d 9 312 mm = some (some (mm + 19)) := by rw [gR_v S.1]; exact congrArg some (E 19 (by decide) (by decide))
theorem mA_19 (S : MS sh mm) (d : Dt) {k : Nat} (h : k < 96) : aI sh d 22 (mm + 19) (nI k) = some (dai d (mm + 19) k) := aI_v (S.2 19 (by decide) (by decide)).1 (by rw [(S.2 19 (by decide) (by decide)).2]; exact h) (by omega)
theorem mW_19 (S : MS sh mm) (d : Dt) {k : Nat} (v : Int32) (h : k < 96) : sZ sh d 22 (mm + 19) (nI k) v = some (uAI d (mm + 19) k (vp_nar .boolean v)) := sZ_v (S.2 19 (by decide) (by decide)).1 (by rw [(S.2 19 (by decide) (by decide)).2]; exact h) (by omega)
theorem mg_313 (S : MS sh mm) (E : MD d mm) : gR sh d 9 313 mm = some (some (mm + 20)) := by rw [gR_v S.1]; exact congrArg some (E 20 (by decide) (by decide))
theorem mA_20 (S : MS sh mm) (d : Dt) {k : Nat} (h : k < 96) : aL sh d 21 (mm + 20) (nI k) = some (dal d (mm + 20) k) := aL_v (S.2 20 (by decide) (by decide)).1 (by rw [(S.2 20 (by decide) (by decide)).2]; exact h) (by omega)
theorem mW_20 (S : MS sh mm) (d : Dt) {k : Nat} (v : Int64) (h : k < 96) : sL sh d 21 (mm + 20) (nI k) v = some (uAL d (mm + 20) k v) := sL_v (S.2 20 (by decide) (by decide)).1 (by rw [(S.2 20 (by decide) (by decide)).2]; exact h) (by omega)
theorem mg_314 (S : MS sh mm) (E : MD d mm) : gR sh d 9 314 mm = some (some (mm + 21)) := by rw [gR_v S.1]; exact congrArg some (E 21 (by decide) (by decide))
theorem mA_21 (S : MS sh mm) (d : Dt) {k : Nat} (h : k < 16) : aL sh d 21 (mm + 21) (nI k) = some (dal d (mm + 21) k) := aL_v (S.2 21 (by decide) (by decide)).1 (by rw [(S.2 21 (by decide) (by decide)).2]; exact h) (by omega)
theorem mW_21 (S : MS sh mm) (d : Dt) {k : Nat} (v : Int64) (h : k < 16) : sL sh d 21 (mm + 21) (nI k) v = some (uAL d (mm + 21) k v) := sL_v (S.2 21 (by decide) (by decide)).1 (by rw [(S.2 21 (by decide) (by decide)).2]; exact h) (by omega)
theorem mg_315 (S : MS sh mm) (E : MD d mm) : gR sh d 9 315 mm = some (some (mm + 22)) := by rw [gR_v S.1]; exact congrArg some (E 22 (by decide) (by decide))
theorem mA_22 (S : MS sh mm) (d : Dt) {k : Nat} (h : k < 16) : aI sh d 22 (mm + 22) (nI k) = some (dai d (mm + 22) k) := aI_v (S.2 22 (by decide) (by decide)).1 (by rw [(S.2 22 (by decide) (by decide)).2]; exact h) (by omega)
theorem mW_22 (S : MS sh mm) (d : Dt) {k : Nat} (v : Int32) (h : k < 16) : sZ sh d 22 (mm + 22) (nI k) v = some (uAI d (mm + 22) k (vp_nar .boolean v)) := sZ_v (S.2 22 (by decide) (by decide)).1 (by rw [(S.2 22 (by decide) (by decide)).2]; exact h) (by omega)
theorem mi_288 (S : MS sh mm) (d : Dt) : gI sh d 9 288 mm = some (dfi d 288 mm) := gI_v S.1
theorem mp_288 (S : MS sh mm) (d : Dt) (v : Int32) : pI sh d 9 288 mm v = some (uI d 288 mm v) := pI_v S.1
theorem mi_290 (S : MS sh mm) (d : Dt) : gI sh d 9 290 mm = some (dfi d 290 mm) := gI_v S.1
theorem mp_290 (S : MS sh mm) (d : Dt) (v : Int32) : pI sh d 9 290 mm v = some (uI d 290 mm v) := pI_v S.1
theorem mi_295 (S : MS sh mm) (d : Dt) : gI sh d 9 295 mm = some (dfi d 295 mm) := gI_v S.1
theorem mp_295 (S : MS sh mm) (d : Dt) (v : Int32) : pI sh d 9 295 mm v = some (uI d 295 mm v) := pI_v S.1
theorem mi_297 (S : MS sh mm) (d : Dt) : gI sh d 9 297 mm = some (dfi d 297 mm) := gI_v S.1
theorem mp_297 (S : MS sh mm) (d : Dt) (v : Int32) : pI sh d 9 297 mm v = some (uI d 297 mm v) := pI_v S.1
theorem mi_308 (S : MS sh mm) (d : Dt) : gI sh d 9 308 mm = some (dfi d 308 mm) := gI_v S.1
theorem mp_308 (S : MS sh mm) (d : Dt) (v : Int32) : pI sh d 9 308 mm v = some (uI d 308 mm v) := pI_v S.1
theorem mi_306 (S : MS sh mm) (d : Dt) : gL sh d 9 306 mm = some (dfl d 306 mm) := gL_v S.1
theorem mp_306 (S : MS sh mm) (d : Dt) (v : Int64) : pL sh d 9 306 mm v = some (uL d 306 mm v) := pL_v S.1
end
/-! the state, as mathematics -/
abbrev St : Type := (((((Nat × Nat) × Nat) × ((Nat × (Nat → Nat)) × (Nat → Nat))) × ((((Nat → Nat) × (Nat → Nat)) × (Nat → Nat)) × (((Nat → Nat) × (Nat → Nat → Nat)) × (Nat → Nat)))) × (((((Nat → Nat → Nat) × (Nat → Nat)) × (Nat → Nat)) × (((Nat → Nat) × (Nat → Nat)) × Int64)) × ((((Nat → Int64) × (Nat → Nat → Int64)) × (Nat → Nat → Bool)) × ((Nat → Nat → Bool) × (Nat → Nat → Bool)))))
def nh (σ : St) : Nat := σ.1.1.1.1.1
def np (σ : St) : Nat := σ.1.1.1.1.2
def nc (σ : St) : Nat := σ.1.1.1.2
def lat (σ : St) : Nat := σ.1.1.2.1.1
def kin (σ : St) : Nat → Nat := σ.1.1.2.1.2
def mk (σ : St) : Nat → Nat := σ.1.1.2.2
def pg (σ : St) : Nat → Nat := σ.1.2.1.1.1
def ct (σ : St) : Nat → Nat := σ.1.2.1.1.2
def ac (σ : St) : Nat → Nat := σ.1.2.1.2
def ax (σ : St) : Nat → Nat := σ.1.2.2.1.1
def ku (σ : St) : Nat → Nat → Nat := σ.1.2.2.1.2
def od (σ : St) : Nat → Nat := σ.1.2.2.2
def up (σ : St) : Nat → Nat → Nat := σ.2.1.1.1.1
def lm (σ : St) : Nat → Nat := σ.2.1.1.1.2
def cme (σ : St) : Nat → Nat := σ.2.1.1.2
def gc (σ : St) : Nat → Nat := σ.2.1.2.1.1
def md (σ : St) : Nat → Nat := σ.2.1.2.1.2
def ask (σ : St) : Int64 := σ.2.1.2.2
def vl (σ : St) : Nat → Int64 := σ.2.2.1.1.1
def lf (σ : St) : Nat → Nat → Int64 := σ.2.2.1.1.2
def wt (σ : St) : Nat → Nat → Bool := σ.2.2.1.2
def skp (σ : St) : Nat → Nat → Bool := σ.2.2.2.1
def thr (σ : St) : Nat → Nat → Bool := σ.2.2.2.2
def s_nh (σ : St) (v : Nat) : St := (((((v, σ.1.1.1.1.2), σ.1.1.1.2), σ.1.1.2), σ.1.2), σ.2)
def s_np (σ : St) (v : Nat) : St := (((((σ.1.1.1.1.1, v), σ.1.1.1.2), σ.1.1.2), σ.1.2), σ.2)
def s_nc (σ : St) (v : Nat) : St := ((((σ.1.1.1.1, v), σ.1.1.2), σ.1.2), σ.2)
def s_lat (σ : St) (v : Nat) : St := (((σ.1.1.1, ((v, σ.1.1.2.1.2), σ.1.1.2.2)), σ.1.2), σ.2)
def s_kin (σ : St) (v : Nat → Nat) : St := (((σ.1.1.1, ((σ.1.1.2.1.1, v), σ.1.1.2.2)), σ.1.2), σ.2)
def s_mk (σ : St) (v : Nat → Nat) : St := (((σ.1.1.1, (σ.1.1.2.1, v)), σ.1.2), σ.2)
def s_pg (σ : St) (v : Nat → Nat) : St := ((σ.1.1, (((v, σ.1.2.1.1.2), σ.1.2.1.2), σ.1.2.2)), σ.2)
def s_ct (σ : St) (v : Nat → Nat) : St := ((σ.1.1, (((σ.1.2.1.1.1, v), σ.1.2.1.2), σ.1.2.2)), σ.2)
def s_ac (σ : St) (v : Nat → Nat) : St := ((σ.1.1, ((σ.1.2.1.1, v), σ.1.2.2)), σ.2)
def s_ax (σ : St) (v : Nat → Nat) : St := ((σ.1.1, (σ.1.2.1, ((v, σ.1.2.2.1.2), σ.1.2.2.2))), σ.2)
def s_ku (σ : St) (v : Nat → Nat → Nat) : St := ((σ.1.1, (σ.1.2.1, ((σ.1.2.2.1.1, v), σ.1.2.2.2))), σ.2)
def s_od (σ : St) (v : Nat → Nat) : St := ((σ.1.1, (σ.1.2.1, (σ.1.2.2.1, v))), σ.2)
def s_up (σ : St) (v : Nat → Nat → Nat) : St := (σ.1, ((((v, σ.2.1.1.1.2), σ.2.1.1.2), σ.2.1.2), σ.2.2))
def s_lm (σ : St) (v : Nat → Nat) : St := (σ.1, ((((σ.2.1.1.1.1, v), σ.2.1.1.2), σ.2.1.2), σ.2.2))
def s_cme (σ : St) (v : Nat → Nat) : St := (σ.1, (((σ.2.1.1.1, v), σ.2.1.2), σ.2.2))
def s_gc (σ : St) (v : Nat → Nat) : St := (σ.1, ((σ.2.1.1, ((v, σ.2.1.2.1.2), σ.2.1.2.2)), σ.2.2))
def s_md (σ : St) (v : Nat → Nat) : St := (σ.1, ((σ.2.1.1, ((σ.2.1.2.1.1, v), σ.2.1.2.2)), σ.2.2))
def s_ask (σ : St) (v : Int64) : St := (σ.1, ((σ.2.1.1, (σ.2.1.2.1, v)), σ.2.2))
def s_vl (σ : St) (v : Nat → Int64) : St := (σ.1, (σ.2.1, (((v, σ.2.2.1.1.2), σ.2.2.1.2), σ.2.2.2)))
def s_lf (σ : St) (v : Nat → Nat → Int64) : St := (σ.1, (σ.2.1, (((σ.2.2.1.1.1, v), σ.2.2.1.2), σ.2.2.2)))
def s_wt (σ : St) (v : Nat → Nat → Bool) : St := (σ.1, (σ.2.1, ((σ.2.2.1.1, v), σ.2.2.2)))
def s_skp (σ : St) (v : Nat → Nat → Bool) : St := (σ.1, (σ.2.1, (σ.2.2.1, (v, σ.2.2.2.2))))
def s_thr (σ : St) (v : Nat → Nat → Bool) : St := (σ.1, (σ.2.1, (σ.2.2.1, (σ.2.2.2.1, v))))
def u1 {A : Type} (f : Nat → A) (k : Nat) (v : A) : Nat → A := fun x => if x = k then v else f x
def u2 {A : Type} (f : Nat → Nat → A) (i j : Nat) (v : A) : Nat → Nat → A := fun x y => if x = i ∧ y = j then v else f x y
/-- a HAND has a CHANGE; a CHANGE KNOWS another one -/
def has (σ : St) (h c : Nat) : Bool := decide (c < nc σ) && decide (od σ c ≤ up σ h (mk σ c))
def kn (σ : St) (c e : Nat) : Bool := decide (e < c) && decide (od σ e ≤ ku σ c (mk σ e))
/-- how many of the first n fulfil it -/
def cnt (p : Nat → Bool) : Nat → Nat
  | 0 => 0
  | n + 1 => cnt p n + (if p n then 1 else 0)
theorem cnt_s (p : Nat → Bool) (n : Nat) : cnt p (n + 1) = cnt p n + (if p n then 1 else 0) := rfl
theorem cnt_le (p : Nat → Bool) : ∀ n, cnt p n ≤ n
  | 0 => Nat.le_refl 0
  | n + 1 => by have := cnt_le p n; rw [cnt_s]; split <;> omega
theorem cnt_cong {p q : Nat → Bool} : ∀ {n : Nat}, (∀ k, k < n → p k = q k) → cnt p n = cnt q n
  | 0, _ => rfl
  | n + 1, h => by rw [cnt_s, cnt_s, cnt_cong (fun k hk => h k (by omega)), h n (by omega)]
/-- the reference's data say the state -/
def RM (σ : St) (d : Dt) (mm : Nat) : Prop :=
  (dfi d 290 mm = nI (nh σ) ∧ dfi d 295 mm = nI (np σ) ∧ dfi d 297 mm = nI (nc σ) ∧ dfi d 288 mm = nI (lat σ) ∧ dfl d 306 mm = ask σ) ∧
  (∀ p, p < np σ → dai d (mm + 6) p = nI (kin σ p)) ∧
  (∀ c, c < nc σ → dai d (mm + 7) c = nI (mk σ c) ∧ dai d (mm + 8) c = nI (pg σ c) ∧ dai d (mm + 9) c = nI (ct σ c) ∧ dai d (mm + 10) c = nI (ac σ c) ∧ dai d (mm + 11) c = nI (ax σ c) ∧ dal d (mm + 13) c = vl σ c) ∧
  (∀ c, c < nc σ → ∀ e, e < 448 → bitL (dal d (mm + 14) (7 * c + e / 64)) (e % 64) = kn σ c e) ∧
  (∀ h, h < 6 → ∀ e, e < 448 → bitL (dal d (mm + 2) (7 * h + e / 64)) (e % 64) = has σ h e) ∧
  (∀ h, h < 6 → ∀ e, e < 448 → bitL (dal d (mm + 3) (7 * h + e / 64)) (e % 64) = wt σ h e) ∧
  (∀ h, h < 6 → ∀ p, p < 10 → dai d (mm + 4) (10 * h + p) = bI (skp σ h p)) ∧
  (∀ h, h < 6 → dai d (mm + 5) h = nI (md σ h) ∧ dai d (mm + 18) h = nI (lm σ h) ∧ ∀ i, i < 16 → dai d (mm + 19) (16 * h + i) = bI (thr σ h i) ∧ dal d (mm + 20) (16 * h + i) = lf σ h i) ∧
  (∀ f, f < 6 → dai d (mm + 1) f = nI (cme σ f))
/-- sizes, that all stay small -/
def WB (σ : St) : Prop := nh σ ≤ 6 ∧ np σ ≤ 10 ∧ nc σ ≤ 400 ∧ (∀ p, p < np σ → kin σ p < 8) ∧ (∀ c, c < nc σ → mk σ c < nh σ ∧ pg σ c < np σ ∧ ct σ c ≤ c + 1 ∧ 1 ≤ ct σ c ∧ ac σ c < 8 ∧ ax σ c < 64) ∧ (∀ h, h < 6 → lm σ h ≤ 16 ∧ md σ h ≤ 400)
