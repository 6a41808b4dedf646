theorem st_arr {args : Array Value} {s : State} {ty : FieldType} (h : (Cond.arrayClass ty).before args s = true) (hty : ∀ C, ty ≠ .object C) : ∃ cA : ClassId, ArrOfT s cA ty ∧ va_RA s cA ty := by
  obtain ⟨c, k, comp, h1, h2, h3⟩ := Cond.arrayClass_spec h
  refine ⟨c, fun n z => ⟨fun k h => (by cases h), k, h2, comp, h3⟩, ?_⟩
  cases ty with
  | object C => exact absurd rfl (hty C)
  | _ => exact h1
theorem st_arro {args : Array Value} {s : State} {C : String} (h : (Cond.arrayOver (.object C)).before args s = true) : ∃ cA : ClassId, ArrOfT s cA (.object C) ∧ va_RA s cA (.object C) := by
  obtain ⟨comp, c, k, h1, -, h3, h4, h5⟩ := Cond.arrayOver_spec h
  exact ⟨c, fun n z => ⟨fun k h => (by cases h), k, h3, comp, h4⟩, k, comp, h3, h4, h1, h5⟩
section
variable {p : Program} {l : Launch} {e : Env} {s : State} {m : MethodId} {below : List Frame} {meth : Method} {c : Code} {D : va_G} {cy : Nat → ClassId} {st : Nat → Nat} {b L : Nat} {xs : Nat → Int32} {Q : State → Prop}

set_option maxRecDepth 100000 in
set_option maxHeartbeats 8000000 in
theorem st_KK (C0 : lw_At p s m meth c b L xs) : ∃ (D : va_G) (cy : Nat → ClassId) (st : Nat → Nat), KK (fun q => s.heap.size ≤ q) D cy st s := by
  obtain ⟨hx, hb, hr, hml, hown, hts, hX, hbl, hlocks, hgv⟩ := C0
  have hg : ∀ w ∈ gtb, w.before #[Value.ref b] s = true := fun w h => hts w (List.mem_filter.mp h).1
  obtain ⟨c0, iS0, hKn0⟩ := u_known (C := RJx4a65c) (T := TJx4a65c) (N := 3) (n := 3) hg inJx4a65c (hg _ kw_31)
  obtain ⟨c1, iS1, hKn1⟩ := u_known (C := RX0) (T := TX0) (N := 10) (n := 10) hg inX0 (hg _ kw_267)
  obtain ⟨c2, iS2, hKn2⟩ := u_known (C := RX1) (T := TX1) (N := 7) (n := 7) hg inX1 (hg _ kw_111)
  obtain ⟨c3, iS3, hKn3⟩ := u_known (C := RX2) (T := TX2) (N := 3) (n := 3) hg inX2 (hg _ kw_131)
  obtain ⟨c4, iS4, hKn4⟩ := u_known (C := RX3) (T := TX3) (N := 4) (n := 4) hg inX3 (hg _ kw_186)
  obtain ⟨c5, iS5, hKn5⟩ := u_known (C := RX4) (T := TX4) (N := 1) (n := 1) hg inX4 (hg _ kw_117)
  obtain ⟨c6, iS6, hKn6⟩ := u_known (C := RX5) (T := TX5) (N := 2) (n := 2) hg inX5 (hg _ kw_57)
  obtain ⟨c7, iS7, hKn7⟩ := u_known (C := RX6) (T := TX6) (N := 10) (n := 10) hg inX6 (hg _ kw_19)
  obtain ⟨c8, iS8, hKn8⟩ := u_known (C := RX7) (T := TX7) (N := 28) (n := 28) hg inX7 (hg _ kw_792)
  obtain ⟨y0, hy0⟩ := st_arr (hg _ kw_70) (fun C h => by cases h)
  obtain ⟨y1, hy1⟩ := st_arr (hg _ kw_71) (fun C h => by cases h)
  obtain ⟨y2, hy2⟩ := st_arr (hg _ kw_147) (fun C h => by cases h)
  have ao3 := hts (.arrayOver (.object "ManyHands$Entry")) (List.mem_of_getElem? (i := 244) (by decide +kernel))
  obtain ⟨y3, hy3⟩ := st_arro ao3
  have ao4 := hts (.arrayOver (.object "ManyHands$Hand")) (List.mem_of_getElem? (i := 77) (by decide +kernel))
  obtain ⟨y4, hy4⟩ := st_arro ao4
  have ao5 := hts (.arrayOver (.object "ManyHands$Page")) (List.mem_of_getElem? (i := 79) (by decide +kernel))
  obtain ⟨y5, hy5⟩ := st_arro ao5
  have ao6 := hts (.arrayOver (.object "java/lang/Object")) (List.mem_of_getElem? (i := 429) (by decide +kernel))
  obtain ⟨y6, hy6⟩ := st_arro ao6
  have hnw : ∀ w ∈ nws, w ∈ lw_tbl ∧ w.onTables = true := by decide +kernel
  have hdc := hts (.declares ⟨"java/lang/Object", "getClass", "()Ljava/lang/Class;"⟩) (List.mem_of_getElem? (i := 1231) (by decide +kernel))
  have hs := flat_of_before _ hgv
  obtain ⟨mi, hmi⟩ := va_Mi.of (C := "[Ljava/lang/Object;") (hs _ (by decide +kernel))
  have hA : ∀ a : Nat, a < s.heap.size → ¬ s.heap.size ≤ a := fun a h => Nat.not_le.mpr h
  obtain ⟨tA, eA, hTA⟩ := va_Tof (tm := .static "ManyHands" "ABOVE" "[I") (ty := .int) (N := 8) (f := abV) (A := fun q => s.heap.size ≤ q) (args := #[Value.ref b]) (by decide) (hs _ (by decide +kernel)) (va_eqt (hs (.eq (.length (.static "ManyHands" "ABOVE" "[I")) (.int 8)) (by decide +kernel))) (fun j hj => by
    match j, hj with
    | 0, _ => exact va_eqt (z := 0) (hs (.eq (.elem (.static "ManyHands" "ABOVE" "[I") (.int 0)) (.int 0)) (by decide +kernel))
    | 1, _ => exact va_eqt (z := 0) (hs (.eq (.elem (.static "ManyHands" "ABOVE" "[I") (.int 1)) (.int 0)) (by decide +kernel))
    | 2, _ => exact va_eqt (z := 2) (hs (.eq (.elem (.static "ManyHands" "ABOVE" "[I") (.int 2)) (.int 2)) (by decide +kernel))
    | 3, _ => exact va_eqt (z := 3) (hs (.eq (.elem (.static "ManyHands" "ABOVE" "[I") (.int 3)) (.int 3)) (by decide +kernel))
    | 4, _ => exact va_eqt (z := 0) (hs (.eq (.elem (.static "ManyHands" "ABOVE" "[I") (.int 4)) (.int 0)) (by decide +kernel))
    | 5, _ => exact va_eqt (z := 2) (hs (.eq (.elem (.static "ManyHands" "ABOVE" "[I") (.int 5)) (.int 2)) (by decide +kernel))
    | 6, _ => exact va_eqt (z := 6) (hs (.eq (.elem (.static "ManyHands" "ABOVE" "[I") (.int 6)) (.int 6)) (by decide +kernel))
    | 7, _ => exact va_eqt (z := 6) (hs (.eq (.elem (.static "ManyHands" "ABOVE" "[I") (.int 7)) (.int 6)) (by decide +kernel))
    | j + 8, h => exact absurd h (by omega)) hA
  obtain ⟨tE, eE, hTE⟩ := va_Tof (tm := .static "java/util/ArrayList" "DEFAULTCAPACITY_EMPTY_ELEMENTDATA" "[Ljava/lang/Object;") (ty := .object "java/lang/Object") (N := 0) (f := fun _ => .null) (A := fun q => s.heap.size ≤ q) (args := #[Value.ref b]) (by decide) (hs _ (by decide +kernel)) (va_eqt (hs (.eq (.length (.static "java/util/ArrayList" "DEFAULTCAPACITY_EMPTY_ELEMENTDATA" "[Ljava/lang/Object;")) (.int 0)) (by decide +kernel))) (fun j hj => absurd hj (by omega)) hA
  have zA := va_Zof (A := fun q => s.heap.size ≤ q) (hts (.laysStatic "ManyHands" "ABOVE" "[I") (List.mem_of_getElem? (i := 275) (by decide +kernel))) (hg _ kw_1) eA hA
  have zE := va_Zof (A := fun q => s.heap.size ≤ q) (hts (.laysStatic "java/util/ArrayList" "DEFAULTCAPACITY_EMPTY_ELEMENTDATA" "[Ljava/lang/Object;") (List.mem_of_getElem? (i := 93) (by decide +kernel))) (hg _ kw_4) eE hA
  refine ⟨(fun k => [c0, c1, c2, c3, c4, c5, c6, c7, c8].getD k c0, fun k => [iS0, iS1, iS2, iS3, iS4, iS5, iS6, iS7, iS8].getD k iS0), fun k => [y0, y1, y2, y3, y4, y5, y6].getD k y0, fun k => [tA, tE, mi].getD k 0, ⟨?_, ?_⟩, fun w hw => va_Nw.of (hnw w hw).2 (hts w (hnw w hw).1), ⟨va_AO.of ao3, va_AO.of ao4, va_AO.of ao5, va_AO.of ao6⟩, va_Dc.of hdc, hmi, zA, hTA, zE, hTE⟩
  · intro k q hq
    match k, hq with
    | 0, hq => cases hq; exact hKn0
    | 1, hq => cases hq; exact hKn1
    | 2, hq => cases hq; exact hKn2
    | 3, hq => cases hq; exact hKn3
    | 4, hq => cases hq; exact hKn4
    | 5, hq => cases hq; exact hKn5
    | 6, hq => cases hq; exact hKn6
    | 7, hq => cases hq; exact hKn7
    | 8, hq => cases hq; exact hKn8
    | k + 9, hq => simp [vwCl] at hq
  · intro k q hq
    match k, hq with
    | 0, hq => cases hq; exact hy0
    | 1, hq => cases hq; exact hy1
    | 2, hq => cases hq; exact hy2
    | 3, hq => cases hq; exact hy3
    | 4, hq => cases hq; exact hy4
    | 5, hq => cases hq; exact hy5
    | 6, hq => cases hq; exact hy6
    | k + 7, hq => simp [tysA] at hq
set_option maxRecDepth 100000 in
set_option maxHeartbeats 8000000 in
/-- the law, from its entry, given what the mathematics owes -/
theorem whole_open (IV : Nat → Nat → Nat → IVT) (hI : ∀ base em mi, em < base → INVS base em mi (IV base em mi)) (h0 : ∀ base em mi, em < base → INIT base em mi (IV base em mi)) (hL : L ≤ 3072) (C0 : lw_At p s m meth c b L xs) : W p l e room_1 s m #[Value.ref b] below meth c s.heap [] 0 0 (lw_Z below #[Value.ref b] s) (entryFrame m ([Value.ref b] : List Value).toArray 4) := by
  obtain ⟨D, cy, st, hK⟩ := st_KK C0
  obtain ⟨hx, hb, hr, hml, hown, hts, hX, hbl, hlocks, hgv⟩ := id C0
  have C : mx p s m #[Value.ref b] meth c ⟨"ManyHandsLaw", meth.name, ""⟩ cL_law 4 (some .boolean) (fun q => s.heap.size ≤ q) D cy st := ⟨hx, hb, hr, hml, fun w h => hts w (List.mem_filter.mp h).1, hown, hlocks, hK, fun _ h => h, rfl⟩
  have hem : st 1 < s.heap.size := by
    obtain ⟨_, _, _, _, _, _, _, _, _, _, _, _, _, _, _, hE⟩ := hK
    exact Nat.not_le.mp hE
  obtain ⟨sz1, ns1, shC, dC, sz2, ns2, shM, dM, f6, f7, hV⟩ := h0 s.heap.size (st 1) (st 2) hem
  have hI1 := hI s.heap.size (st 1) (st 2) hem
  have g6 := gX6_init (st 1) (st 2) _ _ _ _ _ f6
  have g7 := gX7_init (st 1) (st 2) _ _ _ _ _ f7
  obtain ⟨-, -, hr1, hr2⟩ := hI1.1 0 _ _ _ _ _ _ _ _ (by omega) hV
  have hl := lv_entry ([.ref b]) (n := 4) (Nat.le_of_ble_eq_true rfl)
  rw [lg_entry_eq]
  generalize (lg_sl ([.ref b]) ++ List.replicate (4 - (lg_sl ([.ref b])).length) Slot.unset).toArray = ls at hl ⊢
  have hl : lv_has ls 4 [(0, .ref b)] := hl
  have hw : LW2 s.heap.size s.heap.size D cy shE dtE shE dtE s.heap := ⟨rfl, Nat.le_refl _, fun a ha => absurd rfl ha, fun a ha => absurd rfl ha⟩
  have hS : va_S (fun q => s.heap.size ≤ q) s.heap s.heap [] := va_S.rf
  refine lx_new (ci := 7) C hw hS inX6 tyX6 tyX6_ok rfl (by decide) dfX6 kw_18 kw_19 kw_1 (Nat.le_of_ble_eq_true rfl) (Nat.le_of_ble_eq_true rfl) dL_law_0 (fun H hw hS => ?_)
  refine lv_dup hx hb dL_law_3 rfl ?_
  refine lx_I C hw hS (fun A => tX6_init l A D cy st _ _ _ _ _ f6) ckX6_init kw_20 ⟨Nat.le_of_ble_eq_true rfl, Nat.le_of_ble_eq_true rfl⟩ hl.1 rfl (Nat.le_of_ble_eq_true rfl) dL_law_4 ⟨by show _ ≤ 600000; omega, by show _ ≤ 7302250; omega⟩ (fun H locs hw hS => ?_)
  refine lv_astore_n (lv' := [(1, .ref s.heap.size), (0, .ref b)]) hx hb dL_law_7 rfl hl (by decide) rfl (fun ls hl => ?_)
  have hw := hw.swap
  refine lx_new (ci := 8) C hw hS inX7 tyX7 tyX7_ok rfl (by decide) dfX7 kw_791 kw_792 kw_6 (by show _ ≤ 600000; omega) (by show _ ≤ 7302250; omega) dL_law_8 (fun H hw hS => ?_)
  refine lv_dup hx hb dL_law_11 rfl ?_
  refine lx_I C hw hS (fun A => tX7_init l A D cy st _ _ _ _ _ f7) ckX7_init kw_793 ⟨Nat.le_of_ble_eq_true rfl, Nat.le_of_ble_eq_true rfl⟩ hl.1 rfl (Nat.le_of_ble_eq_true rfl) dL_law_12 ⟨by show _ ≤ 600000; omega, by show _ ≤ 7302250; omega⟩ (fun H locs hw hS => ?_)
  refine lv_astore_n (lv' := [(2, .ref sz1), (1, .ref s.heap.size), (0, .ref b)]) hx hb dL_law_15 rfl hl (by decide) rfl (fun ls hl => ?_)
  refine lv_iconst (v := 0) hx hb dL_law_16 (by decide) ?_
  refine lv_istore_n (lv' := [(3, .int 0), (2, .ref sz1), (1, .ref s.heap.size), (0, .ref b)]) hx hb dL_law_17 rfl hl (by decide) rfl (fun ls hl => ?_)
  exact law_loop (IV s.heap.size (st 1) (st 2)) hI1 hL C0 hK (L + 1) 0 (by omega) (by omega) 0 rfl s.heap.size sz1 sz2 ns2 shC dC shM dM hV H locs _ _ (by omega) (by omega) hw.swap hS ls (lv_sub hl [3, 2, 1, 0] rfl)
end
