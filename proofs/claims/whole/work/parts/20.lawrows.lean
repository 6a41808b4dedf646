/-! the law: two worlds side by side, that of the class and that of the reference -/
def LW2 (base sz : Nat) (D : va_G) (cy : Nat → ClassId) (sh1 : Sh) (d1 : Dt) (sh2 : Sh) (d2 : Dt) (H : Heap) : Prop :=
  H.size = sz ∧ base ≤ sz ∧ (∀ a, sh1.1 a ≠ 0 → base ≤ a ∧ sh2.1 a = 0 ∧ va_at D vwCl (a, wE cy sh1 d1 a) H) ∧ (∀ a, sh2.1 a ≠ 0 → base ≤ a ∧ sh1.1 a = 0 ∧ va_at D vwCl (a, wE cy sh2 d2 a) H)
theorem LW2.swap {base sz : Nat} {D : va_G} {cy : Nat → ClassId} {sh1 sh2 : Sh} {d1 d2 : Dt} {H : Heap} (h : LW2 base sz D cy sh1 d1 sh2 d2 H) : LW2 base sz D cy sh2 d2 sh1 d1 H := ⟨h.1, h.2.1, h.2.2.2, h.2.2.1⟩
theorem KK.narrow {A B : Nat → Prop} {D : va_G} {cy : Nat → ClassId} {st : Nat → Nat} {U : State} (h : KK A D cy st U) (hAB : ∀ q, B q → A q) : KK B D cy st U := by
  obtain ⟨h1, h2, h3, h4, h5, z1, z2, z3, z4⟩ := h
  exact ⟨h1, h2, h3, h4, h5, z1.narrow hAB, z2.narrow hAB, z3.narrow hAB, z4.narrow hAB⟩
section
variable {p : Program} {l : Launch} {e : Env} {R : Room} {s : State} {m : MethodId} {args : Array Value} {below : List Frame} {meth : Method} {c : Code} {H : Heap} {locs : List Loc} {cells slots : Nat} {Q : State → Prop}
variable {y : MethodName} {cc : ByteArray} {nL : Nat} {rt : Option FieldType} {D : va_G} {cy : Nat → ClassId} {st : Nat → Nat} {sz : Nat} {sh1 sh2 sh9 : Sh} {d1 d2 d9 : Dt} {pc a : Nat} {ls : Array Slot} {rest : List Value}
variable {y1 : MethodName} {cc1 : ByteArray} {nL1 : Nat} {rt1 : Option FieldType} {fr lo mc ms b index ci : Nat} {As st0 : List Value} {rv : Option Value} {sz9 : Nat}
theorem LW2.hw {base : Nat} (h : LW2 base sz D cy sh1 d1 sh2 d2 H) : HW (fun q => base ≤ q ∧ sh2.1 q = 0) D cy sz sh1 d1 H := ⟨h.1, fun a ha => ⟨⟨(h.2.2.1 a ha).1, (h.2.2.1 a ha).2.1⟩, (h.2.2.1 a ha).2.2⟩⟩
theorem LW2.up {base : Nat} (h : LW2 base sz D cy sh1 d1 sh2 d2 H) : ∀ q, sz ≤ q → base ≤ q ∧ sh2.1 q = 0 := by
  intro q hq
  refine ⟨Nat.le_trans h.2.1 hq, ?_⟩
  by_cases hz : sh2.1 q = 0
  · exact hz
  · have := (h.2.2.2 q hz).2.2.lt
    have h1 := h.1
    simp only at this
    omega
theorem lx_pre (C : mx p s m args meth c y cc nL rt (fun q => s.heap.size ≤ q) D cy st) (hw : LW2 s.heap.size sz D cy sh1 d1 sh2 d2 H) (hS : va_S (fun q => s.heap.size ≤ q) s.heap H locs) (As : List Value) : PreS s H (Pcs (fun q => s.heap.size ≤ q ∧ sh2.1 q = 0) D cy st As sz sh1 d1) As := by
  obtain ⟨-, -, -, -, -, -, -, hK, hA, -⟩ := C
  exact ⟨Pcs.blind _ D cy st As sz sh1 d1, fun U hU hW => ⟨rfl, (hK.go (locs := locs) (by rw [hU]; exact hS) hW).narrow (fun q h => h.1), by rw [hU]; exact hw.hw, hw.up⟩⟩
theorem lx_run {a0 : Array Value} (hr : va_Run p l e R s m args below meth c H locs cells slots mc ms (F0 m pc ls st0) rest (Qs (fun q => s.heap.size ≤ q ∧ sh2.1 q = 0) D cy rv sz9 sh9 d9 a0) (fun q => s.heap.size ≤ q ∧ sh2.1 q = 0)) (hw : LW2 s.heap.size sz D cy sh1 d1 sh2 d2 H) (hS : va_S (fun q => s.heap.size ≤ q) s.heap H locs)
    (kk : ∀ (H1 : Heap) (locs1 : List Loc), LW2 s.heap.size sz9 D cy sh9 d9 sh2 d2 H1 → va_S (fun q => s.heap.size ≤ q) s.heap H1 locs1 → W p l e R s m args below meth c H1 locs1 (cells + mc) (slots + ms) Q (F0 m (pc + 3) ls (rv.toList ++ rest))) : W p l e R s m args below meth c H locs cells slots Q (F0 m pc ls st0) := by
  intro T hT X
  obtain ⟨v, st₀, t, T', L, h0, X', hL, e1, e2, ⟨⟨hv, hh⟩, hz, hk⟩, stp⟩ := hr T hT X
  cases hv
  rw [h0] at hz hk
  have hsz := hw.1
  have h9 := hh.1
  obtain ⟨t2, a1, b1⟩ := kk T'.heap (locs ++ L) (by
      rw [e1]
      refine ⟨h9, Nat.le_trans hw.2.1 (by omega), fun a ha => ⟨(hh.2 a ha).1.1, (hh.2 a ha).1.2, (hh.2 a ha).2⟩, fun a ha => ⟨(hw.2.2.2 a ha).1, ?_, ?_⟩⟩
      · by_cases hz9 : sh9.1 a = 0
        · exact hz9
        · exact absurd (hh.2 a hz9).1.2 ha
      · have q := (hw.2.2.2 a ha).2.2
        exact q.kept (hk a q.lt (fun z => ha z.2)))
    ⟨Nat.le_trans hS.1 (by rw [e1]; exact hz), fun q h1 h2 => by rw [e1, hk q (Nat.lt_of_lt_of_le h1 hS.1) (fun z => h2 z.1)]; exact hS.2.1 q h1 h2, fun q hq => (List.mem_append.mp hq).elim (hS.2.2 q) (fun h => (hL q h).1)⟩ T' rfl X'
  exact ⟨t2, stp t2 a1, b1⟩
theorem lx_V (C : mx p s m args meth c y cc nL rt (fun q => s.heap.size ≤ q) D cy st) (hw : LW2 s.heap.size sz D cy sh1 d1 sh2 d2 H) (hS : va_S (fun q => s.heap.size ≤ q) s.heap H locs) (hc : ∀ A : Nat → Prop, Ct l y1 cc1 nL1 rt1 fr lo mc ms A D cy st (.ref b :: As) sz sh1 d1 rv sz9 sh9 d9) (V : CV y1 cc1 nL1 rt1 ci As.length) (hlink : Cond.methodLink y.cls index y1 ∈ gtb) (hk : sh1.1 b = ci + 1) (hR : fr + 1 ≤ R.frames ∧ 8 + (nL1 + 11) + lo ≤ R.locals) (hls : ls.size = nL) (hst : st0 = As.reverse ++ .ref b :: rest) (hW : (rest.map fun v => v.category).sum ≤ 8) (hdg : decode cc pc = .ok (.invokevirtual index, 3)) (hf : cells + mc ≤ R.cells ∧ slots + ms ≤ R.slots)
    (kk : ∀ (H1 : Heap) (locs1 : List Loc), LW2 s.heap.size sz9 D cy sh9 d9 sh2 d2 H1 → va_S (fun q => s.heap.size ≤ q) s.heap H1 locs1 → W p l e R s m args below meth c H1 locs1 (cells + mc) (slots + ms) Q (F0 m (pc + 3) ls (rv.toList ++ rest))) : W p l e R s m args below meth c H locs cells slots Q (F0 m pc ls st0) := by
  obtain ⟨v1, v2, v3, v4, ⟨T, N, v5⟩, v6, v7, v8, v9⟩ := V
  have hp := lx_pre C hw hS (.ref b :: As)
  obtain ⟨hx, hb, -, hml, hts, ho, -, hK, -⟩ := C
  exact lx_run (va_runV (As := As) (rest := rest) (C := y1.cls) (n := As.length) (Ts := gtb) (own := y.cls) ⟨hx, hb, hml, ho, hts⟩ (hc _) ⟨callB_of _ hts (gd_code v4) rfl rfl rfl (hts _ v3) (hts _ hlink) ⟨v7, v8, v9⟩ hR, hts _ v1, hts _ v2⟩ ⟨hp.1, va_recv hK.1 (hw.hw.ats (by omega) (wE_o ci hk v6)) v5 (q0 := 0) rfl, hp.2⟩ rfl rfl hls hst (by show 2 * 0 + _ ≤ 8; omega) hdg hf) hw hS kk
theorem lx_I (C : mx p s m args meth c y cc nL rt (fun q => s.heap.size ≤ q) D cy st) (hw : LW2 s.heap.size sz D cy sh1 d1 sh2 d2 H) (hS : va_S (fun q => s.heap.size ≤ q) s.heap H locs) (hc : ∀ A : Nat → Prop, Ct l y1 cc1 nL1 none fr lo mc ms A D cy st (.ref b :: As) sz sh1 d1 rv sz9 sh9 d9) (V : CK y1 cc1 nL1 As.length) (hlink : Cond.methodLink y.cls index y1 ∈ gtb) (hR : fr + 1 ≤ R.frames ∧ 8 + (nL1 + 11) + lo ≤ R.locals) (hls : ls.size = nL) (hst : st0 = As.reverse ++ .ref b :: rest) (hW : (rest.map fun v => v.category).sum ≤ 8) (hdg : decode cc pc = .ok (.invokespecial index, 3)) (hf : cells + mc ≤ R.cells ∧ slots + ms ≤ R.slots)
    (kk : ∀ (H1 : Heap) (locs1 : List Loc), LW2 s.heap.size sz9 D cy sh9 d9 sh2 d2 H1 → va_S (fun q => s.heap.size ≤ q) s.heap H1 locs1 → W p l e R s m args below meth c H1 locs1 (cells + mc) (slots + ms) Q (F0 m (pc + 3) ls (rv.toList ++ rest))) : W p l e R s m args below meth c H locs cells slots Q (F0 m pc ls st0) := by
  obtain ⟨v1, v2, v3, v4, v7, v8, v9⟩ := V
  have hp := lx_pre C hw hS (.ref b :: As)
  obtain ⟨hx, hb, -, hml, hts, ho, -, hK, -⟩ := C
  exact lx_run (va_runI (As := As) (rest := rest) (n := As.length) (Ts := gtb) (own := y.cls) ⟨hx, hb, hml, ho, hts⟩ (hc _) ⟨callB_of _ hts (gd_code v4) rfl rfl rfl (hts _ v3) (hts _ hlink) ⟨v7, v8, v9⟩ hR, v1, hts _ v2⟩ hp rfl rfl hls hst (by show 2 * 0 + _ ≤ 8; omega) hdg hf) hw hS kk
theorem lx_V0 (C : mx p s m args meth c y cc nL rt (fun q => s.heap.size ≤ q) D cy st) (hw : LW2 s.heap.size sz D cy sh1 d1 sh2 d2 H) (hS : va_S (fun q => s.heap.size ≤ q) s.heap H locs) (hc : ∀ A : Nat → Prop, Ct l y1 cc1 nL1 rt1 fr lo 0 0 A D cy st (.ref b :: As) sz sh1 d1 rv sz9 sh9 d9) (V : CV y1 cc1 nL1 rt1 ci As.length) (hlink : Cond.methodLink y.cls index y1 ∈ gtb) (hk : sh1.1 b = ci + 1) (hR : fr + 1 ≤ R.frames ∧ 8 + (nL1 + 11) + lo ≤ R.locals) (hls : ls.size = nL) (hst : st0 = As.reverse ++ .ref b :: rest) (hW : (rest.map fun v => v.category).sum ≤ 8) (hdg : decode cc pc = .ok (.invokevirtual index, 3)) (hf : cells ≤ R.cells ∧ slots ≤ R.slots)
    (kk : ∀ (H1 : Heap) (locs1 : List Loc), LW2 s.heap.size sz9 D cy sh9 d9 sh2 d2 H1 → va_S (fun q => s.heap.size ≤ q) s.heap H1 locs1 → W p l e R s m args below meth c H1 locs1 cells slots Q (F0 m (pc + 3) ls (rv.toList ++ rest))) : W p l e R s m args below meth c H locs cells slots Q (F0 m pc ls st0) := lx_V C hw hS hc V hlink hk hR hls hst hW hdg hf kk
theorem lx_new (C : mx p s m args meth c y cc nL rt (fun q => s.heap.size ≤ q) D cy st) (hw : LW2 s.heap.size sz D cy sh1 d1 sh2 d2 H) (hS : va_S (fun q => s.heap.size ≤ q) s.heap H locs) {ci : Nat} {Cn : String} {T : u_T} {N index : Nat} (hin : ∀ w ∈ u_ws Cn T N, w ∈ gtb) (ty : Nat → FieldType) (hty : ∀ k, k < N → parseFieldDescriptor (T k).2.2.1 = some (ty k)) (hc : vwCl[ci]? = some (Cn, T, N)) (hci : ci < 19) (hfs : ∀ (d : Dt) (a j : Nat), j < N → defaultValue (ty j) = vp_V (wF (zO d a) ci a) j) (hcl : Cond.classLink y.cls index Cn ∈ gtb) (hinst : Cond.instantiable Cn N ∈ gtb) (hini : Cond.initialized Cn ∈ gtb)
    (hcells : cells + 1 ≤ R.cells) (hslots : slots + N ≤ R.slots) (hdg : decode cc pc = .ok (.new index, 3))
    (kk : ∀ (H1 : Heap), LW2 s.heap.size (sz + 1) D cy (nsh sh1 sz (ci + 1) 0) (zO d1 sz) sh2 d2 H1 → va_S (fun q => s.heap.size ≤ q) s.heap H1 locs → W p l e R s m args below meth c H1 locs (cells + 1) (slots + N) Q (F0 m (pc + 3) ls (.ref sz :: rest))) : W p l e R s m args below meth c H locs cells slots Q (F0 m pc ls rest) := by
  obtain ⟨hx, hb, -, -, hts, ho, -, hK, hA0, -⟩ := C
  have hsz := hw.1
  have hKn := hK.1.1 ci _ hc
  refine W.newcK hx hb ho (hts _ hcl) (hts _ hinst) (hts _ hini) rfl hdg hcells hslots hKn.2.1 hsz fun H1 kC hkC e1 z1 o1 => ?_
  have hup := hw.up
  have hup2 := hw.swap.up
  have hm : HW (fun q => s.heap.size ≤ q ∧ sh2.1 q = 0) D cy (sz + 1) (nsh sh1 sz (ci + 1) 0) (zO d1 sz) H1 := by
    refine hw.hw.made (hup sz (Nat.le_refl _)) z1 o1 ?_ (fun b hb => wE_nO hb)
    rw [wE_o ci (nsh_self _ _ _ _) hci]
    exact ⟨_, hc, (u_born ty hts hin hKn hkC e1 hty).to (hfs d1 sz)⟩
  refine kk H1 ⟨z1, Nat.le_trans hw.2.1 (by omega), fun a ha => ⟨(hm.2 a ha).1.1, (hm.2 a ha).1.2, (hm.2 a ha).2⟩, fun a ha => ⟨(hw.2.2.2 a ha).1, ?_, ?_⟩⟩ ⟨Nat.le_trans hS.1 (by omega), fun x h1 h2 => (o1 x (by have := hS.1; omega)).trans (hS.2.1 x h1 h2), hS.2.2⟩
  · have hne : a ≠ sz := fun q => ha (q ▸ (hup sz (Nat.le_refl _)).2)
    simp only [nsh, va_up_ne _ _ hne]
    exact (hw.2.2.2 a ha).2.1
  · have q := (hw.2.2.2 a ha).2.2
    have := q.lt
    exact q.kept (o1 a (by simp only at this; omega))
end
