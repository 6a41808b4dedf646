abbrev GA (p : Program) (l : Launch) (e : Env) (s : State) (m : MethodId) (args : Array Value) (below : List Frame) (meth : Method) (c : Code) (fr lo mc ms : Nat) (A : Nat → Prop) (D : va_G) (cy : Nat → ClassId) (rv : Option Value) (sz : Nat) (sh : Sh) (d : Dt) (H : Heap) (locs : List Loc) (cu su : Nat) (pc : Nat) (ls : Array Slot) (st : List Value) : Prop :=
  W p l e { frames := fr, cells := mc, slots := ms, locals := lo } s m args below meth c H locs cu su (MQ below (Qs A D cy rv sz sh d) args s mc ms A) (F0 m pc ls st)
section
variable {p : Program} {l : Launch} {e : Env} {R : Room} {s : State} {m : MethodId} {args : Array Value} {below : List Frame} {meth : Method} {c : Code} {H : Heap} {locs : List Loc} {cells slots : Nat} {Q : State → Prop}
variable {y : MethodName} {cc : ByteArray} {nL : Nat} {rt : Option FieldType} {A : Nat → Prop} {D : va_G} {cy : Nat → ClassId} {st : Nat → Nat} {sz : Nat} {sh : Sh} {d d1 : Dt} {pc a : Nat} {ls : Array Slot} {rest : List Value}
variable {y1 : MethodName} {cc1 : ByteArray} {nL1 : Nat} {rt1 : Option FieldType} {fr lo mc ms b index ci : Nat} {As st0 : List Value} {rv : Option Value} {sz1 : Nat} {sh1 : Sh}
theorem rt_aa {t : FieldType} (C : mx p s m args meth c y cc nL (some (.array t)) A D cy st) (hw : HW A D cy sz sh d H) (hS : va_S A s.heap H locs) {v : Option Nat} (hdg : decode cc pc = .ok (.areturn, 1)) : W p l e R s m args below meth c H locs cells slots (MQ below (Qs A D cy (some (va_rf v)) sz sh d) args s cells slots A) (F0 m pc ls [va_rf v]) := by
  obtain ⟨hx, hb, hr, -, -, -, hlk, -⟩ := C
  exact W.aret hx hb hr (Or.inr ⟨t, rfl⟩) (by cases v; exact Or.inl rfl; exact Or.inr ⟨_, rfl⟩) (fun t ht _ => ⟨⟨rfl, by rw [ht]; exact hw⟩, hS.F ht⟩) hS.2.2 hdg hlk
theorem w_cls (C : mx p s m args meth c y cc nL rt A D cy st) (hw : HW A D cy sz sh d H) (hk : sh.1 a = 26) : ∃ cell : Cell, H[a]? = some cell ∧ cell.vm.isStatics = false ∧ s.vm.findClass "[Ljava/lang/Object;" = some cell.cls := by
  have q := (hw.2 a (by omega)).2
  rw [wE_r 6 hk (by decide)] at q
  exact ⟨_, q, rfl, va_nmO (C.2.2.2.2.2.2.2.1.1.2 6 _ rfl).2 (by decide)⟩
theorem cl_I0 (C : mx p s m args meth c y cc nL rt A D cy st) (hw : HW A D cy sz sh d H) (hS : va_S A s.heap H locs) (hc : Ct l y1 cc1 nL1 none fr lo 0 0 A D cy st (.ref b :: As) sz sh d rv sz1 sh1 d1) (V : CK y1 cc1 nL1 As.length) (hlink : Cond.methodLink y.cls index y1 ∈ gtb) (hR : fr + 1 ≤ R.frames ∧ 8 + (nL1 + 11) + lo ≤ R.locals) (hls : ls.size = nL) (hst : st0 = As.reverse ++ .ref b :: rest) (hW : (rest.map fun v => v.category).sum ≤ 8) (hdg : decode cc pc = .ok (.invokespecial index, 3)) (hf : cells ≤ R.cells ∧ slots ≤ R.slots)
    (kk : ∀ (H1 : Heap) (locs1 : List Loc), HW A D cy sz1 sh1 d1 H1 → va_S A s.heap H1 locs1 → W p l e R s m args below meth c H1 locs1 cells slots Q (F0 m (pc + 3) ls (rv.toList ++ rest))) : W p l e R s m args below meth c H locs cells slots Q (F0 m pc ls st0) := cl_I C hw hS hc V hlink hR hls hst hW hdg hf kk
theorem pt_32L (C : mx p s m args meth c y cc nL rt A D cy st) (hw : HW A D cy sz sh d H) (hS : va_S A s.heap H locs) {v : Int32} (hv : pI sh d 1 32 a v = some d1) {index : Nat} (hlink : Cond.fieldLink y.cls index "java/util/AbstractList" "modCount" "I" ∈ gtb) (hdg : decode cc pc = .ok (.putfield index, 3)) (kk : ∀ (H1 : Heap) (locs1 : List Loc), HW A D cy sz sh d1 H1 → va_S A s.heap H1 locs1 → W p l e R s m args below meth c H1 locs1 cells slots Q (F0 m (pc + 3) ls rest)) : W p l e R s m args below meth c H locs cells slots Q (F0 m pc ls (.int v :: .ref a :: rest)) := by
  obtain ⟨hk, rfl⟩ := pI_s hv
  exact w_put C hw hS inJx4a65c tyJx4a65c tyJx4a65c_ok nmJx4a65c rfl (by decide) hk 0 (by decide) hlink (fun _ h => h) (Or.inl rfl) rfl rfl (Nat.le_of_ble_eq_true rfl) (by simp [wF, uI, u3, dfi, dfl, dfr]) (fun cj b hb => wF_I d _ _ _ cj b hb) rfl hdg kk
end
theorem dfJx4a65c : ∀ (d : Dt) (a j : Nat), j < 3 → defaultValue (tyJx4a65c j) = vp_V (wF (zO d a) 0 a) j := by
  intro d a j hj
  rw [show wF (zO d a) 0 a = [.int 0, .null, .int 0] from by simp [wF, zO, dfi, dfl, dfr, va_rf]]
  match j, hj with
  | 0, _ => rfl
  | 1, _ => rfl
  | 2, _ => rfl
  | n + 3, h => exact absurd h (by omega)
theorem dfX0 : ∀ (d : Dt) (a j : Nat), j < 10 → defaultValue (tyX0 j) = vp_V (wF (zO d a) 1 a) j := by
  intro d a j hj
  rw [show wF (zO d a) 1 a = [.int 0, .int 0, .int 0, .int 0, .int 0, .long 0, .int 0, .int 0, .null, .null] from by simp [wF, zO, dfi, dfl, dfr, va_rf]]
  match j, hj with
  | 0, _ => rfl
  | 1, _ => rfl
  | 2, _ => rfl
  | 3, _ => rfl
  | 4, _ => rfl
  | 5, _ => rfl
  | 6, _ => rfl
  | 7, _ => rfl
  | 8, _ => rfl
  | 9, _ => rfl
  | n + 10, h => exact absurd h (by omega)
theorem dfX1 : ∀ (d : Dt) (a j : Nat), j < 7 → defaultValue (tyX1 j) = vp_V (wF (zO d a) 2 a) j := by
  intro d a j hj
  rw [show wF (zO d a) 2 a = [.int 0, .null, .null, .null, .null, .null, .int 0] from by simp [wF, zO, dfi, dfl, dfr, va_rf]]
  match j, hj with
  | 0, _ => rfl
  | 1, _ => rfl
  | 2, _ => rfl
  | 3, _ => rfl
  | 4, _ => rfl
  | 5, _ => rfl
  | 6, _ => rfl
  | n + 7, h => exact absurd h (by omega)
theorem dfX2 : ∀ (d : Dt) (a j : Nat), j < 3 → defaultValue (tyX2 j) = vp_V (wF (zO d a) 3 a) j := by
  intro d a j hj
  rw [show wF (zO d a) 3 a = [.null, .null, .int 0] from by simp [wF, zO, dfi, dfl, dfr, va_rf]]
  match j, hj with
  | 0, _ => rfl
  | 1, _ => rfl
  | 2, _ => rfl
  | n + 3, h => exact absurd h (by omega)
theorem dfX3 : ∀ (d : Dt) (a j : Nat), j < 4 → defaultValue (tyX3 j) = vp_V (wF (zO d a) 4 a) j := by
  intro d a j hj
  rw [show wF (zO d a) 4 a = [.int 0, .int 0, .null, .null] from by simp [wF, zO, dfi, dfl, dfr, va_rf]]
  match j, hj with
  | 0, _ => rfl
  | 1, _ => rfl
  | 2, _ => rfl
  | 3, _ => rfl
  | n + 4, h => exact absurd h (by omega)
theorem dfX4 : ∀ (d : Dt) (a j : Nat), j < 1 → defaultValue (tyX4 j) = vp_V (wF (zO d a) 5 a) j := by
  intro d a j hj
  rw [show wF (zO d a) 5 a = [.null] from by simp [wF, zO, dfi, dfl, dfr, va_rf]]
  match j, hj with
  | 0, _ => rfl
  | n + 1, h => exact absurd h (by omega)
theorem dfX5 : ∀ (d : Dt) (a j : Nat), j < 2 → defaultValue (tyX5 j) = vp_V (wF (zO d a) 6 a) j := by
  intro d a j hj
  rw [show wF (zO d a) 6 a = [.null, .int 0] from by simp [wF, zO, dfi, dfl, dfr, va_rf]]
  match j, hj with
  | 0, _ => rfl
  | 1, _ => rfl
  | n + 2, h => exact absurd h (by omega)
theorem dfX6 : ∀ (d : Dt) (a j : Nat), j < 10 → defaultValue (tyX6 j) = vp_V (wF (zO d a) 7 a) j := by
  intro d a j hj
  rw [show wF (zO d a) 7 a = [.null, .null, .null, .null, .null, .null, .int 0, .int 0, .int 0, .long 0] from by simp [wF, zO, dfi, dfl, dfr, va_rf]]
  match j, hj with
  | 0, _ => rfl
  | 1, _ => rfl
  | 2, _ => rfl
  | 3, _ => rfl
  | 4, _ => rfl
  | 5, _ => rfl
  | 6, _ => rfl
  | 7, _ => rfl
  | 8, _ => rfl
  | 9, _ => rfl
  | n + 10, h => exact absurd h (by omega)
theorem dfX7 : ∀ (d : Dt) (a j : Nat), j < 28 → defaultValue (tyX7 j) = vp_V (wF (zO d a) 8 a) j := by
  intro d a j hj
  rw [show wF (zO d a) 8 a = [.int 0, .null, .int 0, .null, .null, .null, .null, .int 0, .null, .int 0, .null, .null, .null, .null, .null, .null, .null, .null, .long 0, .null, .int 0, .null, .null, .null, .null, .null, .null, .null] from by simp [wF, zO, dfi, dfl, dfr, va_rf]]
  match j, hj with
  | 0, _ => rfl
  | 1, _ => rfl
  | 2, _ => rfl
  | 3, _ => rfl
  | 4, _ => rfl
  | 5, _ => rfl
  | 6, _ => rfl
  | 7, _ => rfl
  | 8, _ => rfl
  | 9, _ => rfl
  | 10, _ => rfl
  | 11, _ => rfl
  | 12, _ => rfl
  | 13, _ => rfl
  | 14, _ => rfl
  | 15, _ => rfl
  | 16, _ => rfl
  | 17, _ => rfl
  | 18, _ => rfl
  | 19, _ => rfl
  | 20, _ => rfl
  | 21, _ => rfl
  | 22, _ => rfl
  | 23, _ => rfl
  | 24, _ => rfl
  | 25, _ => rfl
  | 26, _ => rfl
  | 27, _ => rfl
  | n + 28, h => exact absurd h (by omega)
