/-! making cells: the next one's address is the heap's size -/
abbrev Wl : Type := Nat × Nat × Sh × Dt
def nsh (sh : Sh) (a kd n : Nat) : Sh := (va_up sh.1 a kd, va_up sh.2 a n)
def zO (d : Dt) (a : Nat) : Dt := (fun k b => if b = a then 0 else d.1 k b, fun k b => if b = a then 0 else d.2.1 k b, fun k b => if b = a then none else d.2.2.1 k b, d.2.2.2)
def zA (d : Dt) (a : Nat) : Dt := (d.1, d.2.1, d.2.2.1, fun b => if b = a then (fun _ => 0) else d.2.2.2.1 b, fun b => if b = a then (fun _ => 0) else d.2.2.2.2.1 b, fun b => if b = a then (fun _ => none) else d.2.2.2.2.2 b)
def nwO (sz ns : Nat) (sh : Sh) (d : Dt) (kd N : Nat) : Option Wl := some (sz + 1, ns + N, nsh sh sz kd 0, zO d sz)
def nwA (sz ns : Nat) (sh : Sh) (d : Dt) (kd : Nat) (n : Int32) : Option Wl := if n < 0 then none else if 100000 < n.toNatClampNeg then none else some (sz + 1, ns + n.toNatClampNeg, nsh sh sz kd n.toNatClampNeg, zA d sz)
def bw {β : Type} (x : Option Wl) (k : Nat → Nat → Sh → Dt → Option β) : Option β := match x with
  | none => none
  | some q => k q.1 q.2.1 q.2.2.1 q.2.2.2
def bw2 {α β : Type} (x : Option (α × Wl)) (k : α → Nat → Nat → Sh → Dt → Option β) : Option β := match x with
  | none => none
  | some q => k q.1 q.2.1 q.2.2.1 q.2.2.2.1 q.2.2.2.2
theorem bw_s {β : Type} {x : Option Wl} {k : Nat → Nat → Sh → Dt → Option β} {r : β} (h : bw x k = some r) : ∃ sz ns sh d, x = some (sz, ns, sh, d) ∧ k sz ns sh d = some r := by
  cases x with
  | none => cases h
  | some q => exact ⟨q.1, q.2.1, q.2.2.1, q.2.2.2, rfl, h⟩
theorem bw2_s {α β : Type} {x : Option (α × Wl)} {k : α → Nat → Nat → Sh → Dt → Option β} {r : β} (h : bw2 x k = some r) : ∃ v sz ns sh d, x = some (v, sz, ns, sh, d) ∧ k v sz ns sh d = some r := by
  cases x with
  | none => cases h
  | some q => exact ⟨q.1, q.2.1, q.2.2.1, q.2.2.2.1, q.2.2.2.2, rfl, h⟩
theorem bw_v {β : Type} (sz ns : Nat) (sh : Sh) (d : Dt) (k : Nat → Nat → Sh → Dt → Option β) : bw (some (sz, ns, sh, d)) k = k sz ns sh d := rfl
theorem bw2_v {α β : Type} (v : α) (sz ns : Nat) (sh : Sh) (d : Dt) (k : α → Nat → Nat → Sh → Dt → Option β) : bw2 (some (v, sz, ns, sh, d)) k = k v sz ns sh d := rfl
theorem nwO_s {sz ns sz1 ns1 kd N : Nat} {sh sh1 : Sh} {d d1 : Dt} (h : nwO sz ns sh d kd N = some (sz1, ns1, sh1, d1)) : sz1 = sz + 1 ∧ ns1 = ns + N ∧ nsh sh sz kd 0 = sh1 ∧ zO d sz = d1 := by
  have h := Option.some.inj h
  simp only [Prod.mk.injEq] at h
  exact ⟨h.1.symm, h.2.1.symm, h.2.2.1, h.2.2.2⟩
theorem nwA_s {sz ns sz1 ns1 kd : Nat} {n : Int32} {sh sh1 : Sh} {d d1 : Dt} (h : nwA sz ns sh d kd n = some (sz1, ns1, sh1, d1)) : ¬ n < 0 ∧ n.toNatClampNeg ≤ 100000 ∧ sz1 = sz + 1 ∧ ns1 = ns + n.toNatClampNeg ∧ nsh sh sz kd n.toNatClampNeg = sh1 ∧ zA d sz = d1 := by
  unfold nwA at h
  split at h
  · cases h
  · split at h
    · cases h
    · rename_i h1 h2
      have h := Option.some.inj h
      simp only [Prod.mk.injEq] at h
      exact ⟨h1, by omega, h.1.symm, h.2.1.symm, h.2.2.1, h.2.2.2⟩
/-- a cast, a store of a reference: null passes, an object must be of the kind -/
def cst (sh : Sh) (kd : Nat) (r : Option Nat) : Option Unit := on r (some ()) (fun a => kc sh kd a)
/-- copies -/
def uCI (d : Dt) (a : Nat) (f : Nat → Int32) : Dt := (d.1, d.2.1, d.2.2.1, fun b => if b = a then f else d.2.2.2.1 b, d.2.2.2.2)
def uCL (d : Dt) (a : Nat) (f : Nat → Int64) : Dt := (d.1, d.2.1, d.2.2.1, d.2.2.2.1, fun b => if b = a then f else d.2.2.2.2.1 b, d.2.2.2.2.2)
def uCR (d : Dt) (a : Nat) (f : Nat → Option Nat) : Dt := (d.1, d.2.1, d.2.2.1, d.2.2.2.1, d.2.2.2.2.1, fun b => if b = a then f else d.2.2.2.2.2 b)
def cpk (sh : Sh) (kd a0 : Nat) (sp : Int32) (a : Nat) (dp n : Int32) : Bool := decide (sh.1 a0 = kd) && decide (sh.1 a = kd) && decide (¬ sp < 0) && decide (¬ dp < 0) && decide (¬ n < 0) && decide (sp.toNatClampNeg + n.toNatClampNeg ≤ sh.2 a0) && decide (dp.toNatClampNeg + n.toNatClampNeg ≤ sh.2 a)
theorem cpk_s {sh : Sh} {kd a0 a : Nat} {sp dp n : Int32} (h : cpk sh kd a0 sp a dp n = true) : sh.1 a0 = kd ∧ sh.1 a = kd ∧ ¬ sp < 0 ∧ ¬ dp < 0 ∧ ¬ n < 0 ∧ sp.toNatClampNeg + n.toNatClampNeg ≤ sh.2 a0 ∧ dp.toNatClampNeg + n.toNatClampNeg ≤ sh.2 a := by
  simp only [cpk, Bool.and_eq_true, decide_eq_true_eq] at h
  exact ⟨h.1.1.1.1.1.1, h.1.1.1.1.1.2, h.1.1.1.1.2, h.1.1.1.2, h.1.1.2, h.1.2, h.2⟩
def cpI (sh : Sh) (d : Dt) (a0 : Nat) (sp : Int32) (a : Nat) (dp n : Int32) : Option Dt := if cpk sh 20 a0 sp a dp n = true then some (uCI d a (va_cpy (dai d a0) (dai d a) sp.toNatClampNeg dp.toNatClampNeg n.toNatClampNeg)) else none
def cpL (sh : Sh) (d : Dt) (a0 : Nat) (sp : Int32) (a : Nat) (dp n : Int32) : Option Dt := if cpk sh 21 a0 sp a dp n = true then some (uCL d a (va_cpy (dal d a0) (dal d a) sp.toNatClampNeg dp.toNatClampNeg n.toNatClampNeg)) else none
def cpE (sh : Sh) (d : Dt) (a0 : Nat) (sp n : Int32) : Bool := (List.range n.toNatClampNeg).all (fun i => on (dar d a0 (sp.toNatClampNeg + i)) true (fun y => decide (sh.1 y = 2)))
def cpR (sh : Sh) (d : Dt) (a0 : Nat) (sp : Int32) (a : Nat) (dp n : Int32) : Option Dt := if cpk sh 26 a0 sp a dp n = true ∧ cpE sh d a0 sp n = true then some (uCR d a (va_cpy (dar d a0) (dar d a) sp.toNatClampNeg dp.toNatClampNeg n.toNatClampNeg)) else none
/-- the table ABOVE; the length of a list's row -/
def abv (i : Int32) : Option Int32 := if i < 0 then none else if 8 ≤ i.toNatClampNeg then none else some (([0, 0, 2, 3, 0, 2, 6, 6] : List Int32).getD i.toNatClampNeg 0)
def lnE (sh : Sh) (em a : Nat) : Option Int32 := if a = em then some 0 else lnA sh 26 a
section
variable {p : Program} {l : Launch} {e : Env} {R : Room} {s : State} {m : MethodId} {args : Array Value} {below : List Frame} {meth : Method} {c : Code} {H : Heap} {locs : List Loc} {cells slots : Nat} {Q : State → Prop}
variable {y : MethodName} {cc : ByteArray} {nL : Nat} {rt : Option FieldType} {A : Nat → Prop} {D : va_G} {cy : Nat → ClassId} {st : Nat → Nat} {sz : Nat} {sh : Sh} {d d1 : Dt} {pc a : Nat} {ls : Array Slot} {rest : List Value}
variable {sz1 ns ns1 : Nat} {sh1 : Sh}
theorem HW.lt (h : HW A D cy sz sh d H) {a : Nat} (ha : sh.1 a ≠ 0) : a < sz := by
  have := (h.2 a ha).2.lt
  rw [h.1] at this
  exact this
theorem HW.made {H1 : Heap} {kd n : Nat} (h : HW A D cy sz sh d H) (hA : A sz) (hz : H1.size = sz + 1) (ho : ∀ q, q < sz → H1[q]? = H[q]?) (hn : va_at D vwCl (sz, wE cy (nsh sh sz kd n) d1 sz) H1) (he : ∀ b, b ≠ sz → wE cy (nsh sh sz kd n) d1 b = wE cy sh d b) : HW A D cy (sz + 1) (nsh sh sz kd n) d1 H1 := by
  refine ⟨hz, fun b hb => ?_⟩
  by_cases hbs : b = sz
  · subst hbs; exact ⟨hA, hn⟩
  · have hb' : sh.1 b ≠ 0 := by
      simp only [nsh, va_up_ne _ _ hbs] at hb; exact hb
    refine ⟨(h.2 b hb').1, ?_⟩
    rw [he b hbs]
    exact (h.2 b hb').2.kept (ho b (h.lt hb'))
theorem nsh_self (sh : Sh) (a kd n : Nat) : (nsh sh a kd n).1 a = kd := va_up_self _ _ _
theorem nsh_self2 (sh : Sh) (a kd n : Nat) : (nsh sh a kd n).2 a = n := va_up_self _ _ _
theorem wE_nO {kd n b : Nat} (hb : b ≠ a) : wE cy (nsh sh a kd n) (zO d a) b = wE cy sh d b := by
  unfold wE
  simp only [nsh, va_up_ne _ _ hb]
  have e1 : ∀ ci, wF (zO d a) ci b = wF d ci b := by intro ci; unfold wF; split <;> simp [zO, dfi, dfl, dfr, hb]
  rw [e1]; rfl
theorem wE_nA {kd n b : Nat} (hb : b ≠ a) : wE cy (nsh sh a kd n) (zA d a) b = wE cy sh d b := by
  unfold wE
  simp only [nsh, va_up_ne _ _ hb]
  have e1 : dai (zA d a) b = dai d b := by simp [dai, zA, hb]
  have e2 : dal (zA d a) b = dal d b := by simp [dal, zA, hb]
  have e3 : dar (zA d a) b = dar d b := by simp [dar, zA, hb]
  rw [e1, e2, e3]; rfl
theorem w_new (C : mx p s m args meth c y cc nL rt A D cy st) (hw : HW A D cy sz sh d H) (hS : va_S A s.heap H locs) {ci : Nat} {Cn : String} {T : u_T} {N index : Nat} (hin : ∀ w ∈ u_ws Cn T N, w ∈ gtb) (ty : Nat → FieldType) (hty : ∀ k, k < N → parseFieldDescriptor (T k).2.2.1 = some (ty k)) (hc : vwCl[ci]? = some (Cn, T, N)) (hci : ci < 19) (hfs : ∀ (d : Dt) (a j : Nat), j < N → defaultValue (ty j) = vp_V (wF (zO d a) ci a) j) (hcl : Cond.classLink y.cls index Cn ∈ gtb) (hinst : Cond.instantiable Cn N ∈ gtb) (hini : Cond.initialized Cn ∈ gtb)
    (h : nwO sz ns sh d (ci + 1) N = some (sz1, ns1, sh1, d1)) (hcells : cells + 1 ≤ R.cells) (hslots : slots + N ≤ R.slots) (hdg : decode cc pc = .ok (.new index, 3))
    (kk : ∀ (H1 : Heap), HW A D cy sz1 sh1 d1 H1 → va_S A s.heap H1 locs → W p l e R s m args below meth c H1 locs (cells + 1) (slots + N) Q (F0 m (pc + 3) ls (.ref sz :: rest))) : W p l e R s m args below meth c H locs cells slots Q (F0 m pc ls rest) := by
  obtain ⟨hx, hb, -, -, hts, ho, -, hK, hA0, -⟩ := C
  obtain ⟨rfl, rfl, rfl, rfl⟩ := nwO_s h
  have hsz := hw.1
  have hA : A sz := hA0 sz (by have := hS.1; omega)
  have hKn := hK.1.1 ci _ hc
  refine W.newcK hx hb ho (hts _ hcl) (hts _ hinst) (hts _ hini) rfl hdg hcells hslots hKn.2.1 hsz fun H1 kC hkC e1 z1 o1 => ?_
  refine kk H1 (hw.made hA z1 o1 ?_ (fun b hb => wE_nO hb)) ⟨Nat.le_trans hS.1 (by omega), fun x h1 h2 => (o1 x (by have := hS.1; omega)).trans (hS.2.1 x h1 h2), hS.2.2⟩
  rw [wE_o ci (nsh_self _ _ _ _) hci]
  exact ⟨_, hc, (u_born ty hts hin hKn hkC e1 hty).to (hfs d sz)⟩
theorem w_newa (C : mx p s m args meth c y cc nL rt A D cy st) (hw : HW A D cy sz sh d H) (hS : va_S A s.heap H locs) {kd : Nat} (t : Nat) {atype : ArrayType} {ty : FieldType} (hkd : kd = t + 20) (harr : Cond.arrayClass (newarray.typeOf atype) ∈ gtb) (hty : newarray.typeOf atype = ty) (ht : (tysA cy)[t]? = some (cy t, ty)) (hra : ∀ cA, va_RA s cA ty → s.vm.findClass ("[" ++ ty.toString) = some cA) (hb8 : componentBytes ty ≤ 8) (hcell : ∀ (sh : Sh) (d : Dt) (a n : Nat), ∃ x : vp_A, wE cy (nsh sh a kd n) (zA d a) a = .inl (cy t, x) ∧ vp_cell (cy t) x = arrV (cy t) n (fun _ => defaultValue ty)) {n : Int32}
    (h : nwA sz ns sh d kd n = some (sz1, ns1, sh1, d1)) (hcells : cells + 1 ≤ R.cells) (hslots : slots + n.toNatClampNeg ≤ R.slots) (hdg : decode cc pc = .ok (.newarray atype, 2))
    (kk : ∀ (H1 : Heap), HW A D cy sz1 sh1 d1 H1 → va_S A s.heap H1 locs → W p l e R s m args below meth c H1 locs (cells + 1) (slots + n.toNatClampNeg) Q (F0 m (pc + 2) ls (.ref sz :: rest))) : W p l e R s m args below meth c H locs cells slots Q (F0 m pc ls (.int n :: rest)) := by
  obtain ⟨hx, hb, -, -, hts, ho, -, hK, hA0, -⟩ := C
  obtain ⟨hn0, hn1, rfl, rfl, rfl, rfl⟩ := nwA_s h
  have hsz := hw.1
  have hA : A sz := hA0 sz (by have := hS.1; omega)
  have hk1 := (hK.1.2 t _ ht).2
  subst hty
  refine va_newaK hx hb (hts _ harr) rfl hdg rfl hn0 rfl (Nat.le_trans (Nat.mul_le_mul hn1 hb8) (by decide)) hcells hslots hsz fun H1 cA e1 z1 o1 hAr hNm => ?_
  have hcA : cA = cy t := Option.some.inj (hNm.symm.trans (hra _ hk1))
  subst hcA
  refine kk H1 (hw.made hA z1 o1 ?_ (fun b hb => wE_nA hb)) ⟨Nat.le_trans hS.1 (by omega), fun x h1 h2 => (o1 x (by have := hS.1; omega)).trans (hS.2.1 x h1 h2), hS.2.2⟩
  obtain ⟨x, hx1, hx2⟩ := hcell sh d sz n.toNatClampNeg
  rw [hx1]
  show H1[sz]? = some (vp_cell _ _)
  rw [hx2]
  exact e1
theorem w_newI (C : mx p s m args meth c y cc nL rt A D cy st) (hw : HW A D cy sz sh d H) (hS : va_S A s.heap H locs) {n : Int32} (harr : Cond.arrayClass .int ∈ gtb)
    (h : nwA sz ns sh d 20 n = some (sz1, ns1, sh1, d1)) (hcells : cells + 1 ≤ R.cells) (hslots : slots + n.toNatClampNeg ≤ R.slots) (hdg : decode cc pc = .ok (.newarray .int, 2))
    (kk : ∀ (H1 : Heap), HW A D cy sz1 sh1 d1 H1 → va_S A s.heap H1 locs → W p l e R s m args below meth c H1 locs (cells + 1) (slots + n.toNatClampNeg) Q (F0 m (pc + 2) ls (.ref sz :: rest))) : W p l e R s m args below meth c H locs cells slots Q (F0 m pc ls (.int n :: rest)) :=
  w_newa (atype := .int) C hw hS 0 rfl harr rfl rfl (fun _ h => h) (by decide) (fun sh d a n => ⟨(n, .inl fun _ => 0), by rw [wE_i (nsh_self _ _ _ _), nsh_self2]; simp [dai, zA], rfl⟩) h hcells hslots hdg kk
theorem w_newJ (C : mx p s m args meth c y cc nL rt A D cy st) (hw : HW A D cy sz sh d H) (hS : va_S A s.heap H locs) {n : Int32} (harr : Cond.arrayClass .long ∈ gtb)
    (h : nwA sz ns sh d 21 n = some (sz1, ns1, sh1, d1)) (hcells : cells + 1 ≤ R.cells) (hslots : slots + n.toNatClampNeg ≤ R.slots) (hdg : decode cc pc = .ok (.newarray .long, 2))
    (kk : ∀ (H1 : Heap), HW A D cy sz1 sh1 d1 H1 → va_S A s.heap H1 locs → W p l e R s m args below meth c H1 locs (cells + 1) (slots + n.toNatClampNeg) Q (F0 m (pc + 2) ls (.ref sz :: rest))) : W p l e R s m args below meth c H locs cells slots Q (F0 m pc ls (.int n :: rest)) :=
  w_newa (atype := .long) C hw hS 1 rfl harr rfl rfl (fun _ h => h) (by decide) (fun sh d a n => ⟨(n, .inr (.inl fun _ => 0)), by rw [wE_j (nsh_self _ _ _ _), nsh_self2]; simp [dal, zA], rfl⟩) h hcells hslots hdg kk
theorem w_newZ (C : mx p s m args meth c y cc nL rt A D cy st) (hw : HW A D cy sz sh d H) (hS : va_S A s.heap H locs) {n : Int32} (harr : Cond.arrayClass .boolean ∈ gtb)
    (h : nwA sz ns sh d 22 n = some (sz1, ns1, sh1, d1)) (hcells : cells + 1 ≤ R.cells) (hslots : slots + n.toNatClampNeg ≤ R.slots) (hdg : decode cc pc = .ok (.newarray .boolean, 2))
    (kk : ∀ (H1 : Heap), HW A D cy sz1 sh1 d1 H1 → va_S A s.heap H1 locs → W p l e R s m args below meth c H1 locs (cells + 1) (slots + n.toNatClampNeg) Q (F0 m (pc + 2) ls (.ref sz :: rest))) : W p l e R s m args below meth c H locs cells slots Q (F0 m pc ls (.int n :: rest)) :=
  w_newa (atype := .boolean) C hw hS 2 rfl harr rfl rfl (fun _ h => h) (by decide) (fun sh d a n => ⟨(n, .inl fun _ => 0), by rw [wE_z (nsh_self _ _ _ _), nsh_self2]; simp [dai, zA], rfl⟩) h hcells hslots hdg kk
theorem w_newq (C : mx p s m args meth c y cc nL rt A D cy st) (hw : HW A D cy sz sh d H) (hS : va_S A s.heap H locs) {kd index : Nat} (t : Nat) {Cn : String} (hkd : kd = t + 20) (ht3 : 3 ≤ t) (hcl : Cond.classLink y.cls index Cn ∈ gtb) (hover : va_AO Cn s) (ht : (tysA cy)[t]? = some (cy t, .object Cn)) {n : Int32}
    (h : nwA sz ns sh d kd n = some (sz1, ns1, sh1, d1)) (hcells : cells + 1 ≤ R.cells) (hslots : slots + n.toNatClampNeg ≤ R.slots) (hdg : decode cc pc = .ok (.anewarray index, 3))
    (kk : ∀ (H1 : Heap), HW A D cy sz1 sh1 d1 H1 → va_S A s.heap H1 locs → W p l e R s m args below meth c H1 locs (cells + 1) (slots + n.toNatClampNeg) Q (F0 m (pc + 3) ls (.ref sz :: rest))) : W p l e R s m args below meth c H locs cells slots Q (F0 m pc ls (.int n :: rest)) := by
  obtain ⟨hx, hb, -, -, hts, ho, -, hK, hA0, -⟩ := C
  obtain ⟨hn0, hn1, rfl, rfl, rfl, rfl⟩ := nwA_s h
  have hsz := hw.1
  have hA : A sz := hA0 sz (by have := hS.1; omega)
  obtain ⟨kA', comp', g1, g2, g3, g4⟩ := (hK.1.2 t _ ht).2
  refine W.anew hx hb ho (hts _ hcl) (va_AO.use hover) rfl hdg rfl hn0 (by omega) hcells hslots fun cA kA comp f1 f2 f3 f4 => ?_
  have hcA : cA = cy t := Option.some.inj (f1.symm.trans g4)
  subst hcA
  rw [hsz]
  generalize hH1 : H.push ({ cls := cy t, slots := Array.replicate n.toNatClampNeg .null, vm := .none } : Cell) = H1
  have z1 : H1.size = sz + 1 := by rw [← hH1, Array.size_push, hsz]
  have e1 : H1[sz]? = some (arrV (cy t) n.toNatClampNeg (fun _ => .null)) := by rw [← hH1, ← hsz, Array.getElem?_push_size, ← arrV_new]
  have o1 : ∀ q : Nat, q < sz → H1[q]? = H[q]? := fun q hq => by rw [← hH1, Array.getElem?_push, if_neg (by omega)]
  refine kk H1 (hw.made hA z1 o1 ?_ (fun b hb => wE_nA hb)) ⟨Nat.le_trans hS.1 (by omega), fun x h1 h2 => (o1 x (by have := hS.1; omega)).trans (hS.2.1 x h1 h2), hS.2.2⟩
  rw [wE_r t (by rw [nsh_self]; exact hkd) ht3, nsh_self2]
  show H1[sz]? = some (vp_cell _ _)
  rw [vp_cell_q, e1]
  congr 2
  funext j
  simp [dar, zA, va_rf]
theorem w_recv (C : mx p s m args meth c y cc nL rt A D cy st) (hw : HW A D cy sz sh d H) {ci : Nat} {r : vw_C} (hc : vwCl[ci]? = some r) (hci : ci < 19) (hk : sh.1 a = ci + 1) : ∃ cell : Cell, H[a]? = some cell ∧ cell.vm.isStatics = false ∧ s.vm.findClass r.1 = some cell.cls :=
  va_recv C.2.2.2.2.2.2.2.1.1 (hw.ats (by omega) (wE_o ci hk hci)) hc (q0 := 0) rfl
theorem w_aast0 (C : mx p s m args meth c y cc nL rt A D cy st) (hw : HW A D cy sz sh d H) (hS : va_S A s.heap H locs) {kd v ci : Nat} {r : vw_C} (t : Nat) {Cn : String} (ht : kd = t + 20) (ht3 : 3 ≤ t) (hty : (tysA cy)[t]? = some (cy t, .object Cn)) (hc : vwCl[ci]? = some r) (hci : ci < 19) (hkv : sh.1 v = ci + 1) (hasg : ∀ comp c0 : ClassId, s.vm.findClass Cn = some comp → s.vm.findClass r.1 = some c0 → s.vm.assignable c0 comp = true) {i : Int32} (hv : sR sh d kd a i (some v) = some d1) (hdg : decode cc pc = .ok (.aastore, 1))
    (kk : ∀ (H1 : Heap) (locs1 : List Loc), HW A D cy sz sh d1 H1 → va_S A s.heap H1 locs1 → W p l e R s m args below meth c H1 locs1 cells slots Q (F0 m (pc + 1) ls rest)) : W p l e R s m args below meth c H locs cells slots Q (F0 m pc ls (.ref v :: .int i :: .ref a :: rest)) := by
  obtain ⟨cellV, g1, g3, g2⟩ := w_recv C hw hc hci hkv
  obtain ⟨hx, hb, -, -, -, -, -, hK, -⟩ := C
  obtain ⟨j, hj, he⟩ := bd_s hv
  obtain ⟨hk, hi, rfl⟩ := ix_s hj
  cases he
  subst ht
  have ha := hw.2 a (by omega)
  rw [wE_r t hk ht3] at ha
  have hlt : i.toNatClampNeg < sh.2 a := Nat.not_le.mp fun q => hi (Or.inr q)
  have h0 : ¬ i < 0 := fun q => hi (Or.inl q)
  obtain ⟨kA, comp, k1, k2, k3, -⟩ := (hK.1.2 t _ hty).2
  obtain ⟨kE, hkE, -⟩ := Vm.findClass_spec k3
  obtain ⟨kC, hkC, -⟩ := Vm.findClass_spec g2
  refine W.aast hx hb ha.2 (fun q h => by cases h) (fun h => by cases h) k1 k2 rfl hkE ⟨h0, by show _ < (arrV _ _ _).slots.size; rw [arrV_size]; exact hlt⟩ g1 (fun q h => by rw [h] at g3; cases g3) hkC (hasg _ _ k3 g2) rfl rfl hdg fun H1 e z oq => ?_
  refine kk H1 _ (hw.set z oq ?_ (fun b hb => wE_AR hb)) (hS.put z oq ha.1)
  rw [wE_r t hk ht3]
  show H1[a]? = some (vp_cell _ _)
  rw [e, vp_cell_q, vp_cell_q, arrV_store]
  congr 2
  funext q
  by_cases hq : q = i.toNatClampNeg
  · subst hq
    simp [updV, dar, uAR, u3, va_rf]
  · simp [updV, dar, uAR, u3, hq]
theorem w_aastN (C : mx p s m args meth c y cc nL rt A D cy st) (hw : HW A D cy sz sh d H) (hS : va_S A s.heap H locs) {kd : Nat} (t : Nat) {Cn : String} (ht : kd = t + 20) (ht3 : 3 ≤ t) (hty : (tysA cy)[t]? = some (cy t, .object Cn)) {i : Int32} (hv : sR sh d kd a i none = some d1) (hdg : decode cc pc = .ok (.aastore, 1))
    (kk : ∀ (H1 : Heap) (locs1 : List Loc), HW A D cy sz sh d1 H1 → va_S A s.heap H1 locs1 → W p l e R s m args below meth c H1 locs1 cells slots Q (F0 m (pc + 1) ls rest)) : W p l e R s m args below meth c H locs cells slots Q (F0 m pc ls (.null :: .int i :: .ref a :: rest)) := by
  obtain ⟨hx, hb, -, -, -, -, -, hK, -⟩ := C
  obtain ⟨j, hj, he⟩ := bd_s hv
  obtain ⟨hk, hi, rfl⟩ := ix_s hj
  cases he
  subst ht
  have ha := hw.2 a (by omega)
  rw [wE_r t hk ht3] at ha
  refine va_WaastN (C := Cn) hx hb ha.2 ((hK.1.2 t _ hty).1 (sh.2 a) (fun j => va_rf (dar d a j))) (fun h => by cases h) (by show ¬ (i < 0 ∨ (arrV _ _ _).slots.size ≤ _); rw [arrV_size]; exact hi) rfl rfl hdg fun H1 e z oq => ?_
  refine kk H1 _ (hw.set z oq ?_ (fun b hb => wE_AR hb)) (hS.put z oq ha.1)
  rw [wE_r t hk ht3]
  show H1[a]? = some (vp_cell _ _)
  rw [e, vp_cell_q, vp_cell_q, arrV_store]
  congr 2
  funext q
  by_cases hq : q = i.toNatClampNeg
  · subst hq
    simp [updV, dar, uAR, u3, va_rf]
  · simp [updV, dar, uAR, u3, hq]
/-- a store of a reference or null; the value is of the class ci -/
theorem w_aast (C : mx p s m args meth c y cc nL rt A D cy st) (hw : HW A D cy sz sh d H) (hS : va_S A s.heap H locs) {kd ci : Nat} {r : vw_C} (t : Nat) {Cn : String} (ht : kd = t + 20) (ht3 : 3 ≤ t) (hty : (tysA cy)[t]? = some (cy t, .object Cn)) (hc : vwCl[ci]? = some r) (hci : ci < 19) {v : Option Nat} {u : Unit} (hkv : cst sh (ci + 1) v = some u) (hasg : ∀ comp c0 : ClassId, s.vm.findClass Cn = some comp → s.vm.findClass r.1 = some c0 → s.vm.assignable c0 comp = true) {i : Int32} (hv : sR sh d kd a i v = some d1) (hdg : decode cc pc = .ok (.aastore, 1))
    (kk : ∀ (H1 : Heap) (locs1 : List Loc), HW A D cy sz sh d1 H1 → va_S A s.heap H1 locs1 → W p l e R s m args below meth c H1 locs1 cells slots Q (F0 m (pc + 1) ls rest)) : W p l e R s m args below meth c H locs cells slots Q (F0 m pc ls (va_rf v :: .int i :: .ref a :: rest)) := by
  cases v with
  | none => exact w_aastN C hw hS t ht ht3 hty hv hdg kk
  | some v => exact w_aast0 C hw hS t ht ht3 hty hc hci (kc_k hkv) hasg hv hdg kk
theorem w_cast (C : mx p s m args meth c y cc nL rt A D cy st) (hw : HW A D cy sz sh d H) {ci index : Nat} {r : vw_C} {nm : String} (hc : vwCl[ci]? = some r) (hci : ci < 19) {v : Option Nat} {u : Unit} (hv : cst sh (ci + 1) v = some u) (hlink : Cond.classLink y.cls index nm ∈ gtb) (hca : Cond.castable r.1 nm ∈ nws) (hdg : decode cc pc = .ok (.checkcast index, 3))
    (kk : W p l e R s m args below meth c H locs cells slots Q (F0 m (pc + 3) ls (va_rf v :: rest))) : W p l e R s m args below meth c H locs cells slots Q (F0 m pc ls (va_rf v :: rest)) := by
  cases v with
  | none => exact lv_castN C.1 C.2.1 hdg kk
  | some v => exact va_castY C.1 C.2.1 C.2.2.2.2.2.1 (C.2.2.2.2.1 _ hlink) (C.2.2.2.2.2.2.2.1.2.1 _ hca) (w_recv C hw hc hci (kc_k hv)) hdg kk
/-- System.arraycopy, on the rows as they are -/
theorem w_cp0 (C : mx p s m args meth c y cc nL rt A D cy st) {index a0 : Nat} {c0 c1 : ClassId} {n0 n1 : Nat} {F G : Nat → Value} {ty : FieldType} (K0 : ∃ k cm, s.vm.classes[c0]? = some k ∧ k.kind = .array cm ty) (K1 : ∃ k cm, s.vm.classes[c1]? = some k ∧ k.kind = .array cm ty) (hc0 : H[a0]? = some (arrV c0 n0 F)) (hc1 : H[a]? = some (arrV c1 n1 G))
    {sp dp n : Int32} (h1 : ¬ sp < 0) (h2 : ¬ dp < 0) (h3 : ¬ n < 0) (h4 : sp.toNatClampNeg + n.toNatClampNeg ≤ n0) (h5 : dp.toNatClampNeg + n.toNatClampNeg ≤ n1) (hfit : ∀ i, i < n.toNatClampNeg → fits ty (F (sp.toNatClampNeg + i)) = true)
    (htk : ∀ T : State, T.heap = H → ∀ vm', s.vm.Alike vm' → ∀ k cm, s.vm.classes[c1]? = some k → k.kind = .array cm ty → ∀ i, i < n.toNatClampNeg → (T.setVm vm').takes cm (F (sp.toNatClampNeg + i)))
    (hlink : Cond.methodLink y.cls index arraycopyName ∈ gtb) (hnat : Cond.native arraycopyName ∈ gtb) (hstat : Cond.static arraycopyName ∈ gtb) (hini : Cond.initialized "java/lang/System" ∈ gtb) (hls : ls.size = nL) (hframes : 1 ≤ R.frames) (hlocals : (rest.map fun v => v.category).sum + (nativeFrameWords "java/lang/System" "arraycopy" 5 + 11) ≤ R.locals) (hdg : decode cc pc = .ok (.invokestatic index, 3))
    (kk : ∀ (H1 : Heap) (locs1 : List Loc), H1[a]? = some (arrV c1 n1 (va_cpy F G sp.toNatClampNeg dp.toNatClampNeg n.toNatClampNeg)) → H1.size = H.size → (∀ q : Nat, q ≠ a → H1[q]? = H[q]?) → (∀ q ∈ locs1, q ∈ locs ∨ q.base = a) → W p l e R s m args below meth c H1 locs1 cells slots Q (F0 m (pc + 3) ls rest)) : W p l e R s m args below meth c H locs cells slots Q (F0 m pc ls (.int n :: .int dp :: .ref a :: .int sp :: .ref a0 :: rest)) := by
  obtain ⟨hx, hb, -, hml, hts, ho, -, hK, -⟩ := C
  have nn : ∀ z : Int32, ¬ z < 0 → z.toInt = (z.toNatClampNeg : Int) := by
    intro z hz
    have hz0 : (0 : Int) ≤ z.toInt := by
      have := Int32.not_lt.mp hz
      simpa using Int32.le_iff_toInt_le.mp this
    show z.toInt = ((z.toInt.toNat : Nat) : Int)
    omega
  obtain ⟨k0, cm0, hk0, hkk0⟩ := K0
  obtain ⟨k1, cm1, hk1, hkk1⟩ := K1
  intro T hT X
  have ge : ∀ i, i < n.toNatClampNeg → (arrV c0 n0 F).slots.getD (sp.toNatClampNeg + i) .null = F (sp.toNatClampNeg + i) := by
    intro i hi
    rw [Array.getD_eq_getD_getElem?, arrV_read _ _ (by omega)]
    rfl
  obtain ⟨vm', X', step⟩ := X.arraycopy hx ho (hts _ hlink) (hts _ hnat) (hts _ hstat) (hts _ hini) (src := a0) (dst := a) (cs := arrV c0 n0 F) (cd := arrV c1 n1 G) (srcPos := sp) (destPos := dp) (n := n) (by rw [hT]; exact hc0) (by rw [hT]; exact hc1)
    (fun _ h => by cases h) (fun _ h => by cases h) (fun h => by cases h) (fun h => by cases h) hk0 hk1 hkk0 hkk1 (by simp) h1 h2 h3
    (by rw [nn sp h1, nn n h3, arrV_size]; omega)
    (by rw [nn dp h2, nn n h3, arrV_size]; omega)
    (fun vm₁ hal i hi => by rw [ge i hi]; exact ⟨hfit i hi, htk T hT vm₁ hal k1 cm1 hk1 hkk1 i hi⟩)
    (g := F0 m pc ls (.int n :: .int dp :: .ref a :: .int sp :: .ref a0 :: rest)) rfl (hls.trans hml.symm) (rest := rest) rfl (by rw [hb]; exact hdg) hframes (by show 2 * 0 + _ + _ ≤ _; omega)
  have e1 : copied (arrV c0 n0 F) (arrV c1 n1 G) sp dp n = arrV c1 n1 (va_cpy F G sp.toNatClampNeg dp.toNatClampNeg n.toNatClampNeg) := va_copied (fun z => z) c0 c1 F G h4
  rw [e1] at X' step
  have hl : a < H.size := (Array.getElem?_eq_some_iff.mp hc1).1
  have hheap : ((T.setVm vm').setCell a (arrV c1 n1 (va_cpy F G sp.toNatClampNeg dp.toNatClampNeg n.toNatClampNeg))).heap = H.setIfInBounds a (arrV c1 n1 (va_cpy F G sp.toNatClampNeg dp.toNatClampNeg n.toNatClampNeg)) := by rw [← hT]; rfl
  obtain ⟨t, a1, b1⟩ := kk _ _ (by simp [Array.getElem?_setIfInBounds, hl]) (by simp) (fun q hq => by simp [Array.getElem?_setIfInBounds, Ne.symm hq]) (fun q hq => by
      rcases List.mem_append.mp hq with h | h
      · exact Or.inl h
      · obtain ⟨z, -, hz⟩ := List.mem_map.mp h
        exact Or.inr (by rw [← hz])) _ hheap X'
  exact ⟨t, step t a1, b1⟩
theorem va_cpy_mk {α : Type} (mk : α → Value) (f g : Nat → α) (sp dp n : Nat) : va_cpy (fun j => mk (f j)) (fun j => mk (g j)) sp dp n = fun j => mk (va_cpy f g sp dp n j) := by
  funext j; simp only [va_cpy]; split <;> rfl
theorem w_S2 {H1 : Heap} {locs1 : List Loc} (hS : va_S A s.heap H locs) (z : H1.size = H.size) (oq : ∀ q : Nat, q ≠ a → H1[q]? = H[q]?) (hl : ∀ q ∈ locs1, q ∈ locs ∨ q.base = a) (ha : A a) : va_S A s.heap H1 locs1 :=
  ⟨by rw [z]; exact hS.1, fun q h1 h2 => by rw [oq q (fun e => h2 (e ▸ ha))]; exact hS.2.1 q h1 h2, fun q hq => (hl q hq).elim (hS.2.2 q) (fun e => e ▸ ha)⟩
theorem w_cpI (C : mx p s m args meth c y cc nL rt A D cy st) (hw : HW A D cy sz sh d H) (hS : va_S A s.heap H locs) {index a0 : Nat} {sp dp n : Int32} (hv : cpI sh d a0 sp a dp n = some d1)
    (hlink : Cond.methodLink y.cls index arraycopyName ∈ gtb) (hnat : Cond.native arraycopyName ∈ gtb) (hstat : Cond.static arraycopyName ∈ gtb) (hini : Cond.initialized "java/lang/System" ∈ gtb) (hls : ls.size = nL) (hframes : 1 ≤ R.frames) (hlocals : (rest.map fun v => v.category).sum + (nativeFrameWords "java/lang/System" "arraycopy" 5 + 11) ≤ R.locals) (hdg : decode cc pc = .ok (.invokestatic index, 3))
    (kk : ∀ (H1 : Heap) (locs1 : List Loc), HW A D cy sz sh d1 H1 → va_S A s.heap H1 locs1 → W p l e R s m args below meth c H1 locs1 cells slots Q (F0 m (pc + 3) ls rest)) : W p l e R s m args below meth c H locs cells slots Q (F0 m pc ls (.int n :: .int dp :: .ref a :: .int sp :: .ref a0 :: rest)) := by
  unfold cpI at hv
  split at hv
  · rename_i hk
    obtain ⟨k0, k1, h1, h2, h3, h4, h5⟩ := cpk_s hk
    cases hv
    have hK := C.2.2.2.2.2.2.2.1.1
    obtain ⟨-, kk0, g1, cm0, g2⟩ := (hK.2 0 _ rfl).1 (sh.2 a0) (fun j => .int (dai d a0 j))
    have q0 := (hw.2 a0 (by omega)).2
    have q1 := hw.2 a (by omega)
    rw [wE_i k0] at q0
    rw [wE_i k1] at q1
    refine w_cp0 C (F := fun j => .int (dai d a0 j)) (G := fun j => .int (dai d a j)) (ty := .int) ⟨kk0, cm0, g1, g2⟩ ⟨kk0, cm0, g1, g2⟩ q0 q1.2 h1 h2 h3 h4 h5 (fun _ _ => rfl) (fun T hT vm' hal k cm _ _ i hi => trivial) hlink hnat hstat hini hls hframes hlocals hdg fun H1 locs1 e z oq hl => ?_
    refine kk H1 locs1 (hw.set z oq ?_ (fun b hb => ?_)) (w_S2 hS z oq hl q1.1)
    · rw [wE_i k1]
      show H1[a]? = some (vp_cell _ _)
      rw [e, vp_cell_i, va_cpy_mk (fun z => .int z)]
      congr 2
      funext j
      simp [dai, uCI]
    · unfold wE
      have e1 : ∀ f, dai (uCI d a f) b = dai d b := by intro f; simp [dai, uCI, hb]
      rw [e1]; rfl
  · cases hv
theorem w_cpL (C : mx p s m args meth c y cc nL rt A D cy st) (hw : HW A D cy sz sh d H) (hS : va_S A s.heap H locs) {index a0 : Nat} {sp dp n : Int32} (hv : cpL sh d a0 sp a dp n = some d1)
    (hlink : Cond.methodLink y.cls index arraycopyName ∈ gtb) (hnat : Cond.native arraycopyName ∈ gtb) (hstat : Cond.static arraycopyName ∈ gtb) (hini : Cond.initialized "java/lang/System" ∈ gtb) (hls : ls.size = nL) (hframes : 1 ≤ R.frames) (hlocals : (rest.map fun v => v.category).sum + (nativeFrameWords "java/lang/System" "arraycopy" 5 + 11) ≤ R.locals) (hdg : decode cc pc = .ok (.invokestatic index, 3))
    (kk : ∀ (H1 : Heap) (locs1 : List Loc), HW A D cy sz sh d1 H1 → va_S A s.heap H1 locs1 → W p l e R s m args below meth c H1 locs1 cells slots Q (F0 m (pc + 3) ls rest)) : W p l e R s m args below meth c H locs cells slots Q (F0 m pc ls (.int n :: .int dp :: .ref a :: .int sp :: .ref a0 :: rest)) := by
  unfold cpL at hv
  split at hv
  · rename_i hk
    obtain ⟨k0, k1, h1, h2, h3, h4, h5⟩ := cpk_s hk
    cases hv
    have hK := C.2.2.2.2.2.2.2.1.1
    obtain ⟨-, kk0, g1, cm0, g2⟩ := (hK.2 1 _ rfl).1 (sh.2 a0) (fun j => .long (dal d a0 j))
    have q0 := (hw.2 a0 (by omega)).2
    have q1 := hw.2 a (by omega)
    rw [wE_j k0] at q0
    rw [wE_j k1] at q1
    refine w_cp0 C (F := fun j => .long (dal d a0 j)) (G := fun j => .long (dal d a j)) (ty := .long) ⟨kk0, cm0, g1, g2⟩ ⟨kk0, cm0, g1, g2⟩ q0 q1.2 h1 h2 h3 h4 h5 (fun _ _ => rfl) (fun T hT vm' hal k cm _ _ i hi => trivial) hlink hnat hstat hini hls hframes hlocals hdg fun H1 locs1 e z oq hl => ?_
    refine kk H1 locs1 (hw.set z oq ?_ (fun b hb => ?_)) (w_S2 hS z oq hl q1.1)
    · rw [wE_j k1]
      show H1[a]? = some (vp_cell _ _)
      rw [e, vp_cell_l, va_cpy_mk (fun z => .long z)]
      congr 2
      funext j
      simp [dal, uCL]
    · unfold wE
      have e1 : ∀ f, dal (uCL d a f) b = dal d b := by intro f; simp [dal, uCL, hb]
      rw [e1]; rfl
  · cases hv
theorem w_cpR (C : mx p s m args meth c y cc nL rt A D cy st) (hw : HW A D cy sz sh d H) (hS : va_S A s.heap H locs) {index a0 : Nat} {sp dp n : Int32} (hv : cpR sh d a0 sp a dp n = some d1)
    (hlink : Cond.methodLink y.cls index arraycopyName ∈ gtb) (hnat : Cond.native arraycopyName ∈ gtb) (hstat : Cond.static arraycopyName ∈ gtb) (hini : Cond.initialized "java/lang/System" ∈ gtb) (hls : ls.size = nL) (hframes : 1 ≤ R.frames) (hlocals : (rest.map fun v => v.category).sum + (nativeFrameWords "java/lang/System" "arraycopy" 5 + 11) ≤ R.locals) (hdg : decode cc pc = .ok (.invokestatic index, 3))
    (kk : ∀ (H1 : Heap) (locs1 : List Loc), HW A D cy sz sh d1 H1 → va_S A s.heap H1 locs1 → W p l e R s m args below meth c H1 locs1 cells slots Q (F0 m (pc + 3) ls rest)) : W p l e R s m args below meth c H locs cells slots Q (F0 m pc ls (.int n :: .int dp :: .ref a :: .int sp :: .ref a0 :: rest)) := by
  unfold cpR at hv
  split at hv
  · rename_i hk
    obtain ⟨hk, hE⟩ := hk
    obtain ⟨k0, k1, h1, h2, h3, h4, h5⟩ := cpk_s hk
    cases hv
    have hK := C.2.2.2.2.2.2.2.1.1
    have hca : va_Nw (.castable "ManyHands$Entry" "java/lang/Object") s := C.2.2.2.2.2.2.2.1.2.1 _ (by decide +kernel)
    obtain ⟨-, kk0, g1, cm0, g2⟩ := (hK.2 6 _ rfl).1 (sh.2 a0) (fun j => va_rf (dar d a0 j))
    obtain ⟨kA, comp, r1, r2, r3, -⟩ := (hK.2 6 _ rfl).2
    have q0 := (hw.2 a0 (by omega)).2
    have q1 := hw.2 a (by omega)
    rw [wE_r 6 k0 (by decide)] at q0
    rw [wE_r 6 k1 (by decide)] at q1
    refine w_cp0 C (F := fun j => va_rf (dar d a0 j)) (G := fun j => va_rf (dar d a j)) (ty := .object "java/lang/Object") ⟨kk0, cm0, g1, g2⟩ ⟨kk0, cm0, g1, g2⟩ q0 q1.2 h1 h2 h3 h4 h5 (fun i hi => by cases dar d a0 (sp.toNatClampNeg + i) <;> rfl) (fun T hT vm' hal k cm hkc hkk i hi => ?_) hlink hnat hstat hini hls hframes hlocals hdg fun H1 locs1 e z oq hl => ?_
    · have hE1 := List.all_eq_true.mp hE i (List.mem_range.mpr hi)
      cases hy : dar d a0 (sp.toNatClampNeg + i) with
      | none => exact trivial
      | some y =>
        rw [hy] at hE1
        have hky : sh.1 y = 1 + 1 := of_decide_eq_true hE1
        obtain ⟨cellV, v1, v2, v3⟩ := w_recv C hw (r := (RX0, TX0, 10)) rfl (by decide) hky
        cases hkc.symm.trans r1
        cases hkk.symm.trans r2
        obtain ⟨kC, hkC, -⟩ := Vm.findClass_spec v3
        obtain ⟨kE, hkE, -⟩ := Vm.findClass_spec r3
        obtain ⟨kC', hkC', -⟩ := hal.2.2 _ _ hkC
        obtain ⟨kE', hkE', -⟩ := hal.2.2 _ _ hkE
        refine ⟨cellV, (show T.heap[y]? = some cellV by rw [hT]; exact v1), (fun q h => by rw [h] at v2; cases v2), ⟨kC', hkC'⟩, ⟨kE', hkE'⟩, ?_⟩
        show vm'.assignable _ _ = true
        rw [hal.assignable]
        exact vb_asgC hca _ _ r3 v3
    refine kk H1 locs1 (hw.set z oq ?_ (fun b hb => ?_)) (w_S2 hS z oq hl q1.1)
    · rw [wE_r 6 k1 (by decide)]
      show H1[a]? = some (vp_cell _ _)
      rw [e, vp_cell_q, va_cpy_mk (fun z => va_rf z)]
      congr 2
      funext j
      simp [dar, uCR]
    · unfold wE
      have e1 : ∀ f, dar (uCR d a f) b = dar d b := by intro f; simp [dar, uCR, hb]
      rw [e1]; rfl
  · cases hv
theorem w_abv (C : mx p s m args meth c y cc nL rt A D cy st) (hS : va_S A s.heap H locs) {i v : Int32} (hv : abv i = some v) (hdg : decode cc pc = .ok (.iaload, 1))
    (kk : W p l e R s m args below meth c H locs cells slots Q (F0 m (pc + 1) ls (.int v :: rest))) : W p l e R s m args below meth c H locs cells slots Q (F0 m pc ls (.int i :: .ref (st 0) :: rest)) := by
  obtain ⟨-, -, -, -, -, -, z2, -, -⟩ := C.2.2.2.2.2.2.2.1
  obtain ⟨cell, h1, h2, h3, h4, h5, h6, h7⟩ := z2
  unfold abv at hv
  split at hv
  · cases hv
  · rename_i g1
    split at hv
    · cases hv
    · rename_i g2
      cases hv
      exact W.iald (v := abV i.toNatClampNeg) C.1 C.2.1 (by rw [hS.2.1 _ (Array.getElem?_eq_some_iff.mp h1).1 h7]; exact h1) h2 h3 (fun q => q.elim g1 (fun q => by omega)) (h6 _ (by omega)) rfl rfl hdg kk
theorem w_lnE (C : mx p s m args meth c y cc nL rt A D cy st) (hw : HW A D cy sz sh d H) (hS : va_S A s.heap H locs) {v : Int32} (hv : lnE sh (st 1) a = some v) (hdg : decode cc pc = .ok (.arraylength, 1))
    (kk : W p l e R s m args below meth c H locs cells slots Q (F0 m (pc + 1) ls (.int v :: rest))) : W p l e R s m args below meth c H locs cells slots Q (F0 m pc ls (.ref a :: rest)) := by
  unfold lnE at hv
  split at hv
  · rename_i ha
    subst ha
    cases hv
    obtain ⟨-, -, -, -, -, -, -, -, z4⟩ := C.2.2.2.2.2.2.2.1
    obtain ⟨cell, h1, h2, h3, h4, h5, h6, h7⟩ := z4
    exact W.alen (n := 0) C.1 C.2.1 (by rw [hS.2.1 _ (Array.getElem?_eq_some_iff.mp h1).1 h7]; exact h1) h2 h5 rfl rfl hdg kk
  · exact w_alen C hw 6 rfl rfl hv hdg kk
/-! calls of constructors -/
variable {y1 : MethodName} {cc1 : ByteArray} {nL1 : Nat} {rt1 : Option FieldType} {fr lo mc ms b index ci : Nat} {As st0 : List Value} {rv : Option Value}
def CK (y1 : MethodName) (cc1 : ByteArray) (nL1 : Nat) (n : Nat) : Prop := y1.name = "<init>" ∧ Cond.instanceMethod y1 ∈ gtb ∧ Cond.initialized y1.cls ∈ gtb ∧ Cond.code y1 cc1 nL1 none ∈ gtb ∧ y1.cls ≠ "java/lang/invoke/MethodHandle" ∧ y1.cls ≠ "java/lang/invoke/VarHandle" ∧ (parseMethodDescriptor y1.desc).map (fun d => d.parameters.length) = some n
theorem cl_I (C : mx p s m args meth c y cc nL rt A D cy st) (hw : HW A D cy sz sh d H) (hS : va_S A s.heap H locs) (hc : Ct l y1 cc1 nL1 none fr lo mc ms A D cy st (.ref b :: As) sz sh d rv sz1 sh1 d1) (V : CK y1 cc1 nL1 As.length) (hlink : Cond.methodLink y.cls index y1 ∈ gtb) (hR : fr + 1 ≤ R.frames ∧ 8 + (nL1 + 11) + lo ≤ R.locals) (hls : ls.size = nL) (hst : st0 = As.reverse ++ .ref b :: rest) (hW : (rest.map fun v => v.category).sum ≤ 8) (hdg : decode cc pc = .ok (.invokespecial index, 3)) (hf : cells + mc ≤ R.cells ∧ slots + ms ≤ R.slots)
    (kk : ∀ (H1 : Heap) (locs1 : List Loc), HW A D cy sz1 sh1 d1 H1 → va_S A s.heap H1 locs1 → W p l e R s m args below meth c H1 locs1 (cells + mc) (slots + ms) Q (F0 m (pc + 3) ls (rv.toList ++ rest))) : W p l e R s m args below meth c H locs cells slots Q (F0 m pc ls st0) := by
  obtain ⟨v1, v2, v3, v4, v7, v8, v9⟩ := V
  have hp := pre_go C hw hS (.ref b :: As)
  obtain ⟨hx, hb, -, hml, hts, ho, -, hK, -⟩ := C
  exact run_go (va_runI (As := As) (rest := rest) (n := As.length) (Ts := gtb) (own := y.cls) ⟨hx, hb, hml, ho, hts⟩ hc ⟨callB_of _ hts (gd_code v4) rfl rfl rfl (hts _ v3) (hts _ hlink) ⟨v7, v8, v9⟩ hR, v1, hts _ v2⟩ hp rfl rfl hls hst (by show 2 * 0 + _ ≤ 8; omega) hdg hf) hS kk
theorem cl_IN {host : String} (C : mx p s m args meth c y cc nL rt A D cy st) (hw : HW A D cy sz sh d H) (hS : va_S A s.heap H locs) (hc : Ct l y1 cc1 nL1 none fr lo mc ms A D cy st (.ref b :: As) sz sh d rv sz1 sh1 d1) (V : CK y1 cc1 nL1 As.length) (hlink : Cond.methodLinkNest y.cls index y1 host ∈ nws) (hR : fr + 1 ≤ R.frames ∧ 8 + (nL1 + 11) + lo ≤ R.locals) (hls : ls.size = nL) (hst : st0 = As.reverse ++ .ref b :: rest) (hW : (rest.map fun v => v.category).sum ≤ 8) (hdg : decode cc pc = .ok (.invokespecial index, 3)) (hf : cells + mc ≤ R.cells ∧ slots + ms ≤ R.slots)
    (kk : ∀ (H1 : Heap) (locs1 : List Loc), HW A D cy sz1 sh1 d1 H1 → va_S A s.heap H1 locs1 → W p l e R s m args below meth c H1 locs1 (cells + mc) (slots + ms) Q (F0 m (pc + 3) ls (rv.toList ++ rest))) : W p l e R s m args below meth c H locs cells slots Q (F0 m pc ls st0) := by
  obtain ⟨v1, v2, v3, v4, v7, v8, v9⟩ := V
  have hp := pre_go C hw hS (.ref b :: As)
  obtain ⟨hx, hb, -, hml, hts, ho, -, hK, -⟩ := C
  exact run_go (va_runIN (As := As) (rest := rest) (n := As.length) (Ts := gtb) (own := y.cls) (host := host) ⟨hx, hb, hml, ho, hts⟩ hc ⟨va_cnB _ hts (gd_code v4) rfl rfl rfl (hK.2.1 _ hlink) (hts _ v3) ⟨v7, v8, v9⟩ hR, v1, hts _ v2⟩ hp rfl rfl hls hst (by show 2 * 0 + _ ≤ 8; omega) hdg hf) hS kk
end
