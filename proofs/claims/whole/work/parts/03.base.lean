/-! the world of the walk: shape (kind and length by address) and data (fields by their code and address; arrays by address and place) -/
abbrev Sh : Type := (Nat → Nat) × (Nat → Nat)
abbrev Dt : Type := (Nat → Nat → Int32) × (Nat → Nat → Int64) × (Nat → Nat → Option Nat) × (Nat → Nat → Int32) × (Nat → Nat → Int64) × (Nat → Nat → Option Nat)
def dfi (d : Dt) : Nat → Nat → Int32 := d.1
def dfl (d : Dt) : Nat → Nat → Int64 := d.2.1
def dfr (d : Dt) : Nat → Nat → Option Nat := d.2.2.1
def dai (d : Dt) : Nat → Nat → Int32 := d.2.2.2.1
def dal (d : Dt) : Nat → Nat → Int64 := d.2.2.2.2.1
def dar (d : Dt) : Nat → Nat → Option Nat := d.2.2.2.2.2
def u3 {α : Type} (f : Nat → Nat → α) (k a : Nat) (v : α) : Nat → Nat → α := fun j b => if j = k ∧ b = a then v else f j b
def uI (d : Dt) (k a : Nat) (v : Int32) : Dt := (u3 d.1 k a v, d.2)
def uL (d : Dt) (k a : Nat) (v : Int64) : Dt := (d.1, u3 d.2.1 k a v, d.2.2)
def uR (d : Dt) (k a : Nat) (v : Option Nat) : Dt := (d.1, d.2.1, u3 d.2.2.1 k a v, d.2.2.2)
def uAI (d : Dt) (a i : Nat) (v : Int32) : Dt := (d.1, d.2.1, d.2.2.1, u3 d.2.2.2.1 a i v, d.2.2.2.2)
def uAL (d : Dt) (a i : Nat) (v : Int64) : Dt := (d.1, d.2.1, d.2.2.1, d.2.2.2.1, u3 d.2.2.2.2.1 a i v, d.2.2.2.2.2)
def uAR (d : Dt) (a i : Nat) (v : Option Nat) : Dt := (d.1, d.2.1, d.2.2.1, d.2.2.2.1, d.2.2.2.2.1, u3 d.2.2.2.2.2 a i v)
/-! steps that may fail -/
def bd {α β : Type} (x : Option α) (k : α → Option β) : Option β := match x with
  | none => none
  | some v => k v
def bd2 {α δ β : Type} (x : Option (α × δ)) (k : α → δ → Option β) : Option β := match x with
  | none => none
  | some q => k q.1 q.2
def on {β : Type} (r : Option Nat) (n : β) (s : Nat → β) : β := match r with
  | none => n
  | some a => s a
theorem bd_s {α β : Type} {x : Option α} {k : α → Option β} {r : β} (h : bd x k = some r) : ∃ v, x = some v ∧ k v = some r := by
  cases x with
  | none => cases h
  | some v => exact ⟨v, rfl, h⟩
theorem bd2_s {α δ β : Type} {x : Option (α × δ)} {k : α → δ → Option β} {r : β} (h : bd2 x k = some r) : ∃ v w, x = some (v, w) ∧ k v w = some r := by
  cases x with
  | none => cases h
  | some v => exact ⟨v.1, v.2, rfl, h⟩
theorem on_n {β : Type} {n : Option β} {s : Nat → Option β} {r : β} (h : on none n s = some r) : n = some r := h
theorem on_s {β : Type} {a : Nat} {n : Option β} {s : Nat → Option β} {r : β} (h : on (some a) n s = some r) : s a = some r := h
theorem if_t {β : Type} {c : Prop} [Decidable c] {a b : Option β} {r : β} (hc : c) (h : (if c then a else b) = some r) : a = some r := by rwa [if_pos hc] at h
theorem if_f {β : Type} {c : Prop} [Decidable c] {a b : Option β} {r : β} (hc : ¬ c) (h : (if c then a else b) = some r) : b = some r := by rwa [if_neg hc] at h
theorem bd_v {α β : Type} (v : α) (k : α → Option β) : bd (some v) k = k v := rfl
theorem bd_0 {α β : Type} (k : α → Option β) : bd none k = none := rfl
theorem bd2_v {α δ β : Type} (v : α) (w : δ) (k : α → δ → Option β) : bd2 (some (v, w)) k = k v w := rfl
theorem on_v {β : Type} (a : Nat) (n : β) (s : Nat → β) : on (some a) n s = s a := rfl
theorem on_0 {β : Type} (n : β) (s : Nat → β) : on none n s = n := rfl
def bI (b : Bool) : Int32 := if b then 1 else 0
/-! what an instruction reads and writes -/
def kc (sh : Sh) (kd a : Nat) : Option Unit := if sh.1 a = kd then some () else none
def gI (sh : Sh) (d : Dt) (kd k a : Nat) : Option Int32 := if sh.1 a = kd then some (dfi d k a) else none
def gL (sh : Sh) (d : Dt) (kd k a : Nat) : Option Int64 := if sh.1 a = kd then some (dfl d k a) else none
def gR (sh : Sh) (d : Dt) (kd k a : Nat) : Option (Option Nat) := if sh.1 a = kd then some (dfr d k a) else none
def pI (sh : Sh) (d : Dt) (kd k a : Nat) (v : Int32) : Option Dt := if sh.1 a = kd then some (uI d k a v) else none
def pL (sh : Sh) (d : Dt) (kd k a : Nat) (v : Int64) : Option Dt := if sh.1 a = kd then some (uL d k a v) else none
def pR (sh : Sh) (d : Dt) (kd k a : Nat) (v : Option Nat) : Option Dt := if sh.1 a = kd then some (uR d k a v) else none
def ix (sh : Sh) (kd a : Nat) (i : Int32) : Option Nat := if sh.1 a = kd then (if i < 0 then none else if sh.2 a ≤ i.toNatClampNeg then none else some i.toNatClampNeg) else none
def aI (sh : Sh) (d : Dt) (kd a : Nat) (i : Int32) : Option Int32 := bd (ix sh kd a i) fun j => some (dai d a j)
def aL (sh : Sh) (d : Dt) (kd a : Nat) (i : Int32) : Option Int64 := bd (ix sh kd a i) fun j => some (dal d a j)
def aR (sh : Sh) (d : Dt) (kd a : Nat) (i : Int32) : Option (Option Nat) := bd (ix sh kd a i) fun j => some (dar d a j)
def sI (sh : Sh) (d : Dt) (kd a : Nat) (i v : Int32) : Option Dt := bd (ix sh kd a i) fun j => some (uAI d a j v)
def sZ (sh : Sh) (d : Dt) (kd a : Nat) (i v : Int32) : Option Dt := bd (ix sh kd a i) fun j => some (uAI d a j (vp_nar .boolean v))
def sL (sh : Sh) (d : Dt) (kd a : Nat) (i : Int32) (v : Int64) : Option Dt := bd (ix sh kd a i) fun j => some (uAL d a j v)
def sR (sh : Sh) (d : Dt) (kd a : Nat) (i : Int32) (v : Option Nat) : Option Dt := bd (ix sh kd a i) fun j => some (uAR d a j v)
def lnA (sh : Sh) (kd a : Nat) : Option Int32 := if sh.1 a = kd then some (Int32.ofNat (sh.2 a)) else none
theorem kc_k {sh : Sh} {kd a : Nat} {u : Unit} (h : kc sh kd a = some u) : sh.1 a = kd := by
  unfold kc at h; split at h
  · assumption
  · cases h
theorem gI_s {sh : Sh} {d : Dt} {kd k a : Nat} {v : Int32} (h : gI sh d kd k a = some v) : sh.1 a = kd ∧ dfi d k a = v := by
  unfold gI at h; split at h
  · exact ⟨by assumption, Option.some.inj h⟩
  · cases h
theorem gL_s {sh : Sh} {d : Dt} {kd k a : Nat} {v : Int64} (h : gL sh d kd k a = some v) : sh.1 a = kd ∧ dfl d k a = v := by
  unfold gL at h; split at h
  · exact ⟨by assumption, Option.some.inj h⟩
  · cases h
theorem gR_s {sh : Sh} {d : Dt} {kd k a : Nat} {v : Option Nat} (h : gR sh d kd k a = some v) : sh.1 a = kd ∧ dfr d k a = v := by
  unfold gR at h; split at h
  · exact ⟨by assumption, Option.some.inj h⟩
  · cases h
theorem pI_s {sh : Sh} {d d1 : Dt} {kd k a : Nat} {v : Int32} (h : pI sh d kd k a v = some d1) : sh.1 a = kd ∧ uI d k a v = d1 := by
  unfold pI at h; split at h
  · exact ⟨by assumption, Option.some.inj h⟩
  · cases h
theorem pL_s {sh : Sh} {d d1 : Dt} {kd k a : Nat} {v : Int64} (h : pL sh d kd k a v = some d1) : sh.1 a = kd ∧ uL d k a v = d1 := by
  unfold pL at h; split at h
  · exact ⟨by assumption, Option.some.inj h⟩
  · cases h
theorem pR_s {sh : Sh} {d d1 : Dt} {kd k a : Nat} {v : Option Nat} (h : pR sh d kd k a v = some d1) : sh.1 a = kd ∧ uR d k a v = d1 := by
  unfold pR at h; split at h
  · exact ⟨by assumption, Option.some.inj h⟩
  · cases h
theorem ix_s {sh : Sh} {kd a : Nat} {i : Int32} {j : Nat} (h : ix sh kd a i = some j) : sh.1 a = kd ∧ vp_in i (sh.2 a) ∧ i.toNatClampNeg = j := by
  unfold ix at h
  split at h
  · rename_i h1
    split at h
    · cases h
    · rename_i h2
      split at h
      · cases h
      · rename_i h3
        exact ⟨h1, fun q => q.elim h2 h3, Option.some.inj h⟩
  · cases h
theorem lnA_s {sh : Sh} {kd a : Nat} {v : Int32} (h : lnA sh kd a = some v) : sh.1 a = kd ∧ Int32.ofNat (sh.2 a) = v := by
  unfold lnA at h; split at h
  · exact ⟨by assumption, Option.some.inj h⟩
  · cases h
/-- the fields of an object, in the order of its slots -/
def wF (d : Dt) (ci a : Nat) : List Value := match ci with
  | 0 => [.int (dfi d 32 a), va_rf (dfr d 33 a), .int (dfi d 34 a)]
  | 1 => [.int (dfi d 64 a), .int (dfi d 65 a), .int (dfi d 66 a), .int (dfi d 67 a), .int (dfi d 68 a), .long (dfl d 69 a), .int (dfi d 70 a), .int (dfi d 71 a), va_rf (dfr d 72 a), va_rf (dfr d 73 a)]
  | 2 => [.int (dfi d 96 a), va_rf (dfr d 97 a), va_rf (dfr d 98 a), va_rf (dfr d 99 a), va_rf (dfr d 100 a), va_rf (dfr d 101 a), .int (dfi d 102 a)]
  | 3 => [va_rf (dfr d 128 a), va_rf (dfr d 129 a), .int (dfi d 130 a)]
  | 4 => [.int (dfi d 160 a), .int (dfi d 161 a), va_rf (dfr d 162 a), va_rf (dfr d 163 a)]
  | 5 => [va_rf (dfr d 192 a)]
  | 6 => [va_rf (dfr d 224 a), .int (dfi d 225 a)]
  | 7 => [va_rf (dfr d 256 a), va_rf (dfr d 257 a), va_rf (dfr d 258 a), va_rf (dfr d 259 a), va_rf (dfr d 260 a), va_rf (dfr d 261 a), .int (dfi d 262 a), .int (dfi d 263 a), .int (dfi d 264 a), .long (dfl d 265 a)]
  | 8 => [.int (dfi d 288 a), va_rf (dfr d 289 a), .int (dfi d 290 a), va_rf (dfr d 291 a), va_rf (dfr d 292 a), va_rf (dfr d 293 a), va_rf (dfr d 294 a), .int (dfi d 295 a), va_rf (dfr d 296 a), .int (dfi d 297 a), va_rf (dfr d 298 a), va_rf (dfr d 299 a), va_rf (dfr d 300 a), va_rf (dfr d 301 a), va_rf (dfr d 302 a), va_rf (dfr d 303 a), va_rf (dfr d 304 a), va_rf (dfr d 305 a), .long (dfl d 306 a), va_rf (dfr d 307 a), .int (dfi d 308 a), va_rf (dfr d 309 a), va_rf (dfr d 310 a), va_rf (dfr d 311 a), va_rf (dfr d 312 a), va_rf (dfr d 313 a), va_rf (dfr d 314 a), va_rf (dfr d 315 a)]
  | _ => []
def wE (cy : Nat → ClassId) (sh : Sh) (d : Dt) (a : Nat) : va_E :=
  if sh.1 a < 20 then .inr (sh.1 a - 1, wF d (sh.1 a - 1) a)
  else if sh.1 a = 20 then .inl (cy 0, sh.2 a, .inl (dai d a))
  else if sh.1 a = 21 then .inl (cy 1, sh.2 a, .inr (.inl (dal d a)))
  else if sh.1 a = 22 then .inl (cy 2, sh.2 a, .inl (dai d a))
  else .inl (cy (sh.1 a - 20), sh.2 a, .inr (.inr (.inr (.inr (dar d a)))))
theorem wE_o {cy : Nat → ClassId} {sh : Sh} {d : Dt} {a : Nat} (ci : Nat) (h : sh.1 a = ci + 1) (hc : ci < 19) : wE cy sh d a = .inr (ci, wF d ci a) := by
  unfold wE; rw [if_pos (by omega), h]; rfl
theorem wE_i {cy : Nat → ClassId} {sh : Sh} {d : Dt} {a : Nat} (h : sh.1 a = 20) : wE cy sh d a = .inl (cy 0, sh.2 a, .inl (dai d a)) := by
  unfold wE; simp [h]
theorem wE_j {cy : Nat → ClassId} {sh : Sh} {d : Dt} {a : Nat} (h : sh.1 a = 21) : wE cy sh d a = .inl (cy 1, sh.2 a, .inr (.inl (dal d a))) := by
  unfold wE; simp [h]
theorem wE_z {cy : Nat → ClassId} {sh : Sh} {d : Dt} {a : Nat} (h : sh.1 a = 22) : wE cy sh d a = .inl (cy 2, sh.2 a, .inl (dai d a)) := by
  unfold wE; simp [h]
theorem wE_r {cy : Nat → ClassId} {sh : Sh} {d : Dt} {a : Nat} (t : Nat) (h : sh.1 a = t + 20) (ht : 3 ≤ t) : wE cy sh d a = .inl (cy t, sh.2 a, .inr (.inr (.inr (.inr (dar d a))))) := by
  unfold wE
  rw [if_neg (by omega), if_neg (by omega), if_neg (by omega), if_neg (by omega), h, Nat.add_sub_cancel]
def HW (A : Nat → Prop) (D : va_G) (cy : Nat → ClassId) (sz : Nat) (sh : Sh) (d : Dt) (H : Heap) : Prop :=
  H.size = sz ∧ ∀ a, sh.1 a ≠ 0 → A a ∧ va_at D vwCl (a, wE cy sh d a) H
theorem HW.ats {A : Nat → Prop} {D : va_G} {cy : Nat → ClassId} {sz : Nat} {sh : Sh} {d : Dt} {H : Heap} (h : HW A D cy sz sh d H) {a : Nat} {x : va_E} (ha : sh.1 a ≠ 0) (hx : wE cy sh d a = x) : va_P D vwCl [(a, x)] H := by
  intro k q hq
  match k, hq with
  | 0, hq => cases hq; rw [← hx]; exact (h.2 a ha).2
  | k + 1, hq => simp at hq
/-- a world whose one cell is written -/
theorem HW.set {A : Nat → Prop} {D : va_G} {cy : Nat → ClassId} {sz : Nat} {sh : Sh} {d d1 : Dt} {H H1 : Heap} {a : Nat} (h : HW A D cy sz sh d H) (z : H1.size = H.size) (oq : ∀ q : Nat, q ≠ a → H1[q]? = H[q]?) (ha : va_at D vwCl (a, wE cy sh d1 a) H1) (he : ∀ b, b ≠ a → wE cy sh d1 b = wE cy sh d b) : HW A D cy sz sh d1 H1 := by
  refine ⟨z.trans h.1, fun b hb => ⟨(h.2 b hb).1, ?_⟩⟩
  by_cases hba : b = a
  · subst hba; exact ha
  · rw [he b hba]; exact (h.2 b hb).2.kept (oq b hba)
theorem wF_I (d : Dt) (k a : Nat) (v : Int32) (ci b : Nat) (h : b ≠ a) : wF (uI d k a v) ci b = wF d ci b := by
  unfold wF; split <;> simp [uI, u3, dfi, dfl, dfr, h]
theorem wF_L (d : Dt) (k a : Nat) (v : Int64) (ci b : Nat) (h : b ≠ a) : wF (uL d k a v) ci b = wF d ci b := by
  unfold wF; split <;> simp [uL, u3, dfi, dfl, dfr, h]
theorem wF_R (d : Dt) (k a : Nat) (v : Option Nat) (ci b : Nat) (h : b ≠ a) : wF (uR d k a v) ci b = wF d ci b := by
  unfold wF; split <;> simp [uR, u3, dfi, dfl, dfr, h]
theorem wF_AI (d : Dt) (a i : Nat) (v : Int32) (ci b : Nat) : wF (uAI d a i v) ci b = wF d ci b := rfl
theorem wF_AL (d : Dt) (a i : Nat) (v : Int64) (ci b : Nat) : wF (uAL d a i v) ci b = wF d ci b := rfl
theorem wF_AR (d : Dt) (a i : Nat) (v : Option Nat) (ci b : Nat) : wF (uAR d a i v) ci b = wF d ci b := rfl
/-! the tables: what every method needs of its start -/
def tysA (cy : Nat → ClassId) : List (ClassId × FieldType) := [(cy 0, .int), (cy 1, .long), (cy 2, .boolean), (cy 3, .object RX0), (cy 4, .object RX1), (cy 5, .object RX3), (cy 6, .object "java/lang/Object")]
def nws : List Cond := [(Jvm.Cond.methodLinkNest "ManyHands" (34 : Nat) ({ cls := "ManyHands$Telling", name := "<init>", desc := "()V" } : Jvm.MethodName) "ManyHands"), (Jvm.Cond.methodLinkNest "ManyHands$Hand" (11 : Nat) ({ cls := "ManyHands$Reach", name := "<init>", desc := "()V" } : Jvm.MethodName) "ManyHands"), (Jvm.Cond.methodLinkNest "ManyHands$Hand" (34 : Nat) ({ cls := "ManyHands$LeafRow", name := "<init>", desc := "()V" } : Jvm.MethodName) "ManyHands"), (Jvm.Cond.methodLinkNest "ManyHands$Page" (11 : Nat) ({ cls := "ManyHands$Reach", name := "<init>", desc := "()V" } : Jvm.MethodName) "ManyHands"), (Jvm.Cond.fieldLinkNest "ManyHands$Page" (31 : Nat) "ManyHands" "ABOVE" "[I" "ManyHands"), (Jvm.Cond.methodLinkNest "ManyHands$Entry" (11 : Nat) ({ cls := "ManyHands$Reach", name := "<init>", desc := "()V" } : Jvm.MethodName) "ManyHands"), (Jvm.Cond.methodLinkNest "ManyHands$Page" (115 : Nat) ({ cls := "ManyHands", name := "oneIf", desc := "(Z)I" } : Jvm.MethodName) "ManyHands"), (Jvm.Cond.methodLinkNest "ManyHands$Telling" (19 : Nat) ({ cls := "ManyHands", name := "folded", desc := "(JJ)J" } : Jvm.MethodName) "ManyHands"), (Jvm.Cond.methodLinkNest "ManyHands$LeafRow" (29 : Nat) ({ cls := "ManyHands", name := "folded", desc := "(JJ)J" } : Jvm.MethodName) "ManyHands"), (Jvm.Cond.castable "ManyHands$Entry" "ManyHands$Entry"), (Jvm.Cond.castable "ManyHands" "java/lang/Object"), (Jvm.Cond.castable "ManyHands$Telling" "java/lang/Object"), (Jvm.Cond.castable "ManyHandsModel" "java/lang/Object"), (Jvm.Cond.castable "ManyHands$Hand" "java/lang/Object"), (Jvm.Cond.castable "ManyHands$Reach" "java/lang/Object"), (Jvm.Cond.castable "ManyHands$LeafRow" "java/lang/Object"), (Jvm.Cond.castable "ManyHands$Page" "java/lang/Object"), (Jvm.Cond.castable "ManyHands$Entry" "java/lang/Object")]
theorem nws_go {s U : State} (hW : s.WarmedH U.vm) (h : ∀ w ∈ nws, va_Nw w s) : ∀ w ∈ nws, va_Nw w U := by
  intro w hw
  have h1 := h w hw
  simp only [nws, List.mem_cons, List.not_mem_nil, or_false] at hw
  rcases hw with rfl | rfl | rfl | rfl | rfl | rfl | rfl | rfl | rfl | rfl | rfl | rfl | rfl | rfl | rfl | rfl | rfl | rfl <;> first | exact va_Nw.warmM hW h1 | exact va_Nw.warmF hW h1 | exact va_Nw.warmC hW h1
def abV (j : Nat) : Value := .int (([0, 0, 2, 3, 0, 2, 6, 6] : List Int32).getD j 0)
/-- statics: the table ABOVE, the list's empty row -/
def STc (A : Nat → Prop) (st : Nat → Nat) (U : State) (H : Heap) : Prop :=
  va_Z "ManyHands" "ABOVE" "[I" (.ref (st 0)) A U H ∧ va_T .int (st 0) 8 abV A U H ∧ va_Z "java/util/ArrayList" "DEFAULTCAPACITY_EMPTY_ELEMENTDATA" "[Ljava/lang/Object;" (.ref (st 1)) A U H ∧ va_T (.object "java/lang/Object") (st 1) 0 (fun _ => .null) A U H
def KK (A : Nat → Prop) (D : va_G) (cy : Nat → ClassId) (st : Nat → Nat) (U : State) : Prop :=
  va_K D vwCl (tysA cy) U ∧ (∀ w ∈ nws, va_Nw w U) ∧ (va_AO RX0 U ∧ va_AO RX1 U ∧ va_AO RX3 U ∧ va_AO "java/lang/Object" U) ∧ va_Dc U ∧ va_Mi "[Ljava/lang/Object;" (st 2) U ∧ STc A st U U.heap
theorem KK.go {A : Nat → Prop} {D : va_G} {cy : Nat → ClassId} {st : Nat → Nat} {s U : State} {locs : List Loc} (h : KK A D cy st s) (hS : va_S A s.heap U.heap locs) (hW : s.WarmedH U.vm) : KK A D cy st U := by
  obtain ⟨h1, h2, ⟨a1, a2, a3, a4⟩, h3, h4, z1, z2, z3, z4⟩ := h
  have hv := hW.alike
  exact ⟨h1.moved hv, nws_go hW h2, ⟨a1.moved hv, a2.moved hv, a3.moved hv, a4.moved hv⟩, h3.moved hv, h4.moved hv, (z1.moved hv).kept (fun a q1 q2 => hS.2.1 a q1 q2), (z2.moved hv).kept (fun a q1 q2 => hS.2.1 a q1 q2), (z3.moved hv).kept (fun a q1 q2 => hS.2.1 a q1 q2), (z4.moved hv).kept (fun a q1 q2 => hS.2.1 a q1 q2)⟩
theorem KK.blind {A : Nat → Prop} {D : va_G} {cy : Nat → ClassId} {st : Nat → Nat} {U : State} (g : JFrame) (mk : MethodId) (a : Array Value) (h : KK A D cy st U) : KK A D cy st (U.calling g mk a) := by
  obtain ⟨h1, h2, ⟨a1, a2, a3, a4⟩, h3, h4, z1, z2, z3, z4⟩ := h
  have hv := Vm.Alike.refl U.vm
  exact ⟨va_K.moved (u := U) (U := U.calling g mk a) hv h1, fun w hw => va_Nw.same (u := U) (U := U.calling g mk a) (by revert w hw; decide +kernel) rfl (h2 w hw), ⟨a1.moved hv, a2.moved hv, a3.moved hv, a4.moved hv⟩, va_Dc.moved (u := U) hv h3, va_Mi.moved (u := U) hv h4, va_Z.moved (u := U) hv z1, va_T.moved (u := U) hv z2, va_Z.moved (u := U) hv z3, va_T.moved (u := U) hv z4⟩
/-- what a walk of a method's body stands on -/
def mx (p : Program) (s : State) (m : MethodId) (args : Array Value) (meth : Method) (c : Code) (y : MethodName) (cc : ByteArray) (nL : Nat) (rt : Option FieldType) (A : Nat → Prop) (D : va_G) (cy : Nat → ClassId) (st : Nat → Nat) : Prop :=
  p.tables.exec = Jvm.exec ∧ c.code = cc ∧ meth.sig.returnType = rt ∧ c.maxLocals = nL ∧ (∀ w ∈ gtb, w.before args s = true) ∧ s.vm.findClass y.cls = some m.cls ∧ meth.locks = false ∧ KK A D cy st s ∧ (∀ q, s.heap.size ≤ q → A q) ∧ meth.name = y.name
/-- what stands behind a method -/
def Qs (A : Nat → Prop) (D : va_G) (cy : Nat → ClassId) (rv : Option Value) (sz : Nat) (sh : Sh) (d : Dt) : Array Value → State → Outcome → State → Prop := fun _ st oc t => (oc = .returned rv ∧ HW A D cy sz sh d t.heap) ∧ va_F A st t
def Pcs (A : Nat → Prop) (D : va_G) (cy : Nat → ClassId) (st : Nat → Nat) (as : List Value) (sz : Nat) (sh : Sh) (d : Dt) : Array Value → State → Prop := va_Pc as (fun U => KK A D cy st U ∧ HW A D cy sz sh d U.heap ∧ ∀ q, sz ≤ q → A q)
/-- a contract: with mc cells of ms slots -/
def Ct (l : Launch) (y : MethodName) (cc : ByteArray) (nL : Nat) (rt : Option FieldType) (fr lo mc ms : Nat) (A : Nat → Prop) (D : va_G) (cy : Nat → ClassId) (st : Nat → Nat) (as : List Value) (sz : Nat) (sh : Sh) (d : Dt) (rv : Option Value) (sz1 : Nat) (sh1 : Sh) (d1 : Dt) : Prop :=
  Met l y (Cond.code y cc nL rt :: gtb) { frames := fr, cells := mc, slots := ms, locals := lo } (Pcs A D cy st as sz sh d) (Qs A D cy rv sz1 sh1 d1) mc ms A
theorem ct_of {l : Launch} {y : MethodName} {cc : ByteArray} {nL : Nat} {rt : Option FieldType} {fr lo mc ms : Nat} {A : Nat → Prop} {D : va_G} {cy : Nat → ClassId} {st : Nat → Nat} {as : List Value} {sz : Nat} {sh : Sh} {d : Dt} {rv : Option Value} {sz1 : Nat} {sh1 : Sh} {d1 : Dt} (hy : plainName y.cls = true) (hn : (lg_sl as).length ≤ nL)
    (body : ∀ p e s m args below meth c, mx p s m args meth c y cc nL rt A D cy st → HW A D cy sz sh d s.heap → va_S A s.heap s.heap [] → ∀ ls, lv_has ls nL (lv_args 0 as) → W p l e { frames := fr, cells := mc, slots := ms, locals := lo } s m args below meth c s.heap [] 0 0 (MQ below (Qs A D cy rv sz1 sh1 d1) args s mc ms A) (F0 m 0 ls [])) : Ct l y cc nL rt fr lo mc ms A D cy st as sz sh d rv sz1 sh1 d1 := by
  refine Met.ofW (cc := cc) (maxL := nL) (ret := rt) hy rfl ?_
  intro p e s m args below meth c s₁ B hml hv
  obtain ⟨rfl, hK, hw, hA⟩ := hv
  have hsz := hw.1
  rw [lg_entry_eq]
  exact body p e s m _ below meth c ⟨B.exec, B.bytes, B.returns, hml, fun w h => atoms_spec B.pre w (List.mem_cons_of_mem _ h), findClass_of_methodNamed B.named, B.notSynchronized, hK, fun q h => hA q (by omega), (name_of_methodNamed B.named B.method).1⟩ hw va_S.rf _ (lv_entry as hn)
theorem gd_ws {ws : List Cond} (h : ∀ w ∈ ws, w ∈ gtb) : GoodIn gtb ws := fun w hw => ⟨h w hw, good_of_word (List.mem_filter.mp (h w hw)).2⟩
theorem gd_code {y : MethodName} {cc : ByteArray} {nL : Nat} {rt : Option FieldType} (h : Cond.code y cc nL rt ∈ gtb) : GoodIn gtb (Cond.code y cc nL rt :: gtb) := gd_ws (fun w hw => by
  rcases List.mem_cons.mp hw with rfl | hw
  · exact h
  · exact hw)
theorem Pcs.blind (A : Nat → Prop) (D : va_G) (cy : Nat → ClassId) (st : Nat → Nat) (as : List Value) (sz : Nat) (sh : Sh) (d : Dt) : FrameBlind (Pcs A D cy st as sz sh d) := fun a U g mk h => ⟨h.1, h.2.1.blind g mk a, h.2.2⟩
theorem inJx4a65c : ∀ w ∈ u_ws RJx4a65c TJx4a65c 3, w ∈ gtb := fun w hw => List.mem_filter.mpr ⟨(by decide +kernel : ∀ w ∈ u_ws RJx4a65c TJx4a65c 3, w ∈ lw_tbl) w hw, (by decide +kernel : ∀ w ∈ u_ws RJx4a65c TJx4a65c 3, goodWord w = true) w hw⟩
theorem inX0 : ∀ w ∈ u_ws RX0 TX0 10, w ∈ gtb := fun w hw => List.mem_filter.mpr ⟨(by decide +kernel : ∀ w ∈ u_ws RX0 TX0 10, w ∈ lw_tbl) w hw, (by decide +kernel : ∀ w ∈ u_ws RX0 TX0 10, goodWord w = true) w hw⟩
theorem inX1 : ∀ w ∈ u_ws RX1 TX1 7, w ∈ gtb := fun w hw => List.mem_filter.mpr ⟨(by decide +kernel : ∀ w ∈ u_ws RX1 TX1 7, w ∈ lw_tbl) w hw, (by decide +kernel : ∀ w ∈ u_ws RX1 TX1 7, goodWord w = true) w hw⟩
theorem inX2 : ∀ w ∈ u_ws RX2 TX2 3, w ∈ gtb := fun w hw => List.mem_filter.mpr ⟨(by decide +kernel : ∀ w ∈ u_ws RX2 TX2 3, w ∈ lw_tbl) w hw, (by decide +kernel : ∀ w ∈ u_ws RX2 TX2 3, goodWord w = true) w hw⟩
theorem inX3 : ∀ w ∈ u_ws RX3 TX3 4, w ∈ gtb := fun w hw => List.mem_filter.mpr ⟨(by decide +kernel : ∀ w ∈ u_ws RX3 TX3 4, w ∈ lw_tbl) w hw, (by decide +kernel : ∀ w ∈ u_ws RX3 TX3 4, goodWord w = true) w hw⟩
theorem inX4 : ∀ w ∈ u_ws RX4 TX4 1, w ∈ gtb := fun w hw => List.mem_filter.mpr ⟨(by decide +kernel : ∀ w ∈ u_ws RX4 TX4 1, w ∈ lw_tbl) w hw, (by decide +kernel : ∀ w ∈ u_ws RX4 TX4 1, goodWord w = true) w hw⟩
theorem inX5 : ∀ w ∈ u_ws RX5 TX5 2, w ∈ gtb := fun w hw => List.mem_filter.mpr ⟨(by decide +kernel : ∀ w ∈ u_ws RX5 TX5 2, w ∈ lw_tbl) w hw, (by decide +kernel : ∀ w ∈ u_ws RX5 TX5 2, goodWord w = true) w hw⟩
theorem inX6 : ∀ w ∈ u_ws RX6 TX6 10, w ∈ gtb := fun w hw => List.mem_filter.mpr ⟨(by decide +kernel : ∀ w ∈ u_ws RX6 TX6 10, w ∈ lw_tbl) w hw, (by decide +kernel : ∀ w ∈ u_ws RX6 TX6 10, goodWord w = true) w hw⟩
theorem inX7 : ∀ w ∈ u_ws RX7 TX7 28, w ∈ gtb := fun w hw => List.mem_filter.mpr ⟨(by decide +kernel : ∀ w ∈ u_ws RX7 TX7 28, w ∈ lw_tbl) w hw, (by decide +kernel : ∀ w ∈ u_ws RX7 TX7 28, goodWord w = true) w hw⟩
section
variable {p : Program} {l : Launch} {e : Env} {R : Room} {s : State} {m : MethodId} {args : Array Value} {below : List Frame} {meth : Method} {c : Code} {H : Heap} {locs : List Loc} {cells slots : Nat} {Q : State → Prop}
variable {y : MethodName} {cc : ByteArray} {nL : Nat} {rt : Option FieldType} {A : Nat → Prop} {D : va_G} {cy : Nat → ClassId} {st : Nat → Nat} {sz : Nat} {sh : Sh} {d d1 : Dt} {pc a : Nat} {ls : Array Slot} {rest : List Value}
theorem w_get (C : mx p s m args meth c y cc nL rt A D cy st) (hw : HW A D cy sz sh d H) {ci : Nat} {Cn : String} {T : u_T} {N : Nat} (hin : ∀ w ∈ u_ws Cn T N, w ∈ gtb) (hc : vwCl[ci]? = some (Cn, T, N)) (hci : ci < 19) (hk : sh.1 a = ci + 1) (k : Nat) (hkN : k < N) {ref : String} {index : Nat} (hlink : Cond.fieldLink y.cls index ref (T k).2.1 (T k).2.2.1 ∈ gtb) (hsame : ∀ x, s.fieldFound? (T k).1 (T k).2.1 (T k).2.2.1 = some x → s.fieldFound? ref (T k).2.1 (T k).2.2.1 = some x) {v : Value} (hv : (wF d ci a)[k]? = some v) (hdg : decode cc pc = .ok (.getfield index, 3))
    (kk : W p l e R s m args below meth c H locs cells slots Q (F0 m (pc + 3) ls (v :: rest))) : W p l e R s m args below meth c H locs cells slots Q (F0 m pc ls (.ref a :: rest)) := by
  obtain ⟨hx, hb, -, -, hts, ho, -, hK, -⟩ := C
  exact va_get hx hb hts hin ho hK.1 (hw.ats (by omega) (wE_o ci hk hci)) 0 rfl hc k hkN (hts _ hlink) hsame hv hdg kk
theorem w_put (C : mx p s m args meth c y cc nL rt A D cy st) (hw : HW A D cy sz sh d H) (hS : va_S A s.heap H locs) {ci : Nat} {Cn : String} {T : u_T} {N : Nat} (hin : ∀ w ∈ u_ws Cn T N, w ∈ gtb) (ty0 : Nat → FieldType) (hty : ∀ k, k < N → parseFieldDescriptor (T k).2.2.1 = some (ty0 k)) (hnm : ∀ a, a < N → ∀ b, b < N → a ≠ b → (T a).2.1 ≠ (T b).2.1) (hc : vwCl[ci]? = some (Cn, T, N)) (hci : ci < 19) (hk : sh.1 a = ci + 1) (k : Nat) (hkN : k < N) {ref : String} {index : Nat} (hlink : Cond.fieldLink y.cls index ref (T k).2.1 (T k).2.2.1 ∈ gtb) (hsame : ∀ x, s.fieldFound? (T k).1 (T k).2.1 (T k).2.2.1 = some x → s.fieldFound? ref (T k).2.1 (T k).2.2.1 = some x) (hfin : (T k).2.2.2 = false ∨ ((T k).2.2.2 = true ∧ y.name = "<init>" ∧ (T k).1 = y.cls)) {v : Value} (hn : narrow (ty0 k) v = v) (hfit : fits (ty0 k) v = true) (hl : k < (wF d ci a).length)
    (h1 : wF d1 ci a = (wF d ci a).set k v) (h2 : ∀ cj b, b ≠ a → wF d1 cj b = wF d cj b) (h3 : d1.2.2.2 = d.2.2.2) (hdg : decode cc pc = .ok (.putfield index, 3))
    (kk : ∀ (H1 : Heap) (locs1 : List Loc), HW A D cy sz sh d1 H1 → va_S A s.heap H1 locs1 → W p l e R s m args below meth c H1 locs1 cells slots Q (F0 m (pc + 3) ls rest)) : W p l e R s m args below meth c H locs cells slots Q (F0 m pc ls (v :: .ref a :: rest)) := by
  obtain ⟨hx, hb, -, -, hts, ho, -, hK, -, hnm0⟩ := C
  have hap := va_apart (own := y.cls) hts hin ty0 hty hnm hK.1 hc
  have hA := (hw.2 a (by omega)).1
  have ha := (hw.2 a (by omega)).2
  rw [wE_o ci hk hci] at ha
  obtain ⟨r, g1, cell, q1, q2, q3, q4⟩ := ha
  have hr : r = (Cn, T, N) := Option.some.inj (g1.symm.trans hc)
  subst hr
  obtain ⟨hSl, hfc, kC, hkC, hkind⟩ := hK.1.1 ci _ hc
  obtain ⟨cf, kf, fi, f, hi, hsl⟩ := hSl k hkN
  have hlay := hts _ (hin _ (u_in_lay hkN))
  have hst := (u_facts hfc hkC (u_lays hts hin hkN) hi).1
  have he : ∀ b, b ≠ a → wE cy sh d1 b = wE cy sh d b := by
    intro b hb
    unfold wE
    rw [h2 _ b hb]
    have e1 : dai d1 = dai d := congrArg (fun z => z.1) h3
    have e2 : dal d1 = dal d := congrArg (fun z => z.2.1) h3
    have e3 : dar d1 = dar d := congrArg (fun z => z.2.2) h3
    rw [e1, e2, e3]
  have fin : ∀ H' : Heap, H'[a]? = some (cell.setSlot f.slot v) → H'.size = H.size → (∀ q, q ≠ a → H'[q]? = H[q]?) → HW A D cy sz sh d1 H' ∧ va_S A s.heap H' (locs ++ [⟨a, f.slot⟩]) := by
    intro H' e1 e2 e3
    refine ⟨hw.set e2 e3 ?_ he, hS.put e2 e3 hA⟩
    rw [wE_o ci hk hci, h1]
    rw [hsl] at e1
    exact ⟨_, hc, t_OB.to (V := updV (vp_V (wF d ci a)) k v) ⟨_, e1, q2, q3, t_set q4 hap hkN v⟩ (fun j _ => vp_updV_set hl v j)⟩
  unfold u_lay at hlay
  rcases hfin with hfin | ⟨hfin, hn1, hn2⟩
  · rw [if_neg (by rw [hfin]; decide)] at hlay
    have h6 := u_store hfc hkC hkind hlay hi (hty k hkN) hn hfit
    exact W.putK hx hb (f := f) ⟨ho, hts _ hlink, ⟨_, _, _, hsame _ hi⟩, hst⟩ (by rw [q2]; exact h6) q1 q3 (by rw [hsl]; exact k2_hasslot (q4 k hkN)) rfl rfl hdg fun H' e1 e2 e3 => kk H' _ (fin H' e1 e2 e3).1 (fin H' e1 e2 e3).2
  · rw [if_pos hfin] at hlay
    have hcf : m.cls = cf := by
      obtain ⟨_, _, c', _, _, _, -, -, hf', -, -, -, hown2, -⟩ := Cond.laysFinal_spec hlay
      have e1 : c' = cf := by have := hi.symm.trans hf'; simp at this; exact this.1.symm
      rw [hn2] at hown2
      rw [← e1]; exact Option.some.inj (ho.symm.trans hown2)
    have h6 := u_fits hfc hkC hkind (Or.inr hlay) hi (hty k hkN) hn hfit
    exact W.putFinK hx hb ho (hts _ hlink) (hsame _ hi) hst hcf (hnm0.trans hn1) (by rw [q2]; exact h6) q1 q3 (by rw [hsl]; exact k2_hasslot (q4 k hkN)) rfl rfl hdg fun H' e1 e2 e3 => kk H' _ (fin H' e1 e2 e3).1 (fin H' e1 e2 e3).2
theorem w_iald (C : mx p s m args meth c y cc nL rt A D cy st) (hw : HW A D cy sz sh d H) {i v : Int32} (hv : aI sh d 20 a i = some v) (hdg : decode cc pc = .ok (.iaload, 1))
    (kk : W p l e R s m args below meth c H locs cells slots Q (F0 m (pc + 1) ls (.int v :: rest))) : W p l e R s m args below meth c H locs cells slots Q (F0 m pc ls (.int i :: .ref a :: rest)) := by
  obtain ⟨hx, hb, -, -, -, -, -, hK, -⟩ := C
  obtain ⟨j, hj, he⟩ := bd_s hv
  obtain ⟨hk, hi, rfl⟩ := ix_s hj
  cases he
  exact va_iald hx hb hK.1 (hw.ats (by omega) (wE_i hk)) 0 0 rfl rfl hi hdg kk
theorem w_zald (C : mx p s m args meth c y cc nL rt A D cy st) (hw : HW A D cy sz sh d H) {i v : Int32} (hv : aI sh d 22 a i = some v) (hdg : decode cc pc = .ok (.baload, 1))
    (kk : W p l e R s m args below meth c H locs cells slots Q (F0 m (pc + 1) ls (.int v :: rest))) : W p l e R s m args below meth c H locs cells slots Q (F0 m pc ls (.int i :: .ref a :: rest)) := by
  obtain ⟨hx, hb, -, -, -, -, -, hK, -⟩ := C
  obtain ⟨j, hj, he⟩ := bd_s hv
  obtain ⟨hk, hi, rfl⟩ := ix_s hj
  cases he
  exact va_zald hx hb hK.1 (hw.ats (by omega) (wE_z hk)) 0 2 rfl rfl hi hdg kk
theorem w_lald (C : mx p s m args meth c y cc nL rt A D cy st) (hw : HW A D cy sz sh d H) {i : Int32} {v : Int64} (hv : aL sh d 21 a i = some v) (hdg : decode cc pc = .ok (.laload, 1))
    (kk : W p l e R s m args below meth c H locs cells slots Q (F0 m (pc + 1) ls (.long v :: rest))) : W p l e R s m args below meth c H locs cells slots Q (F0 m pc ls (.int i :: .ref a :: rest)) := by
  obtain ⟨hx, hb, -, -, -, -, -, hK, -⟩ := C
  obtain ⟨j, hj, he⟩ := bd_s hv
  obtain ⟨hk, hi, rfl⟩ := ix_s hj
  cases he
  exact va_lald hx hb hK.1 (hw.ats (by omega) (wE_j hk)) 0 1 rfl rfl hi hdg kk
theorem w_aald (C : mx p s m args meth c y cc nL rt A D cy st) (hw : HW A D cy sz sh d H) {kd : Nat} (t : Nat) {Cn : String} (ht : kd = t + 20) (ht3 : 3 ≤ t) (hty : (tysA cy)[t]? = some (cy t, .object Cn)) {i : Int32} {v : Option Nat} (hv : aR sh d kd a i = some v) (hdg : decode cc pc = .ok (.aaload, 1))
    (kk : W p l e R s m args below meth c H locs cells slots Q (F0 m (pc + 1) ls (va_rf v :: rest))) : W p l e R s m args below meth c H locs cells slots Q (F0 m pc ls (.int i :: .ref a :: rest)) := by
  obtain ⟨hx, hb, -, -, -, -, -, hK, -⟩ := C
  obtain ⟨j, hj, he⟩ := bd_s hv
  obtain ⟨hk, hi, rfl⟩ := ix_s hj
  cases he
  subst ht
  exact va_aldq hx hb hK.1 (hw.ats (by omega) (wE_r t hk ht3)) 0 t rfl hty hi hdg kk
theorem w_alen (C : mx p s m args meth c y cc nL rt A D cy st) (hw : HW A D cy sz sh d H) {kd : Nat} (t : Nat) {ty : FieldType} (ht : kd = t + 20) (hty : (tysA cy)[t]? = some (cy t, ty)) {v : Int32} (hv : lnA sh kd a = some v) (hdg : decode cc pc = .ok (.arraylength, 1))
    (kk : W p l e R s m args below meth c H locs cells slots Q (F0 m (pc + 1) ls (.int v :: rest))) : W p l e R s m args below meth c H locs cells slots Q (F0 m pc ls (.ref a :: rest)) := by
  obtain ⟨hx, hb, -, -, -, -, -, hK, -⟩ := C
  obtain ⟨hk, he⟩ := lnA_s hv
  subst ht
  match t, hk, hty with
  | 0, hk, hty => exact va_alen hx hb hK.1 (hw.ats (by omega) (wE_i hk)) 0 0 rfl hty he hdg kk
  | 1, hk, hty => exact va_alen hx hb hK.1 (hw.ats (by omega) (wE_j hk)) 0 1 rfl hty he hdg kk
  | 2, hk, hty => exact va_alen hx hb hK.1 (hw.ats (by omega) (wE_z hk)) 0 2 rfl hty he hdg kk
  | t + 3, hk, hty => exact va_alen hx hb hK.1 (hw.ats (by omega) (wE_r (t + 3) hk (by omega))) 0 (t + 3) rfl hty he hdg kk
theorem wE_AI {cy : Nat → ClassId} {sh : Sh} {d : Dt} {a i b : Nat} {v : Int32} (hb : b ≠ a) : wE cy sh (uAI d a i v) b = wE cy sh d b := by
  unfold wE
  have e1 : dai (uAI d a i v) b = dai d b := by funext j; simp [dai, uAI, u3, hb]
  rw [e1]; rfl
theorem wE_AL {cy : Nat → ClassId} {sh : Sh} {d : Dt} {a i b : Nat} {v : Int64} (hb : b ≠ a) : wE cy sh (uAL d a i v) b = wE cy sh d b := by
  unfold wE
  have e1 : dal (uAL d a i v) b = dal d b := by funext j; simp [dal, uAL, u3, hb]
  rw [e1]; rfl
theorem wE_AR {cy : Nat → ClassId} {sh : Sh} {d : Dt} {a i b : Nat} {v : Option Nat} (hb : b ≠ a) : wE cy sh (uAR d a i v) b = wE cy sh d b := by
  unfold wE
  have e1 : dar (uAR d a i v) b = dar d b := by funext j; simp [dar, uAR, u3, hb]
  rw [e1]; rfl
theorem w_iast (C : mx p s m args meth c y cc nL rt A D cy st) (hw : HW A D cy sz sh d H) (hS : va_S A s.heap H locs) {i v : Int32} (hv : sI sh d 20 a i v = some d1) (hdg : decode cc pc = .ok (.iastore, 1))
    (kk : ∀ (H1 : Heap) (locs1 : List Loc), HW A D cy sz sh d1 H1 → va_S A s.heap H1 locs1 → W p l e R s m args below meth c H1 locs1 cells slots Q (F0 m (pc + 1) ls rest)) : W p l e R s m args below meth c H locs cells slots Q (F0 m pc ls (.int v :: .int i :: .ref a :: rest)) := by
  obtain ⟨hx, hb, -, -, -, -, -, hK, -⟩ := C
  obtain ⟨j, hj, he⟩ := bd_s hv
  obtain ⟨hk, hi, rfl⟩ := ix_s hj
  cases he
  have ha := hw.2 a (by omega)
  rw [wE_i hk] at ha
  refine W.iast hx hb ha.2 ((hK.1.2 0 _ rfl).1 (sh.2 a) (fun j => .int (dai d a j))) (fun q => by cases q) (by show ¬ (i < 0 ∨ (arrV _ _ _).slots.size ≤ _); rw [arrV_size]; exact hi) rfl rfl hdg fun H1 e z oq => ?_
  refine kk H1 _ (hw.set z oq ?_ (fun b hb => wE_AI hb)) (hS.put z oq ha.1)
  rw [wE_i hk]
  show H1[a]? = some (vp_cell _ _)
  rw [e, vp_cell_i, vp_cell_i, arrV_store]
  congr 2
  funext q
  by_cases hq : q = i.toNatClampNeg
  · subst hq
    simp [updV, dai, uAI, u3]
  · simp [updV, dai, uAI, u3, hq]
theorem w_zast (C : mx p s m args meth c y cc nL rt A D cy st) (hw : HW A D cy sz sh d H) (hS : va_S A s.heap H locs) {i v : Int32} (hv : sZ sh d 22 a i v = some d1) (hdg : decode cc pc = .ok (.bastore, 1))
    (kk : ∀ (H1 : Heap) (locs1 : List Loc), HW A D cy sz sh d1 H1 → va_S A s.heap H1 locs1 → W p l e R s m args below meth c H1 locs1 cells slots Q (F0 m (pc + 1) ls rest)) : W p l e R s m args below meth c H locs cells slots Q (F0 m pc ls (.int v :: .int i :: .ref a :: rest)) := by
  obtain ⟨hx, hb, -, -, -, -, -, hK, -⟩ := C
  obtain ⟨j, hj, he⟩ := bd_s hv
  obtain ⟨hk, hi, rfl⟩ := ix_s hj
  cases he
  have ha := hw.2 a (by omega)
  rw [wE_z hk] at ha
  refine W.zast hx hb ha.2 ((hK.1.2 2 _ rfl).1 (sh.2 a) (fun j => .int (dai d a j))) (fun q => by cases q) (by show ¬ (i < 0 ∨ (arrV _ _ _).slots.size ≤ _); rw [arrV_size]; exact hi) rfl rfl hdg fun H1 e z oq => ?_
  refine kk H1 _ (hw.set z oq ?_ (fun b hb => wE_AI hb)) (hS.put z oq ha.1)
  rw [wE_z hk]
  show H1[a]? = some (vp_cell _ _)
  rw [e, vp_cell_i, vp_cell_i, arrV_store]
  congr 2
  funext q
  by_cases hq : q = i.toNatClampNeg
  · subst hq
    simp [updV, dai, uAI, u3, vp_nar]
    try rfl
  · simp [updV, dai, uAI, u3, hq]
theorem w_last (C : mx p s m args meth c y cc nL rt A D cy st) (hw : HW A D cy sz sh d H) (hS : va_S A s.heap H locs) {i : Int32} {v : Int64} (hv : sL sh d 21 a i v = some d1) (hdg : decode cc pc = .ok (.lastore, 1))
    (kk : ∀ (H1 : Heap) (locs1 : List Loc), HW A D cy sz sh d1 H1 → va_S A s.heap H1 locs1 → W p l e R s m args below meth c H1 locs1 cells slots Q (F0 m (pc + 1) ls rest)) : W p l e R s m args below meth c H locs cells slots Q (F0 m pc ls (.long v :: .int i :: .ref a :: rest)) := by
  obtain ⟨hx, hb, -, -, -, -, -, hK, -⟩ := C
  obtain ⟨j, hj, he⟩ := bd_s hv
  obtain ⟨hk, hi, rfl⟩ := ix_s hj
  cases he
  have ha := hw.2 a (by omega)
  rw [wE_j hk] at ha
  refine W.last hx hb ha.2 ((hK.1.2 1 _ rfl).1 (sh.2 a) (fun j => .long (dal d a j))) (fun q => by cases q) (by show ¬ (i < 0 ∨ (arrV _ _ _).slots.size ≤ _); rw [arrV_size]; exact hi) rfl rfl hdg fun H1 e z oq => ?_
  refine kk H1 _ (hw.set z oq ?_ (fun b hb => wE_AL hb)) (hS.put z oq ha.1)
  rw [wE_j hk]
  show H1[a]? = some (vp_cell _ _)
  rw [e, vp_cell_l, vp_cell_l, arrV_store]
  congr 2
  funext q
  by_cases hq : q = i.toNatClampNeg
  · subst hq
    simp [updV, dal, uAL, u3]
  · simp [updV, dal, uAL, u3, hq]
/-! returns -/
theorem rt_i (C : mx p s m args meth c y cc nL (some .int) A D cy st) (hw : HW A D cy sz sh d H) (hS : va_S A s.heap H locs) {v : Int32} (hdg : decode cc pc = .ok (.ireturn, 1)) : W p l e R s m args below meth c H locs cells slots (MQ below (Qs A D cy (some (.int v)) sz sh d) args s cells slots A) (F0 m pc ls [.int v]) := by
  obtain ⟨hx, hb, hr, -, -, -, hlk, -⟩ := C
  exact W.iret hx hb hr (fun t ht _ => ⟨⟨rfl, by rw [ht]; exact hw⟩, hS.F ht⟩) hS.2.2 hdg hlk
theorem rt_z (C : mx p s m args meth c y cc nL (some .boolean) A D cy st) (hw : HW A D cy sz sh d H) (hS : va_S A s.heap H locs) (b : Bool) {v : Int32} (hv : v = bI b) (hdg : decode cc pc = .ok (.ireturn, 1)) : W p l e R s m args below meth c H locs cells slots (MQ below (Qs A D cy (some (.int (bI b))) sz sh d) args s cells slots A) (F0 m pc ls [.int v]) := by
  obtain ⟨hx, hb, hr, -, -, -, hlk, -⟩ := C
  subst hv
  exact W.zret hx hb hr (by cases b <;> rfl) (fun t ht _ => ⟨⟨rfl, by rw [ht]; exact hw⟩, hS.F ht⟩) hS.2.2 hdg hlk
theorem rt_l (C : mx p s m args meth c y cc nL (some .long) A D cy st) (hw : HW A D cy sz sh d H) (hS : va_S A s.heap H locs) {v : Int64} (hdg : decode cc pc = .ok (.lreturn, 1)) : W p l e R s m args below meth c H locs cells slots (MQ below (Qs A D cy (some (.long v)) sz sh d) args s cells slots A) (F0 m pc ls [.long v]) := by
  obtain ⟨hx, hb, hr, -, -, -, hlk, -⟩ := C
  exact W.lret hx hb hr (fun t ht _ => ⟨⟨rfl, by rw [ht]; exact hw⟩, hS.F ht⟩) hS.2.2 hdg hlk
theorem rt_v (C : mx p s m args meth c y cc nL none A D cy st) (hw : HW A D cy sz sh d H) (hS : va_S A s.heap H locs) (hdg : decode cc pc = .ok (.return_, 1)) : W p l e R s m args below meth c H locs cells slots (MQ below (Qs A D cy none sz sh d) args s cells slots A) (F0 m pc ls []) := by
  obtain ⟨hx, hb, hr, -, -, -, hlk, -⟩ := C
  exact W.vret hx hb hr (fun t ht _ => ⟨⟨rfl, by rw [ht]; exact hw⟩, hS.F ht⟩) hS.2.2 hdg hlk
theorem rt_a {n : String} (C : mx p s m args meth c y cc nL (some (.object n)) A D cy st) (hw : HW A D cy sz sh d H) (hS : va_S A s.heap H locs) {v : Option Nat} (hdg : decode cc pc = .ok (.areturn, 1)) : W p l e R s m args below meth c H locs cells slots (MQ below (Qs A D cy (some (va_rf v)) sz sh d) args s cells slots A) (F0 m pc ls [va_rf v]) := by
  obtain ⟨hx, hb, hr, -, -, -, hlk, -⟩ := C
  exact W.aret hx hb hr (Or.inl ⟨n, rfl⟩) (by cases v; exact Or.inl rfl; exact Or.inr ⟨_, rfl⟩) (fun t ht _ => ⟨⟨rfl, by rw [ht]; exact hw⟩, hS.F ht⟩) hS.2.2 hdg hlk
/-! calls -/
variable {y1 : MethodName} {cc1 : ByteArray} {nL1 : Nat} {rt1 : Option FieldType} {fr lo mc ms b index ci : Nat} {As st0 : List Value} {rv : Option Value} {sz1 : Nat} {sh1 : Sh}
theorem run_go {a0 : Array Value} (hr : va_Run p l e R s m args below meth c H locs cells slots mc ms (F0 m pc ls st0) rest (Qs A D cy rv sz1 sh1 d1 a0) A) (hS : va_S A s.heap H locs)
    (kk : ∀ (H1 : Heap) (locs1 : List Loc), HW A D cy sz1 sh1 d1 H1 → va_S A s.heap H1 locs1 → W p l e R s m args below meth c H1 locs1 (cells + mc) (slots + ms) Q (F0 m (pc + 3) ls (rv.toList ++ rest))) : W p l e R s m args below meth c H locs cells slots Q (F0 m pc ls st0) := by
  intro T hT X
  obtain ⟨v, st₀, t, T', L, h0, X', hL, e1, e2, ⟨⟨hv, hh⟩, hz, hk⟩, stp⟩ := hr T hT X
  cases hv
  rw [h0] at hz hk
  obtain ⟨t2, a1, b1⟩ := kk T'.heap (locs ++ L) (by rw [e1]; exact hh) ⟨Nat.le_trans hS.1 (by rw [e1]; exact hz), fun q h1 h2 => by rw [e1, hk q (Nat.lt_of_lt_of_le h1 hS.1) h2]; exact hS.2.1 q h1 h2, fun q hq => (List.mem_append.mp hq).elim (hS.2.2 q) (hL q)⟩ T' rfl X'
  exact ⟨t2, stp t2 a1, b1⟩
theorem pre_go (C : mx p s m args meth c y cc nL rt A D cy st) (hw : HW A D cy sz sh d H) (hS : va_S A s.heap H locs) (As : List Value) : PreS s H (Pcs A D cy st As sz sh d) As := by
  obtain ⟨-, -, -, -, -, -, -, hK, hA, -⟩ := C
  have h1 := hw.1
  have h2 := hS.1
  exact ⟨Pcs.blind A D cy st As sz sh d, fun U hU hW => ⟨rfl, hK.go (locs := locs) (by rw [hU]; exact hS) hW, by rw [hU]; exact hw, fun q hq => hA q (by omega)⟩⟩
/-- what is known of a virtual callee -/
def CV (y1 : MethodName) (cc1 : ByteArray) (nL1 : Nat) (rt1 : Option FieldType) (ci n : Nat) : Prop := Cond.instanceMethod y1 ∈ gtb ∧ Cond.selects y1.cls y1 y1 ∈ gtb ∧ Cond.initialized y1.cls ∈ gtb ∧ Cond.code y1 cc1 nL1 rt1 ∈ gtb ∧ (∃ T N, vwCl[ci]? = some (y1.cls, T, N)) ∧ ci < 19 ∧ y1.cls ≠ "java/lang/invoke/MethodHandle" ∧ y1.cls ≠ "java/lang/invoke/VarHandle" ∧ (parseMethodDescriptor y1.desc).map (fun d => d.parameters.length) = some n
def CS (y1 : MethodName) (cc1 : ByteArray) (nL1 : Nat) (rt1 : Option FieldType) (n : Nat) : Prop := Cond.static y1 ∈ gtb ∧ Cond.initialized y1.cls ∈ gtb ∧ Cond.code y1 cc1 nL1 rt1 ∈ gtb ∧ y1.cls ≠ "java/lang/invoke/MethodHandle" ∧ y1.cls ≠ "java/lang/invoke/VarHandle" ∧ (parseMethodDescriptor y1.desc).map (fun d => d.parameters.length) = some n
theorem cl_V (C : mx p s m args meth c y cc nL rt A D cy st) (hw : HW A D cy sz sh d H) (hS : va_S A s.heap H locs) (hc : Ct l y1 cc1 nL1 rt1 fr lo mc ms A D cy st (.ref b :: As) sz sh d rv sz1 sh1 d1) (V : CV y1 cc1 nL1 rt1 ci As.length) (hlink : Cond.methodLink y.cls index y1 ∈ gtb) (hk : sh.1 b = ci + 1) (hR : fr + 1 ≤ R.frames ∧ 8 + (nL1 + 11) + lo ≤ R.locals) (hls : ls.size = nL) (hst : st0 = As.reverse ++ .ref b :: rest) (hW : (rest.map fun v => v.category).sum ≤ 8) (hdg : decode cc pc = .ok (.invokevirtual index, 3)) (hf : cells + mc ≤ R.cells ∧ slots + ms ≤ R.slots)
    (kk : ∀ (H1 : Heap) (locs1 : List Loc), HW A D cy sz1 sh1 d1 H1 → va_S A s.heap H1 locs1 → W p l e R s m args below meth c H1 locs1 (cells + mc) (slots + ms) Q (F0 m (pc + 3) ls (rv.toList ++ rest))) : W p l e R s m args below meth c H locs cells slots Q (F0 m pc ls st0) := by
  obtain ⟨v1, v2, v3, v4, ⟨T, N, v5⟩, v6, v7, v8, v9⟩ := V
  have hp := pre_go C hw hS (.ref b :: As)
  obtain ⟨hx, hb, -, hml, hts, ho, -, hK, -⟩ := C
  refine run_go (va_runV (As := As) (rest := rest) (C := y1.cls) (n := As.length) (Ts := gtb) (own := y.cls) ⟨hx, hb, hml, ho, hts⟩ hc ⟨callB_of _ hts (gd_code v4) rfl rfl rfl (hts _ v3) (hts _ hlink) ⟨v7, v8, v9⟩ hR, hts _ v1, hts _ v2⟩ ⟨hp.1, va_recv hK.1 (hw.ats (by omega) (wE_o ci hk v6)) v5 (q0 := 0) rfl, hp.2⟩ rfl rfl hls hst (by show 2 * 0 + _ ≤ 8; omega) hdg hf) hS kk
theorem cl_S (C : mx p s m args meth c y cc nL rt A D cy st) (hw : HW A D cy sz sh d H) (hS : va_S A s.heap H locs) (hc : Ct l y1 cc1 nL1 rt1 fr lo mc ms A D cy st As sz sh d rv sz1 sh1 d1) (V : CS y1 cc1 nL1 rt1 As.length) (hlink : Cond.methodLink y.cls index y1 ∈ gtb) (hR : fr + 1 ≤ R.frames ∧ 8 + (nL1 + 11) + lo ≤ R.locals) (hls : ls.size = nL) (hst : st0 = As.reverse ++ rest) (hW : (rest.map fun v => v.category).sum ≤ 8) (hdg : decode cc pc = .ok (.invokestatic index, 3)) (hf : cells + mc ≤ R.cells ∧ slots + ms ≤ R.slots)
    (kk : ∀ (H1 : Heap) (locs1 : List Loc), HW A D cy sz1 sh1 d1 H1 → va_S A s.heap H1 locs1 → W p l e R s m args below meth c H1 locs1 (cells + mc) (slots + ms) Q (F0 m (pc + 3) ls (rv.toList ++ rest))) : W p l e R s m args below meth c H locs cells slots Q (F0 m pc ls st0) := by
  obtain ⟨v1, v3, v4, v7, v8, v9⟩ := V
  have hp := pre_go C hw hS As
  obtain ⟨hx, hb, -, hml, hts, ho, -, hK, -⟩ := C
  exact run_go (va_runS (As := As) (rest := rest) (n := As.length) (Ts := gtb) (own := y.cls) ⟨hx, hb, hml, ho, hts⟩ hc ⟨callB_of _ hts (gd_code v4) rfl rfl rfl (hts _ v3) (hts _ hlink) ⟨v7, v8, v9⟩ hR, hts _ v1⟩ hp rfl rfl hls hst (by show 2 * 0 + _ ≤ 8; omega) hdg hf) hS kk
theorem cl_SN {host : String} (C : mx p s m args meth c y cc nL rt A D cy st) (hw : HW A D cy sz sh d H) (hS : va_S A s.heap H locs) (hc : Ct l y1 cc1 nL1 rt1 fr lo mc ms A D cy st As sz sh d rv sz1 sh1 d1) (V : CS y1 cc1 nL1 rt1 As.length) (hlink : Cond.methodLinkNest y.cls index y1 host ∈ nws) (hR : fr + 1 ≤ R.frames ∧ 8 + (nL1 + 11) + lo ≤ R.locals) (hls : ls.size = nL) (hst : st0 = As.reverse ++ rest) (hW : (rest.map fun v => v.category).sum ≤ 8) (hdg : decode cc pc = .ok (.invokestatic index, 3)) (hf : cells + mc ≤ R.cells ∧ slots + ms ≤ R.slots)
    (kk : ∀ (H1 : Heap) (locs1 : List Loc), HW A D cy sz1 sh1 d1 H1 → va_S A s.heap H1 locs1 → W p l e R s m args below meth c H1 locs1 (cells + mc) (slots + ms) Q (F0 m (pc + 3) ls (rv.toList ++ rest))) : W p l e R s m args below meth c H locs cells slots Q (F0 m pc ls st0) := by
  obtain ⟨v1, v3, v4, v7, v8, v9⟩ := V
  have hp := pre_go C hw hS As
  obtain ⟨hx, hb, -, hml, hts, ho, -, hK, -⟩ := C
  exact run_go (va_runSN (As := As) (rest := rest) (n := As.length) (Ts := gtb) (own := y.cls) (host := host) ⟨hx, hb, hml, ho, hts⟩ hc ⟨va_cnB _ hts (gd_code v4) rfl rfl rfl (hK.2.1 _ hlink) (hts _ v3) ⟨v7, v8, v9⟩ hR, hts _ v1, trivial⟩ hp rfl rfl hls hst (by show 2 * 0 + _ ≤ 8; omega) hdg hf) hS kk
end
