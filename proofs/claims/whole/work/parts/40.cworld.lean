/-! the class's world: where its cells lie (a ghost), what they hold -/
abbrev Gh : Type := (((Nat → Nat) × (Nat → Nat)) × ((Nat → Nat) × (Nat → Nat))) × (((Nat → Nat) × (Nat → Nat)) × ((Nat → Nat → Nat) × (Nat → Nat → Nat)))
def HA (G : Gh) : Nat → Nat := G.1.1.1
def PA (G : Gh) : Nat → Nat := G.1.1.2
def EA (G : Gh) : Nat → Nat := G.1.2.1
def tg (G : Gh) : Nat → Nat := G.1.2.2
def DA (G : Gh) : Nat → Nat := G.2.1.1
def cap (G : Gh) : Nat → Nat := G.2.1.2
def ow (G : Gh) : Nat → Nat → Nat := G.2.2.1
def ws (G : Gh) : Nat → Nat → Nat := G.2.2.2
def g_H (G : Gh) (v : Nat → Nat) : Gh := (((v, G.1.1.2), G.1.2), G.2)
def g_P (G : Gh) (v : Nat → Nat) : Gh := (((G.1.1.1, v), G.1.2), G.2)
def g_E (G : Gh) (v : Nat → Nat) : Gh := ((G.1.1, (v, G.1.2.2)), G.2)
def g_t (G : Gh) (v : Nat → Nat) : Gh := ((G.1.1, (G.1.2.1, v)), G.2)
def g_D (G : Gh) (v : Nat → Nat) : Gh := (G.1, ((v, G.2.1.2), G.2.2))
def g_c (G : Gh) (v : Nat → Nat) : Gh := (G.1, ((G.2.1.1, v), G.2.2))
def g_o (G : Gh) (v : Nat → Nat → Nat) : Gh := (G.1, (G.2.1, (v, G.2.2.2)))
def g_w (G : Gh) (v : Nat → Nat → Nat) : Gh := (G.1, (G.2.1, (G.2.2.1, v)))
/-- the class's number of an act -/
def acC (a : Nat) : Nat := ([0, 1, 4, 5, 2, 3, 6, 7] : List Nat).getD a 0
theorem acC_i : ∀ a, a < 8 → ∀ b, b < 8 → (acC a = acC b ↔ a = b) := by decide
theorem acC_lt : ∀ a, a < 8 → acC a < 8 := by decide
def mkI (b : Bool) : Int32 := if b then 1 else -1
/-- the shelf of a thing; whether a CHANGE lies there; the one before -/
def shl (σ : St) (p a : Nat) : Nat := if kin σ p = 3 then a else 0
def shn (k : Nat) : Nat := if k = 3 then 64 else 1
def ons (σ : St) (p s c : Nat) : Bool := decide (pg σ c = p) && decide (shl σ p (ax σ c) = s)
def prq (q : Nat → Bool) : Nat → Option Nat
  | 0 => none
  | n + 1 => if q n then some n else prq q n
def prv (σ : St) (p s n : Nat) : Option Nat := prq (ons σ p s) n
def wn (σ : St) (h : Nat) : Nat := cnt (wt σ h) (nc σ)
def qFI (σ : St) (G : Gh) (x : Nat) (f : Nat → Nat → Int32) : Prop :=
  (f 262 x = nI (nh σ) ∧ f 263 x = nI (np σ) ∧ f 264 x = nI (lat σ)) ∧
  (∀ h, h < nh σ → f 96 (HA G h) = nI h ∧ f 102 (HA G h) = nI (gc σ h) ∧ f 130 (HA G h + 6) = nI (lm σ h)) ∧
  (∀ p, p < np σ → f 160 (PA G p) = nI p ∧ f 161 (PA G p) = nI (kin σ p)) ∧
  (∀ c, c < nc σ → f 64 (EA G c) = nI c ∧ f 65 (EA G c) = nI (mk σ c) ∧ f 66 (EA G c) = nI (pg σ c) ∧ f 67 (EA G c) = nI (acC (ac σ c)) ∧ f 68 (EA G c) = nI (ax σ c) ∧ f 70 (EA G c) = nI (ct σ c) ∧ f 71 (EA G c) = nI (od σ c)) ∧
  (f 34 (x + 3) = nI (nc σ) ∧ ∀ h, h < nh σ → f 34 (HA G h + 3) = nI (md σ h) ∧ f 34 (HA G h + 4) = nI (wn σ h))
def qFL (σ : St) (G : Gh) (x : Nat) (f : Nat → Nat → Int64) : Prop := f 265 x = ask σ ∧ ∀ c, c < nc σ → f 69 (EA G c) = vl σ c
def qFR (σ : St) (G : Gh) (x : Nat) (f : Nat → Nat → Option Nat) : Prop :=
  (f 256 x = some (x + 1) ∧ f 257 x = some (x + 2) ∧ f 258 x = some (x + 3) ∧ f 259 x = some (x + 4) ∧ f 260 x = some (x + 5) ∧ f 261 x = some (x + 7) ∧ f 224 (x + 5) = some (x + 6) ∧ f 224 (x + 7) = some (x + 8)) ∧
  (∀ h, h < nh σ → f 97 (HA G h) = some (HA G h + 1) ∧ f 98 (HA G h) = some (HA G h + 3) ∧ f 99 (HA G h) = some (HA G h + 4) ∧ f 100 (HA G h) = some (HA G h + 5) ∧ f 101 (HA G h) = some (HA G h + 6) ∧ f 192 (HA G h + 1) = some (HA G h + 2) ∧ f 128 (HA G h + 6) = some (HA G h + 7) ∧ f 129 (HA G h + 6) = some (HA G h + 8)) ∧
  (∀ p, p < np σ → f 162 (PA G p) = some (PA G p + 3) ∧ f 163 (PA G p) = some (PA G p + 1) ∧ f 192 (PA G p + 1) = some (PA G p + 2)) ∧
  (∀ c, c < nc σ → f 72 (EA G c) = some (EA G c + 1) ∧ f 192 (EA G c + 1) = some (EA G c + 2) ∧ f 73 (EA G c) = (prv σ (pg σ c) (shl σ (pg σ c) (ax σ c)) c).map (EA G)) ∧
  (f 33 (x + 3) = some (DA G 0) ∧ ∀ h, h < nh σ → f 33 (HA G h + 3) = some (DA G (1 + h)) ∧ f 33 (HA G h + 4) = some (DA G (7 + h)))
def qAI (σ : St) (G : Gh) (x : Nat) (f : Nat → Nat → Int32) : Prop :=
  (∀ i, i < 6 → f (x + 4) i = nI (cme σ i)) ∧
  (∀ h, h < nh σ → (∀ k, k < 6 → f (HA G h + 2) k = nI (up σ h k)) ∧ (∀ p, p < 10 → f (HA G h + 5) p = bI (skp σ h p)) ∧ (∀ i, i < lm σ h → f (HA G h + 8) i = mkI (thr σ h i))) ∧
  (∀ c, c < nc σ → ∀ k, k < 6 → f (EA G c + 2) k = nI (ku σ c k))
def qAL (σ : St) (G : Gh) (x : Nat) (f : Nat → Nat → Int64) : Prop := ∀ h, h < nh σ → ∀ i, i < 16 → f (HA G h + 7) i = lf σ h i
def qAR (σ : St) (G : Gh) (x : Nat) (f : Nat → Nat → Option Nat) : Prop :=
  (∀ h, h < nh σ → f (x + 1) h = some (HA G h)) ∧
  (∀ p, p < np σ → f (x + 2) p = some (PA G p)) ∧
  (∀ p, p < np σ → ∀ s, s < shn (kin σ p) → f (PA G p + 3) s = (prv σ p s (nc σ)).map (EA G)) ∧
  (∀ c, c < nc σ → f (DA G 0) c = some (EA G c)) ∧
  (∀ h, h < nh σ → (∀ i, i < md σ h → f (DA G (1 + h)) i = some (EA G (ow G h i))) ∧ (∀ i, i < wn σ h → f (DA G (7 + h)) i = some (EA G (ws G h i))))
/-- what the class's cells hold -/
def CD (σ : St) (G : Gh) (x : Nat) (d : Dt) : Prop := qFI σ G x (dfi d) ∧ qFL σ G x (dfl d) ∧ qFR σ G x (dfr d) ∧ qAI σ G x (dai d) ∧ qAL σ G x (dal d) ∧ qAR σ G x (dar d)
/-- what the lists' rows name -/
def qW (σ : St) (G : Gh) : Prop :=
  (∀ h, h < nh σ → ∀ i, i < md σ h → ow G h i < nc σ ∧ mk σ (ow G h i) = h ∧ od σ (ow G h i) = i + 1) ∧
  (∀ h, h < nh σ → (∀ i, i < wn σ h → wt σ h (ws G h i) = true) ∧ (∀ i j, i < j → j < wn σ h → aft σ (ws G h j) (ws G h i) = true) ∧ ∀ c, wt σ h c = true → ∃ i, i < wn σ h ∧ ws G h i = c)
/-- kinds and lengths -/
def qS (σ : St) (G : Gh) (x : Nat) (sh : Sh) : Prop :=
  (sh.1 x = 8 ∧ sh.1 (x + 1) = 24 ∧ sh.1 (x + 2) = 25 ∧ sh.1 (x + 3) = 1 ∧ sh.1 (x + 4) = 20 ∧ sh.1 (x + 5) = 7 ∧ sh.1 (x + 6) = 21 ∧ sh.1 (x + 7) = 7 ∧ sh.1 (x + 8) = 21) ∧
  (sh.2 (x + 1) = 6 ∧ sh.2 (x + 2) = 10 ∧ sh.2 (x + 4) = 6 ∧ sh.2 (x + 6) = 64 ∧ sh.2 (x + 8) = 64) ∧
  (∀ h, h < nh σ → sh.1 (HA G h) = 3 ∧ sh.1 (HA G h + 1) = 6 ∧ sh.1 (HA G h + 2) = 20 ∧ sh.1 (HA G h + 3) = 1 ∧ sh.1 (HA G h + 4) = 1 ∧ sh.1 (HA G h + 5) = 22 ∧ sh.1 (HA G h + 6) = 4 ∧ sh.1 (HA G h + 7) = 21 ∧ sh.1 (HA G h + 8) = 20) ∧
  (∀ h, h < nh σ → sh.2 (HA G h + 2) = 6 ∧ sh.2 (HA G h + 5) = 10 ∧ sh.2 (HA G h + 7) = 16 ∧ sh.2 (HA G h + 8) = 16) ∧
  (∀ p, p < np σ → sh.1 (PA G p) = 5 ∧ sh.1 (PA G p + 1) = 6 ∧ sh.1 (PA G p + 2) = 20 ∧ sh.1 (PA G p + 3) = 23 ∧ sh.2 (PA G p + 2) = 6 ∧ sh.2 (PA G p + 3) = shn (kin σ p)) ∧
  (∀ c, c < nc σ → sh.1 (EA G c) = 2 ∧ sh.1 (EA G c + 1) = 6 ∧ sh.1 (EA G c + 2) = 20 ∧ sh.2 (EA G c + 2) = 6)
/-- every cell has its own mark and was made -/
def qT (σ : St) (G : Gh) (x sz : Nat) : Prop :=
  (∀ j, j < 9 → tg G (x + j) = j ∧ x + j < sz) ∧
  (∀ h, h < nh σ → ∀ j, j < 9 → tg G (HA G h + j) = 32 * h + 9 + j ∧ HA G h + j < sz) ∧
  (∀ p, p < np σ → ∀ j, j < 4 → tg G (PA G p + j) = 32 * p + 18 + j ∧ PA G p + j < sz) ∧
  (∀ c, c < nc σ → ∀ j, j < 3 → tg G (EA G c + j) = 32 * c + 22 + j ∧ EA G c + j < sz) ∧
  (∀ i, i < 13 → 0 < cap G i → tg G (DA G i) = 32 * i + 25 ∧ DA G i < sz)
/-- the lists' rows -/
def qK (σ : St) (G : Gh) (em : Nat) (sh : Sh) : Prop :=
  (∀ i, i < 13 → (cap G i = 0 → DA G i = em) ∧ (0 < cap G i → sh.1 (DA G i) = 26 ∧ sh.2 (DA G i) = cap G i ∧ DA G i ≠ em) ∧ cap G i ≤ 600) ∧
  nc σ ≤ cap G 0 ∧ (∀ h, h < nh σ → md σ h ≤ cap G (1 + h) ∧ wn σ h ≤ cap G (7 + h)) ∧
  ∀ h, nh σ ≤ h → h < 6 → cap G (1 + h) = 0 ∧ cap G (7 + h) = 0
def sm13 (f : Nat → Nat) : Nat := f 0 + (f 1 + f 2 + f 3 + f 4 + f 5 + f 6) + (f 7 + f 8 + f 9 + f 10 + f 11 + f 12)
/-- room -/
def qR (σ : St) (G : Gh) (x sz ns : Nat) : Prop := sz ≤ x + 40 + 9 * nh σ + 4 * np σ + 3 * nc σ + sm13 (cap G) + cap G 13 ∧ ns ≤ 8000 + 100 * nh σ + 80 * np σ + 21 * nc σ + 4 * sm13 (cap G) + 7 * cap G 13
def CZ (σ : St) (G : Gh) (x em sz ns : Nat) (sh : Sh) : Prop := qS σ G x sh ∧ qT σ G x sz ∧ qK σ G em sh ∧ qR σ G x sz ns ∧ em < x ∧ qW σ G
theorem tne {G : Gh} {a b s t : Nat} (h1 : tg G a = s) (h2 : tg G b = t) (h : s ≠ t) : a ≠ b := fun e => h (by rw [← h1, ← h2, e])
section
variable {sh : Sh} {d : Dt} {x : Nat} {σ : St} {G : Gh} {em sz ns : Nat}
theorem t_x (S : CZ σ G x em sz ns sh) {j : Nat} (hj : j < 9) : tg G (x + j) = j := (S.2.1.1 j hj).1
theorem t_x0 (S : CZ σ G x em sz ns sh) : tg G x = 0 := t_x S (j := 0) (by decide)
theorem t_h (S : CZ σ G x em sz ns sh) {h j : Nat} (hh : h < nh σ) (hj : j < 9) : tg G (HA G h + j) = 32 * h + 9 + j := (S.2.1.2.1 h hh j hj).1
theorem t_h0 (S : CZ σ G x em sz ns sh) {h : Nat} (hh : h < nh σ) : tg G (HA G h) = 32 * h + 9 := t_h S hh (j := 0) (by decide)
theorem t_p (S : CZ σ G x em sz ns sh) {h j : Nat} (hh : h < np σ) (hj : j < 4) : tg G (PA G h + j) = 32 * h + 18 + j := (S.2.1.2.2.1 h hh j hj).1
theorem t_p0 (S : CZ σ G x em sz ns sh) {h : Nat} (hh : h < np σ) : tg G (PA G h) = 32 * h + 18 := t_p S hh (j := 0) (by decide)
theorem t_e (S : CZ σ G x em sz ns sh) {h j : Nat} (hh : h < nc σ) (hj : j < 3) : tg G (EA G h + j) = 32 * h + 22 + j := (S.2.1.2.2.2.1 h hh j hj).1
theorem t_e0 (S : CZ σ G x em sz ns sh) {h : Nat} (hh : h < nc σ) : tg G (EA G h) = 32 * h + 22 := t_e S hh (j := 0) (by decide)
theorem t_d (S : CZ σ G x em sz ns sh) {i : Nat} (hi : i < 13) (hc : 0 < cap G i) : tg G (DA G i) = 32 * i + 25 := (S.2.1.2.2.2.2 i hi hc).1
theorem sX_0 (S : CZ σ G x em sz ns sh) : sh.1 (x) = 8 := S.1.1.1
theorem kX_0 (S : CZ σ G x em sz ns sh) : kc sh 8 (x) = some () := kc_v (sX_0 S)
theorem sX_1 (S : CZ σ G x em sz ns sh) : sh.1 (x + 1) = 24 := S.1.1.2.1
theorem sX_2 (S : CZ σ G x em sz ns sh) : sh.1 (x + 2) = 25 := S.1.1.2.2.1
theorem sX_3 (S : CZ σ G x em sz ns sh) : sh.1 (x + 3) = 1 := S.1.1.2.2.2.1
theorem kX_3 (S : CZ σ G x em sz ns sh) : kc sh 1 (x + 3) = some () := kc_v (sX_3 S)
theorem sX_4 (S : CZ σ G x em sz ns sh) : sh.1 (x + 4) = 20 := S.1.1.2.2.2.2.1
theorem sX_5 (S : CZ σ G x em sz ns sh) : sh.1 (x + 5) = 7 := S.1.1.2.2.2.2.2.1
theorem kX_5 (S : CZ σ G x em sz ns sh) : kc sh 7 (x + 5) = some () := kc_v (sX_5 S)
theorem sX_6 (S : CZ σ G x em sz ns sh) : sh.1 (x + 6) = 21 := S.1.1.2.2.2.2.2.2.1
theorem sX_7 (S : CZ σ G x em sz ns sh) : sh.1 (x + 7) = 7 := S.1.1.2.2.2.2.2.2.2.1
theorem kX_7 (S : CZ σ G x em sz ns sh) : kc sh 7 (x + 7) = some () := kc_v (sX_7 S)
theorem sX_8 (S : CZ σ G x em sz ns sh) : sh.1 (x + 8) = 21 := S.1.1.2.2.2.2.2.2.2.2
theorem sH_0 (S : CZ σ G x em sz ns sh) {h : Nat} (hh : h < nh σ) : sh.1 (HA G h) = 3 := (S.1.2.2.1 h hh).1
theorem kH_0 (S : CZ σ G x em sz ns sh) {h : Nat} (hh : h < nh σ) : kc sh 3 (HA G h) = some () := kc_v (sH_0 S hh)
theorem sH_1 (S : CZ σ G x em sz ns sh) {h : Nat} (hh : h < nh σ) : sh.1 (HA G h + 1) = 6 := (S.1.2.2.1 h hh).2.1
theorem kH_1 (S : CZ σ G x em sz ns sh) {h : Nat} (hh : h < nh σ) : kc sh 6 (HA G h + 1) = some () := kc_v (sH_1 S hh)
theorem sH_2 (S : CZ σ G x em sz ns sh) {h : Nat} (hh : h < nh σ) : sh.1 (HA G h + 2) = 20 := (S.1.2.2.1 h hh).2.2.1
theorem sH_3 (S : CZ σ G x em sz ns sh) {h : Nat} (hh : h < nh σ) : sh.1 (HA G h + 3) = 1 := (S.1.2.2.1 h hh).2.2.2.1
theorem kH_3 (S : CZ σ G x em sz ns sh) {h : Nat} (hh : h < nh σ) : kc sh 1 (HA G h + 3) = some () := kc_v (sH_3 S hh)
theorem sH_4 (S : CZ σ G x em sz ns sh) {h : Nat} (hh : h < nh σ) : sh.1 (HA G h + 4) = 1 := (S.1.2.2.1 h hh).2.2.2.2.1
theorem kH_4 (S : CZ σ G x em sz ns sh) {h : Nat} (hh : h < nh σ) : kc sh 1 (HA G h + 4) = some () := kc_v (sH_4 S hh)
theorem sH_5 (S : CZ σ G x em sz ns sh) {h : Nat} (hh : h < nh σ) : sh.1 (HA G h + 5) = 22 := (S.1.2.2.1 h hh).2.2.2.2.2.1
theorem sH_6 (S : CZ σ G x em sz ns sh) {h : Nat} (hh : h < nh σ) : sh.1 (HA G h + 6) = 4 := (S.1.2.2.1 h hh).2.2.2.2.2.2.1
theorem kH_6 (S : CZ σ G x em sz ns sh) {h : Nat} (hh : h < nh σ) : kc sh 4 (HA G h + 6) = some () := kc_v (sH_6 S hh)
theorem sH_7 (S : CZ σ G x em sz ns sh) {h : Nat} (hh : h < nh σ) : sh.1 (HA G h + 7) = 21 := (S.1.2.2.1 h hh).2.2.2.2.2.2.2.1
theorem sH_8 (S : CZ σ G x em sz ns sh) {h : Nat} (hh : h < nh σ) : sh.1 (HA G h + 8) = 20 := (S.1.2.2.1 h hh).2.2.2.2.2.2.2.2
theorem sP_0 (S : CZ σ G x em sz ns sh) {p : Nat} (hp : p < np σ) : sh.1 (PA G p) = 5 := (S.1.2.2.2.2.1 p hp).1
theorem kP_0 (S : CZ σ G x em sz ns sh) {p : Nat} (hp : p < np σ) : kc sh 5 (PA G p) = some () := kc_v (sP_0 S hp)
theorem sP_1 (S : CZ σ G x em sz ns sh) {p : Nat} (hp : p < np σ) : sh.1 (PA G p + 1) = 6 := (S.1.2.2.2.2.1 p hp).2.1
theorem kP_1 (S : CZ σ G x em sz ns sh) {p : Nat} (hp : p < np σ) : kc sh 6 (PA G p + 1) = some () := kc_v (sP_1 S hp)
theorem sP_2 (S : CZ σ G x em sz ns sh) {p : Nat} (hp : p < np σ) : sh.1 (PA G p + 2) = 20 := (S.1.2.2.2.2.1 p hp).2.2.1
theorem sP_3 (S : CZ σ G x em sz ns sh) {p : Nat} (hp : p < np σ) : sh.1 (PA G p + 3) = 23 := (S.1.2.2.2.2.1 p hp).2.2.2.1
theorem sE_0 (S : CZ σ G x em sz ns sh) {c : Nat} (hc : c < nc σ) : sh.1 (EA G c) = 2 := (S.1.2.2.2.2.2 c hc).1
theorem kE_0 (S : CZ σ G x em sz ns sh) {c : Nat} (hc : c < nc σ) : kc sh 2 (EA G c) = some () := kc_v (sE_0 S hc)
theorem sE_1 (S : CZ σ G x em sz ns sh) {c : Nat} (hc : c < nc σ) : sh.1 (EA G c + 1) = 6 := (S.1.2.2.2.2.2 c hc).2.1
theorem kE_1 (S : CZ σ G x em sz ns sh) {c : Nat} (hc : c < nc σ) : kc sh 6 (EA G c + 1) = some () := kc_v (sE_1 S hc)
theorem sE_2 (S : CZ σ G x em sz ns sh) {c : Nat} (hc : c < nc σ) : sh.1 (EA G c + 2) = 20 := (S.1.2.2.2.2.2 c hc).2.2.1
theorem nX_1 (S : CZ σ G x em sz ns sh) : sh.2 (x + 1) = 6 := S.1.2.1.1
theorem nX_2 (S : CZ σ G x em sz ns sh) : sh.2 (x + 2) = 10 := S.1.2.1.2.1
theorem nX_4 (S : CZ σ G x em sz ns sh) : sh.2 (x + 4) = 6 := S.1.2.1.2.2.1
theorem nX_6 (S : CZ σ G x em sz ns sh) : sh.2 (x + 6) = 64 := S.1.2.1.2.2.2.1
theorem nX_8 (S : CZ σ G x em sz ns sh) : sh.2 (x + 8) = 64 := S.1.2.1.2.2.2.2
theorem nH_2 (S : CZ σ G x em sz ns sh) {h : Nat} (hh : h < nh σ) : sh.2 (HA G h + 2) = 6 := (S.1.2.2.2.1 h hh).1
theorem nH_5 (S : CZ σ G x em sz ns sh) {h : Nat} (hh : h < nh σ) : sh.2 (HA G h + 5) = 10 := (S.1.2.2.2.1 h hh).2.1
theorem nH_7 (S : CZ σ G x em sz ns sh) {h : Nat} (hh : h < nh σ) : sh.2 (HA G h + 7) = 16 := (S.1.2.2.2.1 h hh).2.2.1
theorem nH_8 (S : CZ σ G x em sz ns sh) {h : Nat} (hh : h < nh σ) : sh.2 (HA G h + 8) = 16 := (S.1.2.2.2.1 h hh).2.2.2
theorem nP_2 (S : CZ σ G x em sz ns sh) {p : Nat} (hp : p < np σ) : sh.2 (PA G p + 2) = 6 := (S.1.2.2.2.2.1 p hp).2.2.2.2.1
theorem nP_3 (S : CZ σ G x em sz ns sh) {p : Nat} (hp : p < np σ) : sh.2 (PA G p + 3) = shn (kin σ p) := (S.1.2.2.2.2.1 p hp).2.2.2.2.2
theorem nE_2 (S : CZ σ G x em sz ns sh) {c : Nat} (hc : c < nc σ) : sh.2 (EA G c + 2) = 6 := (S.1.2.2.2.2.2 c hc).2.2.2
theorem cf_262 (S : CZ σ G x em sz ns sh) (D : CD σ G x d) : gI sh d 8 262 (x) = some (nI (nh σ)) := (gI_v (sX_0 S)).trans (congrArg some (D.1.1.1))
theorem cf_263 (S : CZ σ G x em sz ns sh) (D : CD σ G x d) : gI sh d 8 263 (x) = some (nI (np σ)) := (gI_v (sX_0 S)).trans (congrArg some (D.1.1.2.1))
theorem cf_264 (S : CZ σ G x em sz ns sh) (D : CD σ G x d) : gI sh d 8 264 (x) = some (nI (lat σ)) := (gI_v (sX_0 S)).trans (congrArg some (D.1.1.2.2))
theorem cf_96 (S : CZ σ G x em sz ns sh) (D : CD σ G x d) {h : Nat} (hh : h < nh σ) : gI sh d 3 96 (HA G h) = some (nI h) := (gI_v (sH_0 S hh)).trans (congrArg some ((D.1.2.1 h hh).1))
theorem cf_102 (S : CZ σ G x em sz ns sh) (D : CD σ G x d) {h : Nat} (hh : h < nh σ) : gI sh d 3 102 (HA G h) = some (nI (gc σ h)) := (gI_v (sH_0 S hh)).trans (congrArg some ((D.1.2.1 h hh).2.1))
theorem cf_130 (S : CZ σ G x em sz ns sh) (D : CD σ G x d) {h : Nat} (hh : h < nh σ) : gI sh d 4 130 (HA G h + 6) = some (nI (lm σ h)) := (gI_v (sH_6 S hh)).trans (congrArg some ((D.1.2.1 h hh).2.2))
theorem cf_160 (S : CZ σ G x em sz ns sh) (D : CD σ G x d) {p : Nat} (hp : p < np σ) : gI sh d 5 160 (PA G p) = some (nI p) := (gI_v (sP_0 S hp)).trans (congrArg some ((D.1.2.2.1 p hp).1))
theorem cf_161 (S : CZ σ G x em sz ns sh) (D : CD σ G x d) {p : Nat} (hp : p < np σ) : gI sh d 5 161 (PA G p) = some (nI (kin σ p)) := (gI_v (sP_0 S hp)).trans (congrArg some ((D.1.2.2.1 p hp).2))
theorem cf_64 (S : CZ σ G x em sz ns sh) (D : CD σ G x d) {c : Nat} (hc : c < nc σ) : gI sh d 2 64 (EA G c) = some (nI c) := (gI_v (sE_0 S hc)).trans (congrArg some ((D.1.2.2.2.1 c hc).1))
theorem cf_65 (S : CZ σ G x em sz ns sh) (D : CD σ G x d) {c : Nat} (hc : c < nc σ) : gI sh d 2 65 (EA G c) = some (nI (mk σ c)) := (gI_v (sE_0 S hc)).trans (congrArg some ((D.1.2.2.2.1 c hc).2.1))
theorem cf_66 (S : CZ σ G x em sz ns sh) (D : CD σ G x d) {c : Nat} (hc : c < nc σ) : gI sh d 2 66 (EA G c) = some (nI (pg σ c)) := (gI_v (sE_0 S hc)).trans (congrArg some ((D.1.2.2.2.1 c hc).2.2.1))
theorem cf_67 (S : CZ σ G x em sz ns sh) (D : CD σ G x d) {c : Nat} (hc : c < nc σ) : gI sh d 2 67 (EA G c) = some (nI (acC (ac σ c))) := (gI_v (sE_0 S hc)).trans (congrArg some ((D.1.2.2.2.1 c hc).2.2.2.1))
theorem cf_68 (S : CZ σ G x em sz ns sh) (D : CD σ G x d) {c : Nat} (hc : c < nc σ) : gI sh d 2 68 (EA G c) = some (nI (ax σ c)) := (gI_v (sE_0 S hc)).trans (congrArg some ((D.1.2.2.2.1 c hc).2.2.2.2.1))
theorem cf_70 (S : CZ σ G x em sz ns sh) (D : CD σ G x d) {c : Nat} (hc : c < nc σ) : gI sh d 2 70 (EA G c) = some (nI (ct σ c)) := (gI_v (sE_0 S hc)).trans (congrArg some ((D.1.2.2.2.1 c hc).2.2.2.2.2.1))
theorem cf_71 (S : CZ σ G x em sz ns sh) (D : CD σ G x d) {c : Nat} (hc : c < nc σ) : gI sh d 2 71 (EA G c) = some (nI (od σ c)) := (gI_v (sE_0 S hc)).trans (congrArg some ((D.1.2.2.2.1 c hc).2.2.2.2.2.2))
theorem cf_34x (S : CZ σ G x em sz ns sh) (D : CD σ G x d) : gI sh d 1 34 (x + 3) = some (nI (nc σ)) := (gI_v (sX_3 S)).trans (congrArg some (D.1.2.2.2.2.1))
theorem cf_34o (S : CZ σ G x em sz ns sh) (D : CD σ G x d) {h : Nat} (hh : h < nh σ) : gI sh d 1 34 (HA G h + 3) = some (nI (md σ h)) := (gI_v (sH_3 S hh)).trans (congrArg some ((D.1.2.2.2.2.2 h hh).1))
theorem cf_34w (S : CZ σ G x em sz ns sh) (D : CD σ G x d) {h : Nat} (hh : h < nh σ) : gI sh d 1 34 (HA G h + 4) = some (nI (wn σ h)) := (gI_v (sH_4 S hh)).trans (congrArg some ((D.1.2.2.2.2.2 h hh).2))
theorem cf_265 (S : CZ σ G x em sz ns sh) (D : CD σ G x d) : gL sh d 8 265 (x) = some (ask σ) := (gL_v (sX_0 S)).trans (congrArg some (D.2.1.1))
theorem cf_69 (S : CZ σ G x em sz ns sh) (D : CD σ G x d) {c : Nat} (hc : c < nc σ) : gL sh d 2 69 (EA G c) = some (vl σ c) := (gL_v (sE_0 S hc)).trans (congrArg some (D.2.1.2 c hc))
theorem cf_256 (S : CZ σ G x em sz ns sh) (D : CD σ G x d) : gR sh d 8 256 (x) = some (some (x + 1)) := (gR_v (sX_0 S)).trans (congrArg some (D.2.2.1.1.1))
theorem cf_257 (S : CZ σ G x em sz ns sh) (D : CD σ G x d) : gR sh d 8 257 (x) = some (some (x + 2)) := (gR_v (sX_0 S)).trans (congrArg some (D.2.2.1.1.2.1))
theorem cf_258 (S : CZ σ G x em sz ns sh) (D : CD σ G x d) : gR sh d 8 258 (x) = some (some (x + 3)) := (gR_v (sX_0 S)).trans (congrArg some (D.2.2.1.1.2.2.1))
theorem cf_259 (S : CZ σ G x em sz ns sh) (D : CD σ G x d) : gR sh d 8 259 (x) = some (some (x + 4)) := (gR_v (sX_0 S)).trans (congrArg some (D.2.2.1.1.2.2.2.1))
theorem cf_260 (S : CZ σ G x em sz ns sh) (D : CD σ G x d) : gR sh d 8 260 (x) = some (some (x + 5)) := (gR_v (sX_0 S)).trans (congrArg some (D.2.2.1.1.2.2.2.2.1))
theorem cf_261 (S : CZ σ G x em sz ns sh) (D : CD σ G x d) : gR sh d 8 261 (x) = some (some (x + 7)) := (gR_v (sX_0 S)).trans (congrArg some (D.2.2.1.1.2.2.2.2.2.1))
theorem cf_224_5 (S : CZ σ G x em sz ns sh) (D : CD σ G x d) : gR sh d 7 224 (x + 5) = some (some (x + 6)) := (gR_v (sX_5 S)).trans (congrArg some (D.2.2.1.1.2.2.2.2.2.2.1))
theorem cf_224_7 (S : CZ σ G x em sz ns sh) (D : CD σ G x d) : gR sh d 7 224 (x + 7) = some (some (x + 8)) := (gR_v (sX_7 S)).trans (congrArg some (D.2.2.1.1.2.2.2.2.2.2.2))
theorem cf_97 (S : CZ σ G x em sz ns sh) (D : CD σ G x d) {h : Nat} (hh : h < nh σ) : gR sh d 3 97 (HA G h) = some (some (HA G h + 1)) := (gR_v (sH_0 S hh)).trans (congrArg some ((D.2.2.1.2.1 h hh).1))
theorem cf_98 (S : CZ σ G x em sz ns sh) (D : CD σ G x d) {h : Nat} (hh : h < nh σ) : gR sh d 3 98 (HA G h) = some (some (HA G h + 3)) := (gR_v (sH_0 S hh)).trans (congrArg some ((D.2.2.1.2.1 h hh).2.1))
theorem cf_99 (S : CZ σ G x em sz ns sh) (D : CD σ G x d) {h : Nat} (hh : h < nh σ) : gR sh d 3 99 (HA G h) = some (some (HA G h + 4)) := (gR_v (sH_0 S hh)).trans (congrArg some ((D.2.2.1.2.1 h hh).2.2.1))
theorem cf_100 (S : CZ σ G x em sz ns sh) (D : CD σ G x d) {h : Nat} (hh : h < nh σ) : gR sh d 3 100 (HA G h) = some (some (HA G h + 5)) := (gR_v (sH_0 S hh)).trans (congrArg some ((D.2.2.1.2.1 h hh).2.2.2.1))
theorem cf_101 (S : CZ σ G x em sz ns sh) (D : CD σ G x d) {h : Nat} (hh : h < nh σ) : gR sh d 3 101 (HA G h) = some (some (HA G h + 6)) := (gR_v (sH_0 S hh)).trans (congrArg some ((D.2.2.1.2.1 h hh).2.2.2.2.1))
theorem cf_192h (S : CZ σ G x em sz ns sh) (D : CD σ G x d) {h : Nat} (hh : h < nh σ) : gR sh d 6 192 (HA G h + 1) = some (some (HA G h + 2)) := (gR_v (sH_1 S hh)).trans (congrArg some ((D.2.2.1.2.1 h hh).2.2.2.2.2.1))
theorem cf_128 (S : CZ σ G x em sz ns sh) (D : CD σ G x d) {h : Nat} (hh : h < nh σ) : gR sh d 4 128 (HA G h + 6) = some (some (HA G h + 7)) := (gR_v (sH_6 S hh)).trans (congrArg some ((D.2.2.1.2.1 h hh).2.2.2.2.2.2.1))
theorem cf_129 (S : CZ σ G x em sz ns sh) (D : CD σ G x d) {h : Nat} (hh : h < nh σ) : gR sh d 4 129 (HA G h + 6) = some (some (HA G h + 8)) := (gR_v (sH_6 S hh)).trans (congrArg some ((D.2.2.1.2.1 h hh).2.2.2.2.2.2.2))
theorem cf_162 (S : CZ σ G x em sz ns sh) (D : CD σ G x d) {p : Nat} (hp : p < np σ) : gR sh d 5 162 (PA G p) = some (some (PA G p + 3)) := (gR_v (sP_0 S hp)).trans (congrArg some ((D.2.2.1.2.2.1 p hp).1))
theorem cf_163 (S : CZ σ G x em sz ns sh) (D : CD σ G x d) {p : Nat} (hp : p < np σ) : gR sh d 5 163 (PA G p) = some (some (PA G p + 1)) := (gR_v (sP_0 S hp)).trans (congrArg some ((D.2.2.1.2.2.1 p hp).2.1))
theorem cf_192p (S : CZ σ G x em sz ns sh) (D : CD σ G x d) {p : Nat} (hp : p < np σ) : gR sh d 6 192 (PA G p + 1) = some (some (PA G p + 2)) := (gR_v (sP_1 S hp)).trans (congrArg some ((D.2.2.1.2.2.1 p hp).2.2))
theorem cf_72 (S : CZ σ G x em sz ns sh) (D : CD σ G x d) {c : Nat} (hc : c < nc σ) : gR sh d 2 72 (EA G c) = some (some (EA G c + 1)) := (gR_v (sE_0 S hc)).trans (congrArg some ((D.2.2.1.2.2.2.1 c hc).1))
theorem cf_192e (S : CZ σ G x em sz ns sh) (D : CD σ G x d) {c : Nat} (hc : c < nc σ) : gR sh d 6 192 (EA G c + 1) = some (some (EA G c + 2)) := (gR_v (sE_1 S hc)).trans (congrArg some ((D.2.2.1.2.2.2.1 c hc).2.1))
theorem cf_73 (S : CZ σ G x em sz ns sh) (D : CD σ G x d) {c : Nat} (hc : c < nc σ) : gR sh d 2 73 (EA G c) = some ((prv σ (pg σ c) (shl σ (pg σ c) (ax σ c)) c).map (EA G)) := (gR_v (sE_0 S hc)).trans (congrArg some ((D.2.2.1.2.2.2.1 c hc).2.2))
theorem cf_33x (S : CZ σ G x em sz ns sh) (D : CD σ G x d) : gR sh d 1 33 (x + 3) = some (some (DA G 0)) := (gR_v (sX_3 S)).trans (congrArg some (D.2.2.1.2.2.2.2.1))
theorem cf_33o (S : CZ σ G x em sz ns sh) (D : CD σ G x d) {h : Nat} (hh : h < nh σ) : gR sh d 1 33 (HA G h + 3) = some (some (DA G (1 + h))) := (gR_v (sH_3 S hh)).trans (congrArg some ((D.2.2.1.2.2.2.2.2 h hh).1))
theorem cf_33w (S : CZ σ G x em sz ns sh) (D : CD σ G x d) {h : Nat} (hh : h < nh σ) : gR sh d 1 33 (HA G h + 4) = some (some (DA G (7 + h))) := (gR_v (sH_4 S hh)).trans (congrArg some ((D.2.2.1.2.2.2.2.2 h hh).2))
theorem ca_4 (S : CZ σ G x em sz ns sh) (D : CD σ G x d) {k : Nat} (hk : k < 6) : aI sh d 20 (x + 4) (nI k) = some (nI (cme σ k)) := (aI_v (sX_4 S) (by rw [nX_4 S]; exact hk) (by omega)).trans (congrArg some (D.2.2.2.1.1 k hk))
theorem ca_h2 (S : CZ σ G x em sz ns sh) (D : CD σ G x d) {h : Nat} {k : Nat} (hh : h < nh σ) (hk : k < 6) : aI sh d 20 (HA G h + 2) (nI k) = some (nI (up σ h k)) := (aI_v (sH_2 S hh) (by rw [nH_2 S hh]; exact hk) (by omega)).trans (congrArg some ((D.2.2.2.1.2.1 h hh).1 k hk))
theorem ca_h5 (S : CZ σ G x em sz ns sh) (D : CD σ G x d) {h : Nat} {k : Nat} (hh : h < nh σ) (hk : k < 10) : aI sh d 22 (HA G h + 5) (nI k) = some (bI (skp σ h k)) := (aI_v (sH_5 S hh) (by rw [nH_5 S hh]; exact hk) (by omega)).trans (congrArg some ((D.2.2.2.1.2.1 h hh).2.1 k hk))
theorem ca_e2 (S : CZ σ G x em sz ns sh) (D : CD σ G x d) {c : Nat} {k : Nat} (hc : c < nc σ) (hk : k < 6) : aI sh d 20 (EA G c + 2) (nI k) = some (nI (ku σ c k)) := (aI_v (sE_2 S hc) (by rw [nE_2 S hc]; exact hk) (by omega)).trans (congrArg some (D.2.2.2.1.2.2 c hc k hk))
theorem ca_h7 (S : CZ σ G x em sz ns sh) (D : CD σ G x d) {h : Nat} {k : Nat} (hh : h < nh σ) (hk : k < 16) : aL sh d 21 (HA G h + 7) (nI k) = some (lf σ h k) := (aL_v (sH_7 S hh) (by rw [nH_7 S hh]; exact hk) (by omega)).trans (congrArg some (D.2.2.2.2.1 h hh k hk))
theorem ca_h8 (S : CZ σ G x em sz ns sh) (D : CD σ G x d) (B : WB σ) {h k : Nat} (hh : h < nh σ) (hk : k < lm σ h) : aI sh d 20 (HA G h + 8) (nI k) = some (mkI (thr σ h k)) := by
  have b1 := B.1
  have b2 := (B.2.2.2.2.2 h (by omega)).1
  exact (aI_v (sH_8 S hh) (by rw [nH_8 S hh]; omega) (by omega)).trans (congrArg some ((D.2.2.2.1.2.1 h hh).2.2 k hk))
theorem ca_1 (S : CZ σ G x em sz ns sh) (D : CD σ G x d) (B : WB σ) {k : Nat} (hk : k < nh σ) : aR sh d 24 (x + 1) (nI k) = some (some (HA G k)) := by
  have b1 := B.1
  exact (aR_v (sX_1 S) (by rw [nX_1 S]; omega) (by omega)).trans (congrArg some (D.2.2.2.2.2.1 k hk))
theorem ca_2 (S : CZ σ G x em sz ns sh) (D : CD σ G x d) (B : WB σ) {k : Nat} (hk : k < np σ) : aR sh d 25 (x + 2) (nI k) = some (some (PA G k)) := by
  have b1 := B.2.1
  exact (aR_v (sX_2 S) (by rw [nX_2 S]; omega) (by omega)).trans (congrArg some (D.2.2.2.2.2.2.1 k hk))
theorem ca_p3 (S : CZ σ G x em sz ns sh) (D : CD σ G x d) {p k : Nat} (hp : p < np σ) (hk : k < shn (kin σ p)) : aR sh d 23 (PA G p + 3) (nI k) = some ((prv σ p k (nc σ)).map (EA G)) := by
  have : shn (kin σ p) ≤ 64 := by unfold shn; split <;> omega
  exact (aR_v (sP_3 S hp) (by rw [nP_3 S hp]; exact hk) (by omega)).trans (congrArg some (D.2.2.2.2.2.2.2.1 p hp k hk))
theorem wn_nc (B : WB σ) (h : Nat) : wn σ h ≤ 400 := Nat.le_trans (cnt_le _ _) B.2.2.1
theorem q_cap (S : CZ σ G x em sz ns sh) {i : Nat} (hi : i < 13) : cap G i ≤ 600 := (S.2.2.1.1 i hi).2.2
/-- the lists, read -/
theorem c_size {a n : Nat} (h1 : sh.1 a = 1) (h2 : dfi d 34 a = nI n) : fJx4a65c_size_8abf5 sh d a = some (nI n) := by
  unfold fJx4a65c_size_8abf5 fJx4a65c_size_8abf5_b0
  rw [gI_v h1, bd_v, h2]
theorem c_size_x (S : CZ σ G x em sz ns sh) (D : CD σ G x d) : fJx4a65c_size_8abf5 sh d (x + 3) = some (nI (nc σ)) := c_size (sX_3 S) D.1.2.2.2.2.1
theorem c_size_o (S : CZ σ G x em sz ns sh) (D : CD σ G x d) {h : Nat} (hh : h < nh σ) : fJx4a65c_size_8abf5 sh d (HA G h + 3) = some (nI (md σ h)) := c_size (sH_3 S hh) (D.1.2.2.2.2.2 h hh).1
theorem c_size_w (S : CZ σ G x em sz ns sh) (D : CD σ G x d) {h : Nat} (hh : h < nh σ) : fJx4a65c_size_8abf5 sh d (HA G h + 4) = some (nI (wn σ h)) := c_size (sH_4 S hh) (D.1.2.2.2.2.2 h hh).2
theorem c_get {a r n k i : Nat} {v : Option Nat} (h1 : sh.1 a = 1) (h2 : dfi d 34 a = nI n) (h3 : dfr d 33 a = some r) (h4 : sh.1 r = 26) (h5 : sh.2 r = k) (h6 : i < n) (h7 : n ≤ k) (h8 : k ≤ 600) (h9 : dar d r i = v) : fJx4a65c_get_915e3 sh d a (nI i) = some v := by
  have e1 : fJ15_checkIndex_7cf53 sh d (nI i) (nI n) = some (nI i) := by
    unfold fJ15_checkIndex_7cf53 fJ15_checkIndex_7cf53_b0 fJ3_checkIndex_8e157 fJ3_checkIndex_8e157_b0
    rw [if_neg (nI_pos (by omega)), if_pos (nI_lt h6 (by omega))]; rfl
  unfold fJx4a65c_get_915e3 fJx4a65c_get_915e3_b0
  rw [gI_v h1, bd_v, h2, e1, bd_v]
  unfold fJx4a65c_elementData_915e3 fJx4a65c_elementData_915e3_b0
  rw [gR_v h1, bd_v, h3, bd_v, aR_v h4 (by omega) (by omega), h9]; rfl
theorem c_get_x (S : CZ σ G x em sz ns sh) (D : CD σ G x d) {k : Nat} (hk : k < nc σ) : fJx4a65c_get_915e3 sh d (x + 3) (nI k) = some (some (EA G k)) := by
  have q := S.2.2.1
  have q1 := q.1 0 (by decide)
  have q2 := q.2.1
  exact c_get (sX_3 S) D.1.2.2.2.2.1 D.2.2.1.2.2.2.2.1 (q1.2.1 (by omega)).1 (q1.2.1 (by omega)).2.1 hk q.2.1 q1.2.2 (D.2.2.2.2.2.2.2.2.1 k hk)
theorem c_get_o (S : CZ σ G x em sz ns sh) (D : CD σ G x d) (B : WB σ) {h k : Nat} (hh : h < nh σ) (hk : k < md σ h) : fJx4a65c_get_915e3 sh d (HA G h + 3) (nI k) = some (some (EA G (ow G h k))) := by
  have b1 := B.1
  have q := S.2.2.1
  have q1 := q.1 (1 + h) (by omega)
  have q2 := (q.2.2.1 h hh).1
  exact c_get (sH_3 S hh) (D.1.2.2.2.2.2 h hh).1 (D.2.2.1.2.2.2.2.2 h hh).1 (q1.2.1 (by omega)).1 (q1.2.1 (by omega)).2.1 hk q2 q1.2.2 ((D.2.2.2.2.2.2.2.2.2 h hh).1 k hk)
theorem c_get_w (S : CZ σ G x em sz ns sh) (D : CD σ G x d) (B : WB σ) {h k : Nat} (hh : h < nh σ) (hk : k < wn σ h) : fJx4a65c_get_915e3 sh d (HA G h + 4) (nI k) = some (some (EA G (ws G h k))) := by
  have b1 := B.1
  have q := S.2.2.1
  have q1 := q.1 (7 + h) (by omega)
  have q2 := (q.2.2.1 h hh).2
  exact c_get (sH_4 S hh) (D.1.2.2.2.2.2 h hh).2 (D.2.2.1.2.2.2.2.2 h hh).2 (q1.2.1 (by omega)).1 (q1.2.1 (by omega)).2.1 hk q2 q1.2.2 ((D.2.2.2.2.2.2.2.2.2 h hh).2 k hk)
theorem cst_e (S : CZ σ G x em sz ns sh) {c : Nat} (hc : c < nc σ) : cst sh 2 (some (EA G c)) = some () := kE_0 S hc
theorem cst_0 : cst sh 2 none = some () := rfl
/-- who is asked for -/
theorem c_handAt (S : CZ σ G x em sz ns sh) (D : CD σ G x d) (B : WB σ) (a : Int32) : fX6_handAt sh d x a = some (if inN a (nh σ) then some (HA G (cl a)) else none) := by
  have b1 := B.1
  unfold fX6_handAt fX6_handAt_b0 fX6_handAt_b12
  rcases pk_ix a (n := nh σ) (by omega) with h | h | ⟨j, hj, rfl⟩
  · rw [if_pos h, if_neg]
    unfold inN; rw [Int32.lt_iff_toInt_lt] at h
    simp only [Bool.and_eq_true, decide_eq_true_eq]
    have : (0 : Int32).toInt = 0 := rfl
    omega
  · have h0 : ¬ a < 0 := by
      rw [Int32.le_iff_toInt_le, nI_toInt (by omega)] at h
      rw [Int32.lt_iff_toInt_lt]; have : (0 : Int32).toInt = 0 := rfl
      omega
    have h1 : ¬ a < nI (nh σ) := by rw [Int32.lt_iff_toInt_lt]; rw [Int32.le_iff_toInt_le] at h; omega
    rw [if_neg h0, cf_262 S D, bd_v, if_neg h1, if_neg]
    rw [Int32.le_iff_toInt_le, nI_toInt (by omega)] at h
    unfold inN
    simp only [Bool.and_eq_true, decide_eq_true_eq]
    omega
  · rw [if_neg (nI_pos (by omega)), cf_262 S D, bd_v, if_pos (nI_lt hj (by omega)), cf_256 S D, bd_v, bd_v, ca_1 S D B hj, bd_v, inN_nI (by omega), if_pos (by simpa using hj), cl_nI (by omega)]
theorem c_pageAt (S : CZ σ G x em sz ns sh) (D : CD σ G x d) (B : WB σ) (a : Int32) : fX6_pageAt sh d x a = some (if inN a (np σ) then some (PA G (cl a)) else none) := by
  have b1 := B.2.1
  unfold fX6_pageAt fX6_pageAt_b0 fX6_pageAt_b12
  rcases pk_ix a (n := np σ) (by omega) with h | h | ⟨j, hj, rfl⟩
  · rw [if_pos h, if_neg]
    unfold inN; rw [Int32.lt_iff_toInt_lt] at h
    simp only [Bool.and_eq_true, decide_eq_true_eq]
    have : (0 : Int32).toInt = 0 := rfl
    omega
  · have h0 : ¬ a < 0 := by
      rw [Int32.le_iff_toInt_le, nI_toInt (by omega)] at h
      rw [Int32.lt_iff_toInt_lt]; have : (0 : Int32).toInt = 0 := rfl
      omega
    have h1 : ¬ a < nI (np σ) := by rw [Int32.lt_iff_toInt_lt]; rw [Int32.le_iff_toInt_le] at h; omega
    rw [if_neg h0, cf_263 S D, bd_v, if_neg h1, if_neg]
    rw [Int32.le_iff_toInt_le, nI_toInt (by omega)] at h
    unfold inN
    simp only [Bool.and_eq_true, decide_eq_true_eq]
    omega
  · rw [if_neg (nI_pos (by omega)), cf_263 S D, bd_v, if_pos (nI_lt hj (by omega)), cf_257 S D, bd_v, bd_v, ca_2 S D B hj, bd_v, inN_nI (by omega), if_pos (by simpa using hj), cl_nI (by omega)]
theorem c_entryAt (S : CZ σ G x em sz ns sh) (D : CD σ G x d) (B : WB σ) (a : Int32) : fX6_entryAt sh d x a = some (if inN a (nc σ) then some (EA G (cl a)) else none) := by
  have b1 := B.2.2.1
  unfold fX6_entryAt fX6_entryAt_b0 fX6_entryAt_b15
  rcases pk_ix a (n := nc σ) (by omega) with h | h | ⟨j, hj, rfl⟩
  · rw [if_pos h, if_neg]
    unfold inN; rw [Int32.lt_iff_toInt_lt] at h
    simp only [Bool.and_eq_true, decide_eq_true_eq]
    have : (0 : Int32).toInt = 0 := rfl
    omega
  · have h0 : ¬ a < 0 := by
      rw [Int32.le_iff_toInt_le, nI_toInt (by omega)] at h
      rw [Int32.lt_iff_toInt_lt]; have : (0 : Int32).toInt = 0 := rfl
      omega
    have h1 : ¬ a < nI (nc σ) := by rw [Int32.lt_iff_toInt_lt]; rw [Int32.le_iff_toInt_le] at h; omega
    rw [if_neg h0, cf_258 S D, bd_v, bd_v, kX_3 S, bd_v, c_size_x S D, bd_v, if_neg h1, if_neg]
    rw [Int32.le_iff_toInt_le, nI_toInt (by omega)] at h
    unfold inN
    simp only [Bool.and_eq_true, decide_eq_true_eq]
    omega
  · rw [if_neg (nI_pos (by omega)), cf_258 S D, bd_v, bd_v, kX_3 S, bd_v, c_size_x S D, bd_v, if_pos (nI_lt hj (by omega)), bd_v, bd_v, kX_3 S, bd_v, c_get_x S D hj, bd_v, cst_e S hj, bd_v, inN_nI (by omega), if_pos (by simpa using hj), cl_nI (by omega)]
theorem c_hand_j (S : CZ σ G x em sz ns sh) (D : CD σ G x d) (B : WB σ) {j : Nat} (hj : j < nh σ) : fX6_handAt sh d x (nI j) = some (some (HA G j)) := by
  have b1 := B.1
  rw [c_handAt S D B, inN_nI (by omega), if_pos (by simpa using hj), cl_nI (by omega)]
theorem c_page_j (S : CZ σ G x em sz ns sh) (D : CD σ G x d) (B : WB σ) {j : Nat} (hj : j < np σ) : fX6_pageAt sh d x (nI j) = some (some (PA G j)) := by
  have b1 := B.2.1
  rw [c_pageAt S D B, inN_nI (by omega), if_pos (by simpa using hj), cl_nI (by omega)]
end
