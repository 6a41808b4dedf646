abbrev IVT : Type := Nat → Nat → Nat → Nat → Nat → Sh → Dt → Sh → Dt → Prop
/-- hand -/
def IV_0 (em mi : Nat) (INV : IVT) : Prop := ∀ (n x mm sz ns : Nat) (shC : Sh) (dC : Dt) (shM : Sh) (dM : Dt), n < 512 → INV n x mm sz ns shC dC shM dM → ∃ (r : Int32) (sz9 ns9 : Nat) (shC9 : Sh) (dC9 : Dt) (dM9 : Dt), fX6_hand em mi x  sz ns shC dC = some (r, sz9, ns9, shC9, dC9) ∧ fX7_hand shM dM mm  = some (r, dM9) ∧ INV (n + 1) x mm sz9 ns9 shC9 dC9 shM dM9
/-- page -/
def IV_1 (em mi : Nat) (INV : IVT) : Prop := ∀ (n x mm sz ns : Nat) (shC : Sh) (dC : Dt) (shM : Sh) (dM : Dt) (a1 : Int32), n < 512 → INV n x mm sz ns shC dC shM dM → ∃ (r : Int32) (sz9 ns9 : Nat) (shC9 : Sh) (dC9 : Dt) (dM9 : Dt), fX6_page em mi x a1 sz ns shC dC = some (r, sz9, ns9, shC9, dC9) ∧ fX7_page shM dM mm a1 = some (r, dM9) ∧ INV (n + 1) x mm sz9 ns9 shC9 dC9 shM dM9
/-- is -/
def IV_2 (em mi : Nat) (INV : IVT) : Prop := ∀ (n x mm sz ns : Nat) (shC : Sh) (dC : Dt) (shM : Sh) (dM : Dt) (a1 : Int32) (a2 : Int32), n < 512 → INV n x mm sz ns shC dC shM dM → ∃ (r : Int32), fX6_is shC dC x a1 a2 = some r ∧ fX7_is shM dM mm a1 a2 = some r ∧ INV (n + 1) x mm sz ns shC dC shM dM
/-- keep -/
def IV_3 (em mi : Nat) (INV : IVT) : Prop := ∀ (n x mm sz ns : Nat) (shC : Sh) (dC : Dt) (shM : Sh) (dM : Dt) (a1 : Int32) (a2 : Int32) (a3 : Int32), n < 512 → INV n x mm sz ns shC dC shM dM → a3 = 0 ∨ a3 = 1 → ∃ (r : Int32) (dC9 : Dt) (dM9 : Dt), fX6_keep shC dC x a1 a2 a3 = some (r, dC9) ∧ fX7_keep shM dM mm a1 a2 a3 = some (r, dM9) ∧ INV (n + 1) x mm sz ns shC dC9 shM dM9
/-- write -/
def IV_4 (em mi : Nat) (INV : IVT) : Prop := ∀ (n x mm sz ns : Nat) (shC : Sh) (dC : Dt) (shM : Sh) (dM : Dt) (a1 : Int32) (a2 : Int32) (a3 : Int64), n < 512 → INV n x mm sz ns shC dC shM dM → ∃ (r : Int32) (sz9 ns9 : Nat) (shC9 : Sh) (dC9 : Dt) (dM9 : Dt), fX6_write em mi x a1 a2 a3 sz ns shC dC = some (r, sz9, ns9, shC9, dC9) ∧ fX7_write shM dM mm a1 a2 a3 = some (r, dM9) ∧ INV (n + 1) x mm sz9 ns9 shC9 dC9 shM dM9
/-- add -/
def IV_5 (em mi : Nat) (INV : IVT) : Prop := ∀ (n x mm sz ns : Nat) (shC : Sh) (dC : Dt) (shM : Sh) (dM : Dt) (a1 : Int32) (a2 : Int32) (a3 : Int64), n < 512 → INV n x mm sz ns shC dC shM dM → ∃ (r : Int32) (sz9 ns9 : Nat) (shC9 : Sh) (dC9 : Dt) (dM9 : Dt), fX6_add em mi x a1 a2 a3 sz ns shC dC = some (r, sz9, ns9, shC9, dC9) ∧ fX7_add shM dM mm a1 a2 a3 = some (r, dM9) ∧ INV (n + 1) x mm sz9 ns9 shC9 dC9 shM dM9
/-- put -/
def IV_6 (em mi : Nat) (INV : IVT) : Prop := ∀ (n x mm sz ns : Nat) (shC : Sh) (dC : Dt) (shM : Sh) (dM : Dt) (a1 : Int32) (a2 : Int32) (a3 : Int32), n < 512 → INV n x mm sz ns shC dC shM dM → ∃ (r : Int32) (sz9 ns9 : Nat) (shC9 : Sh) (dC9 : Dt) (dM9 : Dt), fX6_put em mi x a1 a2 a3 sz ns shC dC = some (r, sz9, ns9, shC9, dC9) ∧ fX7_put shM dM mm a1 a2 a3 = some (r, dM9) ∧ INV (n + 1) x mm sz9 ns9 shC9 dC9 shM dM9
/-- take -/
def IV_7 (em mi : Nat) (INV : IVT) : Prop := ∀ (n x mm sz ns : Nat) (shC : Sh) (dC : Dt) (shM : Sh) (dM : Dt) (a1 : Int32) (a2 : Int32) (a3 : Int32), n < 512 → INV n x mm sz ns shC dC shM dM → ∃ (r : Int32) (sz9 ns9 : Nat) (shC9 : Sh) (dC9 : Dt) (dM9 : Dt), fX6_take em mi x a1 a2 a3 sz ns shC dC = some (r, sz9, ns9, shC9, dC9) ∧ fX7_take shM dM mm a1 a2 a3 = some (r, dM9) ∧ INV (n + 1) x mm sz9 ns9 shC9 dC9 shM dM9
/-- give -/
def IV_8 (em mi : Nat) (INV : IVT) : Prop := ∀ (n x mm sz ns : Nat) (shC : Sh) (dC : Dt) (shM : Sh) (dM : Dt) (a1 : Int32) (a2 : Int32) (a3 : Int32) (a4 : Int64), n < 512 → INV n x mm sz ns shC dC shM dM → ∃ (r : Int32) (sz9 ns9 : Nat) (shC9 : Sh) (dC9 : Dt) (dM9 : Dt), fX6_give em mi x a1 a2 a3 a4 sz ns shC dC = some (r, sz9, ns9, shC9, dC9) ∧ fX7_give shM dM mm a1 a2 a3 a4 = some (r, dM9) ∧ INV (n + 1) x mm sz9 ns9 shC9 dC9 shM dM9
/-- spend -/
def IV_9 (em mi : Nat) (INV : IVT) : Prop := ∀ (n x mm sz ns : Nat) (shC : Sh) (dC : Dt) (shM : Sh) (dM : Dt) (a1 : Int32) (a2 : Int32) (a3 : Int64), n < 512 → INV n x mm sz ns shC dC shM dM → ∃ (r : Int32) (sz9 ns9 : Nat) (shC9 : Sh) (dC9 : Dt) (dM9 : Dt), fX6_spend em mi x a1 a2 a3 sz ns shC dC = some (r, sz9, ns9, shC9, dC9) ∧ fX7_spend shM dM mm a1 a2 a3 = some (r, dM9) ∧ INV (n + 1) x mm sz9 ns9 shC9 dC9 shM dM9
/-- raise -/
def IV_10 (em mi : Nat) (INV : IVT) : Prop := ∀ (n x mm sz ns : Nat) (shC : Sh) (dC : Dt) (shM : Sh) (dM : Dt) (a1 : Int32) (a2 : Int32) (a3 : Int32), n < 512 → INV n x mm sz ns shC dC shM dM → a3 = 0 ∨ a3 = 1 → ∃ (r : Int32) (sz9 ns9 : Nat) (shC9 : Sh) (dC9 : Dt) (dM9 : Dt), fX6_raise em mi x a1 a2 a3 sz ns shC dC = some (r, sz9, ns9, shC9, dC9) ∧ fX7_raise shM dM mm a1 a2 a3 = some (r, dM9) ∧ INV (n + 1) x mm sz9 ns9 shC9 dC9 shM dM9
/-- change -/
def IV_11 (em mi : Nat) (INV : IVT) : Prop := ∀ (n x mm sz ns : Nat) (shC : Sh) (dC : Dt) (shM : Sh) (dM : Dt) (a1 : Int32) (a2 : Int32), n < 512 → INV n x mm sz ns shC dC shM dM → ∃ (r : Int32), fX6_change shC dC x a1 a2 = some r ∧ fX7_change shM dM mm a1 a2 = some r ∧ INV (n + 1) x mm sz ns shC dC shM dM
/-- knows -/
def IV_12 (em mi : Nat) (INV : IVT) : Prop := ∀ (n x mm sz ns : Nat) (shC : Sh) (dC : Dt) (shM : Sh) (dM : Dt) (a1 : Int32) (a2 : Int32), n < 512 → INV n x mm sz ns shC dC shM dM → ∃ (r : Int32), fX6_knows shC dC x a1 a2 = some r ∧ fX7_knows shM dM mm a1 a2 = some r ∧ INV (n + 1) x mm sz ns shC dC shM dM
/-- come -/
def IV_13 (em mi : Nat) (INV : IVT) : Prop := ∀ (n x mm sz ns : Nat) (shC : Sh) (dC : Dt) (shM : Sh) (dM : Dt) (a1 : Int32) (a2 : Int32), n < 512 → INV n x mm sz ns shC dC shM dM → ∃ (r : Int32) (sz9 ns9 : Nat) (shC9 : Sh) (dC9 : Dt) (dM9 : Dt), fX6_come em mi x a1 a2 sz ns shC dC = some (r, sz9, ns9, shC9, dC9) ∧ fX7_come shM dM mm a1 a2 = some (r, dM9) ∧ INV (n + 1) x mm sz9 ns9 shC9 dC9 shM dM9
/-- meet -/
def IV_14 (em mi : Nat) (INV : IVT) : Prop := ∀ (n x mm sz ns : Nat) (shC : Sh) (dC : Dt) (shM : Sh) (dM : Dt) (a1 : Int32) (a2 : Int32) (a3 : Int32), n < 512 → INV n x mm sz ns shC dC shM dM → ∃ (r : Int32) (sz9 ns9 : Nat) (shC9 : Sh) (dC9 : Dt) (dM9 : Dt), fX6_meet em mi x a1 a2 a3 sz ns shC dC = some (r, sz9, ns9, shC9, dC9) ∧ fX7_meet shM dM mm a1 a2 a3 = some (r, dM9) ∧ INV (n + 1) x mm sz9 ns9 shC9 dC9 shM dM9
/-- lose -/
def IV_15 (em mi : Nat) (INV : IVT) : Prop := ∀ (n x mm sz ns : Nat) (shC : Sh) (dC : Dt) (shM : Sh) (dM : Dt) (a1 : Int32), n < 512 → INV n x mm sz ns shC dC shM dM → ∃ (r : Int32) (dC9 : Dt) (dM9 : Dt), fX6_lose shC dC x a1 = some (r, dC9) ∧ fX7_lose shM dM mm a1 = some (r, dM9) ∧ INV (n + 1) x mm sz ns shC dC9 shM dM9
/-- told -/
def IV_16 (em mi : Nat) (INV : IVT) : Prop := ∀ (n x mm sz ns : Nat) (shC : Sh) (dC : Dt) (shM : Sh) (dM : Dt) (a1 : Int32) (a2 : Int32), n < 512 → INV n x mm sz ns shC dC shM dM → ∃ (r : Int32), fX6_told shC dC x a1 a2 = some r ∧ fX7_told shM dM mm a1 a2 = some r ∧ INV (n + 1) x mm sz ns shC dC shM dM
/-- has -/
def IV_17 (em mi : Nat) (INV : IVT) : Prop := ∀ (n x mm sz ns : Nat) (shC : Sh) (dC : Dt) (shM : Sh) (dM : Dt) (a1 : Int32) (a2 : Int32), n < 512 → INV n x mm sz ns shC dC shM dM → ∃ (r : Int32), fX6_has shC dC x a1 a2 = some r ∧ fX7_has shM dM mm a1 a2 = some r ∧ INV (n + 1) x mm sz ns shC dC shM dM
/-- compare -/
def IV_18 (em mi : Nat) (INV : IVT) : Prop := ∀ (n x mm sz ns : Nat) (shC : Sh) (dC : Dt) (shM : Sh) (dM : Dt) (a1 : Int32) (a2 : Int32), n < 512 → INV n x mm sz ns shC dC shM dM → ∃ (r : Int32), fX6_compare shC dC x a1 a2 = some r ∧ fX7_compare shM dM mm a1 a2 = some r ∧ INV (n + 1) x mm sz ns shC dC shM dM
/-- value -/
def IV_19 (em mi : Nat) (INV : IVT) : Prop := ∀ (n x mm sz ns : Nat) (shC : Sh) (dC : Dt) (shM : Sh) (dM : Dt) (a1 : Int32) (a2 : Int32), n < 512 → INV n x mm sz ns shC dC shM dM → ∃ (r : Int32) (dC9 : Dt) (dM9 : Dt), fX6_value shC dC x a1 a2 = some (r, dC9) ∧ fX7_value shM dM mm a1 a2 = some (r, dM9) ∧ INV (n + 1) x mm sz ns shC dC9 shM dM9
/-- sum -/
def IV_20 (em mi : Nat) (INV : IVT) : Prop := ∀ (n x mm sz ns : Nat) (shC : Sh) (dC : Dt) (shM : Sh) (dM : Dt) (a1 : Int32) (a2 : Int32), n < 512 → INV n x mm sz ns shC dC shM dM → ∃ (r : Int32) (dC9 : Dt) (dM9 : Dt), fX6_sum shC dC x a1 a2 = some (r, dC9) ∧ fX7_sum shM dM mm a1 a2 = some (r, dM9) ∧ INV (n + 1) x mm sz ns shC dC9 shM dM9
/-- mean -/
def IV_21 (em mi : Nat) (INV : IVT) : Prop := ∀ (n x mm sz ns : Nat) (shC : Sh) (dC : Dt) (shM : Sh) (dM : Dt) (a1 : Int32) (a2 : Int32), n < 512 → INV n x mm sz ns shC dC shM dM → ∃ (r : Int32) (dC9 : Dt) (dM9 : Dt), fX6_mean shC dC x a1 a2 = some (r, dC9) ∧ fX7_mean shM dM mm a1 a2 = some (r, dM9) ∧ INV (n + 1) x mm sz ns shC dC9 shM dM9
/-- often -/
def IV_22 (em mi : Nat) (INV : IVT) : Prop := ∀ (n x mm sz ns : Nat) (shC : Sh) (dC : Dt) (shM : Sh) (dM : Dt) (a1 : Int32) (a2 : Int32) (a3 : Int32), n < 512 → INV n x mm sz ns shC dC shM dM → ∃ (r : Int32) (dC9 : Dt) (dM9 : Dt), fX6_often shC dC x a1 a2 a3 = some (r, dC9) ∧ fX7_often shM dM mm a1 a2 a3 = some (r, dM9) ∧ INV (n + 1) x mm sz ns shC dC9 shM dM9
/-- inside -/
def IV_23 (em mi : Nat) (INV : IVT) : Prop := ∀ (n x mm sz ns : Nat) (shC : Sh) (dC : Dt) (shM : Sh) (dM : Dt) (a1 : Int32) (a2 : Int32) (a3 : Int32), n < 512 → INV n x mm sz ns shC dC shM dM → ∃ (r : Int32) (dC9 : Dt) (dM9 : Dt), fX6_inside shC dC x a1 a2 a3 = some (r, dC9) ∧ fX7_inside shM dM mm a1 a2 a3 = some (r, dM9) ∧ INV (n + 1) x mm sz ns shC dC9 shM dM9
/-- heads -/
def IV_24 (em mi : Nat) (INV : IVT) : Prop := ∀ (n x mm sz ns : Nat) (shC : Sh) (dC : Dt) (shM : Sh) (dM : Dt) (a1 : Int32) (a2 : Int32), n < 512 → INV n x mm sz ns shC dC shM dM → ∃ (r : Int32) (dC9 : Dt) (dM9 : Dt), fX6_heads shC dC x a1 a2 = some (r, dC9) ∧ fX7_heads shM dM mm a1 a2 = some (r, dM9) ∧ INV (n + 1) x mm sz ns shC dC9 shM dM9
/-- head -/
def IV_25 (em mi : Nat) (INV : IVT) : Prop := ∀ (n x mm sz ns : Nat) (shC : Sh) (dC : Dt) (shM : Sh) (dM : Dt) (a1 : Int32) (a2 : Int32) (a3 : Int32), n < 512 → INV n x mm sz ns shC dC shM dM → ∃ (r : Int32) (dC9 : Dt) (dM9 : Dt), fX6_head shC dC x a1 a2 a3 = some (r, dC9) ∧ fX7_head shM dM mm a1 a2 a3 = some (r, dM9) ∧ INV (n + 1) x mm sz ns shC dC9 shM dM9
/-- rights -/
def IV_26 (em mi : Nat) (INV : IVT) : Prop := ∀ (n x mm sz ns : Nat) (shC : Sh) (dC : Dt) (shM : Sh) (dM : Dt) (a1 : Int32) (a2 : Int32) (a3 : Int32), n < 512 → INV n x mm sz ns shC dC shM dM → ∃ (r : Int32) (dC9 : Dt) (dM9 : Dt), fX6_rights shC dC x a1 a2 a3 = some (r, dC9) ∧ fX7_rights shM dM mm a1 a2 a3 = some (r, dM9) ∧ INV (n + 1) x mm sz ns shC dC9 shM dM9
/-- up -/
def IV_27 (em mi : Nat) (INV : IVT) : Prop := ∀ (n x mm sz ns : Nat) (shC : Sh) (dC : Dt) (shM : Sh) (dM : Dt) (a1 : Int32) (a2 : Int32), n < 512 → INV n x mm sz ns shC dC shM dM → ∃ (r : Int32) (dC9 : Dt) (dM9 : Dt), fX6_up shC dC x a1 a2 = some (r, dC9) ∧ fX7_up shM dM mm a1 a2 = some (r, dM9) ∧ INV (n + 1) x mm sz ns shC dC9 shM dM9
/-- alike -/
def IV_28 (em mi : Nat) (INV : IVT) : Prop := ∀ (n x mm sz ns : Nat) (shC : Sh) (dC : Dt) (shM : Sh) (dM : Dt) (a1 : Int32) (a2 : Int32) (a3 : Int32), n < 512 → INV n x mm sz ns shC dC shM dM → ∃ (r : Int32) (dC9 : Dt) (dM9 : Dt), fX6_alike shC dC x a1 a2 a3 = some (r, dC9) ∧ fX7_alike shM dM mm a1 a2 a3 = some (r, dM9) ∧ INV (n + 1) x mm sz ns shC dC9 shM dM9
/-- leaves -/
def IV_29 (em mi : Nat) (INV : IVT) : Prop := ∀ (n x mm sz ns : Nat) (shC : Sh) (dC : Dt) (shM : Sh) (dM : Dt) (a1 : Int32) (a2 : Int32), n < 512 → INV n x mm sz ns shC dC shM dM → ∃ (r : Int32) (dC9 : Dt) (dM9 : Dt), fX6_leaves shC dC x a1 a2 = some (r, dC9) ∧ fX7_leaves shM dM mm a1 a2 = some (r, dM9) ∧ INV (n + 1) x mm sz ns shC dC9 shM dM9
/-- save -/
def IV_30 (em mi : Nat) (INV : IVT) : Prop := ∀ (n x mm sz ns : Nat) (shC : Sh) (dC : Dt) (shM : Sh) (dM : Dt) (a1 : Int32) (a2 : Int32), n < 512 → INV n x mm sz ns shC dC shM dM → ∃ (r : Int32) (dC9 : Dt) (dM9 : Dt), fX6_save shC dC x a1 a2 = some (r, dC9) ∧ fX7_save shM dM mm a1 a2 = some (r, dM9) ∧ INV (n + 1) x mm sz ns shC dC9 shM dM9
/-- tear -/
def IV_31 (em mi : Nat) (INV : IVT) : Prop := ∀ (n x mm sz ns : Nat) (shC : Sh) (dC : Dt) (shM : Sh) (dM : Dt) (a1 : Int32) (a2 : Int32), n < 512 → INV n x mm sz ns shC dC shM dM → ∃ (r : Int32) (dC9 : Dt) (dM9 : Dt), fX6_tear shC dC x a1 a2 = some (r, dC9) ∧ fX7_tear shM dM mm a1 a2 = some (r, dM9) ∧ INV (n + 1) x mm sz ns shC dC9 shM dM9
/-- leaf -/
def IV_32 (em mi : Nat) (INV : IVT) : Prop := ∀ (n x mm sz ns : Nat) (shC : Sh) (dC : Dt) (shM : Sh) (dM : Dt) (a1 : Int32) (a2 : Int32), n < 512 → INV n x mm sz ns shC dC shM dM → ∃ (r : Int32) (dC9 : Dt) (dM9 : Dt), fX6_leaf shC dC x a1 a2 = some (r, dC9) ∧ fX7_leaf shM dM mm a1 a2 = some (r, dM9) ∧ INV (n + 1) x mm sz ns shC dC9 shM dM9
/-- copy -/
def IV_33 (em mi : Nat) (INV : IVT) : Prop := ∀ (n x mm sz ns : Nat) (shC : Sh) (dC : Dt) (shM : Sh) (dM : Dt) (a1 : Int32) (a2 : Int32) (a3 : Int32) (a4 : Int32) (a5 : Int32), n < 512 → INV n x mm sz ns shC dC shM dM → ∃ (r : Int32) (dC9 : Dt) (dM9 : Dt), fX6_copy shC dC x a1 a2 a3 a4 a5 = some (r, dC9) ∧ fX7_copy shM dM mm a1 a2 a3 a4 a5 = some (r, dM9) ∧ INV (n + 1) x mm sz ns shC dC9 shM dM9
/-- asked -/
def IV_34 (em mi : Nat) (INV : IVT) : Prop := ∀ (n x mm sz ns : Nat) (shC : Sh) (dC : Dt) (shM : Sh) (dM : Dt), n < 512 → INV n x mm sz ns shC dC shM dM → ∃ (r : Int64), fX6_asked shC dC x  = some r ∧ fX7_asked shM dM mm  = some r ∧ INV (n + 1) x mm sz ns shC dC shM dM
/-- count -/
def IV_35 (em mi : Nat) (INV : IVT) : Prop := ∀ (n x mm sz ns : Nat) (shC : Sh) (dC : Dt) (shM : Sh) (dM : Dt) (a1 : Int32), n < 512 → INV n x mm sz ns shC dC shM dM → ∃ (r : Int32), fX6_count shC dC x a1 = some r ∧ fX7_count shM dM mm a1 = some r ∧ INV (n + 1) x mm sz ns shC dC shM dM
/-- finding -/
def IV_36 (em mi : Nat) (INV : IVT) : Prop := ∀ (n x mm sz ns : Nat) (shC : Sh) (dC : Dt) (shM : Sh) (dM : Dt), n < 512 → INV n x mm sz ns shC dC shM dM → ∃ (r : Int32), fX6_finding shC dC x  = some r ∧ fX7_finding shM dM mm  = some r ∧ INV (n + 1) x mm sz ns shC dC shM dM
/-- findings -/
def IV_37 (em mi : Nat) (INV : IVT) : Prop := ∀ (n x mm sz ns : Nat) (shC : Sh) (dC : Dt) (shM : Sh) (dM : Dt) (a1 : Int32), n < 512 → INV n x mm sz ns shC dC shM dM → ∃ (r : Int32), fX6_findings shC dC x a1 = some r ∧ fX7_findings shM dM mm a1 = some r ∧ INV (n + 1) x mm sz ns shC dC shM dM
/-- digest -/
def IV_38 (em mi : Nat) (INV : IVT) : Prop := ∀ (n x mm sz ns : Nat) (shC : Sh) (dC : Dt) (shM : Sh) (dM : Dt) (a1 : Int32), n < 512 → INV n x mm sz ns shC dC shM dM → ∃ (r : Int64) (dC9 : Dt) (dM9 : Dt), fX6_digest shC dC x a1 = some (r, dC9) ∧ fX7_digest shM dM mm a1 = some (r, dM9) ∧ INV (n + 1) x mm sz ns shC dC9 shM dM9
/-- what the mathematics owes -/
def INVS (base em mi : Nat) (INV : IVT) : Prop :=
  (∀ (n x mm sz ns : Nat) (shC : Sh) (dC : Dt) (shM : Sh) (dM : Dt), n ≤ 512 → INV n x mm sz ns shC dC shM dM → shC.1 x = 8 ∧ shM.1 mm = 9 ∧ sz ≤ base + 600000 ∧ ns ≤ 7302250) ∧
  (∀ (n x mm sz ns : Nat) (shC : Sh) (dC : Dt) (shM : Sh) (dM : Dt), n < 512 → INV n x mm sz ns shC dC shM dM → INV (n + 1) x mm sz ns shC dC shM dM) ∧
  IV_0 em mi INV ∧ IV_1 em mi INV ∧ IV_2 em mi INV ∧ IV_3 em mi INV ∧ IV_4 em mi INV ∧ IV_5 em mi INV ∧ IV_6 em mi INV ∧ IV_7 em mi INV ∧ IV_8 em mi INV ∧ IV_9 em mi INV ∧ IV_10 em mi INV ∧ IV_11 em mi INV ∧ IV_12 em mi INV ∧ IV_13 em mi INV ∧ IV_14 em mi INV ∧ IV_15 em mi INV ∧ IV_16 em mi INV ∧ IV_17 em mi INV ∧ IV_18 em mi INV ∧ IV_19 em mi INV ∧ IV_20 em mi INV ∧ IV_21 em mi INV ∧ IV_22 em mi INV ∧ IV_23 em mi INV ∧ IV_24 em mi INV ∧ IV_25 em mi INV ∧ IV_26 em mi INV ∧ IV_27 em mi INV ∧ IV_28 em mi INV ∧ IV_29 em mi INV ∧ IV_30 em mi INV ∧ IV_31 em mi INV ∧ IV_32 em mi INV ∧ IV_33 em mi INV ∧ IV_34 em mi INV ∧ IV_35 em mi INV ∧ IV_36 em mi INV ∧ IV_37 em mi INV ∧ IV_38 em mi INV
def shE : Sh := (fun _ => 0, fun _ => 0)
def dtE : Dt := (fun _ _ => 0, fun _ _ => 0, fun _ _ => none, fun _ _ => 0, fun _ _ => 0, fun _ _ => none)
def INIT (base em mi : Nat) (INV : IVT) : Prop := ∃ (sz1 ns1 : Nat) (shC : Sh) (dC : Dt) (sz2 ns2 : Nat) (shM : Sh) (dM : Dt), fX6_init em mi base (base + 1) 10 (nsh shE base 8 0) (zO dtE base) = some (sz1, ns1, shC, dC) ∧ fX7_init em mi sz1 (sz1 + 1) (ns1 + 28) (nsh shE sz1 9 0) (zO dtE sz1) = some (sz2, ns2, shM, dM) ∧ INV 0 base sz1 sz2 ns2 shC dC shM dM
theorem li_in {i L k : Nat} (h : i + k < L) (hL : L ≤ 3072) : vp_in (nI i + nI k) L := by rw [nI_add]; exact vp_in_nI h (by omega)
section
variable {p : Program} {l : Launch} {e : Env} {s : State} {m : MethodId} {below : List Frame} {meth : Method} {c : Code} {D : va_G} {cy : Nat → ClassId} {st : Nat → Nat} {b L : Nat} {xs : Nat → Int32} {Q : State → Prop}

set_option maxRecDepth 100000 in
set_option maxHeartbeats 8000000 in
theorem law_loop (INV : IVT) (hI : INVS s.heap.size (st 1) (st 2) INV) (hL : L ≤ 3072) (C0 : lw_At p s m meth c b L xs) (hK : KK (fun q => s.heap.size ≤ q) D cy st s) : ∀ (N j : Nat), L < 6 * (j + N) → 6 * j ≤ L → ∀ (iv : Int32), iv = nI (6 * j) → ∀ (x mm sz ns : Nat) (shC : Sh) (dC : Dt) (shM : Sh) (dM : Dt), INV j x mm sz ns shC dC shM dM → ∀ (H : Heap) (locs : List Loc) (cu su : Nat), s.heap.size + cu = sz → su = ns → LW2 s.heap.size sz D cy shC dC shM dM H → va_S (fun q => s.heap.size ≤ q) s.heap H locs → ∀ (ls : Array Slot), lv_has ls 4 [(0, .ref b), (1, .ref x), (2, .ref mm), (3, .int iv)] → W p l e room_1 s m #[Value.ref b] below meth c H locs cu su (lw_Z below #[Value.ref b] s) (F0 m 18 ls []) := by
  obtain ⟨hx, hb, hr, hml, hown, hts, hX, hbl, hlocks, hgv⟩ := C0
  have C : mx p s m #[Value.ref b] meth c ⟨"ManyHandsLaw", meth.name, ""⟩ cL_law 4 (some .boolean) (fun q => s.heap.size ≤ q) D cy st := ⟨hx, hb, hr, hml, fun w h => hts w (List.mem_filter.mp h).1, hown, hlocks, hK, fun _ h => h, rfl⟩
  have hbA : ¬ (fun q : Nat => s.heap.size ≤ q) b := Nat.not_le.mpr hbl
  obtain ⟨hR, hN, q0, q1, q2, q3, q4, q5, q6, q7, q8, q9, q10, q11, q12, q13, q14, q15, q16, q17, q18, q19, q20, q21, q22, q23, q24, q25, q26, q27, q28, q29, q30, q31, q32, q33, q34, q35, q36, q37, q38⟩ := hI
  intro N
  induction N with
  | zero => intro j h1 h2; omega
  | succ N ih =>
    intro j hj1 hj2 iv hiv x mm sz ns shC dC shM dM hV H locs cu su hcu hsu hw hS ls hl
    have hj512 : j ≤ 512 := by omega
    obtain ⟨kx, km, hr1, hr2⟩ := hR j x mm sz ns shC dC shM dM hj512 hV
    refine lv_iload_n hx hb dL_law_18 rfl (lv_at hl 3 rfl) ?_
    refine lv_aload_n hx hb dL_law_19 rfl (lv_at hl 0 rfl) ?_
    refine va_slen hx hb hX hbl hbA hS dL_law_20 ?_
    refine lv_bipush (v := 6) hx hb dL_law_21 (by decide) ?_
    refine lv_isub hx hb dL_law_23 ?_
    have hsub : (Int32.ofNat L - 6).toInt = (L : Int) - 6 := pk_sub_toInt (a := L) (b := 6) (by omega) (by decide)
    have hivI : iv.toInt = ((6 * j : Nat) : Int) := by rw [hiv]; exact nI_toInt (by omega)
    refine lv_icmp_gt (tgt := 1721) hx hb dL_law_24 (by decide) (fun c1 => ?_) (fun c1 => ?_)
    · refine lv_iconst (v := 1) hx hb dL_law_1721 (by decide) ?_
      refine va_forget (fun q hq => hS.2.2 q hq) ?_
      refine W.widen (k := 600000) (n := 7302250) (by omega) (by omega) ?_
      exact lw_ret hx hb hr hlocks dL_law_1722
    · have hlt : 6 * j + 6 ≤ L := by
        rw [Int32.lt_iff_toInt_lt, hsub, hivI] at c1
        omega
      have hj : j < 512 := by omega
      have i0 : vp_in iv L := by rw [hiv]; exact vp_in_nI (by omega) (by omega)
      have i1 : vp_in (iv + 1) L := by rw [hiv]; exact li_in (k := 1) (by omega) hL
      have i2 : vp_in (iv + 2) L := by rw [hiv]; exact li_in (k := 2) (by omega) hL
      have i3 : vp_in (iv + 3) L := by rw [hiv]; exact li_in (k := 3) (by omega) hL
      have i4 : vp_in (iv + 4) L := by rw [hiv]; exact li_in (k := 4) (by omega) hL
      have i5 : vp_in (iv + 5) L := by rw [hiv]; exact li_in (k := 5) (by omega) hL
      have hnx : iv + 6 = nI (6 * (j + 1)) := by rw [hiv]; exact (nI_add (6 * j) 6).trans (by rw [Nat.mul_add])
      refine lv_aload_n hx hb dL_law_27 rfl (lv_at hl 0 rfl) ?_
      refine lv_iload_n hx hb dL_law_28 rfl (lv_at hl 3 rfl) ?_
      refine va_sld hx hb hX hbl hbA hS i0 dL_law_29 ?_
      refine lv_bipush (v := 63) hx hb dL_law_30 (by decide) ?_
      refine lv_iand hx hb dL_law_32 ?_
      obtain ⟨k, hk, ek⟩ := pk_andE (xs iv.toNatClampNeg) (m := 63) 6 (by decide)
      rw [ek]
      match k, hk with
      | 0, _ =>
        refine lv_tableIn (tgt := 204) hx hb dL_law_33 (by decide) (by decide) rfl (by decide) ?_
        obtain ⟨r, sz9, ns9, shC9, dC9, dM9, fx, fm, hV9⟩ := q0 j x mm sz ns shC dC shM dM  hj hV
        have hg := gX6_hand (st 1) (st 2) x  sz ns shC dC fx
        obtain ⟨-, -, hr3, hr4⟩ := hR (j + 1) x mm _ _ _ _ _ _ (by omega) hV9
        exact lk_0 C hX hbl kx km fx fm (by omega) (by omega) hw hS hl (fun H locs ls hw hS hl => ih (j + 1) (by omega) (by omega) (iv + 6) hnx x mm _ _ _ _ _ _ hV9 H locs _ _ (by omega) (by omega) hw hS ls (lv_sub hl [1, 2, 3, 0] rfl))
      | 1, _ =>
        refine lv_tableIn (tgt := 217) hx hb dL_law_33 (by decide) (by decide) rfl (by decide) ?_
        obtain ⟨r, sz9, ns9, shC9, dC9, dM9, fx, fm, hV9⟩ := q1 j x mm sz ns shC dC shM dM (xs (iv + 1).toNatClampNeg) hj hV
        have hg := gX6_page (st 1) (st 2) x (xs (iv + 1).toNatClampNeg) sz ns shC dC fx
        obtain ⟨-, -, hr3, hr4⟩ := hR (j + 1) x mm _ _ _ _ _ _ (by omega) hV9
        exact lk_1 C hX hbl i1 kx km fx fm (by omega) (by omega) hw hS hl (fun H locs ls hw hS hl => ih (j + 1) (by omega) (by omega) (iv + 6) hnx x mm _ _ _ _ _ _ hV9 H locs _ _ (by omega) (by omega) hw hS ls (lv_sub hl [1, 2, 3, 0] rfl))
      | 2, _ =>
        refine lv_tableIn (tgt := 240) hx hb dL_law_33 (by decide) (by decide) rfl (by decide) ?_
        obtain ⟨r, fx, fm, hV9⟩ := q2 j x mm sz ns shC dC shM dM (xs (iv + 1).toNatClampNeg) (xs (iv + 2).toNatClampNeg) hj hV
        exact lk_2 C hX hbl i1 i2 kx km fx fm (by omega) (by omega) hw hS hl (fun H locs ls hw hS hl => ih (j + 1) (by omega) (by omega) (iv + 6) hnx x mm _ _ _ _ _ _ hV9 H locs _ _ hcu hsu hw hS ls (lv_sub hl [1, 2, 3, 0] rfl))
      | 3, _ =>
        refine lv_tableIn (tgt := 273) hx hb dL_law_33 (by decide) (by decide) rfl (by decide) ?_
        obtain ⟨r, dC9, dM9, fx, fm, hV9⟩ := q3 j x mm sz ns shC dC shM dM (xs (iv + 1).toNatClampNeg) (xs (iv + 2).toNatClampNeg) (if xs (iv + 3).toNatClampNeg = 0 then (0 : Int32) else 1) hj hV (by split; exact Or.inl rfl; exact Or.inr rfl)
        exact lk_3 C hX hbl i1 i2 i3 kx km fx fm (by omega) (by omega) hw hS hl (fun H locs ls hw hS hl => ih (j + 1) (by omega) (by omega) (iv + 6) hnx x mm _ _ _ _ _ _ hV9 H locs _ _ hcu hsu hw hS ls (lv_sub hl [1, 2, 3, 0] rfl))
      | 4, _ =>
        refine lv_tableIn (tgt := 332) hx hb dL_law_33 (by decide) (by decide) rfl (by decide) ?_
        obtain ⟨r, sz9, ns9, shC9, dC9, dM9, fx, fm, hV9⟩ := q4 j x mm sz ns shC dC shM dM (xs (iv + 1).toNatClampNeg) (xs (iv + 2).toNatClampNeg) ((xs (iv + 3).toNatClampNeg).toInt64 <<< ((32 : Int32).toInt64 &&& 63) ||| (xs (iv + 4).toNatClampNeg).toInt64 &&& (4294967295 : Int64)) hj hV
        have hg := gX6_write (st 1) (st 2) x (xs (iv + 1).toNatClampNeg) (xs (iv + 2).toNatClampNeg) ((xs (iv + 3).toNatClampNeg).toInt64 <<< ((32 : Int32).toInt64 &&& 63) ||| (xs (iv + 4).toNatClampNeg).toInt64 &&& (4294967295 : Int64)) sz ns shC dC fx
        obtain ⟨-, -, hr3, hr4⟩ := hR (j + 1) x mm _ _ _ _ _ _ (by omega) hV9
        exact lk_4 C hX hbl i1 i2 i3 i4 kx km fx fm (by omega) (by omega) hw hS hl (fun H locs ls hw hS hl => ih (j + 1) (by omega) (by omega) (iv + 6) hnx x mm _ _ _ _ _ _ hV9 H locs _ _ (by omega) (by omega) hw hS ls (lv_sub hl [1, 2, 3, 0] rfl))
      | 5, _ =>
        refine lv_tableIn (tgt := 405) hx hb dL_law_33 (by decide) (by decide) rfl (by decide) ?_
        obtain ⟨r, sz9, ns9, shC9, dC9, dM9, fx, fm, hV9⟩ := q5 j x mm sz ns shC dC shM dM (xs (iv + 1).toNatClampNeg) (xs (iv + 2).toNatClampNeg) ((xs (iv + 3).toNatClampNeg).toInt64 <<< ((32 : Int32).toInt64 &&& 63) ||| (xs (iv + 4).toNatClampNeg).toInt64 &&& (4294967295 : Int64)) hj hV
        have hg := gX6_add (st 1) (st 2) x (xs (iv + 1).toNatClampNeg) (xs (iv + 2).toNatClampNeg) ((xs (iv + 3).toNatClampNeg).toInt64 <<< ((32 : Int32).toInt64 &&& 63) ||| (xs (iv + 4).toNatClampNeg).toInt64 &&& (4294967295 : Int64)) sz ns shC dC fx
        obtain ⟨-, -, hr3, hr4⟩ := hR (j + 1) x mm _ _ _ _ _ _ (by omega) hV9
        exact lk_5 C hX hbl i1 i2 i3 i4 kx km fx fm (by omega) (by omega) hw hS hl (fun H locs ls hw hS hl => ih (j + 1) (by omega) (by omega) (iv + 6) hnx x mm _ _ _ _ _ _ hV9 H locs _ _ (by omega) (by omega) hw hS ls (lv_sub hl [1, 2, 3, 0] rfl))
      | 6, _ =>
        refine lv_tableIn (tgt := 478) hx hb dL_law_33 (by decide) (by decide) rfl (by decide) ?_
        obtain ⟨r, sz9, ns9, shC9, dC9, dM9, fx, fm, hV9⟩ := q6 j x mm sz ns shC dC shM dM (xs (iv + 1).toNatClampNeg) (xs (iv + 2).toNatClampNeg) (xs (iv + 3).toNatClampNeg) hj hV
        have hg := gX6_put (st 1) (st 2) x (xs (iv + 1).toNatClampNeg) (xs (iv + 2).toNatClampNeg) (xs (iv + 3).toNatClampNeg) sz ns shC dC fx
        obtain ⟨-, -, hr3, hr4⟩ := hR (j + 1) x mm _ _ _ _ _ _ (by omega) hV9
        exact lk_6 C hX hbl i1 i2 i3 kx km fx fm (by omega) (by omega) hw hS hl (fun H locs ls hw hS hl => ih (j + 1) (by omega) (by omega) (iv + 6) hnx x mm _ _ _ _ _ _ hV9 H locs _ _ (by omega) (by omega) hw hS ls (lv_sub hl [1, 2, 3, 0] rfl))
      | 7, _ =>
        refine lv_tableIn (tgt := 521) hx hb dL_law_33 (by decide) (by decide) rfl (by decide) ?_
        obtain ⟨r, sz9, ns9, shC9, dC9, dM9, fx, fm, hV9⟩ := q7 j x mm sz ns shC dC shM dM (xs (iv + 1).toNatClampNeg) (xs (iv + 2).toNatClampNeg) (xs (iv + 3).toNatClampNeg) hj hV
        have hg := gX6_take (st 1) (st 2) x (xs (iv + 1).toNatClampNeg) (xs (iv + 2).toNatClampNeg) (xs (iv + 3).toNatClampNeg) sz ns shC dC fx
        obtain ⟨-, -, hr3, hr4⟩ := hR (j + 1) x mm _ _ _ _ _ _ (by omega) hV9
        exact lk_7 C hX hbl i1 i2 i3 kx km fx fm (by omega) (by omega) hw hS hl (fun H locs ls hw hS hl => ih (j + 1) (by omega) (by omega) (iv + 6) hnx x mm _ _ _ _ _ _ hV9 H locs _ _ (by omega) (by omega) hw hS ls (lv_sub hl [1, 2, 3, 0] rfl))
      | 8, _ =>
        refine lv_tableIn (tgt := 564) hx hb dL_law_33 (by decide) (by decide) rfl (by decide) ?_
        obtain ⟨r, sz9, ns9, shC9, dC9, dM9, fx, fm, hV9⟩ := q8 j x mm sz ns shC dC shM dM (xs (iv + 1).toNatClampNeg) (xs (iv + 2).toNatClampNeg) (xs (iv + 3).toNatClampNeg) ((xs (iv + 4).toNatClampNeg).toInt64 <<< ((32 : Int32).toInt64 &&& 63) ||| (xs (iv + 5).toNatClampNeg).toInt64 &&& (4294967295 : Int64)) hj hV
        have hg := gX6_give (st 1) (st 2) x (xs (iv + 1).toNatClampNeg) (xs (iv + 2).toNatClampNeg) (xs (iv + 3).toNatClampNeg) ((xs (iv + 4).toNatClampNeg).toInt64 <<< ((32 : Int32).toInt64 &&& 63) ||| (xs (iv + 5).toNatClampNeg).toInt64 &&& (4294967295 : Int64)) sz ns shC dC fx
        obtain ⟨-, -, hr3, hr4⟩ := hR (j + 1) x mm _ _ _ _ _ _ (by omega) hV9
        exact lk_8 C hX hbl i1 i2 i3 i4 i5 kx km fx fm (by omega) (by omega) hw hS hl (fun H locs ls hw hS hl => ih (j + 1) (by omega) (by omega) (iv + 6) hnx x mm _ _ _ _ _ _ hV9 H locs _ _ (by omega) (by omega) hw hS ls (lv_sub hl [1, 2, 3, 0] rfl))
      | 9, _ =>
        refine lv_tableIn (tgt := 647) hx hb dL_law_33 (by decide) (by decide) rfl (by decide) ?_
        obtain ⟨r, sz9, ns9, shC9, dC9, dM9, fx, fm, hV9⟩ := q9 j x mm sz ns shC dC shM dM (xs (iv + 1).toNatClampNeg) (xs (iv + 2).toNatClampNeg) ((xs (iv + 3).toNatClampNeg).toInt64 <<< ((32 : Int32).toInt64 &&& 63) ||| (xs (iv + 4).toNatClampNeg).toInt64 &&& (4294967295 : Int64)) hj hV
        have hg := gX6_spend (st 1) (st 2) x (xs (iv + 1).toNatClampNeg) (xs (iv + 2).toNatClampNeg) ((xs (iv + 3).toNatClampNeg).toInt64 <<< ((32 : Int32).toInt64 &&& 63) ||| (xs (iv + 4).toNatClampNeg).toInt64 &&& (4294967295 : Int64)) sz ns shC dC fx
        obtain ⟨-, -, hr3, hr4⟩ := hR (j + 1) x mm _ _ _ _ _ _ (by omega) hV9
        exact lk_9 C hX hbl i1 i2 i3 i4 kx km fx fm (by omega) (by omega) hw hS hl (fun H locs ls hw hS hl => ih (j + 1) (by omega) (by omega) (iv + 6) hnx x mm _ _ _ _ _ _ hV9 H locs _ _ (by omega) (by omega) hw hS ls (lv_sub hl [1, 2, 3, 0] rfl))
      | 10, _ =>
        refine lv_tableIn (tgt := 720) hx hb dL_law_33 (by decide) (by decide) rfl (by decide) ?_
        obtain ⟨r, sz9, ns9, shC9, dC9, dM9, fx, fm, hV9⟩ := q10 j x mm sz ns shC dC shM dM (xs (iv + 1).toNatClampNeg) (xs (iv + 2).toNatClampNeg) (if xs (iv + 3).toNatClampNeg = 0 then (0 : Int32) else 1) hj hV (by split; exact Or.inl rfl; exact Or.inr rfl)
        have hg := gX6_raise (st 1) (st 2) x (xs (iv + 1).toNatClampNeg) (xs (iv + 2).toNatClampNeg) (if xs (iv + 3).toNatClampNeg = 0 then (0 : Int32) else 1) sz ns shC dC fx
        obtain ⟨-, -, hr3, hr4⟩ := hR (j + 1) x mm _ _ _ _ _ _ (by omega) hV9
        exact lk_10 C hX hbl i1 i2 i3 kx km fx fm (by omega) (by omega) hw hS hl (fun H locs ls hw hS hl => ih (j + 1) (by omega) (by omega) (iv + 6) hnx x mm _ _ _ _ _ _ hV9 H locs _ _ (by omega) (by omega) hw hS ls (lv_sub hl [1, 2, 3, 0] rfl))
      | 11, _ =>
        refine lv_tableIn (tgt := 779) hx hb dL_law_33 (by decide) (by decide) rfl (by decide) ?_
        obtain ⟨r, fx, fm, hV9⟩ := q11 j x mm sz ns shC dC shM dM (xs (iv + 1).toNatClampNeg) (xs (iv + 2).toNatClampNeg) hj hV
        exact lk_11 C hX hbl i1 i2 kx km fx fm (by omega) (by omega) hw hS hl (fun H locs ls hw hS hl => ih (j + 1) (by omega) (by omega) (iv + 6) hnx x mm _ _ _ _ _ _ hV9 H locs _ _ hcu hsu hw hS ls (lv_sub hl [1, 2, 3, 0] rfl))
      | 12, _ =>
        refine lv_tableIn (tgt := 812) hx hb dL_law_33 (by decide) (by decide) rfl (by decide) ?_
        obtain ⟨r, fx, fm, hV9⟩ := q12 j x mm sz ns shC dC shM dM (xs (iv + 1).toNatClampNeg) (xs (iv + 2).toNatClampNeg) hj hV
        exact lk_12 C hX hbl i1 i2 kx km fx fm (by omega) (by omega) hw hS hl (fun H locs ls hw hS hl => ih (j + 1) (by omega) (by omega) (iv + 6) hnx x mm _ _ _ _ _ _ hV9 H locs _ _ hcu hsu hw hS ls (lv_sub hl [1, 2, 3, 0] rfl))
      | 13, _ =>
        refine lv_tableIn (tgt := 845) hx hb dL_law_33 (by decide) (by decide) rfl (by decide) ?_
        obtain ⟨r, sz9, ns9, shC9, dC9, dM9, fx, fm, hV9⟩ := q13 j x mm sz ns shC dC shM dM (xs (iv + 1).toNatClampNeg) (xs (iv + 2).toNatClampNeg) hj hV
        have hg := gX6_come (st 1) (st 2) x (xs (iv + 1).toNatClampNeg) (xs (iv + 2).toNatClampNeg) sz ns shC dC fx
        obtain ⟨-, -, hr3, hr4⟩ := hR (j + 1) x mm _ _ _ _ _ _ (by omega) hV9
        exact lk_13 C hX hbl i1 i2 kx km fx fm (by omega) (by omega) hw hS hl (fun H locs ls hw hS hl => ih (j + 1) (by omega) (by omega) (iv + 6) hnx x mm _ _ _ _ _ _ hV9 H locs _ _ (by omega) (by omega) hw hS ls (lv_sub hl [1, 2, 3, 0] rfl))
      | 14, _ =>
        refine lv_tableIn (tgt := 878) hx hb dL_law_33 (by decide) (by decide) rfl (by decide) ?_
        obtain ⟨r, sz9, ns9, shC9, dC9, dM9, fx, fm, hV9⟩ := q14 j x mm sz ns shC dC shM dM (xs (iv + 1).toNatClampNeg) (xs (iv + 2).toNatClampNeg) (xs (iv + 3).toNatClampNeg) hj hV
        have hg := gX6_meet (st 1) (st 2) x (xs (iv + 1).toNatClampNeg) (xs (iv + 2).toNatClampNeg) (xs (iv + 3).toNatClampNeg) sz ns shC dC fx
        obtain ⟨-, -, hr3, hr4⟩ := hR (j + 1) x mm _ _ _ _ _ _ (by omega) hV9
        exact lk_14 C hX hbl i1 i2 i3 kx km fx fm (by omega) (by omega) hw hS hl (fun H locs ls hw hS hl => ih (j + 1) (by omega) (by omega) (iv + 6) hnx x mm _ _ _ _ _ _ hV9 H locs _ _ (by omega) (by omega) hw hS ls (lv_sub hl [1, 2, 3, 0] rfl))
      | 15, _ =>
        refine lv_tableIn (tgt := 921) hx hb dL_law_33 (by decide) (by decide) rfl (by decide) ?_
        obtain ⟨r, dC9, dM9, fx, fm, hV9⟩ := q15 j x mm sz ns shC dC shM dM (xs (iv + 1).toNatClampNeg) hj hV
        exact lk_15 C hX hbl i1 kx km fx fm (by omega) (by omega) hw hS hl (fun H locs ls hw hS hl => ih (j + 1) (by omega) (by omega) (iv + 6) hnx x mm _ _ _ _ _ _ hV9 H locs _ _ hcu hsu hw hS ls (lv_sub hl [1, 2, 3, 0] rfl))
      | 16, _ =>
        refine lv_tableIn (tgt := 944) hx hb dL_law_33 (by decide) (by decide) rfl (by decide) ?_
        obtain ⟨r, fx, fm, hV9⟩ := q16 j x mm sz ns shC dC shM dM (xs (iv + 1).toNatClampNeg) (xs (iv + 2).toNatClampNeg) hj hV
        exact lk_16 C hX hbl i1 i2 kx km fx fm (by omega) (by omega) hw hS hl (fun H locs ls hw hS hl => ih (j + 1) (by omega) (by omega) (iv + 6) hnx x mm _ _ _ _ _ _ hV9 H locs _ _ hcu hsu hw hS ls (lv_sub hl [1, 2, 3, 0] rfl))
      | 17, _ =>
        refine lv_tableIn (tgt := 977) hx hb dL_law_33 (by decide) (by decide) rfl (by decide) ?_
        obtain ⟨r, fx, fm, hV9⟩ := q17 j x mm sz ns shC dC shM dM (xs (iv + 1).toNatClampNeg) (xs (iv + 2).toNatClampNeg) hj hV
        exact lk_17 C hX hbl i1 i2 kx km fx fm (by omega) (by omega) hw hS hl (fun H locs ls hw hS hl => ih (j + 1) (by omega) (by omega) (iv + 6) hnx x mm _ _ _ _ _ _ hV9 H locs _ _ hcu hsu hw hS ls (lv_sub hl [1, 2, 3, 0] rfl))
      | 18, _ =>
        refine lv_tableIn (tgt := 1010) hx hb dL_law_33 (by decide) (by decide) rfl (by decide) ?_
        obtain ⟨r, fx, fm, hV9⟩ := q18 j x mm sz ns shC dC shM dM (xs (iv + 1).toNatClampNeg) (xs (iv + 2).toNatClampNeg) hj hV
        exact lk_18 C hX hbl i1 i2 kx km fx fm (by omega) (by omega) hw hS hl (fun H locs ls hw hS hl => ih (j + 1) (by omega) (by omega) (iv + 6) hnx x mm _ _ _ _ _ _ hV9 H locs _ _ hcu hsu hw hS ls (lv_sub hl [1, 2, 3, 0] rfl))
      | 19, _ =>
        refine lv_tableIn (tgt := 1043) hx hb dL_law_33 (by decide) (by decide) rfl (by decide) ?_
        obtain ⟨r, dC9, dM9, fx, fm, hV9⟩ := q19 j x mm sz ns shC dC shM dM (xs (iv + 1).toNatClampNeg) (xs (iv + 2).toNatClampNeg) hj hV
        exact lk_19 C hX hbl i1 i2 kx km fx fm (by omega) (by omega) hw hS hl (fun H locs ls hw hS hl => ih (j + 1) (by omega) (by omega) (iv + 6) hnx x mm _ _ _ _ _ _ hV9 H locs _ _ hcu hsu hw hS ls (lv_sub hl [1, 2, 3, 0] rfl))
      | 20, _ =>
        refine lv_tableIn (tgt := 1076) hx hb dL_law_33 (by decide) (by decide) rfl (by decide) ?_
        obtain ⟨r, dC9, dM9, fx, fm, hV9⟩ := q20 j x mm sz ns shC dC shM dM (xs (iv + 1).toNatClampNeg) (xs (iv + 2).toNatClampNeg) hj hV
        exact lk_20 C hX hbl i1 i2 kx km fx fm (by omega) (by omega) hw hS hl (fun H locs ls hw hS hl => ih (j + 1) (by omega) (by omega) (iv + 6) hnx x mm _ _ _ _ _ _ hV9 H locs _ _ hcu hsu hw hS ls (lv_sub hl [1, 2, 3, 0] rfl))
      | 21, _ =>
        refine lv_tableIn (tgt := 1109) hx hb dL_law_33 (by decide) (by decide) rfl (by decide) ?_
        obtain ⟨r, dC9, dM9, fx, fm, hV9⟩ := q21 j x mm sz ns shC dC shM dM (xs (iv + 1).toNatClampNeg) (xs (iv + 2).toNatClampNeg) hj hV
        exact lk_21 C hX hbl i1 i2 kx km fx fm (by omega) (by omega) hw hS hl (fun H locs ls hw hS hl => ih (j + 1) (by omega) (by omega) (iv + 6) hnx x mm _ _ _ _ _ _ hV9 H locs _ _ hcu hsu hw hS ls (lv_sub hl [1, 2, 3, 0] rfl))
      | 22, _ =>
        refine lv_tableIn (tgt := 1142) hx hb dL_law_33 (by decide) (by decide) rfl (by decide) ?_
        obtain ⟨r, dC9, dM9, fx, fm, hV9⟩ := q22 j x mm sz ns shC dC shM dM (xs (iv + 1).toNatClampNeg) (xs (iv + 2).toNatClampNeg) (xs (iv + 3).toNatClampNeg) hj hV
        exact lk_22 C hX hbl i1 i2 i3 kx km fx fm (by omega) (by omega) hw hS hl (fun H locs ls hw hS hl => ih (j + 1) (by omega) (by omega) (iv + 6) hnx x mm _ _ _ _ _ _ hV9 H locs _ _ hcu hsu hw hS ls (lv_sub hl [1, 2, 3, 0] rfl))
      | 23, _ =>
        refine lv_tableIn (tgt := 1185) hx hb dL_law_33 (by decide) (by decide) rfl (by decide) ?_
        obtain ⟨r, dC9, dM9, fx, fm, hV9⟩ := q23 j x mm sz ns shC dC shM dM (xs (iv + 1).toNatClampNeg) (xs (iv + 2).toNatClampNeg) (xs (iv + 3).toNatClampNeg) hj hV
        exact lk_23 C hX hbl i1 i2 i3 kx km fx fm (by omega) (by omega) hw hS hl (fun H locs ls hw hS hl => ih (j + 1) (by omega) (by omega) (iv + 6) hnx x mm _ _ _ _ _ _ hV9 H locs _ _ hcu hsu hw hS ls (lv_sub hl [1, 2, 3, 0] rfl))
      | 24, _ =>
        refine lv_tableIn (tgt := 1228) hx hb dL_law_33 (by decide) (by decide) rfl (by decide) ?_
        obtain ⟨r, dC9, dM9, fx, fm, hV9⟩ := q24 j x mm sz ns shC dC shM dM (xs (iv + 1).toNatClampNeg) (xs (iv + 2).toNatClampNeg) hj hV
        exact lk_24 C hX hbl i1 i2 kx km fx fm (by omega) (by omega) hw hS hl (fun H locs ls hw hS hl => ih (j + 1) (by omega) (by omega) (iv + 6) hnx x mm _ _ _ _ _ _ hV9 H locs _ _ hcu hsu hw hS ls (lv_sub hl [1, 2, 3, 0] rfl))
      | 25, _ =>
        refine lv_tableIn (tgt := 1261) hx hb dL_law_33 (by decide) (by decide) rfl (by decide) ?_
        obtain ⟨r, dC9, dM9, fx, fm, hV9⟩ := q25 j x mm sz ns shC dC shM dM (xs (iv + 1).toNatClampNeg) (xs (iv + 2).toNatClampNeg) (xs (iv + 3).toNatClampNeg) hj hV
        exact lk_25 C hX hbl i1 i2 i3 kx km fx fm (by omega) (by omega) hw hS hl (fun H locs ls hw hS hl => ih (j + 1) (by omega) (by omega) (iv + 6) hnx x mm _ _ _ _ _ _ hV9 H locs _ _ hcu hsu hw hS ls (lv_sub hl [1, 2, 3, 0] rfl))
      | 26, _ =>
        refine lv_tableIn (tgt := 1304) hx hb dL_law_33 (by decide) (by decide) rfl (by decide) ?_
        obtain ⟨r, dC9, dM9, fx, fm, hV9⟩ := q26 j x mm sz ns shC dC shM dM (xs (iv + 1).toNatClampNeg) (xs (iv + 2).toNatClampNeg) (xs (iv + 3).toNatClampNeg) hj hV
        exact lk_26 C hX hbl i1 i2 i3 kx km fx fm (by omega) (by omega) hw hS hl (fun H locs ls hw hS hl => ih (j + 1) (by omega) (by omega) (iv + 6) hnx x mm _ _ _ _ _ _ hV9 H locs _ _ hcu hsu hw hS ls (lv_sub hl [1, 2, 3, 0] rfl))
      | 27, _ =>
        refine lv_tableIn (tgt := 1347) hx hb dL_law_33 (by decide) (by decide) rfl (by decide) ?_
        obtain ⟨r, dC9, dM9, fx, fm, hV9⟩ := q27 j x mm sz ns shC dC shM dM (xs (iv + 1).toNatClampNeg) (xs (iv + 2).toNatClampNeg) hj hV
        exact lk_27 C hX hbl i1 i2 kx km fx fm (by omega) (by omega) hw hS hl (fun H locs ls hw hS hl => ih (j + 1) (by omega) (by omega) (iv + 6) hnx x mm _ _ _ _ _ _ hV9 H locs _ _ hcu hsu hw hS ls (lv_sub hl [1, 2, 3, 0] rfl))
      | 28, _ =>
        refine lv_tableIn (tgt := 1380) hx hb dL_law_33 (by decide) (by decide) rfl (by decide) ?_
        obtain ⟨r, dC9, dM9, fx, fm, hV9⟩ := q28 j x mm sz ns shC dC shM dM (xs (iv + 1).toNatClampNeg) (xs (iv + 2).toNatClampNeg) (xs (iv + 3).toNatClampNeg) hj hV
        exact lk_28 C hX hbl i1 i2 i3 kx km fx fm (by omega) (by omega) hw hS hl (fun H locs ls hw hS hl => ih (j + 1) (by omega) (by omega) (iv + 6) hnx x mm _ _ _ _ _ _ hV9 H locs _ _ hcu hsu hw hS ls (lv_sub hl [1, 2, 3, 0] rfl))
      | 29, _ =>
        refine lv_tableIn (tgt := 1423) hx hb dL_law_33 (by decide) (by decide) rfl (by decide) ?_
        obtain ⟨r, dC9, dM9, fx, fm, hV9⟩ := q29 j x mm sz ns shC dC shM dM (xs (iv + 1).toNatClampNeg) (xs (iv + 2).toNatClampNeg) hj hV
        exact lk_29 C hX hbl i1 i2 kx km fx fm (by omega) (by omega) hw hS hl (fun H locs ls hw hS hl => ih (j + 1) (by omega) (by omega) (iv + 6) hnx x mm _ _ _ _ _ _ hV9 H locs _ _ hcu hsu hw hS ls (lv_sub hl [1, 2, 3, 0] rfl))
      | 30, _ =>
        refine lv_tableIn (tgt := 1456) hx hb dL_law_33 (by decide) (by decide) rfl (by decide) ?_
        obtain ⟨r, dC9, dM9, fx, fm, hV9⟩ := q30 j x mm sz ns shC dC shM dM (xs (iv + 1).toNatClampNeg) (xs (iv + 2).toNatClampNeg) hj hV
        exact lk_30 C hX hbl i1 i2 kx km fx fm (by omega) (by omega) hw hS hl (fun H locs ls hw hS hl => ih (j + 1) (by omega) (by omega) (iv + 6) hnx x mm _ _ _ _ _ _ hV9 H locs _ _ hcu hsu hw hS ls (lv_sub hl [1, 2, 3, 0] rfl))
      | 31, _ =>
        refine lv_tableIn (tgt := 1489) hx hb dL_law_33 (by decide) (by decide) rfl (by decide) ?_
        obtain ⟨r, dC9, dM9, fx, fm, hV9⟩ := q31 j x mm sz ns shC dC shM dM (xs (iv + 1).toNatClampNeg) (xs (iv + 2).toNatClampNeg) hj hV
        exact lk_31 C hX hbl i1 i2 kx km fx fm (by omega) (by omega) hw hS hl (fun H locs ls hw hS hl => ih (j + 1) (by omega) (by omega) (iv + 6) hnx x mm _ _ _ _ _ _ hV9 H locs _ _ hcu hsu hw hS ls (lv_sub hl [1, 2, 3, 0] rfl))
      | 32, _ =>
        refine lv_tableIn (tgt := 1522) hx hb dL_law_33 (by decide) (by decide) rfl (by decide) ?_
        obtain ⟨r, dC9, dM9, fx, fm, hV9⟩ := q32 j x mm sz ns shC dC shM dM (xs (iv + 1).toNatClampNeg) (xs (iv + 2).toNatClampNeg) hj hV
        exact lk_32 C hX hbl i1 i2 kx km fx fm (by omega) (by omega) hw hS hl (fun H locs ls hw hS hl => ih (j + 1) (by omega) (by omega) (iv + 6) hnx x mm _ _ _ _ _ _ hV9 H locs _ _ hcu hsu hw hS ls (lv_sub hl [1, 2, 3, 0] rfl))
      | 33, _ =>
        refine lv_tableIn (tgt := 1555) hx hb dL_law_33 (by decide) (by decide) rfl (by decide) ?_
        obtain ⟨r, dC9, dM9, fx, fm, hV9⟩ := q33 j x mm sz ns shC dC shM dM (xs (iv + 1).toNatClampNeg) (xs (iv + 2).toNatClampNeg) (xs (iv + 3).toNatClampNeg) (xs (iv + 4).toNatClampNeg) (xs (iv + 5).toNatClampNeg) hj hV
        exact lk_33 C hX hbl i1 i2 i3 i4 i5 kx km fx fm (by omega) (by omega) hw hS hl (fun H locs ls hw hS hl => ih (j + 1) (by omega) (by omega) (iv + 6) hnx x mm _ _ _ _ _ _ hV9 H locs _ _ hcu hsu hw hS ls (lv_sub hl [1, 2, 3, 0] rfl))
      | 34, _ =>
        refine lv_tableIn (tgt := 1618) hx hb dL_law_33 (by decide) (by decide) rfl (by decide) ?_
        obtain ⟨r, fx, fm, hV9⟩ := q34 j x mm sz ns shC dC shM dM  hj hV
        exact lk_34 C hX hbl kx km fx fm (by omega) (by omega) hw hS hl (fun H locs ls hw hS hl => ih (j + 1) (by omega) (by omega) (iv + 6) hnx x mm _ _ _ _ _ _ hV9 H locs _ _ hcu hsu hw hS ls (lv_sub hl [1, 2, 3, 0] rfl))
      | 35, _ =>
        refine lv_tableIn (tgt := 1632) hx hb dL_law_33 (by decide) (by decide) rfl (by decide) ?_
        obtain ⟨r, fx, fm, hV9⟩ := q35 j x mm sz ns shC dC shM dM (xs (iv + 1).toNatClampNeg) hj hV
        exact lk_35 C hX hbl i1 kx km fx fm (by omega) (by omega) hw hS hl (fun H locs ls hw hS hl => ih (j + 1) (by omega) (by omega) (iv + 6) hnx x mm _ _ _ _ _ _ hV9 H locs _ _ hcu hsu hw hS ls (lv_sub hl [1, 2, 3, 0] rfl))
      | 36, _ =>
        refine lv_tableIn (tgt := 1655) hx hb dL_law_33 (by decide) (by decide) rfl (by decide) ?_
        obtain ⟨r, fx, fm, hV9⟩ := q36 j x mm sz ns shC dC shM dM  hj hV
        exact lk_36 C hX hbl kx km fx fm (by omega) (by omega) hw hS hl (fun H locs ls hw hS hl => ih (j + 1) (by omega) (by omega) (iv + 6) hnx x mm _ _ _ _ _ _ hV9 H locs _ _ hcu hsu hw hS ls (lv_sub hl [1, 2, 3, 0] rfl))
      | 37, _ =>
        refine lv_tableIn (tgt := 1668) hx hb dL_law_33 (by decide) (by decide) rfl (by decide) ?_
        obtain ⟨r, fx, fm, hV9⟩ := q37 j x mm sz ns shC dC shM dM (xs (iv + 1).toNatClampNeg) hj hV
        exact lk_37 C hX hbl i1 kx km fx fm (by omega) (by omega) hw hS hl (fun H locs ls hw hS hl => ih (j + 1) (by omega) (by omega) (iv + 6) hnx x mm _ _ _ _ _ _ hV9 H locs _ _ hcu hsu hw hS ls (lv_sub hl [1, 2, 3, 0] rfl))
      | 38, _ =>
        refine lv_tableIn (tgt := 1691) hx hb dL_law_33 (by decide) (by decide) rfl (by decide) ?_
        obtain ⟨r, dC9, dM9, fx, fm, hV9⟩ := q38 j x mm sz ns shC dC shM dM (xs (iv + 1).toNatClampNeg) hj hV
        exact lk_38 C hX hbl i1 kx km fx fm (by omega) (by omega) hw hS hl (fun H locs ls hw hS hl => ih (j + 1) (by omega) (by omega) (iv + 6) hnx x mm _ _ _ _ _ _ hV9 H locs _ _ hcu hsu hw hS ls (lv_sub hl [1, 2, 3, 0] rfl))
      | k + 39, hk =>
        refine lv_tableOut (tgt := 1715) hx hb dL_law_33 (Or.inr (by rw [nI_toInt (by omega)]; omega)) (by decide) ?_
        refine lv_iinc (v := iv + 6) (lv' := [(3, .int (iv + 6)), (0, .ref b), (1, .ref x), (2, .ref mm)]) hx hb dL_law_1715 hl (k := 3) rfl rfl (by decide) rfl (fun ls hl => ?_)
        refine lv_goto (tgt := 18) hx hb dL_law_1718 (by decide) ?_
        exact ih (j + 1) (by omega) (by omega) (iv + 6) hnx x mm _ _ _ _ _ _ (hN j x mm _ _ _ _ _ _ hj hV) H locs _ _ hcu hsu hw hS ls (lv_sub hl [1, 2, 3, 0] rfl)
end
