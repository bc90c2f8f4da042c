/-! THE READING, AS FUNCTIONS: b: the bytes, lm: the end of the part, a: where it stands; a fault with its place, or a value and where it stands then -/
abbrev PR (α : Type) : Type := (Nat × Nat) ⊕ (α × Nat)
def bv (bs : Nat → Int32) (i : Nat) : Nat := (bs i &&& 255).toNatClampNeg
theorem bv_and (bs : Nat → Int32) (i : Nat) : bs i &&& 255 = nI (bv bs i) := by
  obtain ⟨j, h1, h2⟩ := pk_andE (bs i) (m := 255) 8 (by decide +kernel)
  unfold bv
  rw [h2, nI_clamp (by omega)]
theorem bv_lt (bs : Nat → Int32) (i : Nat) : bv bs i < 256 := by
  obtain ⟨j, h1, h2⟩ := pk_andE (bs i) (m := 255) 8 (by decide +kernel)
  unfold bv
  rw [h2, nI_clamp (by omega)]
  exact h1
def pNext (b : Nat → Nat) (lm a : Nat) : PR Nat := if a < lm then .inr (b a, a + 1) else .inl (1, lm)
/-- the cells of a Source: itself and its bytes; u: at, limit, fault, faultPlace -/
abbrev S4 : Type := Int32 × Int32 × Int32 × Int32
abbrev wSr (cA : Nat → ClassId) (h0 h1 : Nat) (bs : Nat → Int32) (u : S4) : va_W := [(h0, .inr (2, [.ref h1, .int u.1, .int u.2.1, .int u.2.2.1, .int u.2.2.2])), (h1, .inl (cA 0, 2000, .inl bs))]
/-- out by a fault -/
def tP {α : Type} (r : PR α) (u : S4) : Prop := ∃ f p : Nat, r = .inl (f, p) ∧ u.2.2.1 = nI f ∧ u.2.2.2 = nI p
/-- an int, a long, nothing; the end of the part and the latest fault as they were -/
def iP (r : PR Nat) (lm : Nat) (f pl : Int32) (v : Option Value) (u : S4) : Prop := ∃ x a : Nat, r = .inr (x, a) ∧ v = some (.int (nI x)) ∧ u = (nI a, nI lm, f, pl)
def lP (r : PR Nat) (lm : Nat) (f pl : Int32) (v : Option Value) (u : S4) : Prop := ∃ x a : Nat, r = .inr (x, a) ∧ v = some (.long (lN x)) ∧ u = (nI a, nI lm, f, pl)
def vP (r : PR Unit) (lm : Nat) (f pl : Int32) (v : Option Value) (u : S4) : Prop := ∃ a : Nat, r = .inr ((), a) ∧ v = none ∧ u = (nI a, nI lm, f, pl)
