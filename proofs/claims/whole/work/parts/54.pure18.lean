/-! THE REFERENCE: its object's fields by groups. K: many, latest, is, theThings, theExpressions, theSections, theStart, theDataCount, q; A: at, fault, faultPlace; e: expected; np: parts; B: blocks, last, counted, locals, localsAt, things, expressions, sections, start, dataCount; g: where its rows lie -/
abbrev A3 : Type := Int32 × Int32 × Int32
abbrev MK : Type := Int32 × Int32 × Int32 × Int32 × Int32 × Int32 × Int64 × Int64 × Int32
abbrev MB : Type := Int32 × Int32 × Int32 × Int64 × Int32 × Int32 × Int32 × Int32 × Int64 × Int64
abbrev mF (g : Nat → Nat) (K : MK) (A : A3) (e np : Int32) (B : MB) : List Value := [.ref (g 0), .int K.1, .int A.1, .int A.2.1, .int A.2.2, .int K.2.1, .int e, .ref (g 7), .ref (g 8), .int np, .ref (g 10), .ref (g 11), .int B.1, .int B.2.1, .int B.2.2.1, .long B.2.2.2.1, .int B.2.2.2.2.1, .int B.2.2.2.2.2.1, .ref (g 18), .ref (g 19), .ref (g 20), .ref (g 21), .int B.2.2.2.2.2.2.1, .ref (g 23), .ref (g 24), .ref (g 25), .int B.2.2.2.2.2.2.2.1, .long B.2.2.2.2.2.2.2.2.1, .long B.2.2.2.2.2.2.2.2.2, .int K.2.2.1, .ref (g 30), .int K.2.2.2.1, .int K.2.2.2.2.1, .int K.2.2.2.2.2.1, .ref (g 34), .ref (g 35), .ref (g 36), .ref (g 37), .ref (g 38), .ref (g 39), .ref (g 40), .long K.2.2.2.2.2.2.1, .long K.2.2.2.2.2.2.2.1, .int K.2.2.2.2.2.2.2.2]
def FL (f : Nat) : Prop := 0 < f ∧ f ≤ 14
theorem FL.n0 {f : Nat} (h : FL f) : ¬ nI f = 0 := nI_ne0 h.1 (by have := h.2; omega)
theorem FL.nle {f : Nat} (h : FL f) : ¬ nI f ≤ 0 := nI_nle h.1 (by have := h.2; omega)
/-- what a reading leaves: a fault and its place, or a value and where it stands -/
def oP {α : Type} (r : PR α) (p : Int32) (val : α → Option Value → Prop) (v : Option Value) (B : A3) : Prop := (∃ f q : Nat, r = .inl (f, q) ∧ FL f ∧ B.2 = (nI f, nI q)) ∨ ∃ (x : α) (a' : Nat), r = .inr (x, a') ∧ B = (nI a', 0, p) ∧ val x v
def vI (x : Nat) (v : Option Value) : Prop := v = some (.int (nI x))
def vL (x : Nat) (v : Option Value) : Prop := v = some (.long (lN x))
def vN {α : Type} (_ : α) (v : Option Value) : Prop := v = none
def vA {α : Type} (_ : α) (_ : Option Value) : Prop := True
theorem np1 {np : Nat} (h : 1 ≤ np ∧ np ≤ 4) : nI np - 1 = nI (np - 1) := by
  obtain ⟨k, rfl⟩ : ∃ k, np = k + 1 := ⟨np - 1, by omega⟩
  exact nI_pred k
