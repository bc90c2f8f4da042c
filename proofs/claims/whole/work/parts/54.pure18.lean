/-! THE REFERENCE: its object's fields by groups. K: many, latest, is, theThings, theExpressions, theSections, theStart, theDataCount, q; A: at, fault, faultPlace; e: expected; np: parts; B: blocks, last, counted, locals, localsAt, things, expressions, sections, start, dataCount; g: where its rows lie -/
abbrev A3 : Type := Int32 × Int32 × Int32
abbrev MK : Type := Int32 × Int32 × Int32 × Int32 × Int32 × Int32 × Int64 × Int64 × Int32
abbrev MB : Type := Int32 × Int32 × Int32 × Int64 × Int32 × Int32 × Int32 × Int32 × Int64 × Int64
abbrev mF (g : Nat → Nat) (K : MK) (A : A3) (e np : Int32) (B : MB) : List Value := [.ref (g 0), .int K.1, .int A.1, .int A.2.1, .int A.2.2, .int K.2.1, .int e, .ref (g 7), .ref (g 8), .int np, .ref (g 10), .ref (g 11), .int B.1, .int B.2.1, .int B.2.2.1, .long B.2.2.2.1, .int B.2.2.2.2.1, .int B.2.2.2.2.2.1, .ref (g 18), .ref (g 19), .ref (g 20), .ref (g 21), .int B.2.2.2.2.2.2.1, .ref (g 23), .ref (g 24), .ref (g 25), .int B.2.2.2.2.2.2.2.1, .long B.2.2.2.2.2.2.2.2.1, .long B.2.2.2.2.2.2.2.2.2, .int K.2.2.1, .ref (g 30), .int K.2.2.2.1, .int K.2.2.2.2.1, .int K.2.2.2.2.2.1, .ref (g 34), .ref (g 35), .ref (g 36), .ref (g 37), .ref (g 38), .ref (g 39), .ref (g 40), .long K.2.2.2.2.2.2.1, .long K.2.2.2.2.2.2.2.1, .int K.2.2.2.2.2.2.2.2]
def FL (f : Nat) : Prop := 0 < f ∧ f ≤ 14
theorem FL.n0 {f : Nat} (h : FL f) : ¬ nI f = 0 := nI_ne0 h.1 (by have := h.2; omega)
theorem FL.nle {f : Nat} (h : FL f) : ¬ nI f ≤ 0 := nI_nle h.1 (by have := h.2; omega)
/-- what a reading leaves: a fault and its place, or a value and where it stands -/
def oP {α : Type} (r : PR α) (p : Int32) (fv : Option Value → Prop) (val : α → Option Value → Prop) (v : Option Value) (B : A3) : Prop := (∃ f q : Nat, r = .inl (f, q) ∧ FL f ∧ B.2 = (nI f, nI q) ∧ fv v ∧ ∃ z : Nat, z ≤ 2000 ∧ B.1 = nI z) ∨ ∃ (x : α) (a' : Nat), r = .inr (x, a') ∧ B = (nI a', 0, p) ∧ val x v
def vI (x : Nat) (v : Option Value) : Prop := v = some (.int (nI x))
def vL (x : Nat) (v : Option Value) : Prop := v = some (.long (lN x))
def vN {α : Type} (_ : α) (v : Option Value) : Prop := v = none
def f0 (v : Option Value) : Prop := v = some (.int 0)
def fI (v : Option Value) : Prop := ∃ w : Int32, v = some (.int w)
def fL (v : Option Value) : Prop := ∃ w : Int64, v = some (.long w)
def fN (v : Option Value) : Prop := v = none
/-- a signed number: any, or one that is below 0 where it should be -/
def vS {α : Type} (_ : α) (v : Option Value) : Prop := fL v
def vG (x : Nat) (v : Option Value) : Prop := ∃ w : Int64, v = some (.long w) ∧ (w < 0 ↔ ¬ x = 0)
/-- one byte between two -/
def pBt (b : Nat → Nat) (lm lo hi w a : Nat) : PR Nat := match pNext b lm a with
  | .inl x => .inl x
  | .inr (g, a') => if g < lo ∨ hi < g then .inl (w, a) else .inr (g, a')
theorem pBt_T {b : Nat → Nat} {lm lo hi w a : Nat} {x : Nat × Nat} (h : pNext b lm a = .inl x) : pBt b lm lo hi w a = .inl x := by rw [pBt, h]
theorem pBt_F {b : Nat → Nat} {lm lo hi w a g a' : Nat} (h : pNext b lm a = .inr (g, a')) (hm : g < lo ∨ hi < g) : pBt b lm lo hi w a = .inl (w, a) := by rw [pBt, h]; exact if_pos hm
theorem pBt_E {b : Nat → Nat} {lm lo hi w a g a' : Nat} (h : pNext b lm a = .inr (g, a')) (hm : ¬ (g < lo ∨ hi < g)) : pBt b lm lo hi w a = .inr (g, a') := by rw [pBt, h]; exact if_neg hm
theorem pBt_c {b : Nat → Nat} {lm m a : Nat} : pBt b lm 0 m 7 a = pChoice b lm m a := by
  unfold pBt pChoice
  cases pNext b lm a with
  | inl x => rfl
  | inr x =>
    obtain ⟨g, a'⟩ := x
    by_cases h : m < g
    · exact (if_pos (Or.inr h)).trans (if_pos h).symm
    · exact (if_neg (show ¬ (g < 0 ∨ m < g) by omega)).trans (if_neg h).symm
theorem pBt_f {b : Nat → Nat} {lm a : Nat} : pBt b lm 96 96 8 a = pType tFun b lm a := by
  unfold pBt pType
  cases pNext b lm a with
  | inl x => rfl
  | inr x =>
    obtain ⟨g, a'⟩ := x
    by_cases h : g = 96
    · subst h; rfl
    · show (if g < 96 ∨ 96 < g then _ else _) = if tFun g = true then _ else _
      rw [if_pos (by omega), if_neg (by unfold tFun; simpa using h)]
theorem sg_shr (a s : Int64) (k : Nat) (hs : (s.toBitVec.smod 64).toNat = k) : (a >>> s).toInt = a.toInt >>> k := by
  show (a.toBitVec.sshiftRight (s.toBitVec.smod 64).toNat).toInt = _
  rw [hs, BitVec.toInt_sshiftRight]
  rfl
theorem sg_lt {n : Nat} (h : n < 2 ^ 64) : lN n < 0 ↔ 2 ^ 63 ≤ n := by
  rw [Int64.lt_iff_toInt_lt]
  have e : (lN n).toInt = (n : Int).bmod (2 ^ 64) := by rw [show lN n = Int64.ofNat n from rfl, Int64.toInt_ofNat']
  rw [e]
  show (n : Int).bmod (2 ^ 64) < 0 ↔ _
  simp only [Int.bmod]
  have e2 : (n : Int) % ((2 ^ 64 : Nat) : Int) = n := Int.emod_eq_of_lt (by omega) (by omega)
  rw [e2]
  split <;> omega
/-- the sign of a number in groups, its last group g at bit sh -/
theorem sg_neg {o g sh : Nat} (ho : o < 2 ^ sh) (hg : g < 128) (hs : sh ≤ 28) : ((lN (o + g * 2 ^ sh) <<< ((nI (57 - sh)).toInt64 &&& 63)) >>> ((nI (57 - sh)).toInt64 &&& 63)) < 0 ↔ ¬ g / 64 % 2 = 0 := by
  have hp : 2 ^ sh * 2 ^ (57 - sh) = 2 ^ 57 := by rw [← Nat.pow_add]; congr 1; omega
  have h1 : (o + g * 2 ^ sh) * 2 ^ (57 - sh) = o * 2 ^ (57 - sh) + g * 2 ^ 57 := by rw [Nat.add_mul, Nat.mul_assoc, hp]
  have h2 : o * 2 ^ (57 - sh) < 2 ^ 57 := by
    rw [← hp]
    exact Nat.mul_lt_mul_of_pos_right ho (Nat.two_pow_pos _)
  rw [wb_shl _ (by omega), h1]
  have h3 : o * 2 ^ (57 - sh) + g * 2 ^ 57 < 2 ^ 64 := by omega
  have h4 := sg_lt h3
  have hc : ((nI (57 - sh)).toInt64 &&& 63) = lN (57 - sh) := wb_c _ (by omega)
  have h5 : ((lN (57 - sh)).toBitVec.smod 64).toNat = 57 - sh := by
    rw [wb_tb, wb_sm _ (by omega), BitVec.toNat_ofNat]
    omega
  rw [hc, Int64.lt_iff_toInt_lt, sg_shr _ _ _ h5]
  rw [Int64.lt_iff_toInt_lt] at h4
  have h6 : ∀ z : Int, z >>> (57 - sh) < (0 : Int64).toInt ↔ z < (0 : Int64).toInt := by
    intro z
    show z >>> (57 - sh) < 0 ↔ z < 0
    rw [Int.shiftRight_eq_div_pow]
    have hpos : (0 : Int) < ((2 ^ (57 - sh) : Nat) : Int) := by exact_mod_cast Nat.two_pow_pos _
    constructor
    · intro q
      exact Int.lt_of_not_ge (fun r => absurd (Int.ediv_nonneg r (Int.le_of_lt hpos)) (by omega))
    · intro q
      exact Int.ediv_neg_of_neg_of_pos q hpos
  rw [h6, h4]
  omega
theorem np1 {np : Nat} (h : 1 ≤ np ∧ np ≤ 4) : nI np - 1 = nI (np - 1) := by
  obtain ⟨k, rfl⟩ : ∃ k, np = k + 1 := ⟨np - 1, by omega⟩
  exact nI_pred k
theorem zI_n0 {b : Bool} (h : ¬ zI b = 0) : b = true := by cases b <;> simp_all [zI]
