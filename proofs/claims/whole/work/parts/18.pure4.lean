/-- the first character from p on that isn't as said, of a name that ends at e (k: as many steps as may be needed) -/
def pChars (b : Nat → Nat) (e : Nat) : Nat → Nat → Option Nat
  | 0, _ => none
  | k + 1, p => if p < e then (if pChar b e p = 0 then some p else pChars b e k (p + pChar b e p)) else none
theorem pChars_end {b : Nat → Nat} {e p : Nat} (k : Nat) (h : ¬ p < e) : pChars b e k p = none := by
  cases k with
  | zero => rfl
  | succ k => rw [pChars, if_neg h]
theorem pChars_bad {b : Nat → Nat} {e p k : Nat} (h : p < e) (h0 : pChar b e p = 0) : pChars b e (k + 1) p = some p := by rw [pChars, if_pos h, if_pos h0]
theorem pChars_go {b : Nat → Nat} {e p k : Nat} (h : p < e) (h0 : ¬ pChar b e p = 0) : pChars b e (k + 1) p = pChars b e k (p + pChar b e p) := by rw [pChars, if_pos h, if_neg h0]
theorem pChar_lt (b : Nat → Nat) (e p : Nat) : pChar b e p ≤ 4 := by
  have hs : chS (b p) ≤ 4 := by unfold chS; split <;> (try split) <;> omega
  unfold pChar
  split
  · omega
  · split
    · omega
    · split
      · omega
      · split <;> omega
/-- a name: where its bytes begin, how many -/
def pName (b : Nat → Nat) (lm a : Nat) : PR (Nat × Nat) := match pU32 b lm a with
  | .inl x => .inl x
  | .inr (n, a1) => match pSkip lm n a1 with
    | .inl x => .inl x
    | .inr (_, a2) => match pChars b a2 n a1 with
      | some q => .inl (9, q)
      | none => .inr ((a1, n), a2)
section PN
variable {b : Nat → Nat} {lm a n a1 a2 q : Nat} {x : Nat × Nat}
theorem pName_T (h : pU32 b lm a = .inl x) : pName b lm a = .inl x := by rw [pName, h]
theorem pName_S (h : pU32 b lm a = .inr (n, a1)) (h2 : pSkip lm n a1 = .inl x) : pName b lm a = .inl x := by rw [pName, h]; simp only [h2]
theorem pName_F (h : pU32 b lm a = .inr (n, a1)) (h2 : pSkip lm n a1 = .inr ((), a2)) (h3 : pChars b a2 n a1 = some q) : pName b lm a = .inl (9, q) := by rw [pName, h]; simp only [h2, h3]
theorem pName_E (h : pU32 b lm a = .inr (n, a1)) (h2 : pSkip lm n a1 = .inr ((), a2)) (h3 : pChars b a2 n a1 = none) : pName b lm a = .inr ((a1, n), a2) := by rw [pName, h]; simp only [h2, h3]
theorem pSkip_ok (h : pSkip lm n a = .inr ((), a2)) : a2 = a + n ∧ ¬ lm - a < n := by
  unfold pSkip at h
  by_cases c : lm - a < n
  · rw [if_pos c] at h; cases h
  · rw [if_neg c] at h; cases h; exact ⟨rfl, c⟩
theorem pName_ok {z : Nat × Nat} (ha : a ≤ lm) (h : pName b lm a = .inr (z, a2)) : a < z.1 ∧ a2 = z.1 + z.2 ∧ a2 ≤ lm := by
  cases h1 : pU32 b lm a with
  | inl x => rw [pName_T h1] at h; cases h
  | inr y =>
    obtain ⟨n, a1⟩ := y
    obtain ⟨q1, q2, q3⟩ := pU32_ok ha h1
    cases h2 : pSkip lm n a1 with
    | inl x => rw [pName_S h1 h2] at h; cases h
    | inr y =>
      obtain ⟨⟨⟩, a3⟩ := y
      obtain ⟨r1, r2⟩ := pSkip_ok h2
      cases h3 : pChars b a3 n a1 with
      | some q => rw [pName_F h1 h2 h3] at h; cases h
      | none => rw [pName_E h1 h2 h3] at h; cases h; simp only; omega
end PN
abbrev wNT (cA : Nat → ClassId) (h0 h1 : Nat) (bs : Nat → Int32) (t0 w : Nat) (u : S4 × TB) : va_W := [(h0, .inr (2, [.ref h1, .int u.1.1, .int u.1.2.1, .int u.1.2.2.1, .int u.1.2.2.2])), (h1, .inl (cA 0, 2000, .inl bs)), (t0, .inr (0, [.int (nI w), .ref u.2.1, .int (nI u.2.2.1)])), (u.2.1, .inl (cA 1, u.2.2.2.1, .inr (.inl u.2.2.2.2)))]
/-- two numbers of the latest record -/
def up2 (con : Nat → Int64) (i : Nat) (x y : Nat) : Nat → Int64 := vp_updL (vp_updL con i (lN x)) (i + 1) (lN y)
