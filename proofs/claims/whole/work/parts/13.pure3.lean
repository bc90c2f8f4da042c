theorem pSg_ok {b : Nat → Nat} {lm : Nat} : ∀ (n left a x a' : Nat), a ≤ lm → pSg b lm (n + 1) left a = .inr (x, a') → a' ≤ lm ∧ a < a' ∧ x < 2 := by
  intro n
  induction n with
  | zero =>
    intro left a x a' ha h
    cases hx : pNext b lm a with
    | inl z => rw [pSg_T hx] at h; cases h
    | inr z =>
      obtain ⟨g, a1⟩ := z
      obtain ⟨q1, q2, -⟩ := pNext_ok hx
      by_cases c1 : left ≤ 7 ∧ sTop left g = false
      · rw [pSg_F hx c1.1 c1.2] at h; cases h
      · by_cases c2 : g < 128
        · rw [pSg_E hx c1 c2] at h; cases h; omega
        · rw [pSg_C hx c1 c2, pSg] at h; cases h; omega
  | succ n ih =>
    intro left a x a' ha h
    cases hx : pNext b lm a with
    | inl z => rw [pSg_T hx] at h; cases h
    | inr z =>
      obtain ⟨g, a1⟩ := z
      obtain ⟨q1, q2, -⟩ := pNext_ok hx
      by_cases c1 : left ≤ 7 ∧ sTop left g = false
      · rw [pSg_F hx c1.1 c1.2] at h; cases h
      · by_cases c2 : g < 128
        · rw [pSg_E hx c1 c2] at h; cases h; omega
        · rw [pSg_C hx c1 c2] at h
          have := ih (left - 7) a1 x a' (by omega) h
          omega
def pBlock (b : Nat → Nat) (lm a : Nat) : PR Unit := match pS33 b lm a with
  | .inl x => .inl x
  | .inr (x, a') => if x = 0 then .inr ((), a') else if a' = a + 1 ∧ (b a = 64 ∨ tVal (b a) = true) then .inr ((), a') else .inl (8, a)
section PB
variable {b : Nat → Nat} {lm a x a' : Nat} {z : Nat × Nat}
theorem pBlock_T (h : pS33 b lm a = .inl z) : pBlock b lm a = .inl z := by rw [pBlock, h]
theorem pBlock_0 (h : pS33 b lm a = .inr (x, a')) (hx : x = 0) : pBlock b lm a = .inr ((), a') := by rw [pBlock, h]; exact if_pos hx
theorem pBlock_E (h : pS33 b lm a = .inr (x, a')) (hx : ¬ x = 0) (h1 : a' = a + 1) (h2 : b a = 64 ∨ tVal (b a) = true) : pBlock b lm a = .inr ((), a') := by rw [pBlock, h]; exact (if_neg hx).trans (if_pos ⟨h1, h2⟩)
theorem pBlock_F (h : pS33 b lm a = .inr (x, a')) (hx : ¬ x = 0) (h1 : ¬ (a' = a + 1 ∧ (b a = 64 ∨ tVal (b a) = true))) : pBlock b lm a = .inl (8, a) := by rw [pBlock, h]; exact (if_neg hx).trans (if_neg h1)
theorem pBlock_ok (ha : a ≤ lm) (h : pBlock b lm a = .inr ((), a')) : a' ≤ lm ∧ a < a' := by
  cases hz : pS33 b lm a with
  | inl z => rw [pBlock_T hz] at h; cases h
  | inr z =>
    obtain ⟨x, a1⟩ := z
    have q := pSg_ok 4 33 a x a1 ha hz
    by_cases hx : x = 0
    · rw [pBlock_0 hz hx] at h; cases h; exact ⟨q.1, q.2.1⟩
    · by_cases h1 : a1 = a + 1 ∧ (b a = 64 ∨ tVal (b a) = true)
      · rw [pBlock_E hz hx h1.1 h1.2] at h; cases h; exact ⟨q.1, q.2.1⟩
      · rw [pBlock_F hz hx h1] at h; cases h
end PB
/-- characters: a value that needs so many bytes -/
def nSz (size v : Nat) : Bool := if size = 2 then decide (128 ≤ v) else if size = 3 then decide (2048 ≤ v) && (decide (v < 55296) || decide (57343 < v)) else decide (65536 ≤ v) && decide (v ≤ 1114111)
/-- the bytes that follow -/
def chT (b : Nat → Nat) (p : Nat) : Nat → Nat → Nat → Option Nat
  | 0, _, v => some v
  | n + 1, i, v => if b (p + i) < 128 ∨ 191 < b (p + i) then none else chT b p n (i + 1) (v * 64 + (b (p + i) - 128))
def chS (lead : Nat) : Nat := if 240 ≤ lead then 4 else if 224 ≤ lead then 3 else 2
/-- how many bytes the character at p has, whose name ends at e; 0 where it is none -/
def pChar (b : Nat → Nat) (e p : Nat) : Nat :=
  if b p < 128 then 1 else if b p < 192 ∨ 247 < b p ∨ e - p < chS (b p) then 0 else
    match chT b p (chS (b p) - 1) 1 (b p % 2 ^ (7 - chS (b p))) with
    | none => 0
    | some v => if nSz (chS (b p)) v = true then chS (b p) else 0
section PC
variable {b : Nat → Nat} {e p k n i v : Nat}
theorem pChar_1 (h : b p < 128) : pChar b e p = 1 := by rw [pChar, if_pos h]
theorem pChar_0 (h : ¬ b p < 128) (h2 : b p < 192 ∨ 247 < b p ∨ e - p < chS (b p)) : pChar b e p = 0 := by rw [pChar, if_neg h, if_pos h2]
theorem pChar_go (h : ¬ b p < 128) (h2 : ¬ (b p < 192 ∨ 247 < b p ∨ e - p < chS (b p))) : pChar b e p = match chT b p (chS (b p) - 1) 1 (b p % 2 ^ (7 - chS (b p))) with
    | none => 0
    | some v => if nSz (chS (b p)) v = true then chS (b p) else 0 := by rw [pChar, if_neg h, if_neg h2]
theorem chT_F (h : b (p + i) < 128 ∨ 191 < b (p + i)) : chT b p (n + 1) i v = none := by rw [chT, if_pos h]
theorem chT_C (h : ¬ (b (p + i) < 128 ∨ 191 < b (p + i))) : chT b p (n + 1) i v = chT b p n (i + 1) (v * 64 + (b (p + i) - 128)) := by rw [chT, if_neg h]
end PC
