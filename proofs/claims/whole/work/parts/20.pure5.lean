/-- one behind the other -/
def bnd {α β : Type} (r : PR α) (k : α → Nat → PR β) : PR β := match r with
  | .inl x => .inl x
  | .inr (v, a) => k v a
theorem bnd_T {α β : Type} {r : PR α} {k : α → Nat → PR β} {x : Nat × Nat} (h : r = .inl x) : bnd r k = .inl x := by rw [h]; rfl
theorem bnd_E {α β : Type} {r : PR α} {k : α → Nat → PR β} {v : α} {a : Nat} (h : r = .inr (v, a)) : bnd r k = k v a := by rw [h]; rfl
/-- n times -/
def rep {α : Type} (f : Nat → PR α) : Nat → Nat → PR Unit
  | 0, a => .inr ((), a)
  | n + 1, a => bnd (f a) (fun _ a' => rep f n a')
def shOf (c : Nat) : Nat :=
  if 69 ≤ c ∧ c ≤ 196 then 1 else if 40 ≤ c ∧ c ≤ 62 then 3 else if 32 ≤ c ∧ c ≤ 38 then 2 else
  if c = 0 ∨ c = 1 ∨ c = 15 ∨ c = 26 ∨ c = 27 ∨ c = 209 then 1 else if c = 12 ∨ c = 13 ∨ c = 16 ∨ c = 210 then 2 else if c = 14 then 4 else if c = 17 then 3 else if c = 28 then 5 else
  if c = 63 ∨ c = 64 then 6 else if c = 65 then 9 else if c = 66 then 10 else if c = 67 then 11 else if c = 68 then 12 else if c = 208 then 13 else 0
def sh252 (k : Nat) : Nat := if k ≤ 7 then 1 else if 17 < k then 0 else if k = 8 then 8 else if k = 10 then 7 else if k = 11 then 6 else if k = 12 ∨ k = 14 then 3 else 2
def pS252 (b : Nat → Nat) (lm : Nat) (dc : Bool) (bg a : Nat) : PR Nat := bnd (pU32 b lm a) (fun k a1 => if (k = 8 ∨ k = 9) ∧ dc = false then .inl (11, bg) else .inr (sh252 k, a1))
/-- what stands behind an instruction that began at bg, by its shape -/
def pShape (b : Nat → Nat) (lm bg : Nat) (sh a : Nat) : PR Unit :=
  if sh = 1 then .inr ((), a)
  else if sh = 2 then bnd (pU32 b lm a) (fun _ a1 => .inr ((), a1))
  else if sh = 3 then bnd (pU32 b lm a) (fun _ a1 => bnd (pU32 b lm a1) (fun _ a2 => .inr ((), a2)))
  else if sh = 4 then bnd (pU32 b lm a) (fun n a1 => rep (pU32 b lm) (n + 1) a1)
  else if sh = 5 then bnd (pU32 b lm a) (fun n a1 => rep (pType tVal b lm) n a1)
  else if sh = 6 then bnd (pChoice b lm 0 a) (fun _ a1 => .inr ((), a1))
  else if sh = 7 then bnd (pChoice b lm 0 a) (fun _ a1 => bnd (pChoice b lm 0 a1) (fun _ a2 => .inr ((), a2)))
  else if sh = 8 then bnd (pU32 b lm a) (fun _ a1 => bnd (pChoice b lm 0 a1) (fun _ a2 => .inr ((), a2)))
  else if sh = 9 then bnd (pS32 b lm a) (fun _ a1 => .inr ((), a1))
  else if sh = 10 then bnd (pS64 b lm a) (fun _ a1 => .inr ((), a1))
  else if sh = 11 then pSkip lm 4 a
  else if sh = 12 then pSkip lm 8 a
  else if sh = 13 then bnd (pType tRef b lm a) (fun _ a1 => .inr ((), a1))
  else .inl (10, bg)
/-- instructions up to the expression's end: d blocks are open, E tells in which a 5 may come -/
def pExprG (b : Nat → Nat) (lm : Nat) (dc : Bool) : Nat → Nat → (Nat → Bool) → Nat → PR Unit
  | 0, _, _, a => .inr ((), a)
  | k + 1, d, E, a => bnd (pNext b lm a) (fun c a1 =>
      if c = 2 ∨ c = 3 ∨ c = 4 then bnd (pBlock b lm a1) (fun _ a2 => pExprG b lm dc k (d + 1) (va_up E d (c == 4)) a2)
      else if c = 5 then (if 0 < d ∧ E (d - 1) = true then pExprG b lm dc k d (va_up E (d - 1) false) a1 else .inl (10, a))
      else if c = 11 then (if d = 0 then .inr ((), a1) else pExprG b lm dc k (d - 1) E a1)
      else if c = 252 then bnd (pS252 b lm dc a a1) (fun sh a2 => bnd (pShape b lm a sh a2) (fun _ a3 => pExprG b lm dc k d E a3))
      else bnd (pShape b lm a (shOf c) a1) (fun _ a2 => pExprG b lm dc k d E a2))
def pExpr (b : Nat → Nat) (lm : Nat) (dc : Bool) (a : Nat) : PR Unit := pExprG b lm dc 2000 0 (fun _ => false) a
section POk
variable {b : Nat → Nat} {lm a a' x m : Nat}
theorem pType_ok {t : Nat → Bool} (h : pType t b lm a = .inr (x, a')) : a' ≤ lm ∧ a < a' ∧ x = b a ∧ t x = true := by
  cases hx : pNext b lm a with
  | inl z => rw [pType_T hx] at h; cases h
  | inr z =>
    obtain ⟨g, a1⟩ := z
    obtain ⟨q1, q2, q3⟩ := pNext_ok hx
    by_cases c : t g = true
    · rw [pType_E hx c] at h; cases h; exact ⟨by omega, by omega, q3, c⟩
    · rw [pType_F hx c] at h; cases h
theorem pChoice_ok (h : pChoice b lm m a = .inr (x, a')) : a' ≤ lm ∧ a < a' ∧ x = b a ∧ x ≤ m := by
  cases hx : pNext b lm a with
  | inl z => rw [pChoice_T hx] at h; cases h
  | inr z =>
    obtain ⟨g, a1⟩ := z
    obtain ⟨q1, q2, q3⟩ := pNext_ok hx
    by_cases c : m < g
    · rw [pChoice_F hx c] at h; cases h
    · rw [pChoice_E hx c] at h; cases h; exact ⟨by omega, by omega, q3, by omega⟩
theorem ite_le {c : Prop} [Decidable c] {x y k : Nat} (hx : x ≤ k) (hy : y ≤ k) : (if c then x else y) ≤ k := by
  by_cases h : c
  · rw [if_pos h]; exact hx
  · rw [if_neg h]; exact hy
theorem shOf_le (c : Nat) : shOf c ≤ 13 := (ite_le (by decide) (ite_le (by decide) (ite_le (by decide) (ite_le (by decide) (ite_le (by decide) (ite_le (by decide) (ite_le (by decide) (ite_le (by decide) (ite_le (by decide) (ite_le (by decide) (ite_le (by decide) (ite_le (by decide) (ite_le (by decide) (ite_le (by decide) (by decide)))))))))))))))
theorem sh252_le (k : Nat) : sh252 k ≤ 13 := (ite_le (by decide) (ite_le (by decide) (ite_le (by decide) (ite_le (by decide) (ite_le (by decide) (ite_le (by decide) (by decide)))))))
end POk
/-- the cells of an ExpressionReader without its row of blocks -/
abbrev wXs (cA : Nat → ClassId) (x0 z0 h0 h1 : Nat) (bs : Nat → Int32) (dep dcI : Int32) (u : S4) : va_W := [(x0, .inr (3, [.ref h0, .ref z0, .int dep, .int dcI])), (h0, .inr (2, [.ref h1, .int u.1, .int u.2.1, .int u.2.2.1, .int u.2.2.2])), (h1, .inl (cA 0, 2000, .inl bs))]
