section EG
variable {b : Nat → Nat} {lm k d a c a1 a2 a3 sh : Nat} {dc : Bool} {E : Nat → Bool} {x : Nat × Nat} {z : Unit}
theorem eG_T (h : pNext b lm a = .inl x) : pExprG b lm dc (k + 1) d E a = .inl x := by rw [pExprG]; exact bnd_T h
theorem eG_bT (h : pNext b lm a = .inr (c, a1)) (hc : c = 2 ∨ c = 3 ∨ c = 4) (h2 : pBlock b lm a1 = .inl x) : pExprG b lm dc (k + 1) d E a = .inl x := by rw [pExprG, bnd_E h, if_pos hc]; exact bnd_T h2
theorem eG_b (h : pNext b lm a = .inr (c, a1)) (hc : c = 2 ∨ c = 3 ∨ c = 4) (h2 : pBlock b lm a1 = .inr ((), a2)) : pExprG b lm dc (k + 1) d E a = pExprG b lm dc k (d + 1) (va_up E d (c == 4)) a2 := by rw [pExprG, bnd_E h, if_pos hc]; exact bnd_E h2
theorem eG_5F (h : pNext b lm a = .inr (5, a1)) (h2 : ¬ (0 < d ∧ E (d - 1) = true)) : pExprG b lm dc (k + 1) d E a = .inl (10, a) := by rw [pExprG, bnd_E h, if_neg (by decide), if_pos rfl, if_neg h2]
theorem eG_5 (h : pNext b lm a = .inr (5, a1)) (h2 : 0 < d ∧ E (d - 1) = true) : pExprG b lm dc (k + 1) d E a = pExprG b lm dc k d (va_up E (d - 1) false) a1 := by rw [pExprG, bnd_E h, if_neg (by decide), if_pos rfl, if_pos h2]
theorem eG_e (h : pNext b lm a = .inr (11, a1)) (h2 : d = 0) : pExprG b lm dc (k + 1) d E a = .inr ((), a1) := by rw [pExprG, bnd_E h, if_neg (by decide), if_neg (by decide), if_pos rfl, if_pos h2]
theorem eG_p (h : pNext b lm a = .inr (11, a1)) (h2 : ¬ d = 0) : pExprG b lm dc (k + 1) d E a = pExprG b lm dc k (d - 1) E a1 := by rw [pExprG, bnd_E h, if_neg (by decide), if_neg (by decide), if_pos rfl, if_neg h2]
theorem eG_xT (h : pNext b lm a = .inr (252, a1)) (h2 : pS252 b lm dc a a1 = .inl x) : pExprG b lm dc (k + 1) d E a = .inl x := by rw [pExprG, bnd_E h, if_neg (by decide), if_neg (by decide), if_neg (by decide), if_pos rfl]; exact bnd_T h2
theorem eG_xS (h : pNext b lm a = .inr (252, a1)) (h2 : pS252 b lm dc a a1 = .inr (sh, a2)) (h3 : pShape b lm a sh a2 = .inl x) : pExprG b lm dc (k + 1) d E a = .inl x := by rw [pExprG, bnd_E h, if_neg (by decide), if_neg (by decide), if_neg (by decide), if_pos rfl, bnd_E h2]; exact bnd_T h3
theorem eG_x (h : pNext b lm a = .inr (252, a1)) (h2 : pS252 b lm dc a a1 = .inr (sh, a2)) (h3 : pShape b lm a sh a2 = .inr ((), a3)) : pExprG b lm dc (k + 1) d E a = pExprG b lm dc k d E a3 := by rw [pExprG, bnd_E h, if_neg (by decide), if_neg (by decide), if_neg (by decide), if_pos rfl, bnd_E h2]; exact bnd_E h3
theorem eG_dT (h : pNext b lm a = .inr (c, a1)) (h1 : ¬ (c = 2 ∨ c = 3 ∨ c = 4)) (h5 : ¬ c = 5) (h11 : ¬ c = 11) (h252 : ¬ c = 252) (h3 : pShape b lm a (shOf c) a1 = .inl x) : pExprG b lm dc (k + 1) d E a = .inl x := by rw [pExprG, bnd_E h, if_neg h1, if_neg h5, if_neg h11, if_neg h252]; exact bnd_T h3
theorem eG_d (h : pNext b lm a = .inr (c, a1)) (h1 : ¬ (c = 2 ∨ c = 3 ∨ c = 4)) (h5 : ¬ c = 5) (h11 : ¬ c = 11) (h252 : ¬ c = 252) (h3 : pShape b lm a (shOf c) a1 = .inr ((), a2)) : pExprG b lm dc (k + 1) d E a = pExprG b lm dc k d E a2 := by rw [pExprG, bnd_E h, if_neg h1, if_neg h5, if_neg h11, if_neg h252]; exact bnd_E h3
end EG
/-- the cells of an ExpressionReader: itself, the source, its bytes, the row of open blocks; u: the source, depth, the row -/
abbrev XU : Type := S4 × Int32 × (Nat → Int32)
abbrev wXf (cA : Nat → ClassId) (x0 z0 h0 h1 : Nat) (bs : Nat → Int32) (dcI : Int32) (u : XU) : va_W := [(x0, .inr (3, [.ref h0, .ref z0, .int u.2.1, .int dcI])), (h0, .inr (2, [.ref h1, .int u.1.1, .int u.1.2.1, .int u.1.2.2.1, .int u.1.2.2.2])), (h1, .inl (cA 0, 2000, .inl bs)), (z0, .inl (cA 2, 1000, .inl u.2.2))]
abbrev wXb (cA : Nat → ClassId) (x0 z0 h0 : Nat) (dcI : Int32) (u : Int32 × (Nat → Int32)) : va_W := [(x0, .inr (3, [.ref h0, .ref z0, .int u.1, .int dcI])), (z0, .inl (cA 2, 1000, .inl u.2))]
theorem zI_vp (x : Bool) : vp_nar .boolean (zI x) = zI x := by cases x <;> decide +kernel
def eRel (d : Nat) (E : Nat → Bool) (els : Nat → Int32) : Prop := ∀ j, j < d → els j = zI (E j)
theorem eRel.push {d : Nat} {E : Nat → Bool} {els : Nat → Int32} (h : eRel d E els) (x : Bool) : eRel (d + 1) (va_up E d x) (upd els d (zI x)) := by
  intro j hj
  by_cases q : j = d
  · subst q; rw [pk_us, va_up_self]
  · rw [pk_un q, va_up_ne _ _ q]; exact h j (by omega)
theorem eRel.pop {d : Nat} {E : Nat → Bool} {els : Nat → Int32} (h : eRel d E els) : eRel (d - 1) E els := fun j hj => h j (by omega)
theorem eRel.set {d : Nat} {E : Nat → Bool} {els : Nat → Int32} (h : eRel d E els) : eRel d (va_up E (d - 1) false) (upd els (d - 1) 0) := by
  intro j hj
  by_cases q : j = d - 1
  · subst q; rw [pk_us, va_up_self]; rfl
  · rw [pk_un q, va_up_ne _ _ q]; exact h j (by omega)
