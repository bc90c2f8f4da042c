abbrev MX : Type := S4 × TB × Int32 × (Nat → Int32)
abbrev wM9 (cA : Nat → ClassId) (r0 x0 z0 k0 kk tl h0 h1 : Nat) (bs : Nat → Int32) (rk sec : Int32) (sta dco : Int64) (kf : Nat → Option Nat) (dcI : Int32) (t0 w : Nat) (u : MX) : va_W := [(r0, .inr (4, [.ref h0, .ref x0, .ref k0, .int rk])), (k0, .inr (1, [.ref h1, .ref kk, .ref tl, .int sec, .long sta, .long dco])), (kk, .inl (cA 4, 11, .inr (.inr (.inr (.inr kf))))), (h0, .inr (2, [.ref h1, .int u.1.1, .int u.1.2.1, .int u.1.2.2.1, .int u.1.2.2.2])), (h1, .inl (cA 0, 2000, .inl bs)), (t0, .inr (0, [.int (nI w), .ref u.2.1.1, .int (nI u.2.1.2.1)])), (u.2.1.1, .inl (cA 1, u.2.1.2.2.1, .inr (.inl u.2.1.2.2.2))), (x0, .inr (3, [.ref h0, .ref z0, .int u.2.2.1, .int dcI])), (z0, .inl (cA 2, 1000, .inl u.2.2.2))]
/-- data: m, its memory, its expression, its bytes -/
def pDatB (b : Nat → Nat) (lm : Nat) (cols : Nat → Int64) (a : Nat) : PR (Nat → Int64) := bnd (pU32 b lm a) (fun v a1 => bnd (pSkip lm v a1) (fun _ a2 => .inr (vp_updL (vp_updL cols 3 (lN v)) 6 (lN a1), a2)))
def pDatE (b : Nat → Nat) (lm : Nat) (dc : Bool) (cols : Nat → Int64) (a : Nat) : PR (Nat → Int64) := bnd (pExpr b lm dc a) (fun _ a1 => pDatB b lm (vp_updL (vp_updL cols 4 (lN a)) 5 (lN a1)) a1)
def pDat (b : Nat → Nat) (lm : Nat) (dc : Bool) (a : Nat) : PR (Nat → Int64) := bnd (pNChoice b lm 2 a) (fun m a1 =>
  if m = 1 then pDatB b lm (vp_updL (vp_updL c_1 0 0) 2 0) a1
  else if m = 2 then bnd (pU32 b lm a1) (fun v a2 => pDatE b lm dc (vp_updL (vp_updL c_1 0 1) 2 (lN v)) a2)
  else pDatE b lm dc (vp_updL (vp_updL c_1 0 1) 2 0) a1)
theorem pNChoice_ok {b : Nat → Nat} {lm m a v a' : Nat} (ha : a ≤ lm) (h : pNChoice b lm m a = .inr (v, a')) : a' ≤ lm ∧ a < a' ∧ v ≤ m := by
  cases hx : pU32 b lm a with
  | inl z => rw [pNChoice_T hx] at h; cases h
  | inr z =>
    obtain ⟨g, a1⟩ := z
    obtain ⟨q1, q2, -⟩ := pU32_ok ha hx
    by_cases c : m < g
    · rw [pNChoice_F hx c] at h; cases h
    · rw [pNChoice_E hx c] at h; cases h; exact ⟨q1, q2, by omega⟩
theorem pExprG_ok {b : Nat → Nat} {lm : Nat} {dc : Bool} : ∀ (k d : Nat) (E : Nat → Bool) (a a' : Nat), a ≤ lm → pExprG b lm dc k d E a = .inr ((), a') → a' ≤ lm ∧ a ≤ a' := by
  intro k
  induction k with
  | zero => intro d E a a' ha h; rw [pExprG] at h; cases h; exact ⟨ha, Nat.le_refl _⟩
  | succ k ih =>
    intro d E a a' ha h
    rw [pExprG] at h
    obtain ⟨c, a1, q, r⟩ := bnd_ok h
    obtain ⟨q1, q2, -⟩ := pNext_ok q
    by_cases h2 : c = 2 ∨ c = 3 ∨ c = 4
    · rw [if_pos h2] at r
      obtain ⟨un, a2, s1, s2⟩ := bnd_ok r
      have := pBlock_ok (by omega) s1
      have := ih _ _ _ _ (by omega) s2
      omega
    rw [if_neg h2] at r
    by_cases h5 : c = 5
    · rw [if_pos h5] at r
      by_cases hd : 0 < d ∧ E (d - 1) = true
      · rw [if_pos hd] at r; have := ih _ _ _ _ (by omega) r; omega
      · rw [if_neg hd] at r; cases r
    rw [if_neg h5] at r
    by_cases h11 : c = 11
    · rw [if_pos h11] at r
      by_cases hd : d = 0
      · rw [if_pos hd] at r; cases r; omega
      · rw [if_neg hd] at r; have := ih _ _ _ _ (by omega) r; omega
    rw [if_neg h11] at r
    by_cases h252 : c = 252
    · rw [if_pos h252] at r
      obtain ⟨sh, a2, s1, s2⟩ := bnd_ok r
      obtain ⟨un3, a3, s3, s4⟩ := bnd_ok s2
      have := pS252_ok (by omega) s1
      have := pShape_ok sh (by omega) s3
      have := ih _ _ _ _ (by omega) s4
      omega
    rw [if_neg h252] at r
    obtain ⟨un, a2, s1, s2⟩ := bnd_ok r
    have := pShape_ok _ (by omega) s1
    have := ih _ _ _ _ (by omega) s2
    omega
theorem pExpr_ok {b : Nat → Nat} {lm a a' : Nat} {dc : Bool} (ha : a ≤ lm) (h : pExpr b lm dc a = .inr ((), a')) : a' ≤ lm ∧ a < a' := by
  have h : pExprG b lm dc (1999 + 1) 0 (fun _ => false) a = .inr ((), a') := h
  have hg : a' ≤ lm ∧ a ≤ a' := pExprG_ok (1999 + 1) 0 _ a a' ha h
  rw [pExprG] at h
  obtain ⟨c, a1, q, r⟩ := bnd_ok h
  obtain ⟨q1, q2, -⟩ := pNext_ok q
  refine ⟨hg.1, ?_⟩
  by_cases h2 : c = 2 ∨ c = 3 ∨ c = 4
  · rw [if_pos h2] at r
    obtain ⟨un, a2, s1, s2⟩ := bnd_ok r
    have := pBlock_ok (by omega) s1
    have := pExprG_ok _ _ _ _ _ (by omega) s2
    omega
  rw [if_neg h2] at r
  by_cases h5 : c = 5
  · rw [if_pos h5, if_neg (by omega)] at r; cases r
  rw [if_neg h5] at r
  by_cases h11 : c = 11
  · rw [if_pos h11, if_pos rfl] at r; cases r; omega
  rw [if_neg h11] at r
  by_cases h252 : c = 252
  · rw [if_pos h252] at r
    obtain ⟨sh, a2, s1, s2⟩ := bnd_ok r
    obtain ⟨un3, a3, s3, s4⟩ := bnd_ok s2
    have := pS252_ok (by omega) s1
    have := pShape_ok sh (by omega) s3
    have := pExprG_ok _ _ _ _ _ (by omega) s4
    omega
  rw [if_neg h252] at r
  obtain ⟨un, a2, s1, s2⟩ := bnd_ok r
  have := pShape_ok _ (by omega) s1
  have := pExprG_ok _ _ _ _ _ (by omega) s2
  omega
theorem pLim_ok {b : Nat → Nat} {lm a a' : Nat} {cols z : Nat → Int64} (ha : a ≤ lm) (h : pLim b lm cols a = .inr (z, a')) : a' ≤ lm ∧ a < a' := by
  obtain ⟨g, a1, q, r⟩ := bnd_ok h
  obtain ⟨v, a2, q2, r2⟩ := bnd_ok r
  have := pChoice_ok q
  have := pU32_ok (by omega) q2
  by_cases c : g = 1
  · rw [if_pos c] at r2
    obtain ⟨v2, a3, q3, r3⟩ := bnd_ok r2
    have := pU32_ok (by omega) q3
    cases r3
    omega
  · rw [if_neg c] at r2
    cases r2
    omega
theorem pGlo_ok {b : Nat → Nat} {lm a a' : Nat} {cols z : Nat → Int64} (h : pGlo b lm cols a = .inr (z, a')) : a' ≤ lm ∧ a < a' := by
  obtain ⟨g, a1, q, r⟩ := bnd_ok h
  obtain ⟨v, a2, q2, r2⟩ := bnd_ok r
  have := pType_ok q
  have := pChoice_ok q2
  cases r2
  omega
