/-! WHAT IS ASKED OF A RECORD -/
def seenN (k : Nat) : Nat := [0, 4, 1, 4, 4, 6, 2, 7, 6, 7, 7].getD k 0
def lst (z : Nat → Int64) (cs cn : Nat) (LL : List Int64) (j : Nat) : Int64 := if z cn ≤ lN j then -1 else LL.getD ((z cs).toInt32.toNatClampNeg + j) 0
def lkS (k : Nat) (z : Nat → Int64) (LL : List Int64) (w : Nat) : Int64 := if 8 ≤ w then (if k = 7 then lst z 7 8 LL (w - 8) else if k = 8 then lst z 6 7 LL (w - 8) else -1) else if w < seenN k then z w else -1
theorem pTab_inv {b : Nat → Nat} {lm a a' : Nat} {cols z : Nat → Int64} (h : pTab b lm cols a = .inr (z, a')) : a < lm ∧ b a < 256 ∨ a < lm := by
  obtain ⟨g, a1, q, r⟩ := bnd_ok h
  have := pType_ok q
  exact Or.inr (by omega)
theorem pType_inv {t : Nat → Bool} {b : Nat → Nat} {lm a x a' : Nat} (h : pType t b lm a = .inr (x, a')) : a < lm ∧ a' = a + 1 ∧ x = b a := by
  cases hx : pNext b lm a with
  | inl z => rw [pType_T hx] at h; cases h
  | inr z =>
    obtain ⟨g, a1⟩ := z
    obtain ⟨q1, q2, q3⟩ := pNext_ok hx
    by_cases c : t g = true
    · rw [pType_E hx c] at h; cases h; exact ⟨q1, q2, q3⟩
    · rw [pType_F hx c] at h; cases h
theorem pChoice_inv {b : Nat → Nat} {lm m a x a' : Nat} (h : pChoice b lm m a = .inr (x, a')) : a < lm ∧ a' = a + 1 ∧ x = b a ∧ b a ≤ m := by
  cases hx : pNext b lm a with
  | inl z => rw [pChoice_T hx] at h; cases h
  | inr z =>
    obtain ⟨g, a1⟩ := z
    obtain ⟨q1, q2, q3⟩ := pNext_ok hx
    by_cases c : m < g
    · rw [pChoice_F hx c] at h; cases h
    · rw [pChoice_E hx c] at h; cases h; exact ⟨q1, q2, q3, by omega⟩
theorem pNChoice_inv {b : Nat → Nat} {lm m a x a' : Nat} (h : pNChoice b lm m a = .inr (x, a')) : pU32 b lm a = .inr (x, a') ∧ x ≤ m := by
  cases hx : pU32 b lm a with
  | inl z => rw [pNChoice_T hx] at h; cases h
  | inr z =>
    obtain ⟨g, a1⟩ := z
    by_cases c : m < g
    · rw [pNChoice_F hx c] at h; cases h
    · rw [pNChoice_E hx c] at h; cases h; exact ⟨rfl, by omega⟩
theorem pGlo_inv {b : Nat → Nat} {lm a a' : Nat} {cols z : Nat → Int64} (h : pGlo b lm cols a = .inr (z, a')) : a + 1 < lm ∧ a' = a + 2 ∧ z = vp_updL (vp_updL cols 1 (lN (b a))) 2 (lN (b (a + 1))) := by
  obtain ⟨g, a1, q, r⟩ := bnd_ok h
  obtain ⟨c, a2, q2, r2⟩ := bnd_ok r
  obtain ⟨e1, e2, e3⟩ := pType_inv q
  subst e2 e3
  obtain ⟨f1, f2, f3, -⟩ := pChoice_inv q2
  subst f2 f3
  cases r2
  exact ⟨f1, rfl, rfl⟩
theorem pTab_inv2 {b : Nat → Nat} {lm a a' : Nat} {cols z : Nat → Int64} (h : pTab b lm cols a = .inr (z, a')) : a < lm ∧ pLim b lm (vp_updL cols 1 (lN (b a))) (a + 1) = .inr (z, a') := by
  obtain ⟨g, a1, q, r⟩ := bnd_ok h
  obtain ⟨e1, e2, e3⟩ := pType_inv q
  subst e2 e3
  exact ⟨e1, r⟩
theorem pImp_inv {b : Nat → Nat} {lm a a' : Nat} {z : Nat → Int64} (h : pImp b lm a = .inr (z, a')) : ∃ (x y : Nat × Nat) (a1 a2 : Nat), pName b lm a = .inr (x, a1) ∧ pName b lm a1 = .inr (y, a2) ∧ a2 < lm ∧ b a2 ≤ 3 ∧
    (b a2 = 0 → ∃ v a4 : Nat, pU32 b lm (a2 + 1) = .inr (v, a4) ∧ z = vp_updL (vp_updL (vp_updL (up2 (up2 c_1 4 x.1 x.2) 6 y.1 y.2) 0 (lN 0)) 1 (lN v)) 2 0) ∧
    (b a2 = 1 → pTab b lm (vp_updL (up2 (up2 c_1 4 x.1 x.2) 6 y.1 y.2) 0 (lN 1)) (a2 + 1) = .inr (z, a')) ∧
    (b a2 = 2 → pMem b lm (vp_updL (up2 (up2 c_1 4 x.1 x.2) 6 y.1 y.2) 0 (lN 2)) (a2 + 1) = .inr (z, a')) ∧
    (b a2 = 3 → pGlo b lm (vp_updL (up2 (up2 c_1 4 x.1 x.2) 6 y.1 y.2) 0 (lN 3)) (a2 + 1) = .inr (z, a')) := by
  obtain ⟨x, a1, q, r⟩ := bnd_ok h
  obtain ⟨y, a2, q2, r2⟩ := bnd_ok r
  obtain ⟨g, a3, q3, r3⟩ := bnd_ok r2
  obtain ⟨e1, e2, e3, e4⟩ := pChoice_inv q3
  subst e2 e3
  refine ⟨x, y, a1, a2, q, q2, e1, e4, fun c => ?_, fun c => ?_, fun c => ?_, fun c => ?_⟩
  · rw [if_pos c] at r3
    obtain ⟨v, a4, q4, r4⟩ := bnd_ok r3
    cases r4
    exact ⟨v, a', q4, by rw [c]⟩
  · rw [if_neg (by omega), if_pos c, c] at r3; exact r3
  · rw [if_neg (by omega), if_neg (by omega), if_pos c, c] at r3; exact r3
  · rw [if_neg (by omega), if_neg (by omega), if_neg (by omega), c] at r3; exact r3
theorem pExp_inv {b : Nat → Nat} {lm a a' : Nat} {z : Nat → Int64} (h : pExp b lm a = .inr (z, a')) : ∃ (x : Nat × Nat) (a1 v : Nat), pName b lm a = .inr (x, a1) ∧ a1 < lm ∧ pU32 b lm (a1 + 1) = .inr (v, a') ∧ z = vp_updL (vp_updL (up2 c_1 2 x.1 x.2) 0 (lN (b a1))) 1 (lN v) := by
  obtain ⟨x, a1, q, r⟩ := bnd_ok h
  obtain ⟨g, a2, q2, r2⟩ := bnd_ok r
  obtain ⟨v, a3, q3, r3⟩ := bnd_ok r2
  obtain ⟨e1, e2, e3, -⟩ := pChoice_inv q2
  subst e2 e3
  cases r3
  exact ⟨x, a1, v, q, e1, q3, rfl⟩
theorem pFun_inv {b : Nat → Nat} {lm a a' : Nat} {z : Nat → Int64} (h : pFun b lm a = .inr (z, a')) : ∃ v : Nat, pU32 b lm a = .inr (v, a') ∧ z = vp_updL c_1 0 (lN v) := by
  obtain ⟨v, a1, q, r⟩ := bnd_ok h
  cases r
  exact ⟨v, q, rfl⟩
theorem pDatB_inv {b : Nat → Nat} {lm a a' : Nat} {cols z : Nat → Int64} (h : pDatB b lm cols a = .inr (z, a')) : ∃ v a1 : Nat, pU32 b lm a = .inr (v, a1) ∧ z = vp_updL (vp_updL cols 3 (lN v)) 6 (lN a1) := by
  obtain ⟨v, a1, q, r⟩ := bnd_ok h
  obtain ⟨x, a2, q2, r2⟩ := bnd_ok r
  cases r2
  exact ⟨v, a1, q, rfl⟩
/-- the limits' columns as they are answered -/
theorem lim2 {cols : Nat → Int64} {g v v2 : Nat} (hg : g ≤ 1) (hc : cols 3 = -1) : (if g = 1 then vp_updL (vp_updL cols 2 (lN v)) 3 (lN v2) else vp_updL cols 2 (lN v)) 2 = limV g v v2 false ∧ (if g = 1 then vp_updL (vp_updL cols 2 (lN v)) 3 (lN v2) else vp_updL cols 2 (lN v)) 3 = limV g v v2 true := by
  unfold limV
  by_cases c : g = 1
  · subst c
    exact ⟨rfl, rfl⟩
  · have : g = 0 := by omega
    subst this
    exact ⟨rfl, hc⟩
