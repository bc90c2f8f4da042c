/-- a record of width w at B: what it holds; what stands ahead of it is as it was -/
def RC (con0 : Nat → Int64) (B w : Nat) (con cols : Nat → Int64) : Prop := (∀ j, j < B → con j = con0 j) ∧ ∀ c, c < w → con (B + c) = cols c
theorem RC.put {con0 con cols : Nat → Int64} {B w : Nat} (h : RC con0 B w con cols) (c : Nat) (x : Int64) (hc : c < w) : RC con0 B w (vp_updL con (B + c) x) (vp_updL cols c x) := by
  refine ⟨fun j hj => (pk_uLn (by omega)).trans (h.1 j hj), fun k hk => ?_⟩
  by_cases q : k = c
  · subst q; rw [pk_uLs, pk_uLs]
  · rw [pk_uLn (by omega), pk_uLn q]; exact h.2 k hk
theorem RC.name {con0 con cols : Nat → Int64} {B w : Nat} (h : RC con0 B w con cols) (c x y : Nat) (hc : c + 1 < w) : RC con0 B w (up2 con (B + c) x y) (up2 cols c x y) := (h.put c (lN x) (by omega)).put (c + 1) (lN y) hc
def c_1 : Nat → Int64 := fun _ => -1
theorem RC.new {con0 con : Nat → Int64} {n w : Nat} (h1 : ∀ j, j < n * w → con j = con0 j) (h2 : ∀ j, n * w ≤ j → j < n * w + w → con j = -1) : RC con0 (n * w) w con c_1 := ⟨h1, fun c hc => h2 _ (by omega) (by omega)⟩
/-- what tables' growth may cost -/
def fz (l l' : Nat) : Nat × Nat := (l' / 4 - l / 4, 2 * l' - 2 * l)
theorem gL_ge {w n len : Nat} : len ≤ gL w n len ∧ n * w + w ≤ gL w n len := by
  unfold gL
  by_cases h : len < n * w + w
  · rw [if_pos h]; omega
  · rw [if_neg h]; omega
theorem gL_le {w n len : Nat} (hw : w ≤ 9) (hn : n ≤ 4000) (hl : len ≤ 80000) : gL w n len ≤ 80000 := by
  have h1 : n * w ≤ 36000 := Nat.le_trans (Nat.mul_le_mul hn hw) (by decide)
  unfold gL
  by_cases h : len < n * w + w
  · rw [if_pos h]; omega
  · rw [if_neg h]; omega
theorem gB_le {w n len : Nat} (h4 : 4 ≤ len) : (gB w n len).1 ≤ (fz len (gL w n len)).1 ∧ (gB w n len).2 ≤ (fz len (gL w n len)).2 := by
  unfold gB gL fz
  by_cases h : len < n * w + w
  · rw [if_pos h, if_pos h]; simp only; omega
  · rw [if_neg h, if_neg h]; simp only; omega
/-- a table after a fault: still one -/
def TK (w len : Nat) (t : TB) : Prop := len ≤ t.2.2.1 ∧ t.2.2.1 ≤ 80000 ∧ t.2.1 ≤ 4000 ∧ t.2.1 * w ≤ t.2.2.1
def pLim (b : Nat → Nat) (lm : Nat) (cols : Nat → Int64) (a : Nat) : PR (Nat → Int64) := bnd (pChoice b lm 1 a) (fun g a1 => bnd (pU32 b lm a1) (fun v a2 => if g = 1 then bnd (pU32 b lm a2) (fun v2 a3 => .inr (vp_updL (vp_updL cols 2 (lN v)) 3 (lN v2), a3)) else .inr (vp_updL cols 2 (lN v), a2)))
def pTab (b : Nat → Nat) (lm : Nat) (cols : Nat → Int64) (a : Nat) : PR (Nat → Int64) := bnd (pType tRef b lm a) (fun g a1 => pLim b lm (vp_updL cols 1 (lN g)) a1)
def pMem (b : Nat → Nat) (lm : Nat) (cols : Nat → Int64) (a : Nat) : PR (Nat → Int64) := pLim b lm (vp_updL cols 1 0) a
def pGlo (b : Nat → Nat) (lm : Nat) (cols : Nat → Int64) (a : Nat) : PR (Nat → Int64) := bnd (pType tVal b lm a) (fun g a1 => bnd (pChoice b lm 1 a1) (fun h a2 => .inr (vp_updL (vp_updL cols 1 (lN g)) 2 (lN h), a2)))
def pFun (b : Nat → Nat) (lm : Nat) (a : Nat) : PR (Nat → Int64) := bnd (pU32 b lm a) (fun v a1 => .inr (vp_updL c_1 0 (lN v), a1))
def pExp (b : Nat → Nat) (lm : Nat) (a : Nat) : PR (Nat → Int64) := bnd (pName b lm a) (fun x a1 => bnd (pChoice b lm 3 a1) (fun g a2 => bnd (pU32 b lm a2) (fun v a3 => .inr (vp_updL (vp_updL (up2 c_1 2 x.1 x.2) 0 (lN g)) 1 (lN v), a3))))
def pImp (b : Nat → Nat) (lm : Nat) (a : Nat) : PR (Nat → Int64) := bnd (pName b lm a) (fun x a1 => bnd (pName b lm a1) (fun y a2 => bnd (pChoice b lm 3 a2) (fun g a3 =>
  if g = 0 then bnd (pU32 b lm a3) (fun v a4 => .inr (vp_updL (vp_updL (vp_updL (up2 (up2 c_1 4 x.1 x.2) 6 y.1 y.2) 0 (lN g)) 1 (lN v)) 2 0, a4))
  else if g = 1 then pTab b lm (vp_updL (up2 (up2 c_1 4 x.1 x.2) 6 y.1 y.2) 0 (lN g)) a3
  else if g = 2 then pMem b lm (vp_updL (up2 (up2 c_1 4 x.1 x.2) 6 y.1 y.2) 0 (lN g)) a3
  else pGlo b lm (vp_updL (up2 (up2 c_1 4 x.1 x.2) 6 y.1 y.2) 0 (lN g)) a3)))
def pOwn (b : Nat → Nat) (lm : Nat) (dc : Bool) (a : Nat) : PR (Nat → Int64) := bnd (pGlo b lm c_1 a) (fun cols a1 => bnd (pExpr b lm dc a1) (fun _ a2 => .inr (vp_updL (vp_updL cols 4 (lN a1)) 5 (lN a2), a2)))
abbrev MU : Type := S4 × TB
abbrev wM5 (cA : Nat → ClassId) (r0 x0 k0 h0 h1 : Nat) (bs : Nat → Int32) (rk : Int32) (t0 w : Nat) (u : MU) : va_W := [(r0, .inr (4, [.ref h0, .ref x0, .ref k0, .int rk])), (h0, .inr (2, [.ref h1, .int u.1.1, .int u.1.2.1, .int u.1.2.2.1, .int u.1.2.2.2])), (h1, .inl (cA 0, 2000, .inl bs)), (t0, .inr (0, [.int (nI w), .ref u.2.1, .int (nI u.2.2.1)])), (u.2.1, .inl (cA 1, u.2.2.2.1, .inr (.inl u.2.2.2.2)))]
