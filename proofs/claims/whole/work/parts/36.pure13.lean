theorem bnd_bnd {α β γ : Type} {r : PR α} {k : α → Nat → PR β} {k2 : β → Nat → PR γ} : bnd (bnd r k) k2 = bnd r (fun v a => bnd (k v a) k2) := by
  cases r with
  | inl x => rfl
  | inr x => obtain ⟨v, a⟩ := x; rfl
theorem bnd_I {α β : Type} {k : α → Nat → PR β} {v : α} {a : Nat} : bnd (.inr (v, a)) k = k v a := rfl
/-- a list of numbers, of places of expressions -/
def repU (b : Nat → Nat) (lm : Nat) : Nat → List Int64 → Nat → PR (List Int64)
  | 0, acc, a => .inr (acc, a)
  | n + 1, acc, a => bnd (pU32 b lm a) (fun v a1 => repU b lm n (acc ++ [lN v]) a1)
def repX (b : Nat → Nat) (lm : Nat) (dc : Bool) : Nat → List Int64 → Nat → PR (List Int64)
  | 0, acc, a => .inr (acc, a)
  | n + 1, acc, a => bnd (pExpr b lm dc a) (fun _ a1 => repX b lm dc n (acc ++ [lN a]) a1)
def pElT (b : Nat → Nat) (lm m a : Nat) : PR Nat := if m = 0 ∨ m = 4 then .inr (112, a) else if 4 ≤ m then pType tRef b lm a else bnd (pChoice b lm 0 a) (fun _ a1 => .inr (112, a1))
def elM (m : Nat) : Int64 := if m % 2 = 0 then 1 else if m = 3 ∨ m = 7 then 2 else 0
def elS (m : Nat) : Int64 := if 4 ≤ m then 1 else 0
def pElE (b : Nat → Nat) (lm : Nat) (dc : Bool) (cols : Nat → Int64) (a : Nat) : PR (Nat → Int64) := bnd (pExpr b lm dc a) (fun _ a1 => .inr (vp_updL (vp_updL cols 4 (lN a)) 5 (lN a1), a1))
def pElA (b : Nat → Nat) (lm : Nat) (dc : Bool) (m a : Nat) : PR (Nat → Int64) :=
  if m % 2 = 1 then .inr (vp_updL (vp_updL c_1 0 (elM m)) 2 0, a)
  else if m = 2 ∨ m = 6 then bnd (pU32 b lm a) (fun v a1 => pElE b lm dc (vp_updL (vp_updL c_1 0 (elM m)) 2 (lN v)) a1)
  else pElE b lm dc (vp_updL (vp_updL c_1 0 (elM m)) 2 0) a
def pElI (b : Nat → Nat) (lm : Nat) (dc : Bool) (nl m : Nat) (cols : Nat → Int64) (a : Nat) : PR ((Nat → Int64) × List Int64) :=
  bnd (pU32 b lm a) (fun n a1 => bnd (if 4 ≤ m then repX b lm dc n [] a1 else repU b lm n [] a1) (fun it a2 => .inr ((vp_updL (vp_updL (vp_updL cols 3 (lN n)) 7 (lN nl)) 8 (lN n), it), a2)))
def pEl (b : Nat → Nat) (lm : Nat) (dc : Bool) (nl a : Nat) : PR ((Nat → Int64) × List Int64) := bnd (pNChoice b lm 7 a) (fun m a1 => bnd (pElA b lm dc m a1) (fun cols a2 => bnd (pElT b lm m a2) (fun t a3 =>
  pElI b lm dc nl m (vp_updL (vp_updL cols 1 (lN t)) 6 (elS m)) a3)))
theorem pElT_ok {b : Nat → Nat} {lm m a v a' : Nat} (ha : a ≤ lm) (hb : ∀ i, b i < 256) (h : pElT b lm m a = .inr (v, a')) : a' ≤ lm ∧ a ≤ a' ∧ v < 256 := by
  unfold pElT at h
  by_cases c : m = 0 ∨ m = 4
  · rw [if_pos c] at h; cases h; exact ⟨ha, Nat.le_refl _, by decide⟩
  rw [if_neg c] at h
  by_cases c4 : 4 ≤ m
  · rw [if_pos c4] at h; have q := pType_ok h; exact ⟨q.1, by omega, by rw [q.2.2.1]; exact hb _⟩
  · rw [if_neg c4] at h
    obtain ⟨x, a1, q, r⟩ := bnd_ok h
    have := pChoice_ok q
    cases r
    exact ⟨by omega, by omega, by decide⟩
def pBody (b : Nat → Nat) (lm : Nat) (dc : Bool) (nl a : Nat) : PR ((Nat → Int64) × List Int64) := bnd (pEnter b lm a) (fun l2 a1 => bnd (pLoc b l2 nl c_1 a1) (fun z a2 => bnd (pExpr b l2 dc a2) (fun _ a3 => bnd (pLeave l2 a3) (fun _ a4 => .inr ((vp_updL (vp_updL z.1 4 (lN a2)) 5 (lN a3), z.2), a4)))))
abbrev wM3 (cA : Nat → ClassId) (r0 x0 k0 h0 h1 : Nat) (bs : Nat → Int32) (rk : Int32) (u : S4) : va_W := [(r0, .inr (4, [.ref h0, .ref x0, .ref k0, .int rk])), (h0, .inr (2, [.ref h1, .int u.1, .int u.2.1, .int u.2.2.1, .int u.2.2.2])), (h1, .inl (cA 0, 2000, .inl bs))]
abbrev ME : Type := S4 × TB × TB × Int32 × (Nat → Int32)
abbrev wM11 (cA : Nat → ClassId) (r0 x0 z0 k0 kk tl h0 h1 : Nat) (bs : Nat → Int32) (rk sec : Int32) (sta dco : Int64) (kf : Nat → Option Nat) (dcI : Int32) (t0 w : Nat) (u : ME) : va_W := [(r0, .inr (4, [.ref h0, .ref x0, .ref k0, .int rk])), (k0, .inr (1, [.ref h1, .ref kk, .ref tl, .int sec, .long sta, .long dco])), (kk, .inl (cA 4, 11, .inr (.inr (.inr (.inr kf))))), (h0, .inr (2, [.ref h1, .int u.1.1, .int u.1.2.1, .int u.1.2.2.1, .int u.1.2.2.2])), (h1, .inl (cA 0, 2000, .inl bs)), (t0, .inr (0, [.int (nI w), .ref u.2.1.1, .int (nI u.2.1.2.1)])), (u.2.1.1, .inl (cA 1, u.2.1.2.2.1, .inr (.inl u.2.1.2.2.2))), (x0, .inr (3, [.ref h0, .ref z0, .int u.2.2.2.1, .int dcI])), (z0, .inl (cA 2, 1000, .inl u.2.2.2.2)), (tl, .inr (0, [.int (nI 1), .ref u.2.2.1.1, .int (nI u.2.2.1.2.1)])), (u.2.2.1.1, .inl (cA 1, u.2.2.1.2.2.1, .inr (.inl u.2.2.1.2.2.2)))]
theorem pEnter_ok {b : Nat → Nat} {lm a l2 a' : Nat} (ha : a ≤ lm) (h : pEnter b lm a = .inr (l2, a')) : a < a' ∧ a' ≤ l2 ∧ l2 ≤ lm := by
  cases hx : pU32 b lm a with
  | inl z => rw [pEnter_T hx] at h; cases h
  | inr z =>
    obtain ⟨g, a1⟩ := z
    obtain ⟨q1, q2, -⟩ := pU32_ok ha hx
    by_cases c : lm - a1 < g
    · rw [pEnter_F hx c] at h; cases h
    · rw [pEnter_E hx c] at h; cases h; omega
theorem pLeave_ok {lm a a' : Nat} (h : pLeave lm a = .inr ((), a')) : a' = a ∧ lm ≤ a := by
  unfold pLeave at h
  by_cases c : a < lm
  · rw [if_pos c] at h; cases h
  · rw [if_neg c] at h; cases h; exact ⟨rfl, by omega⟩
