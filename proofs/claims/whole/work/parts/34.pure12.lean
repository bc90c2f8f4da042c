/-- items behind the n0 that were there -/
def LR (con0 : Nat → Int64) (n0 : Nat) (con : Nat → Int64) (it : List Int64) : Prop := (∀ j, j < n0 → con j = con0 j) ∧ ∀ i, i < it.length → con (n0 + i) = it.getD i 0
theorem LR.nil {con0 : Nat → Int64} {n0 : Nat} : LR con0 n0 con0 [] := ⟨fun _ _ => rfl, fun i h => absurd h (Nat.not_lt_zero i)⟩
theorem LR.add {con0 con con' : Nat → Int64} {n0 : Nat} {it : List Int64} {x : Int64} (h : LR con0 n0 con it) (hR : RC con ((n0 + it.length) * 1) 1 con' (vp_updL c_1 0 x)) : LR con0 n0 con' (it ++ [x]) := by
  rw [Nat.mul_one] at hR
  refine ⟨fun j hj => (hR.1 j (by omega)).trans (h.1 j hj), fun i hi => ?_⟩
  rw [List.length_append, List.length_singleton] at hi
  by_cases q : i < it.length
  · rw [hR.1 _ (by omega), h.2 i q, List.getD_eq_getElem?_getD, List.getD_eq_getElem?_getD, List.getElem?_append_left q]
  · have e : i = it.length := by omega
    subst e
    have h2 := hR.2 0 (by decide)
    rw [Nat.add_zero] at h2
    rw [h2, pk_uLs, List.getD_eq_getElem?_getD, List.getElem?_append_right (Nat.le_refl _)]
    simp
def repLoc (b : Nat → Nat) (lm : Nat) : Nat → List Int64 → Nat → Nat → PR (List Int64 × Nat)
  | 0, acc, s, a => .inr ((acc, s), a)
  | n + 1, acc, s, a => bnd (pU32 b lm a) (fun v a1 => bnd (pType tVal b lm a1) (fun g a2 => repLoc b lm n (acc ++ [lN v] ++ [lN g]) (s + v) a2))
def pLoc (b : Nat → Nat) (lm nl : Nat) (cols : Nat → Int64) (a : Nat) : PR ((Nat → Int64) × List Int64) := bnd (pU32 b lm a) (fun n a1 => bnd (repLoc b lm n [] 0 a1) (fun z a2 => if 4294967295 < z.2 then .inl (12, a) else .inr ((vp_updL (vp_updL (vp_updL (vp_updL cols 0 (lN n)) 6 (lN nl)) 7 (lN (2 * n))) 1 (lN z.2), z.1), a2)))
abbrev ML : Type := S4 × TB × TB
abbrev wCl (cA : Nat → ClassId) (k0 kk tl h1 : Nat) (sec : Int32) (sta dco : Int64) (u : TB) : va_W := [(k0, .inr (1, [.ref h1, .ref kk, .ref tl, .int sec, .long sta, .long dco])), (tl, .inr (0, [.int (nI 1), .ref u.1, .int (nI u.2.1)])), (u.1, .inl (cA 1, u.2.2.1, .inr (.inl u.2.2.2)))]
abbrev wM8 (cA : Nat → ClassId) (r0 x0 k0 kk tl h0 h1 : Nat) (bs : Nat → Int32) (rk sec : Int32) (sta dco : Int64) (t0 w : Nat) (u : ML) : va_W := [(r0, .inr (4, [.ref h0, .ref x0, .ref k0, .int rk])), (k0, .inr (1, [.ref h1, .ref kk, .ref tl, .int sec, .long sta, .long dco])), (h0, .inr (2, [.ref h1, .int u.1.1, .int u.1.2.1, .int u.1.2.2.1, .int u.1.2.2.2])), (h1, .inl (cA 0, 2000, .inl bs)), (t0, .inr (0, [.int (nI w), .ref u.2.1.1, .int (nI u.2.1.2.1)])), (u.2.1.1, .inl (cA 1, u.2.1.2.2.1, .inr (.inl u.2.1.2.2.2))), (tl, .inr (0, [.int (nI 1), .ref u.2.2.1, .int (nI u.2.2.2.1)])), (u.2.2.1, .inl (cA 1, u.2.2.2.2.1, .inr (.inl u.2.2.2.2.2)))]
