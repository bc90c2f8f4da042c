theorem pS252_T {b : Nat → Nat} {lm bg a : Nat} {dc : Bool} {x : Nat × Nat} (h : pU32 b lm a = .inl x) : pS252 b lm dc bg a = .inl x := bnd_T h
theorem pS252_F {b : Nat → Nat} {lm bg a k a1 : Nat} {dc : Bool} (h : pU32 b lm a = .inr (k, a1)) (hk : (k = 8 ∨ k = 9) ∧ dc = false) : pS252 b lm dc bg a = .inl (11, bg) := (bnd_E h).trans (if_pos hk)
theorem pS252_E {b : Nat → Nat} {lm bg a k a1 : Nat} {dc : Bool} (h : pU32 b lm a = .inr (k, a1)) (hk : ¬ ((k = 8 ∨ k = 9) ∧ dc = false)) : pS252 b lm dc bg a = .inr (sh252 k, a1) := (bnd_E h).trans (if_neg hk)
theorem pS252_ok {b : Nat → Nat} {lm bg a k a1 : Nat} {dc : Bool} (ha : a ≤ lm) (h : pS252 b lm dc bg a = .inr (k, a1)) : a1 ≤ lm ∧ a < a1 ∧ k ≤ 13 := by
  cases hz : pU32 b lm a with
  | inl z => rw [pS252_T hz] at h; cases h
  | inr z =>
    obtain ⟨v, a2⟩ := z
    obtain ⟨q1, q2, -⟩ := pU32_ok ha hz
    by_cases c : (v = 8 ∨ v = 9) ∧ dc = false
    · rw [pS252_F hz c] at h; cases h
    · rw [pS252_E hz c] at h; cases h; exact ⟨q1, q2, sh252_le v⟩
theorem rep_ok {α : Type} {f : Nat → PR α} {lm : Nat} (hf : ∀ (a : Nat) (v : α) (a' : Nat), a ≤ lm → f a = .inr (v, a') → a' ≤ lm ∧ a < a') : ∀ (n a a' : Nat), a ≤ lm → rep f n a = .inr ((), a') → a' ≤ lm ∧ a ≤ a' := by
  intro n
  induction n with
  | zero => intro a a' ha h; cases h; exact ⟨ha, Nat.le_refl _⟩
  | succ n ih =>
    intro a a' ha h
    rw [rep] at h
    cases hz : f a with
    | inl z => rw [bnd_T hz] at h; cases h
    | inr z =>
      obtain ⟨v, a1⟩ := z
      rw [bnd_E hz] at h
      obtain ⟨q1, q2⟩ := hf a v a1 ha hz
      obtain ⟨r1, r2⟩ := ih a1 a' q1 h
      exact ⟨r1, by omega⟩
theorem bnd_ok {α β : Type} {r : PR α} {k : α → Nat → PR β} {v : β} {a' : Nat} (h : bnd r k = .inr (v, a')) : ∃ (x : α) (a1 : Nat), r = .inr (x, a1) ∧ k x a1 = .inr (v, a') := by
  cases r with
  | inl z => cases h
  | inr z => exact ⟨z.1, z.2, rfl, h⟩
theorem pShape_ok {b : Nat → Nat} {lm bg : Nat} (sh : Nat) {a a' : Nat} (ha : a ≤ lm) (h : pShape b lm bg sh a = .inr ((), a')) : a' ≤ lm ∧ a ≤ a' := by
  unfold pShape at h
  by_cases h1 : sh = 1
  · rw [if_pos h1] at h; cases h; exact ⟨ha, Nat.le_refl _⟩
  rw [if_neg h1] at h
  by_cases h2 : sh = 2
  · rw [if_pos h2] at h; obtain ⟨x, a1, q, r⟩ := bnd_ok h; cases r; have := pU32_ok ha q; omega
  rw [if_neg h2] at h
  by_cases h3 : sh = 3
  · rw [if_pos h3] at h; obtain ⟨x, a1, q, r⟩ := bnd_ok h; obtain ⟨y, a2, q2, r2⟩ := bnd_ok r; cases r2; have := pU32_ok ha q; have := pU32_ok (by omega) q2; omega
  rw [if_neg h3] at h
  by_cases h4 : sh = 4
  · rw [if_pos h4] at h; obtain ⟨x, a1, q, r⟩ := bnd_ok h; have q1 := pU32_ok ha q; have := rep_ok (fun a v a' h1 h2 => ⟨(pU32_ok h1 h2).1, (pU32_ok h1 h2).2.1⟩) _ _ _ q1.1 r; omega
  rw [if_neg h4] at h
  by_cases h5 : sh = 5
  · rw [if_pos h5] at h; obtain ⟨x, a1, q, r⟩ := bnd_ok h; have q1 := pU32_ok ha q; have := rep_ok (fun a v a' h1 h2 => ⟨(pType_ok h2).1, (pType_ok h2).2.1⟩) _ _ _ q1.1 r; omega
  rw [if_neg h5] at h
  by_cases h6 : sh = 6
  · rw [if_pos h6] at h; obtain ⟨x, a1, q, r⟩ := bnd_ok h; cases r; have := pChoice_ok q; omega
  rw [if_neg h6] at h
  by_cases h7 : sh = 7
  · rw [if_pos h7] at h; obtain ⟨x, a1, q, r⟩ := bnd_ok h; obtain ⟨y, a2, q2, r2⟩ := bnd_ok r; cases r2; have := pChoice_ok q; have := pChoice_ok q2; omega
  rw [if_neg h7] at h
  by_cases h8 : sh = 8
  · rw [if_pos h8] at h; obtain ⟨x, a1, q, r⟩ := bnd_ok h; obtain ⟨y, a2, q2, r2⟩ := bnd_ok r; cases r2; have := pU32_ok ha q; have := pChoice_ok q2; omega
  rw [if_neg h8] at h
  by_cases h9 : sh = 9
  · rw [if_pos h9] at h; obtain ⟨x, a1, q, r⟩ := bnd_ok h; cases r; have := pSg_ok 4 32 _ _ _ ha q; omega
  rw [if_neg h9] at h
  by_cases h10 : sh = 10
  · rw [if_pos h10] at h; obtain ⟨x, a1, q, r⟩ := bnd_ok h; cases r; have := pSg_ok 9 64 _ _ _ ha q; omega
  rw [if_neg h10] at h
  by_cases h11 : sh = 11
  · rw [if_pos h11] at h; have := pSkip_ok h; omega
  rw [if_neg h11] at h
  by_cases h12 : sh = 12
  · rw [if_pos h12] at h; have := pSkip_ok h; omega
  rw [if_neg h12] at h
  by_cases h13 : sh = 13
  · rw [if_pos h13] at h; obtain ⟨x, a1, q, r⟩ := bnd_ok h; cases r; have := pType_ok q; omega
  rw [if_neg h13] at h
  cases h
