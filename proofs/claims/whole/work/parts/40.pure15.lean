/-- the records of a table, each with the place at which it began -/
abbrev RL : Type := List (Nat × (Nat → Int64))
def TR (w : Nat) (L : RL) (con : Nat → Int64) : Prop := ∀ k, k < L.length → ∀ c, c < w → con (k * w + c) = (L.getD k (0, c_1)).2 c
theorem TR.nil {w : Nat} {con : Nat → Int64} : TR w [] con := fun k hk => absurd hk (Nat.not_lt_zero k)
theorem TR.add {w a : Nat} {L : RL} {con con' z : Nat → Int64} (h : TR w L con) (hR : RC con (L.length * w) w con' z) : TR w (L ++ [(a, z)]) con' := by
  intro k hk c hc
  rw [List.length_append, List.length_singleton] at hk
  by_cases q : k < L.length
  · have h1 : (k + 1) * w ≤ L.length * w := Nat.mul_le_mul q (Nat.le_refl _)
    rw [Nat.add_mul, Nat.one_mul] at h1
    rw [hR.1 _ (by omega), h k q c hc, List.getD_eq_getElem?_getD, List.getD_eq_getElem?_getD, List.getElem?_append_left q]
  · have e : k = L.length := by omega
    subst e
    rw [hR.2 c hc, List.getD_eq_getElem?_getD, List.getElem?_append_right (Nat.le_refl _)]
    simp
def LT (LL : List Int64) (con : Nat → Int64) : Prop := ∀ i, i < LL.length → con i = LL.getD i 0
theorem LT.nil {con : Nat → Int64} : LT [] con := fun i hi => absurd hi (Nat.not_lt_zero i)
theorem LT.add {LL it : List Int64} {con con' : Nat → Int64} (h : LT LL con) (hR : LR con LL.length con' it) : LT (LL ++ it) con' := by
  intro i hi
  rw [List.length_append] at hi
  by_cases q : i < LL.length
  · rw [hR.1 _ q, h i q, List.getD_eq_getElem?_getD, List.getD_eq_getElem?_getD, List.getElem?_append_left q]
  · have h2 := hR.2 (i - LL.length) (by omega)
    rw [show LL.length + (i - LL.length) = i by omega] at h2
    rw [h2, List.getD_eq_getElem?_getD, List.getD_eq_getElem?_getD, List.getElem?_append_right (by omega)]
def repL (f : Nat → PR (Nat → Int64)) : Nat → RL → Nat → PR RL
  | 0, L, a => .inr (L, a)
  | n + 1, L, a => bnd (f a) (fun z a1 => repL f n (L ++ [(a, z)]) a1)
def repE (f : Nat → Nat → PR ((Nat → Int64) × List Int64)) : Nat → RL → List Int64 → Nat → PR (RL × List Int64)
  | 0, L, LL, a => .inr ((L, LL), a)
  | n + 1, L, LL, a => bnd (f LL.length a) (fun z a1 => repE f n (L ++ [(a, z.1)]) (LL ++ z.2) a1)
def pRowL (b : Nat → Nat) (lm : Nat) (f : Nat → PR (Nat → Int64)) (L : RL) (a : Nat) : PR RL := bnd (pU32 b lm a) (fun n a1 => repL f n L a1)
def pRowE (b : Nat → Nat) (lm : Nat) (f : Nat → Nat → PR ((Nat → Int64) × List Int64)) (L : RL) (LL : List Int64) (a : Nat) : PR (RL × List Int64) := bnd (pU32 b lm a) (fun n a1 => repE f n L LL a1)
theorem TK.le {w l l' : Nat} {t : TB} (h : TK w l' t) (hl : l ≤ l') : TK w l t := ⟨Nat.le_trans hl h.1, h.2⟩
theorem repL_ok {f : Nat → PR (Nat → Int64)} {lm : Nat} (hf : ∀ a v a', a ≤ lm → f a = .inr (v, a') → a' ≤ lm ∧ a < a') : ∀ (n : Nat) (L : RL) (a : Nat) (z : RL) (a' : Nat), a ≤ lm → repL f n L a = .inr (z, a') → a' ≤ lm ∧ a ≤ a' := by
  intro n
  induction n with
  | zero => intro L a z a' ha h; rw [repL] at h; cases h; exact ⟨ha, Nat.le_refl _⟩
  | succ n ih =>
    intro L a z a' ha h
    rw [repL] at h
    obtain ⟨v, a1, q1, r1⟩ := bnd_ok h
    have := hf _ _ _ ha q1
    have := ih _ _ _ _ (by omega) r1
    omega
theorem repE_ok {f : Nat → Nat → PR ((Nat → Int64) × List Int64)} {lm : Nat} (hf : ∀ nl a v a', a ≤ lm → f nl a = .inr (v, a') → a' ≤ lm ∧ a < a') : ∀ (n : Nat) (L : RL) (LL : List Int64) (a : Nat) (z : RL × List Int64) (a' : Nat), a ≤ lm → repE f n L LL a = .inr (z, a') → a' ≤ lm ∧ a ≤ a' := by
  intro n
  induction n with
  | zero => intro L LL a z a' ha h; rw [repE] at h; cases h; exact ⟨ha, Nat.le_refl _⟩
  | succ n ih =>
    intro L LL a z a' ha h
    rw [repE] at h
    obtain ⟨v, a1, q1, r1⟩ := bnd_ok h
    have := hf _ _ _ _ ha q1
    have := ih _ _ _ _ _ (by omega) r1
    omega
theorem pRowL_ok {b : Nat → Nat} {f : Nat → PR (Nat → Int64)} {lm a a' : Nat} {L z : RL} (hf : ∀ a v a', a ≤ lm → f a = .inr (v, a') → a' ≤ lm ∧ a < a') (ha : a ≤ lm) (h : pRowL b lm f L a = .inr (z, a')) : a' ≤ lm ∧ a < a' := by
  obtain ⟨n, a1, q, r⟩ := bnd_ok h
  have := pU32_ok ha q
  have := repL_ok hf _ _ _ _ _ (by omega) r
  omega
theorem pRowE_ok {b : Nat → Nat} {f : Nat → Nat → PR ((Nat → Int64) × List Int64)} {lm a a' : Nat} {L : RL} {LL : List Int64} {z : RL × List Int64} (hf : ∀ nl a v a', a ≤ lm → f nl a = .inr (v, a') → a' ≤ lm ∧ a < a') (ha : a ≤ lm) (h : pRowE b lm f L LL a = .inr (z, a')) : a' ≤ lm ∧ a < a' := by
  obtain ⟨n, a1, q, r⟩ := bnd_ok h
  have := pU32_ok ha q
  have := repE_ok hf _ _ _ _ _ _ (by omega) r
  omega
