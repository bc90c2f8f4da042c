/-! THE READING, AS FUNCTIONS: b: the bytes, lm: the end of the part, a: where it stands; a fault with its place, or a value and where it stands then -/
abbrev PR (α : Type) : Type := (Nat × Nat) ⊕ (α × Nat)
def bv (bs : Nat → Int32) (i : Nat) : Nat := (bs i &&& 255).toNatClampNeg
theorem bv_and (bs : Nat → Int32) (i : Nat) : bs i &&& 255 = nI (bv bs i) := by
  obtain ⟨j, h1, h2⟩ := pk_andE (bs i) (m := 255) 8 (by decide +kernel)
  unfold bv
  rw [h2, nI_clamp (by omega)]
theorem bv_lt (bs : Nat → Int32) (i : Nat) : bv bs i < 256 := by
  obtain ⟨j, h1, h2⟩ := pk_andE (bs i) (m := 255) 8 (by decide +kernel)
  unfold bv
  rw [h2, nI_clamp (by omega)]
  exact h1
def pNext (b : Nat → Nat) (lm a : Nat) : PR Nat := if a < lm then .inr (b a, a + 1) else .inl (1, lm)
/-- the cells of a Source: itself and its bytes; u: at, limit, fault, faultPlace -/
abbrev S4 : Type := Int32 × Int32 × Int32 × Int32
abbrev wSr (cA : Nat → ClassId) (h0 h1 : Nat) (bs : Nat → Int32) (u : S4) : va_W := [(h0, .inr (2, [.ref h1, .int u.1, .int u.2.1, .int u.2.2.1, .int u.2.2.2])), (h1, .inl (cA 0, 2000, .inl bs))]
/-- out by a fault -/
def tP {α : Type} (r : PR α) (u : S4) : Prop := ∃ f p : Nat, r = .inl (f, p) ∧ u.2.2.1 = nI f ∧ u.2.2.2 = nI p
/-- an int, a long, nothing; the end of the part and the latest fault as they were -/
def iP (r : PR Nat) (lm : Nat) (f pl : Int32) (v : Option Value) (u : S4) : Prop := ∃ x a : Nat, r = .inr (x, a) ∧ v = some (.int (nI x)) ∧ u = (nI a, nI lm, f, pl)
def lP (r : PR Nat) (lm : Nat) (f pl : Int32) (v : Option Value) (u : S4) : Prop := ∃ x a : Nat, r = .inr (x, a) ∧ v = some (.long (lN x)) ∧ u = (nI a, nI lm, f, pl)
def vP (r : PR Unit) (lm : Nat) (f pl : Int32) (v : Option Value) (u : S4) : Prop := ∃ a : Nat, r = .inr ((), a) ∧ v = none ∧ u = (nI a, nI lm, f, pl)
theorem pNext_ok {b : Nat → Nat} {lm a g a' : Nat} (h : pNext b lm a = .inr (g, a')) : a < lm ∧ a' = a + 1 ∧ g = b a := by
  unfold pNext at h
  by_cases q : a < lm
  · rw [if_pos q] at h
    cases h
    exact ⟨q, rfl, rfl⟩
  · rw [if_neg q] at h
    cases h
/-- a number in groups of seven bits: n groups may come, the next one at bit sh, v so far -/
def pUg (b : Nat → Nat) (lm : Nat) : Nat → Nat → Nat → Nat → PR Nat
  | 0, _, a, v => .inr (v, a)
  | n + 1, sh, a, v => match pNext b lm a with
    | .inl x => .inl x
    | .inr (g, a') => if n = 0 ∧ 15 < g then .inl (4, a' - 1) else if g < 128 then .inr (v + g % 128 * 2 ^ sh, a') else pUg b lm n (sh + 7) a' (v + g % 128 * 2 ^ sh)
def pU32 (b : Nat → Nat) (lm a : Nat) : PR Nat := pUg b lm 5 0 a 0
section PU
variable {b : Nat → Nat} {lm n sh a v g a' : Nat} {x : Nat × Nat}
theorem pUg_T (h : pNext b lm a = .inl x) : pUg b lm (n + 1) sh a v = .inl x := by rw [pUg, h]
theorem pUg_F (h : pNext b lm a = .inr (g, a')) (hg : 15 < g) : pUg b lm 1 sh a v = .inl (4, a' - 1) := by rw [pUg, h]; exact if_pos ⟨rfl, hg⟩
theorem pUg_E (h : pNext b lm a = .inr (g, a')) (ho : ¬ (n = 0 ∧ 15 < g)) (hg : g < 128) : pUg b lm (n + 1) sh a v = .inr (v + g % 128 * 2 ^ sh, a') := by rw [pUg, h]; exact (if_neg ho).trans (if_pos hg)
theorem pUg_C (h : pNext b lm a = .inr (g, a')) (ho : ¬ (n = 0 ∧ 15 < g)) (hg : ¬ g < 128) : pUg b lm (n + 1) sh a v = pUg b lm n (sh + 7) a' (v + g % 128 * 2 ^ sh) := by rw [pUg, h]; exact (if_neg ho).trans (if_neg hg)
theorem u_step (k : Nat) (hk : k < 56) {y : Int32} (hy : y = nI k) {v g : Nat} (hv : v < 2 ^ k) (hg : g < 256) : lN v ||| ((nI g &&& 127).toInt64 <<< (y.toInt64 &&& 63)) = lN (v + g % 128 * 2 ^ k) := by
  subst hy
  have h1 : nI g &&& 127 = nI (g % 128) := pk_andN (by omega) 7 (by decide +kernel)
  have hp : 2 ^ k ≤ 2 ^ 55 := Nat.pow_le_pow_right (by decide) (by omega)
  rw [h1, nI_l (by omega), wb_shl _ (by omega)]
  refine g_or' (k := k) rfl hv ?_
  have h2 : g % 128 * 2 ^ k ≤ 127 * 2 ^ 55 := Nat.mul_le_mul (by omega) hp
  omega
theorem u_bd {k v g : Nat} (hv : v < 2 ^ k) : v + g % 128 * 2 ^ k < 2 ^ (k + 7) := by
  rw [Nat.pow_add]
  have h2 : g % 128 * 2 ^ k ≤ 127 * 2 ^ k := Nat.mul_le_mul (by omega) (Nat.le_refl _)
  omega
theorem tP.mono {α β : Type} {r : PR α} {r' : PR β} {u : S4} (h : tP r u) (hr : ∀ f p, r = .inl (f, p) → r' = .inl (f, p)) : tP r' u := by
  obtain ⟨f, p, h1, h2, h3⟩ := h
  exact ⟨f, p, hr f p h1, h2, h3⟩
end PU
theorem pUg_ok {b : Nat → Nat} {lm : Nat} : ∀ (n sh a v w a' : Nat), sh + 7 * (n + 1) = 35 → v < 2 ^ sh → a ≤ lm → pUg b lm (n + 1) sh a v = .inr (w, a') → a' ≤ lm ∧ a < a' ∧ w < 4294967296 := by
  intro n
  induction n with
  | zero =>
    intro sh a v w a' hs hv ha h
    have hsh : sh = 28 := by omega
    subst hsh
    cases hx : pNext b lm a with
    | inl x => rw [pUg_T hx] at h; cases h
    | inr x =>
      obtain ⟨g, a1⟩ := x
      obtain ⟨q1, q2, -⟩ := pNext_ok hx
      by_cases c1 : 15 < g
      · rw [pUg_F hx c1] at h; cases h
      · rw [pUg_E hx (fun q => c1 q.2) (by omega)] at h
        cases h
        have : g % 128 * 2 ^ 28 ≤ 15 * 2 ^ 28 := Nat.mul_le_mul (by omega) (Nat.le_refl _)
        omega
  | succ n ih =>
    intro sh a v w a' hs hv ha h
    cases hx : pNext b lm a with
    | inl x => rw [pUg_T hx] at h; cases h
    | inr x =>
      obtain ⟨g, a1⟩ := x
      obtain ⟨q1, q2, -⟩ := pNext_ok hx
      have c1 : ¬ (n + 1 = 0 ∧ 15 < g) := by omega
      have hb := u_bd (g := g) hv
      by_cases c2 : g < 128
      · rw [pUg_E hx c1 c2] at h
        cases h
        have hp : 2 ^ (sh + 7) ≤ 2 ^ 28 := Nat.pow_le_pow_right (by decide) (by omega)
        omega
      · rw [pUg_C hx c1 c2] at h
        obtain ⟨r1, r2, r3⟩ := ih (sh + 7) a1 _ w a' (by omega) hb (by omega) h
        omega
theorem pU32_ok {b : Nat → Nat} {lm a w a' : Nat} (ha : a ≤ lm) (h : pU32 b lm a = .inr (w, a')) : a' ≤ lm ∧ a < a' ∧ w < 4294967296 := pUg_ok 4 0 a 0 w a' rfl (by decide) ha h
def pSkip (lm n a : Nat) : PR Unit := if lm - a < n then .inl (1, lm) else .inr ((), a + n)
def pEnter (b : Nat → Nat) (lm a : Nat) : PR Nat := match pU32 b lm a with
  | .inl x => .inl x
  | .inr (n, a') => if lm - a' < n then .inl (2, a) else .inr (a' + n, a')
def pLeave (lm a : Nat) : PR Unit := if a < lm then .inl (3, a) else .inr ((), a)
def pChoice (b : Nat → Nat) (lm m a : Nat) : PR Nat := match pNext b lm a with
  | .inl x => .inl x
  | .inr (g, a') => if m < g then .inl (7, a) else .inr (g, a')
def pNChoice (b : Nat → Nat) (lm m a : Nat) : PR Nat := match pU32 b lm a with
  | .inl x => .inl x
  | .inr (g, a') => if m < g then .inl (7, a) else .inr (g, a')
def tRef (g : Nat) : Bool := g == 112 || g == 111
def tVal (g : Nat) : Bool := (decide (124 ≤ g) && decide (g ≤ 127)) || g == 112 || g == 111
