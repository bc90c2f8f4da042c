theorem pChoice_T {b : Nat → Nat} {lm m a : Nat} {x : Nat × Nat} (h : pNext b lm a = .inl x) : pChoice b lm m a = .inl x := by rw [pChoice, h]
theorem pChoice_F {b : Nat → Nat} {lm m a g a' : Nat} (h : pNext b lm a = .inr (g, a')) (hm : m < g) : pChoice b lm m a = .inl (7, a) := by rw [pChoice, h]; exact if_pos hm
theorem pChoice_E {b : Nat → Nat} {lm m a g a' : Nat} (h : pNext b lm a = .inr (g, a')) (hm : ¬ m < g) : pChoice b lm m a = .inr (g, a') := by rw [pChoice, h]; exact if_neg hm
theorem pNChoice_T {b : Nat → Nat} {lm m a : Nat} {x : Nat × Nat} (h : pU32 b lm a = .inl x) : pNChoice b lm m a = .inl x := by rw [pNChoice, h]
theorem pNChoice_F {b : Nat → Nat} {lm m a g a' : Nat} (h : pU32 b lm a = .inr (g, a')) (hm : m < g) : pNChoice b lm m a = .inl (7, a) := by rw [pNChoice, h]; exact if_pos hm
theorem pNChoice_E {b : Nat → Nat} {lm m a g a' : Nat} (h : pU32 b lm a = .inr (g, a')) (hm : ¬ m < g) : pNChoice b lm m a = .inr (g, a') := by rw [pNChoice, h]; exact if_neg hm
theorem pEnter_T {b : Nat → Nat} {lm a : Nat} {x : Nat × Nat} (h : pU32 b lm a = .inl x) : pEnter b lm a = .inl x := by rw [pEnter, h]
theorem pEnter_F {b : Nat → Nat} {lm a g a' : Nat} (h : pU32 b lm a = .inr (g, a')) (hm : lm - a' < g) : pEnter b lm a = .inl (2, a) := by rw [pEnter, h]; exact if_pos hm
theorem pEnter_E {b : Nat → Nat} {lm a g a' : Nat} (h : pU32 b lm a = .inr (g, a')) (hm : ¬ lm - a' < g) : pEnter b lm a = .inr (a' + g, a') := by rw [pEnter, h]; exact if_neg hm
/-- one byte that is a type of a kind -/
def pType (t : Nat → Bool) (b : Nat → Nat) (lm a : Nat) : PR Nat := match pNext b lm a with
  | .inl x => .inl x
  | .inr (g, a') => if t g = true then .inr (g, a') else .inl (8, a)
theorem pType_T {t : Nat → Bool} {b : Nat → Nat} {lm a : Nat} {x : Nat × Nat} (h : pNext b lm a = .inl x) : pType t b lm a = .inl x := by rw [pType, h]
theorem pType_F {t : Nat → Bool} {b : Nat → Nat} {lm a g a' : Nat} (h : pNext b lm a = .inr (g, a')) (hm : ¬ t g = true) : pType t b lm a = .inl (8, a) := by rw [pType, h]; exact if_neg hm
theorem pType_E {t : Nat → Bool} {b : Nat → Nat} {lm a g a' : Nat} (h : pNext b lm a = .inr (g, a')) (hm : t g = true) : pType t b lm a = .inr (g, a') := by rw [pType, h]; exact if_pos hm
def tFun (g : Nat) : Bool := g == 96
def zI (b : Bool) : Int32 := if b then 1 else 0
theorem zI_t {b : Bool} (h : b = true) : (1 : Int32) = zI b := by rw [h]; rfl
theorem zI_f {b : Bool} (h : b = false) : (0 : Int32) = zI b := by rw [h]; rfl
theorem zI_nar (b : Bool) : narrow .boolean (.int (zI b)) = .int (zI b) := by cases b <;> rfl
theorem zI_0 {b : Bool} : zI b = 0 ↔ b = false := by cases b <;> simp [zI]
theorem nI_lit_eq {g k : Nat} (hg : g < 2 ^ 31) (hk : k < 2 ^ 31) (h : nI g = nI k) : g = k := (nI_eq hg hk).mp h
/-- a signed number: n groups may come, 'left' bits are left: 1 where it is below 0 -/
def sTop (left g : Nat) : Bool := g / 2 ^ (left - 1) == 0 || g / 2 ^ (left - 1) == 127 / 2 ^ (left - 1)
def pSg (b : Nat → Nat) (lm : Nat) : Nat → Nat → Nat → PR Nat
  | 0, _, a => .inr (0, a)
  | n + 1, left, a => match pNext b lm a with
    | .inl x => .inl x
    | .inr (g, a') => if left ≤ 7 ∧ sTop left g = false then .inl (4, a) else if g < 128 then .inr (g / 64 % 2, a') else pSg b lm n (left - 7) a'
section PS
variable {b : Nat → Nat} {lm n left a g a' : Nat} {x : Nat × Nat}
theorem pSg_T (h : pNext b lm a = .inl x) : pSg b lm (n + 1) left a = .inl x := by rw [pSg, h]
theorem pSg_F (h : pNext b lm a = .inr (g, a')) (h7 : left ≤ 7) (hg : sTop left g = false) : pSg b lm (n + 1) left a = .inl (4, a) := by rw [pSg, h]; exact if_pos ⟨h7, hg⟩
theorem pSg_E (h : pNext b lm a = .inr (g, a')) (ho : ¬ (left ≤ 7 ∧ sTop left g = false)) (hg : g < 128) : pSg b lm (n + 1) left a = .inr (g / 64 % 2, a') := by rw [pSg, h]; exact (if_neg ho).trans (if_pos hg)
theorem pSg_C (h : pNext b lm a = .inr (g, a')) (ho : ¬ (left ≤ 7 ∧ sTop left g = false)) (hg : ¬ g < 128) : pSg b lm (n + 1) left a = pSg b lm n (left - 7) a' := by rw [pSg, h]; exact (if_neg ho).trans (if_neg hg)
end PS
def pS32 (b : Nat → Nat) (lm a : Nat) : PR Nat := pSg b lm 5 32 a
def pS33 (b : Nat → Nat) (lm a : Nat) : PR Nat := pSg b lm 5 33 a
def pS64 (b : Nat → Nat) (lm a : Nat) : PR Nat := pSg b lm 10 64 a
theorem and64 {g : Nat} (h : g < 256) : nI g &&& 64 = nI (64 * (g / 64 % 2)) := by
  have : ∀ g, g < 256 → nI g &&& 64 = nI (64 * (g / 64 % 2)) := by decide +kernel
  exact this g h
theorem sTop_big : ∀ k, k < 7 → ∀ g, g < 256 → 128 ≤ g → sTop (k + 1) g = false := by decide +kernel
