theorem repLoc_ok {b : Nat → Nat} {lm : Nat} : ∀ (n : Nat) (acc : List Int64) (s a : Nat) (z : List Int64 × Nat) (a' : Nat), a ≤ lm → repLoc b lm n acc s a = .inr (z, a') → a' ≤ lm ∧ a ≤ a' := by
  intro n
  induction n with
  | zero => intro acc s a z a' ha h; rw [repLoc] at h; cases h; exact ⟨ha, Nat.le_refl _⟩
  | succ n ih =>
    intro acc s a z a' ha h
    rw [repLoc] at h
    obtain ⟨v, a1, q1, r1⟩ := bnd_ok h
    obtain ⟨g, a2, q2, r2⟩ := bnd_ok r1
    have := pU32_ok ha q1
    have := pType_ok q2
    have := ih _ _ _ _ _ (by omega) r2
    omega
theorem pLoc_ok {b : Nat → Nat} {lm nl a a' : Nat} {cols : Nat → Int64} {z : (Nat → Int64) × List Int64} (ha : a ≤ lm) (h : pLoc b lm nl cols a = .inr (z, a')) : a' ≤ lm ∧ a < a' := by
  obtain ⟨n, a1, q1, r1⟩ := bnd_ok h
  obtain ⟨y, a2, q2, r2⟩ := bnd_ok r1
  have := pU32_ok ha q1
  have := repLoc_ok _ _ _ _ _ _ (by omega) q2
  by_cases c : 4294967295 < y.2
  · rw [if_pos c] at r2; cases r2
  · rw [if_neg c] at r2; cases r2; omega
theorem repU_ok {b : Nat → Nat} {lm : Nat} : ∀ (n : Nat) (acc : List Int64) (a : Nat) (z : List Int64) (a' : Nat), a ≤ lm → repU b lm n acc a = .inr (z, a') → a' ≤ lm ∧ a ≤ a' := by
  intro n
  induction n with
  | zero => intro acc a z a' ha h; rw [repU] at h; cases h; exact ⟨ha, Nat.le_refl _⟩
  | succ n ih =>
    intro acc a z a' ha h
    rw [repU] at h
    obtain ⟨v, a1, q1, r1⟩ := bnd_ok h
    have := pU32_ok ha q1
    have := ih _ _ _ _ (by omega) r1
    omega
theorem repX_ok {b : Nat → Nat} {lm : Nat} {dc : Bool} : ∀ (n : Nat) (acc : List Int64) (a : Nat) (z : List Int64) (a' : Nat), a ≤ lm → repX b lm dc n acc a = .inr (z, a') → a' ≤ lm ∧ a ≤ a' := by
  intro n
  induction n with
  | zero => intro acc a z a' ha h; rw [repX] at h; cases h; exact ⟨ha, Nat.le_refl _⟩
  | succ n ih =>
    intro acc a z a' ha h
    rw [repX] at h
    obtain ⟨v, a1, q1, r1⟩ := bnd_ok h
    have := pExpr_ok ha q1
    have := ih _ _ _ _ (by omega) r1
    omega
theorem pSkip_ok3 {lm n a a' : Nat} (ha : a ≤ lm) (h : pSkip lm n a = .inr ((), a')) : a' ≤ lm ∧ a ≤ a' := by
  unfold pSkip at h
  by_cases c : lm - a < n
  · rw [if_pos c] at h; cases h
  · rw [if_neg c] at h; cases h; omega
theorem rep_ok2 {α : Type} {f : Nat → PR α} {lm : Nat} (hf : ∀ a v a', a ≤ lm → f a = .inr (v, a') → a' ≤ lm ∧ a ≤ a') : ∀ (n a : Nat) (z : Unit) (a' : Nat), a ≤ lm → rep f n a = .inr (z, a') → a' ≤ lm ∧ a ≤ a' := by
  intro n
  induction n with
  | zero => intro a z a' ha h; rw [rep] at h; cases h; exact ⟨ha, Nat.le_refl _⟩
  | succ n ih =>
    intro a z a' ha h
    rw [rep] at h
    obtain ⟨v, a1, q1, r1⟩ := bnd_ok h
    have := hf _ _ _ ha q1
    have := ih _ _ _ (by omega) r1
    omega
theorem pTab_ok {b : Nat → Nat} {lm a a' : Nat} {cols z : Nat → Int64} (h : pTab b lm cols a = .inr (z, a')) : a' ≤ lm ∧ a < a' := by
  obtain ⟨g, a1, q, r⟩ := bnd_ok h
  have := pType_ok q
  have := pLim_ok (by omega) r
  omega
theorem pMem_ok {b : Nat → Nat} {lm a a' : Nat} {cols z : Nat → Int64} (ha : a ≤ lm) (h : pMem b lm cols a = .inr (z, a')) : a' ≤ lm ∧ a < a' := pLim_ok ha h
theorem pFun_ok {b : Nat → Nat} {lm a a' : Nat} {z : Nat → Int64} (ha : a ≤ lm) (h : pFun b lm a = .inr (z, a')) : a' ≤ lm ∧ a < a' := by
  obtain ⟨g, a1, q, r⟩ := bnd_ok h
  have := pU32_ok ha q
  cases r
  omega
theorem pExp_ok {b : Nat → Nat} {lm a a' : Nat} {z : Nat → Int64} (ha : a ≤ lm) (h : pExp b lm a = .inr (z, a')) : a' ≤ lm ∧ a < a' := by
  obtain ⟨x, a1, q, r⟩ := bnd_ok h
  obtain ⟨g, a2, q2, r2⟩ := bnd_ok r
  obtain ⟨v, a3, q3, r3⟩ := bnd_ok r2
  have := pName_ok ha q
  have := pChoice_ok q2
  have := pU32_ok (by omega) q3
  cases r3
  omega
theorem pImp_ok {b : Nat → Nat} {lm a a' : Nat} {z : Nat → Int64} (ha : a ≤ lm) (h : pImp b lm a = .inr (z, a')) : a' ≤ lm ∧ a < a' := by
  obtain ⟨x, a1, q, r⟩ := bnd_ok h
  obtain ⟨y, a2, q2, r2⟩ := bnd_ok r
  obtain ⟨g, a3, q3, r3⟩ := bnd_ok r2
  have := pName_ok ha q
  have := pName_ok (by omega) q2
  have := pChoice_ok q3
  by_cases c0 : g = 0
  · rw [if_pos c0] at r3
    obtain ⟨v, a4, q4, r4⟩ := bnd_ok r3
    have := pU32_ok (by omega) q4
    cases r4
    omega
  rw [if_neg c0] at r3
  by_cases c1 : g = 1
  · rw [if_pos c1] at r3; have := pTab_ok r3; omega
  rw [if_neg c1] at r3
  by_cases c2 : g = 2
  · rw [if_pos c2] at r3; have := pMem_ok (by omega) r3; omega
  rw [if_neg c2] at r3
  have := pGlo_ok r3
  omega
theorem pOwn_ok {b : Nat → Nat} {lm a a' : Nat} {dc : Bool} {z : Nat → Int64} (h : pOwn b lm dc a = .inr (z, a')) : a' ≤ lm ∧ a < a' := by
  obtain ⟨x, a1, q, r⟩ := bnd_ok h
  obtain ⟨y, a2, q2, r2⟩ := bnd_ok r
  have := pGlo_ok q
  have := pExpr_ok (by omega) q2
  cases r2
  omega
theorem pFT_ok {b : Nat → Nat} {lm a a' : Nat} {z : Nat → Int64} (h : pFT b lm a = .inr (z, a')) : a' ≤ lm ∧ a < a' := by
  have ht : ∀ a v a', a ≤ lm → pType tVal b lm a = .inr (v, a') → a' ≤ lm ∧ a ≤ a' := fun a v a' _ h => by have := pType_ok h; omega
  obtain ⟨x, a0, q0, r0⟩ := bnd_ok h
  obtain ⟨n, a1, q, r⟩ := bnd_ok r0
  obtain ⟨y, a2, q2, r2⟩ := bnd_ok r
  obtain ⟨k, a3, q3, r3⟩ := bnd_ok r2
  obtain ⟨u, a4, q4, r4⟩ := bnd_ok r3
  have := pType_ok q0
  have := pU32_ok (by omega) q
  have := rep_ok2 ht _ _ _ _ (by omega) q2
  have := pU32_ok (by omega) q3
  have := rep_ok2 ht _ _ _ _ (by omega) q4
  cases r4
  omega
theorem pDatB_ok {b : Nat → Nat} {lm a a' : Nat} {cols z : Nat → Int64} (ha : a ≤ lm) (h : pDatB b lm cols a = .inr (z, a')) : a' ≤ lm ∧ a < a' := by
  obtain ⟨x, a1, q, r⟩ := bnd_ok h
  obtain ⟨y, a2, q2, r2⟩ := bnd_ok r
  have := pU32_ok ha q
  have := pSkip_ok3 (by omega) q2
  cases r2
  omega
theorem pDatE_ok {b : Nat → Nat} {lm a a' : Nat} {dc : Bool} {cols z : Nat → Int64} (ha : a ≤ lm) (h : pDatE b lm dc cols a = .inr (z, a')) : a' ≤ lm ∧ a < a' := by
  obtain ⟨x, a1, q, r⟩ := bnd_ok h
  have := pExpr_ok ha q
  have := pDatB_ok (by omega) r
  omega
theorem pDat_ok {b : Nat → Nat} {lm a a' : Nat} {dc : Bool} {z : Nat → Int64} (ha : a ≤ lm) (h : pDat b lm dc a = .inr (z, a')) : a' ≤ lm ∧ a < a' := by
  obtain ⟨m, a1, q, r⟩ := bnd_ok h
  have := pNChoice_ok ha q
  by_cases c1 : m = 1
  · rw [if_pos c1] at r; have := pDatB_ok (by omega) r; omega
  rw [if_neg c1] at r
  by_cases c2 : m = 2
  · rw [if_pos c2] at r
    obtain ⟨v, a2, q2, r2⟩ := bnd_ok r
    have := pU32_ok (by omega) q2
    have := pDatE_ok (by omega) r2
    omega
  rw [if_neg c2] at r
  have := pDatE_ok (by omega) r
  omega
theorem pCus_ok {b : Nat → Nat} {lm a a' : Nat} {z : Nat → Int64} (ha : a ≤ lm) (h : pCus b lm a = .inr (z, a')) : a' = lm ∧ a < a' := by
  obtain ⟨x, a1, q, r⟩ := bnd_ok h
  have := pName_ok ha q
  cases r
  omega
theorem pElE_ok {b : Nat → Nat} {lm a a' : Nat} {dc : Bool} {cols z : Nat → Int64} (ha : a ≤ lm) (h : pElE b lm dc cols a = .inr (z, a')) : a' ≤ lm ∧ a < a' := by
  obtain ⟨x, a1, q, r⟩ := bnd_ok h
  have := pExpr_ok ha q
  cases r
  omega
theorem pElA_ok {b : Nat → Nat} {lm m a a' : Nat} {dc : Bool} {z : Nat → Int64} (ha : a ≤ lm) (h : pElA b lm dc m a = .inr (z, a')) : a' ≤ lm ∧ a ≤ a' := by
  unfold pElA at h
  by_cases c1 : m % 2 = 1
  · rw [if_pos c1] at h; cases h; omega
  rw [if_neg c1] at h
  by_cases c2 : m = 2 ∨ m = 6
  · rw [if_pos c2] at h
    obtain ⟨v, a2, q2, r2⟩ := bnd_ok h
    have := pU32_ok (by omega) q2
    have := pElE_ok (by omega) r2
    omega
  rw [if_neg c2] at h
  have := pElE_ok (by omega) h
  omega
theorem pElI_ok {b : Nat → Nat} {lm nl m a a' : Nat} {dc : Bool} {cols : Nat → Int64} {z : (Nat → Int64) × List Int64} (ha : a ≤ lm) (h : pElI b lm dc nl m cols a = .inr (z, a')) : a' ≤ lm ∧ a < a' := by
  obtain ⟨n, a1, q, r⟩ := bnd_ok h
  obtain ⟨it, a2, q2, r2⟩ := bnd_ok r
  have := pU32_ok ha q
  cases r2
  by_cases c : 4 ≤ m
  · rw [if_pos c] at q2; have := repX_ok _ _ _ _ _ (by omega) q2; omega
  · rw [if_neg c] at q2; have := repU_ok _ _ _ _ _ (by omega) q2; omega
theorem pEl_ok {b : Nat → Nat} {lm nl a a' : Nat} {dc : Bool} {z : (Nat → Int64) × List Int64} (hb : ∀ i, b i < 256) (ha : a ≤ lm) (h : pEl b lm dc nl a = .inr (z, a')) : a' ≤ lm ∧ a < a' := by
  obtain ⟨m, a1, q, r⟩ := bnd_ok h
  obtain ⟨c, a2, q2, r2⟩ := bnd_ok r
  obtain ⟨t, a3, q3, r3⟩ := bnd_ok r2
  have := pNChoice_ok ha q
  have := pElA_ok (by omega) q2
  have := pElT_ok (by omega) hb q3
  have := pElI_ok (by omega) r3
  omega
theorem pBody_ok {b : Nat → Nat} {lm nl a a' : Nat} {dc : Bool} {z : (Nat → Int64) × List Int64} (ha : a ≤ lm) (h : pBody b lm dc nl a = .inr (z, a')) : a' ≤ lm ∧ a < a' := by
  obtain ⟨l2, a1, q, r⟩ := bnd_ok h
  obtain ⟨c, a2, q2, r2⟩ := bnd_ok r
  obtain ⟨t, a3, q3, r3⟩ := bnd_ok r2
  obtain ⟨t4, a4, q4, r4⟩ := bnd_ok r3
  have := pEnter_ok ha q
  have := pLoc_ok (by omega) q2
  have := pExpr_ok (by omega) q3
  have := pLeave_ok q4
  cases r4
  omega
