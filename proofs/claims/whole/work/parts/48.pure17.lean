/-- the byte of v at bit k -/
def bq (v : Int32) (k : Nat) : Nat := v.toBitVec.toNat / 2 ^ k % 256
theorem bq_lt (v : Int32) (k : Nat) : bq v k < 256 := Nat.mod_lt _ (by decide)
theorem b8_and (y : Int32) : y.toInt8.toInt32 &&& 255 = nI (y.toBitVec.toNat % 256) := by
  have h : y.toInt8 = (nI (y.toBitVec.toNat % 256)).toInt8 := by
    apply Int8.toBitVec_inj.mp
    rw [Int32.toBitVec_toInt8, Int32.toBitVec_toInt8, BitVec.signExtend_eq_setWidth_of_le _ (by decide), BitVec.signExtend_eq_setWidth_of_le _ (by decide)]
    apply BitVec.eq_of_toNat_eq
    rw [BitVec.toNat_setWidth, BitVec.toNat_setWidth]
    show _ = (BitVec.ofNat 32 _).toNat % 2 ^ 8
    rw [BitVec.toNat_ofNat]
    have := y.toBitVec.isLt
    omega
  rw [h]
  exact sc_k8 _ (Nat.mod_lt _ (by decide))
/-- what is put for a byte is read as it -/
theorem bq_put (x : Int32) (k : Nat) (y : Int32) (h : y.toBitVec.toNat = x.toBitVec.toNat / 2 ^ k) : vp_nar .byte y.toInt8.toInt32 &&& 255 = nI (bq x k) := by
  rw [pk_vb, b8_and, h]
  rfl
theorem bv_of {bs : Nat → Int32} {i n : Nat} (hn : n < 256) (h : bs i &&& 255 = nI n) : bv bs i = n := by
  unfold bv
  rw [h, nI_clamp (by omega)]
theorem bv_c {bs bs' : Nat → Int32} {i : Nat} (h : bs' i = bs i) : bv bs' i = bv bs i := by unfold bv; rw [h]
def q5 (x1 x2 x3 x4 x5 : Int32) (o : Nat) : Nat := bq ([x1, x2, x3, x4, x5].getD (o / 4) 0) (24 - 8 * (o % 4))
theorem i32_nn {x : Int32} (h : ¬ x < 0) : ∃ n, n < 2 ^ 31 ∧ x = nI n := by
  obtain ⟨n, hn, rfl⟩ := wb_of32 x
  refine ⟨n, ?_, rfl⟩
  apply Nat.lt_of_not_le
  intro q
  apply h
  rw [Int32.lt_iff_toInt_lt]
  have e : (nI n).toInt = (n : Int).bmod (2 ^ 32) := by
    rw [show nI n = Int32.ofNat n from rfl, Int32.toInt_ofNat']
  rw [e]
  show (n : Int).bmod (2 ^ 32) < 0
  simp only [Int.bmod]
  have e2 : (n : Int) % ((2 ^ 32 : Nat) : Int) = n := Int.emod_eq_of_lt (by omega) (by omega)
  rw [e2, if_neg (by omega)]
  omega
theorem i11 {x : Int32} (h0 : ¬ x < 0) (h1 : ¬ 11 ≤ x) : x = 0 ∨ x = 1 ∨ x = 2 ∨ x = 3 ∨ x = 4 ∨ x = 5 ∨ x = 6 ∨ x = 7 ∨ x = 8 ∨ x = 9 ∨ x = 10 := by
  obtain ⟨n, hn, rfl⟩ := i32_nn h0
  have h : n < 11 := Nat.lt_of_not_le (fun q => h1 (nI_le (a := 11) q hn))
  rcases k11 h with rfl | rfl | rfl | rfl | rfl | rfl | rfl | rfl | rfl | rfl | rfl
  · exact Or.inl rfl
  · exact Or.inr (Or.inl rfl)
  · exact Or.inr (Or.inr (Or.inl rfl))
  · exact Or.inr (Or.inr (Or.inr (Or.inl rfl)))
  · exact Or.inr (Or.inr (Or.inr (Or.inr (Or.inl rfl))))
  · exact Or.inr (Or.inr (Or.inr (Or.inr (Or.inr (Or.inl rfl)))))
  · exact Or.inr (Or.inr (Or.inr (Or.inr (Or.inr (Or.inr (Or.inl rfl))))))
  · exact Or.inr (Or.inr (Or.inr (Or.inr (Or.inr (Or.inr (Or.inr (Or.inl rfl)))))))
  · exact Or.inr (Or.inr (Or.inr (Or.inr (Or.inr (Or.inr (Or.inr (Or.inr (Or.inl rfl))))))))
  · exact Or.inr (Or.inr (Or.inr (Or.inr (Or.inr (Or.inr (Or.inr (Or.inr (Or.inr (Or.inl rfl)))))))))
  · exact Or.inr (Or.inr (Or.inr (Or.inr (Or.inr (Or.inr (Or.inr (Or.inr (Or.inr (Or.inr rfl)))))))))
/-- the answers of the class, of a Contents -/
def qMany (u : MC) (x : Int32) : Int64 := if x = 11 then u.2.2.1.toInt64 else if x = 12 then u.2.2.2.1 else if x = 13 then u.2.2.2.2 else if 0 ≤ x ∧ x < 11 then lN (u.1 x.toNatClampNeg).2.1 else -1
def qAt (u : MC) (kd : Nat) (k c : Int32) : Int64 := tAt (wd kd) (u.1 kd).2.1 (u.1 kd).2.2.2 k c
def qStr (bs : Nat → Int32) (F L : Int64) (i : Int32) : Int32 := if i = -1 then L.toInt32 else if i < 0 ∨ L ≤ i.toInt64 ∨ F < 0 ∨ 2000 ≤ F + i.toInt64 then -1 else bs (F.toInt32 + i).toNatClampNeg &&& 255
def qSeen (kd : Nat) : Int32 := c_seen.getD kd 0
def qList (u : MC) (kd : Nat) (k i : Int32) : Int64 := if ¬ (kd = 7 ∨ kd = 8) then -1 else if i < 0 ∨ qAt u kd k (qSeen kd + 1) ≤ i.toInt64 then -1 else tAt 1 u.2.1.2.1 u.2.1.2.2.2 ((qAt u kd k (qSeen kd)).toInt32 + i) 0
def qLook (u : MC) (x k c : Int32) : Int64 := if x < 0 ∨ 11 ≤ x then -1 else if 8 ≤ c then qList u x.toNatClampNeg k (c - 8) else if c < qSeen x.toNatClampNeg then qAt u x.toNatClampNeg k c else -1
def qType (u : MC) (bs : Nat → Int32) (k side i : Int32) : Int32 := if ¬ side = 0 ∧ ¬ side = 1 then -1 else qStr bs (qAt u 0 k (2 * side)) (qAt u 0 k (2 * side + 1)) i
def qName (u : MC) (bs : Nat → Int32) (x k part i : Int32) : Int32 := if part = 0 ∧ (x = 1 ∨ x = 6 ∨ x = 10) ∨ part = 1 ∧ x = 1 then qStr bs (qAt u x.toNatClampNeg k (qSeen x.toNatClampNeg + 2 * part)) (qAt u x.toNatClampNeg k (qSeen x.toNatClampNeg + 2 * part + 1)) i else -1
def okF (F : Int64) : Prop := F = -1 ∨ ∃ x : Nat, x ≤ 2000 ∧ F = lN x
theorem upd_s {f : Nat → Int32} {i : Nat} {x : Int32} : upd f i x i = x := if_pos rfl
theorem upd_n {f : Nat → Int32} {i j : Nat} {x : Int32} (h : j ≠ i) : upd f i x j = f j := if_neg h
def okU (u : MC) : Prop := (∀ k, okF (qAt u 0 k 0)) ∧ (∀ k, okF (qAt u 0 k 2)) ∧ (∀ k, okF (qAt u 1 k 4)) ∧ (∀ k, okF (qAt u 1 k 6)) ∧ (∀ k, okF (qAt u 6 k 2)) ∧ ∀ k, okF (qAt u 10 k 7)
