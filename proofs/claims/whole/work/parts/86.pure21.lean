/-! THE CLASS'S ANSWERS ARE THE RECORDS' -/
def CRL (u : MC) (LS : Nat → RL) (LL : List Int64) (sec : Nat) (sta dco : Int64) : Prop :=
  (∀ k, k < 11 → (u.1 k).2.1 = (LS k).length ∧ TR (wd k) (LS k) (u.1 k).2.2.2 ∧ (LS k).length ≤ 2000) ∧ u.2.1.2.1 = LL.length ∧ LT LL u.2.1.2.2.2 ∧ LL.length ≤ 2000 ∧ sec ≤ 2000 ∧ u.2.2 = (nI sec, sta, dco)
section ANS
variable {u : MC} {LS : Nat → RL} {LL : List Int64} {sec : Nat} {sta dco : Int64} (h : CRL u LS LL sec sta dco)
theorem qAt_s (h : CRL u LS LL sec sta dco) {kd c : Nat} (hkd : kd < 11) (hc : c < wd kd) (hw : wd kd ≤ 9) (k : Int32) : qAt u kd k (nI c) = sAt LS kd k c := by
  obtain ⟨h1, h2, h3⟩ := h.1 kd hkd
  unfold qAt tAt sAt
  rw [h1]
  by_cases q : k < 0 ∨ nI (LS kd).length ≤ k
  · rw [if_pos q, if_pos (q.elim Or.inl (fun r => Or.inr (Or.inl r)))]
  · rw [if_neg q, if_neg]
    · have k0 : ¬ k < 0 := fun r => q (Or.inl r)
      obtain ⟨j, hj, rfl⟩ := i32_nn k0
      have hjl : j < (LS kd).length := Nat.lt_of_not_le (fun r => q (Or.inr (nI_le r hj)))
      rw [nI_clamp hj, nI_clamp (by omega)]
      exact h2 j hjl c hc
    · rintro (r | r | r | r)
      · exact q (Or.inl r)
      · exact q (Or.inr r)
      · exact nI_pos (by omega) r
      · exact absurd ((nI_leI (by omega) (by omega)).mp r) (by omega)
theorem qAt_n (u : MC) (kd : Nat) (k : Int32) {c : Int32} (hc : c < 0) : qAt u kd k c = -1 := by
  unfold qAt tAt
  rw [if_pos (Or.inr (Or.inr (Or.inl hc)))]
theorem qStr_s {bs : Nat → Int32} {F L : Int64} {i : Int32} : qStr bs F L i = sStr (bv bs) F L i := by
  unfold qStr sStr
  rw [bv_and]
theorem qMany_s (h : CRL u LS LL sec sta dco) (x : Int32) : qMany u x = sMany LS sec sta dco x := by
  have e := h.2.2.2.2.2
  have hs := h.2.2.2.2.1
  unfold qMany sMany
  rw [e]
  show (if x = 11 then (nI sec).toInt64 else _) = _
  rw [nI_l (by omega)]
  by_cases q : 0 ≤ x ∧ x < 11
  · rw [if_pos q, if_pos q]
    obtain ⟨j, hj, rfl⟩ := i32_nn (Int32.not_lt.mpr q.1)
    have : j < 11 := (nI_ltI hj (by decide)).mp q.2
    rw [nI_clamp hj, (h.1 j this).1]
  · rw [if_neg q, if_neg q]
theorem qType_s (h : CRL u LS LL sec sta dco) {bs : Nat → Int32} (k side i : Int32) : qType u bs k side i = sType LS (bv bs) k side i := by
  unfold qType sType
  by_cases s0 : side = 0
  · subst s0
    rw [if_neg (by decide), if_pos rfl, qStr_s, show (2 : Int32) * 0 = nI 0 from rfl, show nI 0 + 1 = nI 1 from rfl, qAt_s h (by decide) (by decide) (by decide), qAt_s h (by decide) (by decide) (by decide)]
  by_cases s1 : side = 1
  · subst s1
    rw [if_neg (by decide), if_neg (by decide), if_pos rfl, qStr_s, show (2 : Int32) * 1 = nI 2 from rfl, show nI 2 + 1 = nI 3 from rfl, qAt_s h (by decide) (by decide) (by decide), qAt_s h (by decide) (by decide) (by decide)]
  rw [if_pos ⟨s0, s1⟩, if_neg s0, if_neg s1]
theorem qName_s (h : CRL u LS LL sec sta dco) {bs : Nat → Int32} (x k part i : Int32) : qName u bs x k part i = sName LS (bv bs) x k part i := by
  unfold qName sName
  by_cases p0 : part = 0
  · subst p0
    rw [if_pos rfl]
    by_cases x1 : x = 1
    · subst x1
      rw [if_pos (by decide), if_pos rfl, qStr_s, show (1 : Int32).toNatClampNeg = 1 from rfl, show qSeen 1 + 2 * 0 = nI 4 from rfl, show nI 4 + 1 = nI 5 from rfl, qAt_s h (by decide) (by decide) (by decide), qAt_s h (by decide) (by decide) (by decide)]
    by_cases x6 : x = 6
    · subst x6
      rw [if_pos (by decide), if_neg (by decide), if_pos rfl, qStr_s, show (6 : Int32).toNatClampNeg = 6 from rfl, show qSeen 6 + 2 * 0 = nI 2 from rfl, show nI 2 + 1 = nI 3 from rfl, qAt_s h (by decide) (by decide) (by decide), qAt_s h (by decide) (by decide) (by decide)]
    by_cases x10 : x = 10
    · subst x10
      rw [if_pos (by decide), if_neg (by decide), if_neg (by decide), if_pos rfl, qStr_s, show (10 : Int32).toNatClampNeg = 10 from rfl, show qSeen 10 + 2 * 0 = nI 7 from rfl, show nI 7 + 1 = nI 8 from rfl, qAt_s h (by decide) (by decide) (by decide), qAt_s h (by decide) (by decide) (by decide)]
    rw [if_neg x1, if_neg x6, if_neg x10, if_neg]
    rintro (⟨-, q | q | q⟩ | ⟨q, -⟩)
    · exact x1 q
    · exact x6 q
    · exact x10 q
    · exact absurd q (by decide)
  rw [if_neg p0]
  by_cases q : part = 1 ∧ x = 1
  · obtain ⟨rfl, rfl⟩ := q
    rw [if_pos (by decide), if_pos (by decide), qStr_s, show (1 : Int32).toNatClampNeg = 1 from rfl, show qSeen 1 + 2 * 1 = nI 6 from rfl, show nI 6 + 1 = nI 7 from rfl, qAt_s h (by decide) (by decide) (by decide), qAt_s h (by decide) (by decide) (by decide)]
  · rw [if_neg q, if_neg]
    rintro (⟨r, -⟩ | r)
    · exact p0 r
    · exact q r
/-- the lists' places lie within the lists -/
def LLok (LS : Nat → RL) (LL : List Int64) : Prop := (∀ j, j < (LS 7).length → ∃ nl M : Nat, ((LS 7).getD j (0, c_1)).2 7 = lN nl ∧ ((LS 7).getD j (0, c_1)).2 8 = lN M ∧ nl + M ≤ LL.length) ∧ ∀ j, j < (LS 8).length → ∃ nl M : Nat, ((LS 8).getD j (0, c_1)).2 6 = lN nl ∧ ((LS 8).getD j (0, c_1)).2 7 = lN M ∧ nl + M ≤ LL.length
theorem qList_s (h : CRL u LS LL sec sta dco) {kd cs j w : Nat} (hkd : kd = 7 ∧ cs = 7 ∨ kd = 8 ∧ cs = 6) (hj : j < (LS kd).length) (hok : ∃ nl M : Nat, ((LS kd).getD j (0, c_1)).2 cs = lN nl ∧ ((LS kd).getD j (0, c_1)).2 (cs + 1) = lN M ∧ nl + M ≤ LL.length) (hw : w < 2 ^ 31) : qList u kd (nI j) (nI w) = lst ((LS kd).getD j (0, c_1)).2 cs (cs + 1) LL w := by
  obtain ⟨nl, M, e1, e2, e3⟩ := hok
  have hL := h.2.2.2.1
  have hk11 : kd < 11 := by omega
  have hwd : cs + 1 < wd kd ∧ wd kd ≤ 9 := by rcases hkd with ⟨rfl, rfl⟩ | ⟨rfl, rfl⟩ <;> decide
  have hl2 : (LS kd).length ≤ 2000 := (h.1 kd hk11).2.2
  have hq : qSeen kd = nI cs := by rcases hkd with ⟨rfl, rfl⟩ | ⟨rfl, rfl⟩ <;> rfl
  have a1 : qAt u kd (nI j) (qSeen kd) = lN nl := by rw [hq, qAt_s h hk11 (by omega) hwd.2, sAt_ok hj (by omega), e1]
  have a2 : qAt u kd (nI j) (qSeen kd + 1) = lN M := by rw [hq, nI_1, qAt_s h hk11 hwd.1 hwd.2, sAt_ok hj (by omega), e2]
  unfold qList lst
  rw [if_neg (fun q => q (by omega)), a1, a2, e1, e2, nI_l hw]
  by_cases c : lN M ≤ lN w
  · rw [if_pos (Or.inr c), if_pos c]
  · have hwM : w < M := Nat.lt_of_not_le (fun r => c ((pk_lLE (by omega) (by omega)).mpr r))
    rw [if_neg (fun q => q.elim (fun r => nI_pos hw r) c), if_neg c, lN_i, nI_add, nI_clamp (by omega)]
    unfold tAt
    rw [h.2.1, if_neg, nI_clamp (by omega)]
    · show u.2.1.2.2.2 ((nl + w) * 1 + 0) = _
      rw [Nat.mul_one, Nat.add_zero]
      exact h.2.2.1 (nl + w) (by omega)
    · rintro (r | r | r | r)
      · exact nI_pos (by omega) r
      · exact absurd ((nI_leI (by omega) (by omega)).mp r) (by omega)
      · exact absurd r (by decide)
      · exact absurd r (by decide)
theorem qLook_s (h : CRL u LS LL sec sta dco) (hok : LLok LS LL) (x k c : Int32) : qLook u x k c = sLook LS LL x k c := by
  unfold qLook
  by_cases x0 : x < 0 ∨ 11 ≤ x
  · rw [if_pos x0, sLook_bx]
    rcases x0 with q | q
    · exact Or.inl (Int32.lt_trans q (by decide))
    · exact Or.inr (Int32.lt_of_lt_of_le (by decide) q)
  rw [if_neg x0]
  obtain ⟨kk, hkk, rfl⟩ := i32_nn (fun q => x0 (Or.inl q))
  have hk11 : kk < 11 := Nat.lt_of_not_le (fun q => x0 (Or.inr (nI_le (a := 11) q hkk)))
  rw [nI_clamp hkk]
  have hw9 : wd kk ≤ 9 := by rcases k11 hk11 with rfl | rfl | rfl | rfl | rfl | rfl | rfl | rfl | rfl | rfl | rfl <;> decide
  have hse : qSeen kk = nI (seenN kk) ∧ seenN kk ≤ wd kk ∧ seenN kk ≤ 7 := by rcases k11 hk11 with rfl | rfl | rfl | rfl | rfl | rfl | rfl | rfl | rfl | rfl | rfl <;> exact ⟨rfl, by decide, by decide⟩
  by_cases c0 : c < 0
  · rw [if_neg (fun q => absurd c0 (Int32.not_lt.mpr (Int32.le_trans (by decide) q))), sLook_bc c0]
    by_cases q : c < qSeen kk
    · rw [if_pos q, qAt_n u kk k c0]
    · rw [if_neg q]
  obtain ⟨w, hw, rfl⟩ := i32_nn c0
  by_cases kz : kk = 0
  · subst kz
    rw [sLook_bx (Or.inl (by decide))]
    by_cases c8 : 8 ≤ nI w
    · rw [if_pos c8]; unfold qList; rw [if_pos (by omega)]
    · rw [if_neg c8, if_neg]
      exact fun q => nI_pos hw q
  have hL : (LS kk).length ≤ 2000 := (h.1 kk hk11).2.2
  by_cases kb : k < 0 ∨ nI (LS kk).length ≤ k
  · rw [sLook_bk hkk kb]
    by_cases c8 : 8 ≤ nI w
    · rw [if_pos c8]
      have hw8 : 8 ≤ w := (nI_leI (by decide) hw).mp c8
      unfold qList
      by_cases k7 : ¬ (kk = 7 ∨ kk = 8)
      · rw [if_pos k7]
      · rw [if_neg k7, if_pos]
        refine Or.inr ?_
        have : qAt u kk k (qSeen kk + 1) = -1 := by
          have hs1 : seenN kk + 1 < wd kk := by
            rcases Decidable.of_not_not k7 with rfl | rfl <;> decide
          rw [hse.1, nI_1, qAt_s h hk11 hs1 hw9, sAt_bad kb]
        rw [this, show (8 : Int32) = nI 8 from rfl, pk_sub hw8, nI_l (by omega)]
        exact Int64.le_of_lt (Int64.lt_of_lt_of_le (show (-1 : Int64) < lN 0 by decide) ((pk_lLE (by omega) (by omega)).mpr (Nat.zero_le _)))
    · rw [if_neg c8]
      have hw8 : w < 8 := Nat.lt_of_not_le (fun q => c8 (nI_le (a := 8) q hw))
      by_cases q : nI w < qSeen kk
      · rw [if_pos q]
        rw [hse.1] at q
        have := (nI_ltI hw (by omega)).mp q
        rw [qAt_s h hk11 (by omega) hw9, sAt_bad kb]
      · rw [if_neg q]
  obtain ⟨j, hj, rfl⟩ := i32_nn (fun q => kb (Or.inl q))
  have hjl : j < (LS kk).length := Nat.lt_of_not_le (fun r => kb (Or.inr (nI_le r hj)))
  rw [sLook_ok ⟨by omega, by omega⟩ hjl (by omega) hw]
  unfold lkS
  by_cases c8 : 8 ≤ nI w
  · have hw8 : 8 ≤ w := (nI_leI (by decide) hw).mp c8
    rw [if_pos c8, if_pos hw8, show (8 : Int32) = nI 8 from rfl, pk_sub hw8]
    by_cases k7 : kk = 7
    · subst k7
      rw [if_pos rfl]
      exact qList_s h (Or.inl ⟨rfl, rfl⟩) hjl (hok.1 j hjl) (by omega)
    rw [if_neg k7]
    by_cases k8 : kk = 8
    · subst k8
      rw [if_pos rfl]
      exact qList_s h (Or.inr ⟨rfl, rfl⟩) hjl (hok.2 j hjl) (by omega)
    rw [if_neg k8]
    unfold qList
    rw [if_pos (by omega)]
  · have hw8 : ¬ 8 ≤ w := fun q => c8 (nI_le (a := 8) q hw)
    rw [if_neg c8, if_neg hw8, hse.1]
    by_cases q : w < seenN kk
    · rw [if_pos (nI_lt q (by omega)), if_pos q, qAt_s h hk11 (by omega) hw9, sAt_ok hjl (by omega)]
    · rw [if_neg (nI_nlt (Nat.le_of_not_lt q) hw), if_neg q]
end ANS
theorem LLok_of {b : Nat → Nat} {N : Nat} {T : TL} {X : XL} {LS : Nat → RL} {LL : List Int64} (hr : REL b N T X LS LL) (hN : N ≤ 2000) : LLok LS LL := by
  refine ⟨fun j hj => ?_, fun j hj => ?_⟩
  · obtain ⟨t, fr, o, -, -, -, lm, dc, a', h1, h2, p0, p1, p2, p3, p4, p5, p6, p7, p8, p9, p10⟩ := (hr.2.2 7 (by decide)).2 j hj
    obtain ⟨m, a1, c2, a2, t2, a3, n, a4, it, nl, x1, exs, q1, q2, q3, q4, q5, q6, q7, q8, q9, q10⟩ := p7 rfl
    refine ⟨nl, n, by rw [q6]; rfl, by rw [q6]; rfl, ?_⟩
    have e1 := pNChoice_ok h2 q1
    have e2 := pElA_ok (by omega) q2
    have hl : it.length = n := by
      by_cases c : 4 ≤ m
      · rw [if_pos c] at q5
        have e4 := (bnd_ok (show bnd (pU32 b lm a3) (fun n a4 => .inr (n, a4)) = .inr (n, a4) by rw [bnd_E q4]))
        have ha3 : a4 ≤ lm := by
          by_cases ca : a3 ≤ lm
          · exact (pU32_ok ca q4).1
          · exfalso
            have : pU32 b lm a3 = .inl (1, lm) := by
              show pUg b lm 5 0 a3 0 = _
              exact pUg_T (by rw [pNext, if_neg (by omega)])
            rw [this] at q4
            cases q4
        have q := repX_pref n [] a4 it a' ha3 q5
        simpa using q.1
      · rw [if_neg c] at q5
        have ha3 : a4 ≤ lm := by
          by_cases ca : a3 ≤ lm
          · exact (pU32_ok ca q4).1
          · exfalso
            have : pU32 b lm a3 = .inl (1, lm) := by
              show pUg b lm 5 0 a3 0 = _
              exact pUg_T (by rw [pNext, if_neg (by omega)])
            rw [this] at q4
            cases q4
        obtain ⟨⟨lx, g1, g2⟩, -, -⟩ := repU_pref n [] a4 it a' ha3 q5
        rw [g1, List.nil_append, g2]
    rw [← hl]
    exact q7.1
  · obtain ⟨t, fr, o, -, -, -, lm, dc, a', h1, h2, p0, p1, p2, p3, p4, p5, p6, p7, p8, p9, p10⟩ := (hr.2.2 8 (by decide)).2 j hj
    obtain ⟨l2, a1, n, a2, it, s, a3, a4, nl, q1, q2, q3, q4, q5, q6⟩ := p8 rfl
    have e1 := pEnter_ok h2 q1
    have e2 := pU32_ok (by omega) q2
    obtain ⟨⟨lx, g1, g2⟩, -, -⟩ := repLoc_pref n [] 0 a2 it s a3 (by omega) q3
    refine ⟨nl, 2 * n, by rw [q4]; rfl, by rw [q4]; rfl, ?_⟩
    have : it.length = 2 * n := by rw [g1, List.nil_append]; exact g2
    rw [← this]
    exact q5.1
