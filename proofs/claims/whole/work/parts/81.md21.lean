def sAt (LS : Nat → RL) (kd : Nat) (k : Int32) (c : Nat) : Int64 := if k < 0 ∨ nI (LS kd).length ≤ k then -1 else ((LS kd).getD k.toNatClampNeg (0, c_1)).2 c
def sStr (b : Nat → Nat) (F L : Int64) (i : Int32) : Int32 := if i = -1 then L.toInt32 else if i < 0 ∨ L ≤ i.toInt64 ∨ F < 0 ∨ 2000 ≤ F + i.toInt64 then -1 else nI (b (F.toInt32 + i).toNatClampNeg)
def sType (LS : Nat → RL) (b : Nat → Nat) (k side i : Int32) : Int32 := if side = 0 then sStr b (sAt LS 0 k 0) (sAt LS 0 k 1) i else if side = 1 then sStr b (sAt LS 0 k 2) (sAt LS 0 k 3) i else -1
def sName (LS : Nat → RL) (b : Nat → Nat) (x k part i : Int32) : Int32 := if part = 0 then (if x = 1 then sStr b (sAt LS 1 k 4) (sAt LS 1 k 5) i else if x = 6 then sStr b (sAt LS 6 k 2) (sAt LS 6 k 3) i else if x = 10 then sStr b (sAt LS 10 k 7) (sAt LS 10 k 8) i else -1) else if part = 1 ∧ x = 1 then sStr b (sAt LS 1 k 6) (sAt LS 1 k 7) i else -1
def sMany (LS : Nat → RL) (sec : Nat) (sta dco : Int64) (x : Int32) : Int64 := if x = 11 then lN sec else if x = 12 then sta else if x = 13 then dco else if 0 ≤ x ∧ x < 11 then lN (LS x.toNatClampNeg).length else -1
theorem sAt_bad {LS : Nat → RL} {kd c : Nat} {k : Int32} (h : k < 0 ∨ nI (LS kd).length ≤ k) : sAt LS kd k c = -1 := if_pos h
theorem sAt_ok {LS : Nat → RL} {kd c j : Nat} (hj : j < (LS kd).length) (hL : (LS kd).length < 2 ^ 31) : sAt LS kd (nI j) c = ((LS kd).getD j (0, c_1)).2 c := by
  rw [sAt, if_neg, nI_clamp (by omega)]
  rintro (q | q)
  · exact nI_pos (by omega) q
  · exact absurd ((nI_leI (by omega) (by omega)).mp q) (by omega)
theorem sStr_bad {b : Nat → Nat} {i : Int32} : sStr b (-1) (-1) i = -1 := by
  unfold sStr
  by_cases h : i = -1
  · rw [if_pos h]; decide
  · rw [if_neg h, if_pos (Or.inr (Or.inr (Or.inl (by decide))))]
theorem sStr_m {b : Nat → Nat} {f n : Nat} : sStr b (lN f) (lN n) (-1) = nI n := by rw [sStr, if_pos rfl, lN_i]
theorem sStr_n {b : Nat → Nat} {f n : Nat} {i : Int32} (h1 : ¬ i = -1) (h : i < 0 ∨ nI n ≤ i) (hn : n < 2 ^ 31) : sStr b (lN f) (lN n) i = -1 := by
  rw [sStr, if_neg h1, if_pos]
  rcases h with h | h
  · exact Or.inl h
  · by_cases c : i < 0
    · exact Or.inl c
    · obtain ⟨j, hj, rfl⟩ := i32_nn c
      refine Or.inr (Or.inl ?_)
      rw [nI_l hj]
      exact (pk_lLE (by omega) (by omega)).mpr ((nI_leI hn hj).mp h)
theorem sStr_j {b : Nat → Nat} {f n j : Nat} (hj : j < n) (hn : n < 2 ^ 31) (hf : f + n ≤ 2000) : sStr b (lN f) (lN n) (nI j) = nI (b (f + j)) := by
  have h0 : ¬ nI j = -1 := fun q => by have := nI_pos (n := j) (by omega); rw [q] at this; exact this (by decide)
  rw [sStr, if_neg h0, nI_l (by omega), lN_add, lN_i, nI_add, nI_clamp (by omega), if_neg]
  rintro (q | q | q | q)
  · exact nI_pos (by omega) q
  · exact absurd ((pk_lLE (by omega) (by omega)).mp q) (by omega)
  · exact absurd ((sg_lt (by omega)).mp q) (by omega)
  · rw [show (2000 : Int64) = lN 2000 from rfl] at q
    exact absurd ((pk_lLE (by omega) (by omega)).mp q) (by omega)
theorem rep1 {t : Nat → Bool} {b : Nat → Nat} {lm : Nat} : ∀ (n a a' : Nat), a ≤ lm → rep (pType t b lm) n a = .inr ((), a') → a' = a + n ∧ a' ≤ lm := by
  intro n
  induction n with
  | zero => intro a a' ha h; cases h; exact ⟨rfl, ha⟩
  | succ n ih =>
    intro a a' ha h
    rw [rep] at h
    obtain ⟨v, a1, q1, r1⟩ := bnd_ok h
    obtain ⟨e1, e2, -⟩ := pType_inv q1
    obtain ⟨e3, e4⟩ := ih _ _ (by omega) r1
    omega
theorem pFT_inv {b : Nat → Nat} {lm a a' : Nat} {z : Nat → Int64} (h : pFT b lm a = .inr (z, a')) : ∃ n a1 k a3 : Nat, a < lm ∧ pU32 b lm (a + 1) = .inr (n, a1) ∧ pU32 b lm (a1 + n) = .inr (k, a3) ∧ a1 + n ≤ lm ∧ a3 + k ≤ lm ∧ z = vp_updL (vp_updL (vp_updL (vp_updL c_1 0 (lN a1)) 1 (lN n)) 2 (lN a3)) 3 (lN k) := by
  obtain ⟨x0, a0, q0, r0⟩ := bnd_ok h
  obtain ⟨n, a1, q1, r1⟩ := bnd_ok r0
  obtain ⟨x2, a2, q2, r2⟩ := bnd_ok r1
  obtain ⟨k, a3, q3, r3⟩ := bnd_ok r2
  obtain ⟨x4, a4, q4, r4⟩ := bnd_ok r3
  obtain ⟨e1, e2, -⟩ := pType_inv q0
  subst e2
  have e3 := pU32_ok (by omega) q1
  obtain ⟨e4, e5⟩ := rep1 n a1 a2 (by omega) q2
  subst e4
  have e6 := pU32_ok (by omega) q3
  obtain ⟨e7, e8⟩ := rep1 k a3 a4 (by omega) q4
  cases r4
  exact ⟨n, a1, k, a3, e1, q1, q3, by omega, by omega, rfl⟩
set_option maxHeartbeats 4000000 in
set_option maxRecDepth 100000 in
/-- type(k, side, i) -/
theorem c_Md_type (l : Launch) (hl9 : l.stackTraces = false) (D : va_G) (cA : Nat → ClassId) (ad : Nat → Nat) (sz : Nat) (m0 : Nat) (g : Nat → Nat) (K : MK) (A0 : A3) (e np : Int32) (B : MB) (yb : Nat → Int32) (b : Nat → Nat) (N : Nat) (hN : N ≤ 2000) (hybN : ∀ i, i < N → yb i = nI (b i)) (hb9 : ∀ i, b i < 256) (T : TL) (X : XL) (LS : Nat → RL) (LL : List Int64) (hrel : REL b N T X LS LL) (hT : T.length ≤ 2000) (hX : X.length ≤ 2000) (hLL : LL.length < 2 ^ 31) (kd fr to re ow fi be : Nat → Int32) (hTH : TH kd fr to re T) (hXH : XH ow fi be X) (k sd i : Int32) :
    cM l y_Md_type (.code y_Md_type b_Md_type 6 (some .int) :: wAll) ({ frames := 1, cells := 0, slots := 0, locals := 24 }) D cA ad [.ref m0, .int k, .int sd, .int i] [(m0, .inr (6, mF g (K.1, K.2.1, K.2.2.1, nI T.length, nI X.length, K.2.2.2.2.2.1, K.2.2.2.2.2.2.1, K.2.2.2.2.2.2.2.1, K.2.2.2.2.2.2.2.2) A0 e np B)), ((g 30), .inl (cA 3, 2000, .inl yb)), ((g 34), .inl (cA 3, 2000, .inl kd)), ((g 35), .inl (cA 3, 2000, .inl fr)), ((g 36), .inl (cA 3, 2000, .inl to)), ((g 37), .inl (cA 3, 2000, .inl re)), ((g 38), .inl (cA 3, 2000, .inl ow)), ((g 39), .inl (cA 3, 2000, .inl fi)), ((g 40), .inl (cA 3, 2000, .inl be))] sz (fun v (_ : Int32) => v = some (.int (sType LS b k sd i))) (fun _ => False) (fun (q : Int32) => [(m0, .inr (6, mF g (K.1, K.2.1, K.2.2.1, nI T.length, nI X.length, K.2.2.2.2.2.1, K.2.2.2.2.2.2.1, K.2.2.2.2.2.2.2.1, q) A0 e np B)), ((g 30), .inl (cA 3, 2000, .inl yb)), ((g 34), .inl (cA 3, 2000, .inl kd)), ((g 35), .inl (cA 3, 2000, .inl fr)), ((g 36), .inl (cA 3, 2000, .inl to)), ((g 37), .inl (cA 3, 2000, .inl re)), ((g 38), .inl (cA 3, 2000, .inl ow)), ((g 39), .inl (cA 3, 2000, .inl fi)), ((g 40), .inl (cA 3, 2000, .inl be))]) (fun _ => (0, 0)) := by
  refine cM.ofW (cc := b_Md_type) (maxL := 6) (ret := (some .int)) (by decide) (Nat.le_of_ble_eq_true rfl) ?_
  intro pg ev s m bw meth cdx A ls hF hsz hA hE hP hD hl
  obtain ⟨⟨hx, hb, hml, hown, hts⟩, hr, hno, hlocks, hin⟩ := hF
  subst hsz
  have hown : s.vm.findClass "ModuleBytesModel" = some m.cls := hown
  have hS : va_S A s.heap s.heap [] := va_S.rf
  have hl : lv_has ls 6 [(0, .ref m0), (1, .int k), (2, .int sd), (3, .int i)] := hl
  have hP : va_P D cls [(m0, .inr (6, mF g (K.1, K.2.1, K.2.2.1, nI T.length, nI X.length, K.2.2.2.2.2.1, K.2.2.2.2.2.2.1, K.2.2.2.2.2.2.2.1, K.2.2.2.2.2.2.2.2) A0 e np B)), ((g 30), .inl (cA 3, 2000, .inl yb)), ((g 34), .inl (cA 3, 2000, .inl kd)), ((g 35), .inl (cA 3, 2000, .inl fr)), ((g 36), .inl (cA 3, 2000, .inl to)), ((g 37), .inl (cA 3, 2000, .inl re)), ((g 38), .inl (cA 3, 2000, .inl ow)), ((g 39), .inl (cA 3, 2000, .inl fi)), ((g 40), .inl (cA 3, 2000, .inl be))] s.heap := hP
  have hD : va_D A [(m0, .inr (6, mF g (K.1, K.2.1, K.2.2.1, nI T.length, nI X.length, K.2.2.2.2.2.1, K.2.2.2.2.2.2.1, K.2.2.2.2.2.2.2.1, K.2.2.2.2.2.2.2.2) A0 e np B)), ((g 30), .inl (cA 3, 2000, .inl yb)), ((g 34), .inl (cA 3, 2000, .inl kd)), ((g 35), .inl (cA 3, 2000, .inl fr)), ((g 36), .inl (cA 3, 2000, .inl to)), ((g 37), .inl (cA 3, 2000, .inl re)), ((g 38), .inl (cA 3, 2000, .inl ow)), ((g 39), .inl (cA 3, 2000, .inl fi)), ((g 40), .inl (cA 3, 2000, .inl be))] := hD
  have hXf : ∀ x ∈ X, x.1 < 2000 ∧ x.2.1 ≤ 2000 ∧ ∃ z : Nat, x.2.2 = some z ∧ z ≤ 2000 := fun x hx => ⟨by have := (hrel.1 x hx).1; omega, (hrel.1 x hx).2⟩
  have h11 := hrel.2.1
  have hLk : ∀ k, k < 11 → (LS k).length ≤ 2000 := fun k hk => by rw [← (hrel.2.2 k hk).1, ← cK_of hk hTH h11]; have := cK_le kd (nI k) T.length; omega
  refine lv_aload_n hx hb d_Md_type_0 rfl (lv_at hl 0 rfl) ?_
  refine lv_iconst (v := 0) hx hb d_Md_type_1 (by decide) ?_
  refine lv_iload_n hx hb d_Md_type_2 rfl (lv_at hl 1 rfl) ?_
  refine cV (As := [.int 0, .int k]) (rest := []) (n := 2) (wc := [(m0, .inr (6, mF g (K.1, K.2.1, K.2.2.1, nI T.length, nI X.length, K.2.2.2.2.2.1, K.2.2.2.2.2.2.1, K.2.2.2.2.2.2.2.1, K.2.2.2.2.2.2.2.2) A0 e np B)), ((g 34), .inl (cA 3, 2000, .inl kd))]) (wr := [((g 30), .inl (cA 3, 2000, .inl yb)), ((g 35), .inl (cA 3, 2000, .inl fr)), ((g 36), .inl (cA 3, 2000, .inl to)), ((g 37), .inl (cA 3, 2000, .inl re)), ((g 38), .inl (cA 3, 2000, .inl ow)), ((g 39), .inl (cA 3, 2000, .inl fi)), ((g 40), .inl (cA 3, 2000, .inl be))]) ⟨hx, hb, hml, hown, hts⟩ hno hlocks hl.1 (c_Md_thingOf l hl9 D cA ad s.heap.size m0 g (K.1, K.2.1, K.2.2.1, nI T.length, nI X.length, K.2.2.2.2.2.1, K.2.2.2.2.2.2.1, K.2.2.2.2.2.2.2.1, K.2.2.2.2.2.2.2.2) A0 e np B kd fr to re T hTH h11 hT 0 (by decide) k) iw4_128 iw4_130 sel_Md_thingOf iw1_7 iw4_131 (by decide +kernel) rfl ⟨Nat.le_of_ble_eq_true rfl, Nat.le_of_ble_eq_true rfl⟩ ⟨Nat.le_of_ble_eq_true rfl, Nat.le_of_ble_eq_true rfl⟩ rfl (Nat.le_of_ble_eq_true rfl) d_Md_type_3 hE hP hD hS hA [0, 2] [1, 3, 4, 5, 6, 7, 8] rfl rfl rfl rfl (by decide) (ci := 6) rfl rfl 0 rfl (fun _ h => h.elim) (fun v_3 u_3 H locs hp_3 hP hD hS => ?_)
  rcases hp_3 with ⟨rfl, hbad⟩ | ⟨j, t, hj31, ej, hjt, htl, rfl⟩
  · have hbad : k < 0 ∨ nI (LS 0).length ≤ k := hbad.elim Or.inl (fun q => by obtain ⟨j, hj, rfl, q⟩ := q; exact Or.inr (nI_le (by rw [← (hrel.2.2 0 (by decide)).1]; exact q) hj))
    have hP : va_P D cls [(m0, .inr (6, mF g (K.1, K.2.1, K.2.2.1, nI T.length, nI X.length, K.2.2.2.2.2.1, K.2.2.2.2.2.2.1, K.2.2.2.2.2.2.2.1, K.2.2.2.2.2.2.2.2) A0 e np B)), ((g 30), .inl (cA 3, 2000, .inl yb)), ((g 34), .inl (cA 3, 2000, .inl kd)), ((g 35), .inl (cA 3, 2000, .inl fr)), ((g 36), .inl (cA 3, 2000, .inl to)), ((g 37), .inl (cA 3, 2000, .inl re)), ((g 38), .inl (cA 3, 2000, .inl ow)), ((g 39), .inl (cA 3, 2000, .inl fi)), ((g 40), .inl (cA 3, 2000, .inl be))] H := hP.sub [7, 0, 8, 1, 2, 3, 4, 5, 6] rfl
    have hD : va_D A [(m0, .inr (6, mF g (K.1, K.2.1, K.2.2.1, nI T.length, nI X.length, K.2.2.2.2.2.1, K.2.2.2.2.2.2.1, K.2.2.2.2.2.2.2.1, K.2.2.2.2.2.2.2.2) A0 e np B)), ((g 30), .inl (cA 3, 2000, .inl yb)), ((g 34), .inl (cA 3, 2000, .inl kd)), ((g 35), .inl (cA 3, 2000, .inl fr)), ((g 36), .inl (cA 3, 2000, .inl to)), ((g 37), .inl (cA 3, 2000, .inl re)), ((g 38), .inl (cA 3, 2000, .inl ow)), ((g 39), .inl (cA 3, 2000, .inl fi)), ((g 40), .inl (cA 3, 2000, .inl be))] := hD.sub [7, 0, 8, 1, 2, 3, 4, 5, 6] (by decide) rfl
    refine W.cs (cells' := 0) (slots' := 0) rfl rfl ?_
    refine W.eq (g2 := F0 m 6 ls [.int (-1)]) rfl ?_
    refine lv_istore (lv' := [(4, .int (-1)), (0, .ref m0), (1, .int k), (2, .int sd), (3, .int i)]) hx hb d_Md_type_6 hl (by decide) rfl (fun ls hl => ?_)
    refine lv_iload hx hb d_Md_type_8 (lv_at hl 0 rfl) ?_
    refine lv_if_lt (tgt := 22) hx hb d_Md_type_10 (by decide) (fun c_10 => ?_) (fun c_10 => absurd (by decide) c_10)
    refine lv_iconst (v := (-1)) hx hb d_Md_type_22 (by decide) ?_
    exact cRi (K.2.2.2.2.2.2.2.2) hx hb hr hlocks d_Md_type_23 hS hP hD (by rw [sType]; simp only [sAt_bad hbad, sStr_bad, ite_self]) (Nat.le_refl _) (Nat.le_refl _)
  · subst ej
    have hP : va_P D cls [(m0, .inr (6, mF g (K.1, K.2.1, K.2.2.1, nI T.length, nI X.length, K.2.2.2.2.2.1, K.2.2.2.2.2.2.1, K.2.2.2.2.2.2.2.1, K.2.2.2.2.2.2.2.2) A0 e np B)), ((g 30), .inl (cA 3, 2000, .inl yb)), ((g 34), .inl (cA 3, 2000, .inl kd)), ((g 35), .inl (cA 3, 2000, .inl fr)), ((g 36), .inl (cA 3, 2000, .inl to)), ((g 37), .inl (cA 3, 2000, .inl re)), ((g 38), .inl (cA 3, 2000, .inl ow)), ((g 39), .inl (cA 3, 2000, .inl fi)), ((g 40), .inl (cA 3, 2000, .inl be))] H := hP.sub [7, 0, 8, 1, 2, 3, 4, 5, 6] rfl
    have hD : va_D A [(m0, .inr (6, mF g (K.1, K.2.1, K.2.2.1, nI T.length, nI X.length, K.2.2.2.2.2.1, K.2.2.2.2.2.2.1, K.2.2.2.2.2.2.2.1, K.2.2.2.2.2.2.2.2) A0 e np B)), ((g 30), .inl (cA 3, 2000, .inl yb)), ((g 34), .inl (cA 3, 2000, .inl kd)), ((g 35), .inl (cA 3, 2000, .inl fr)), ((g 36), .inl (cA 3, 2000, .inl to)), ((g 37), .inl (cA 3, 2000, .inl re)), ((g 38), .inl (cA 3, 2000, .inl ow)), ((g 39), .inl (cA 3, 2000, .inl fi)), ((g 40), .inl (cA 3, 2000, .inl be))] := hD.sub [7, 0, 8, 1, 2, 3, 4, 5, 6] (by decide) rfl
    refine W.cs (cells' := 0) (slots' := 0) rfl rfl ?_
    refine W.eq (g2 := F0 m 6 ls [.int (nI t)]) rfl ?_
    have hl : lv_has ls 6 [(0, .ref m0), (1, .int (nI j)), (2, .int sd), (3, .int i)] := hl
    have hjl : j < (LS 0).length := by rw [← (hrel.2.2 0 (by decide)).1]; exact (List.getElem?_eq_some_iff.mp hjt).1
    obtain ⟨t2, f0, o, e1, e2, e3, e4⟩ := (hrel.2.2 0 (by decide)).2 j hjl
    have et : t2 = t := Option.some.inj (e1.symm.trans hjt)
    subst et
    obtain ⟨-, hfr, hto⟩ := TH_at hTH e2
    rw [e3] at hfr hto
    have hfr : fr t2 = nI f0 := hfr
    obtain ⟨z, hz⟩ : ∃ z, z = ((LS 0).getD j (0, c_1)).2 := ⟨_, rfl⟩
    rw [← hz] at e4
    obtain ⟨lm, dc, a', hlmN, hfl, p0, p1, p2, p3, p4, p5, p6, p7, p8, p9, p10⟩ := e4
    have hlm : lm ≤ 2000 := by omega
    have hyb : ∀ i, i < lm → yb i = nI (b i) := fun i hi => hybN i (by omega)
    refine lv_istore (lv' := [(4, .int (nI t2)), (0, .ref m0), (1, .int (nI j)), (2, .int sd), (3, .int i)]) hx hb d_Md_type_6 hl (by decide) rfl (fun ls hl => ?_)
    refine lv_iload hx hb d_Md_type_8 (lv_at hl 0 rfl) ?_
    refine lv_if_lt (tgt := 22) hx hb d_Md_type_10 (by decide) (fun c_10 => absurd c_10 (nI_pos (by omega))) (fun c_10 => ?_)
    refine lv_iload_n hx hb d_Md_type_13 rfl (lv_at hl 3 rfl) ?_
    refine lv_if_lt (tgt := 22) hx hb d_Md_type_14 (by decide) (fun c_14 => ?_) (fun c_14 => ?_)
    · refine lv_iconst (v := (-1)) hx hb d_Md_type_22 (by decide) ?_
      exact cRi (K.2.2.2.2.2.2.2.2) hx hb hr hlocks d_Md_type_23 hS hP hD (by rw [sType, if_neg (by first | (intro q; rw [q] at c_14; exact absurd c_14 (by decide)) | (intro q; rw [q] at c_19; exact c_19 (by decide))), if_neg (by first | (intro q; rw [q] at c_14; exact absurd c_14 (by decide)) | (intro q; rw [q] at c_19; exact c_19 (by decide)))]) (Nat.le_refl _) (Nat.le_refl _)
    · refine lv_iload_n hx hb d_Md_type_17 rfl (lv_at hl 3 rfl) ?_
      refine lv_iconst (v := 1) hx hb d_Md_type_18 (by decide) ?_
      refine lv_icmp_le (tgt := 24) hx hb d_Md_type_19 (by decide) (fun c_19 => ?_) (fun c_19 => ?_)
      · obtain ⟨n, a1, k2, a3, hft, hu1, hu2, hb1, hb2, rfl⟩ := pFT_inv (p0 rfl)
        have hv1 := pU32_ok (by omega) hu1
        have hv2 := pU32_ok (by omega) hu2
        have hside : sd = 0 ∨ sd = 1 := by
          obtain ⟨q, hq, rfl⟩ := i32_nn c_14
          have hq1 := (nI_leI (a := q) (b := 1) hq (by decide)).mp c_19
          rcases (show q = 0 ∨ q = 1 by omega) with rfl | rfl
          · exact Or.inl rfl
          · exact Or.inr rfl
        rcases hside with rfl | rfl
        · have hl : lv_has ls 6 [(4, .int (nI t2)), (0, .ref m0), (1, .int (nI j)), (2, .int 0), (3, .int i)] := hl
          have hS9 : sType LS b (nI j) 0 i = sStr b (lN a1) (lN n) i := by rw [sType, if_pos rfl, sAt_ok hjl (by have := hLk 0 (by decide); omega), sAt_ok hjl (by have := hLk 0 (by decide); omega), ← hz]; rfl
          refine lv_aload_n hx hb d_Md_type_24 rfl (lv_at hl 1 rfl) ?_
          refine lv_aload_n hx hb d_Md_type_25 rfl (lv_at hl 1 rfl) ?_
          refine va_get (D := D) (ci := 6) (v := .ref (g 35)) (C := R_Md) (T := F_Md) (N := 44) hx hb hts (fun w h => List.mem_cons_of_mem _ (i_Md w h)) hown hE.1 hP 0 rfl rfl 35 (by decide) (hts _ (List.mem_cons_of_mem _ iw3_89)) (fun _ h9 => h9) rfl d_Md_type_26 ?_
          refine lv_iload hx hb d_Md_type_29 (lv_at hl 0 rfl) ?_
          refine va_iald hx hb hE.1 hP 3 3 rfl rfl (vp_in_nI (by omega) (by omega)) d_Md_type_31 ?_
          rw [nI_clamp (n := t2) (by omega), hfr]
          refine lv_iconst (v := 1) hx hb d_Md_type_32 (by decide) ?_
          refine lv_iadd hx hb d_Md_type_33 ?_
          rw [nI_1]
          refine va_put (D := D) (ci := 6) (v := .int (nI (f0 + 1))) (ty := .int) (C := R_Md) (T := F_Md) (N := 44) hx hb hts (fun w h => List.mem_cons_of_mem _ (i_Md w h)) t_Md tk_Md n_Md hown hE.1 hP hD hS 0 rfl rfl 43 (by decide) (hts _ (List.mem_cons_of_mem _ iw3_97)) (fun _ h9 => h9) rfl (by decide +kernel) rfl rfl (Nat.le_of_ble_eq_true rfl) d_Md_type_34 (fun H locs hP hD hS => ?_)
          have hP : va_P D cls [(m0, .inr (6, mF g (K.1, K.2.1, K.2.2.1, nI T.length, nI X.length, K.2.2.2.2.2.1, K.2.2.2.2.2.2.1, K.2.2.2.2.2.2.2.1, nI (f0 + 1)) A0 e np B)), ((g 30), .inl (cA 3, 2000, .inl yb)), ((g 34), .inl (cA 3, 2000, .inl kd)), ((g 35), .inl (cA 3, 2000, .inl fr)), ((g 36), .inl (cA 3, 2000, .inl to)), ((g 37), .inl (cA 3, 2000, .inl re)), ((g 38), .inl (cA 3, 2000, .inl ow)), ((g 39), .inl (cA 3, 2000, .inl fi)), ((g 40), .inl (cA 3, 2000, .inl be))] H := hP
          have hD : va_D A [(m0, .inr (6, mF g (K.1, K.2.1, K.2.2.1, nI T.length, nI X.length, K.2.2.2.2.2.1, K.2.2.2.2.2.2.1, K.2.2.2.2.2.2.2.1, nI (f0 + 1)) A0 e np B)), ((g 30), .inl (cA 3, 2000, .inl yb)), ((g 34), .inl (cA 3, 2000, .inl kd)), ((g 35), .inl (cA 3, 2000, .inl fr)), ((g 36), .inl (cA 3, 2000, .inl to)), ((g 37), .inl (cA 3, 2000, .inl re)), ((g 38), .inl (cA 3, 2000, .inl ow)), ((g 39), .inl (cA 3, 2000, .inl fi)), ((g 40), .inl (cA 3, 2000, .inl be))] := hD
          refine lv_aload_n hx hb d_Md_type_37 rfl (lv_at hl 1 rfl) ?_
          refine cV (As := []) (rest := []) (n := 0) (wc := [(m0, .inr (6, mF g (K.1, K.2.1, K.2.2.1, nI T.length, nI X.length, K.2.2.2.2.2.1, K.2.2.2.2.2.2.1, K.2.2.2.2.2.2.2.1, nI (f0 + 1)) A0 e np B)), ((g 30), .inl (cA 3, 2000, .inl yb))]) (wr := [((g 34), .inl (cA 3, 2000, .inl kd)), ((g 35), .inl (cA 3, 2000, .inl fr)), ((g 36), .inl (cA 3, 2000, .inl to)), ((g 37), .inl (cA 3, 2000, .inl re)), ((g 38), .inl (cA 3, 2000, .inl ow)), ((g 39), .inl (cA 3, 2000, .inl fi)), ((g 40), .inl (cA 3, 2000, .inl be))]) ⟨hx, hb, hml, hown, hts⟩ hno hlocks hl.1 (c_Md_number l hl9 D cA ad H.size m0 g (K.1, K.2.1, K.2.2.1, nI T.length, nI X.length, K.2.2.2.2.2.1, K.2.2.2.2.2.2.1, K.2.2.2.2.2.2.2.1, nI (f0 + 1)) A0 e np B yb b lm hlm hyb hb9 (f0 + 1) n a1 (by omega) hu1) iw4_132 iw4_134 sel_Md_number iw1_7 iw4_135 (by decide +kernel) rfl ⟨Nat.le_of_ble_eq_true rfl, Nat.le_of_ble_eq_true rfl⟩ ⟨Nat.le_of_ble_eq_true rfl, Nat.le_of_ble_eq_true rfl⟩ rfl (Nat.le_of_ble_eq_true rfl) d_Md_type_38 hE hP hD hS hA [0, 1] [2, 3, 4, 5, 6, 7, 8] rfl rfl rfl rfl (by decide) (ci := 6) rfl rfl 0 rfl (fun _ h => h.elim) (fun v_38 u_38 H locs hp_38 hP hD hS => ?_)
          obtain rfl := hp_38
          have hP : va_P D cls [(m0, .inr (6, mF g (K.1, K.2.1, K.2.2.1, nI T.length, nI X.length, K.2.2.2.2.2.1, K.2.2.2.2.2.2.1, K.2.2.2.2.2.2.2.1, nI a1) A0 e np B)), ((g 30), .inl (cA 3, 2000, .inl yb)), ((g 34), .inl (cA 3, 2000, .inl kd)), ((g 35), .inl (cA 3, 2000, .inl fr)), ((g 36), .inl (cA 3, 2000, .inl to)), ((g 37), .inl (cA 3, 2000, .inl re)), ((g 38), .inl (cA 3, 2000, .inl ow)), ((g 39), .inl (cA 3, 2000, .inl fi)), ((g 40), .inl (cA 3, 2000, .inl be))] H := hP.sub [7, 8, 0, 1, 2, 3, 4, 5, 6] rfl
          have hD : va_D A [(m0, .inr (6, mF g (K.1, K.2.1, K.2.2.1, nI T.length, nI X.length, K.2.2.2.2.2.1, K.2.2.2.2.2.2.1, K.2.2.2.2.2.2.2.1, nI a1) A0 e np B)), ((g 30), .inl (cA 3, 2000, .inl yb)), ((g 34), .inl (cA 3, 2000, .inl kd)), ((g 35), .inl (cA 3, 2000, .inl fr)), ((g 36), .inl (cA 3, 2000, .inl to)), ((g 37), .inl (cA 3, 2000, .inl re)), ((g 38), .inl (cA 3, 2000, .inl ow)), ((g 39), .inl (cA 3, 2000, .inl fi)), ((g 40), .inl (cA 3, 2000, .inl be))] := hD.sub [7, 8, 0, 1, 2, 3, 4, 5, 6] (by decide) rfl
          refine W.cs (cells' := 0) (slots' := 0) rfl rfl ?_
          refine W.eq (g2 := F0 m 41 ls [.long (lN n)]) rfl ?_
          refine lv_l2i hx hb d_Md_type_41 rfl ?_
          rw [lN_i]
          refine lv_istore (lv' := [(5, .int (nI n)), (4, .int (nI t2)), (0, .ref m0), (1, .int (nI j)), (2, .int 0), (3, .int i)]) hx hb d_Md_type_42 hl (by decide) rfl (fun ls hl => ?_)
          refine lv_iload_n hx hb d_Md_type_44 rfl (lv_at hl 4 rfl) ?_
          refine lv_iconst (v := 1) hx hb d_Md_type_45 (by decide) ?_
          refine lv_icmp_ne (tgt := 67) hx hb d_Md_type_46 (by decide) (fun c_46 => ?_) (fun c_46 => absurd c_46 (by decide))
          refine lv_iload_n hx hb d_Md_type_67 rfl (lv_at hl 5 rfl) ?_
          refine lv_iconst (v := (-1)) hx hb d_Md_type_68 (by decide) ?_
          refine lv_icmp_ne (tgt := 77) hx hb d_Md_type_69 (by decide) (fun c_69 => ?_) (fun c_69 => ?_)
          · refine lv_iload_n hx hb d_Md_type_77 rfl (lv_at hl 5 rfl) ?_
            refine lv_if_lt (tgt := 87) hx hb d_Md_type_78 (by decide) (fun c_78 => ?_) (fun c_78 => ?_)
            · refine lv_iconst (v := (-1)) hx hb d_Md_type_87 (by decide) ?_
              refine lv_goto (tgt := 102) hx hb d_Md_type_88 (by decide) ?_
              exact cRi (nI a1) hx hb hr hlocks d_Md_type_102 hS hP hD (by rw [hS9, sStr_n c_69 (by first | exact Or.inl c_78 | exact Or.inr (Int32.not_lt.mp c_84)) (by omega)]) (Nat.le_refl _) (Nat.le_refl _)
            · refine lv_iload_n hx hb d_Md_type_81 rfl (lv_at hl 5 rfl) ?_
              refine lv_iload hx hb d_Md_type_82 (lv_at hl 0 rfl) ?_
              refine lv_icmp_lt (tgt := 91) hx hb d_Md_type_84 (by decide) (fun c_84 => ?_) (fun c_84 => ?_)
              · obtain ⟨jj, hjj, rfl⟩ := i32_nn c_78
                have hjn : jj < n := (nI_ltI hjj (by omega)).mp c_84
                have hl : lv_has ls 6 [(5, .int (nI n)), (4, .int (nI t2)), (0, .ref m0), (1, .int (nI j)), (2, .int 0), (3, .int (nI jj))] := hl
                refine lv_aload_n hx hb d_Md_type_91 rfl (lv_at hl 2 rfl) ?_
                refine va_get (D := D) (ci := 6) (v := .ref (g 30)) (C := R_Md) (T := F_Md) (N := 44) hx hb hts (fun w h => List.mem_cons_of_mem _ (i_Md w h)) hown hE.1 hP 0 rfl rfl 30 (by decide) (hts _ (List.mem_cons_of_mem _ iw3_84)) (fun _ h9 => h9) rfl d_Md_type_92 ?_
                refine lv_aload_n hx hb d_Md_type_95 rfl (lv_at hl 2 rfl) ?_
                refine va_get (D := D) (ci := 6) (v := .int (nI a1)) (C := R_Md) (T := F_Md) (N := 44) hx hb hts (fun w h => List.mem_cons_of_mem _ (i_Md w h)) hown hE.1 hP 0 rfl rfl 43 (by decide) (hts _ (List.mem_cons_of_mem _ iw3_97)) (fun _ h9 => h9) rfl d_Md_type_96 ?_
                refine lv_iload_n hx hb d_Md_type_99 rfl (lv_at hl 5 rfl) ?_
                refine lv_iadd hx hb d_Md_type_100 ?_
                rw [nI_add]
                refine va_iald hx hb hE.1 hP 1 3 rfl rfl (vp_in_nI (by omega) (by omega)) d_Md_type_101 ?_
                rw [nI_clamp (n := a1 + jj) (by omega), hyb (a1 + jj) (by omega)]
                exact cRi (nI a1) hx hb hr hlocks d_Md_type_102 hS hP hD (by rw [hS9, sStr_j hjn (by omega) (by omega)]) (Nat.le_refl _) (Nat.le_refl _)
              · refine lv_iconst (v := (-1)) hx hb d_Md_type_87 (by decide) ?_
                refine lv_goto (tgt := 102) hx hb d_Md_type_88 (by decide) ?_
                exact cRi (nI a1) hx hb hr hlocks d_Md_type_102 hS hP hD (by rw [hS9, sStr_n c_69 (by first | exact Or.inl c_78 | exact Or.inr (Int32.not_lt.mp c_84)) (by omega)]) (Nat.le_refl _) (Nat.le_refl _)
          · refine lv_iload hx hb d_Md_type_72 (lv_at hl 0 rfl) ?_
            refine lv_goto (tgt := 102) hx hb d_Md_type_74 (by decide) ?_
            exact cRi (nI a1) hx hb hr hlocks d_Md_type_102 hS hP hD (by rw [hS9, c_69, sStr_m]) (Nat.le_refl _) (Nat.le_refl _)
        · have hl : lv_has ls 6 [(4, .int (nI t2)), (0, .ref m0), (1, .int (nI j)), (2, .int 1), (3, .int i)] := hl
          have hS9 : sType LS b (nI j) 1 i = sStr b (lN a3) (lN k2) i := by rw [sType, if_neg (by decide), if_pos rfl, sAt_ok hjl (by have := hLk 0 (by decide); omega), sAt_ok hjl (by have := hLk 0 (by decide); omega), ← hz]; rfl
          refine lv_aload_n hx hb d_Md_type_24 rfl (lv_at hl 1 rfl) ?_
          refine lv_aload_n hx hb d_Md_type_25 rfl (lv_at hl 1 rfl) ?_
          refine va_get (D := D) (ci := 6) (v := .ref (g 35)) (C := R_Md) (T := F_Md) (N := 44) hx hb hts (fun w h => List.mem_cons_of_mem _ (i_Md w h)) hown hE.1 hP 0 rfl rfl 35 (by decide) (hts _ (List.mem_cons_of_mem _ iw3_89)) (fun _ h9 => h9) rfl d_Md_type_26 ?_
          refine lv_iload hx hb d_Md_type_29 (lv_at hl 0 rfl) ?_
          refine va_iald hx hb hE.1 hP 3 3 rfl rfl (vp_in_nI (by omega) (by omega)) d_Md_type_31 ?_
          rw [nI_clamp (n := t2) (by omega), hfr]
          refine lv_iconst (v := 1) hx hb d_Md_type_32 (by decide) ?_
          refine lv_iadd hx hb d_Md_type_33 ?_
          rw [nI_1]
          refine va_put (D := D) (ci := 6) (v := .int (nI (f0 + 1))) (ty := .int) (C := R_Md) (T := F_Md) (N := 44) hx hb hts (fun w h => List.mem_cons_of_mem _ (i_Md w h)) t_Md tk_Md n_Md hown hE.1 hP hD hS 0 rfl rfl 43 (by decide) (hts _ (List.mem_cons_of_mem _ iw3_97)) (fun _ h9 => h9) rfl (by decide +kernel) rfl rfl (Nat.le_of_ble_eq_true rfl) d_Md_type_34 (fun H locs hP hD hS => ?_)
          have hP : va_P D cls [(m0, .inr (6, mF g (K.1, K.2.1, K.2.2.1, nI T.length, nI X.length, K.2.2.2.2.2.1, K.2.2.2.2.2.2.1, K.2.2.2.2.2.2.2.1, nI (f0 + 1)) A0 e np B)), ((g 30), .inl (cA 3, 2000, .inl yb)), ((g 34), .inl (cA 3, 2000, .inl kd)), ((g 35), .inl (cA 3, 2000, .inl fr)), ((g 36), .inl (cA 3, 2000, .inl to)), ((g 37), .inl (cA 3, 2000, .inl re)), ((g 38), .inl (cA 3, 2000, .inl ow)), ((g 39), .inl (cA 3, 2000, .inl fi)), ((g 40), .inl (cA 3, 2000, .inl be))] H := hP
          have hD : va_D A [(m0, .inr (6, mF g (K.1, K.2.1, K.2.2.1, nI T.length, nI X.length, K.2.2.2.2.2.1, K.2.2.2.2.2.2.1, K.2.2.2.2.2.2.2.1, nI (f0 + 1)) A0 e np B)), ((g 30), .inl (cA 3, 2000, .inl yb)), ((g 34), .inl (cA 3, 2000, .inl kd)), ((g 35), .inl (cA 3, 2000, .inl fr)), ((g 36), .inl (cA 3, 2000, .inl to)), ((g 37), .inl (cA 3, 2000, .inl re)), ((g 38), .inl (cA 3, 2000, .inl ow)), ((g 39), .inl (cA 3, 2000, .inl fi)), ((g 40), .inl (cA 3, 2000, .inl be))] := hD
          refine lv_aload_n hx hb d_Md_type_37 rfl (lv_at hl 1 rfl) ?_
          refine cV (As := []) (rest := []) (n := 0) (wc := [(m0, .inr (6, mF g (K.1, K.2.1, K.2.2.1, nI T.length, nI X.length, K.2.2.2.2.2.1, K.2.2.2.2.2.2.1, K.2.2.2.2.2.2.2.1, nI (f0 + 1)) A0 e np B)), ((g 30), .inl (cA 3, 2000, .inl yb))]) (wr := [((g 34), .inl (cA 3, 2000, .inl kd)), ((g 35), .inl (cA 3, 2000, .inl fr)), ((g 36), .inl (cA 3, 2000, .inl to)), ((g 37), .inl (cA 3, 2000, .inl re)), ((g 38), .inl (cA 3, 2000, .inl ow)), ((g 39), .inl (cA 3, 2000, .inl fi)), ((g 40), .inl (cA 3, 2000, .inl be))]) ⟨hx, hb, hml, hown, hts⟩ hno hlocks hl.1 (c_Md_number l hl9 D cA ad H.size m0 g (K.1, K.2.1, K.2.2.1, nI T.length, nI X.length, K.2.2.2.2.2.1, K.2.2.2.2.2.2.1, K.2.2.2.2.2.2.2.1, nI (f0 + 1)) A0 e np B yb b lm hlm hyb hb9 (f0 + 1) n a1 (by omega) hu1) iw4_132 iw4_134 sel_Md_number iw1_7 iw4_135 (by decide +kernel) rfl ⟨Nat.le_of_ble_eq_true rfl, Nat.le_of_ble_eq_true rfl⟩ ⟨Nat.le_of_ble_eq_true rfl, Nat.le_of_ble_eq_true rfl⟩ rfl (Nat.le_of_ble_eq_true rfl) d_Md_type_38 hE hP hD hS hA [0, 1] [2, 3, 4, 5, 6, 7, 8] rfl rfl rfl rfl (by decide) (ci := 6) rfl rfl 0 rfl (fun _ h => h.elim) (fun v_38 u_38 H locs hp_38 hP hD hS => ?_)
          obtain rfl := hp_38
          have hP : va_P D cls [(m0, .inr (6, mF g (K.1, K.2.1, K.2.2.1, nI T.length, nI X.length, K.2.2.2.2.2.1, K.2.2.2.2.2.2.1, K.2.2.2.2.2.2.2.1, nI a1) A0 e np B)), ((g 30), .inl (cA 3, 2000, .inl yb)), ((g 34), .inl (cA 3, 2000, .inl kd)), ((g 35), .inl (cA 3, 2000, .inl fr)), ((g 36), .inl (cA 3, 2000, .inl to)), ((g 37), .inl (cA 3, 2000, .inl re)), ((g 38), .inl (cA 3, 2000, .inl ow)), ((g 39), .inl (cA 3, 2000, .inl fi)), ((g 40), .inl (cA 3, 2000, .inl be))] H := hP.sub [7, 8, 0, 1, 2, 3, 4, 5, 6] rfl
          have hD : va_D A [(m0, .inr (6, mF g (K.1, K.2.1, K.2.2.1, nI T.length, nI X.length, K.2.2.2.2.2.1, K.2.2.2.2.2.2.1, K.2.2.2.2.2.2.2.1, nI a1) A0 e np B)), ((g 30), .inl (cA 3, 2000, .inl yb)), ((g 34), .inl (cA 3, 2000, .inl kd)), ((g 35), .inl (cA 3, 2000, .inl fr)), ((g 36), .inl (cA 3, 2000, .inl to)), ((g 37), .inl (cA 3, 2000, .inl re)), ((g 38), .inl (cA 3, 2000, .inl ow)), ((g 39), .inl (cA 3, 2000, .inl fi)), ((g 40), .inl (cA 3, 2000, .inl be))] := hD.sub [7, 8, 0, 1, 2, 3, 4, 5, 6] (by decide) rfl
          refine W.cs (cells' := 0) (slots' := 0) rfl rfl ?_
          refine W.eq (g2 := F0 m 41 ls [.long (lN n)]) rfl ?_
          refine lv_l2i hx hb d_Md_type_41 rfl ?_
          rw [lN_i]
          refine lv_istore (lv' := [(5, .int (nI n)), (4, .int (nI t2)), (0, .ref m0), (1, .int (nI j)), (2, .int 1), (3, .int i)]) hx hb d_Md_type_42 hl (by decide) rfl (fun ls hl => ?_)
          refine lv_iload_n hx hb d_Md_type_44 rfl (lv_at hl 4 rfl) ?_
          refine lv_iconst (v := 1) hx hb d_Md_type_45 (by decide) ?_
          refine lv_icmp_ne (tgt := 67) hx hb d_Md_type_46 (by decide) (fun c_46 => absurd (by decide) c_46) (fun c_46 => ?_)
          refine lv_aload_n hx hb d_Md_type_49 rfl (lv_at hl 2 rfl) ?_
          refine lv_dup hx hb d_Md_type_50 rfl ?_
          refine va_get (D := D) (ci := 6) (v := .int (nI a1)) (C := R_Md) (T := F_Md) (N := 44) hx hb hts (fun w h => List.mem_cons_of_mem _ (i_Md w h)) hown hE.1 hP 0 rfl rfl 43 (by decide) (hts _ (List.mem_cons_of_mem _ iw3_97)) (fun _ h9 => h9) rfl d_Md_type_51 ?_
          refine lv_iload hx hb d_Md_type_54 (lv_at hl 0 rfl) ?_
          refine lv_iadd hx hb d_Md_type_56 ?_
          rw [nI_add]
          refine va_put (D := D) (ci := 6) (v := .int (nI (a1 + n))) (ty := .int) (C := R_Md) (T := F_Md) (N := 44) hx hb hts (fun w h => List.mem_cons_of_mem _ (i_Md w h)) t_Md tk_Md n_Md hown hE.1 hP hD hS 0 rfl rfl 43 (by decide) (hts _ (List.mem_cons_of_mem _ iw3_97)) (fun _ h9 => h9) rfl (by decide +kernel) rfl rfl (Nat.le_of_ble_eq_true rfl) d_Md_type_57 (fun H locs hP hD hS => ?_)
          have hP : va_P D cls [(m0, .inr (6, mF g (K.1, K.2.1, K.2.2.1, nI T.length, nI X.length, K.2.2.2.2.2.1, K.2.2.2.2.2.2.1, K.2.2.2.2.2.2.2.1, nI (a1 + n)) A0 e np B)), ((g 30), .inl (cA 3, 2000, .inl yb)), ((g 34), .inl (cA 3, 2000, .inl kd)), ((g 35), .inl (cA 3, 2000, .inl fr)), ((g 36), .inl (cA 3, 2000, .inl to)), ((g 37), .inl (cA 3, 2000, .inl re)), ((g 38), .inl (cA 3, 2000, .inl ow)), ((g 39), .inl (cA 3, 2000, .inl fi)), ((g 40), .inl (cA 3, 2000, .inl be))] H := hP
          have hD : va_D A [(m0, .inr (6, mF g (K.1, K.2.1, K.2.2.1, nI T.length, nI X.length, K.2.2.2.2.2.1, K.2.2.2.2.2.2.1, K.2.2.2.2.2.2.2.1, nI (a1 + n)) A0 e np B)), ((g 30), .inl (cA 3, 2000, .inl yb)), ((g 34), .inl (cA 3, 2000, .inl kd)), ((g 35), .inl (cA 3, 2000, .inl fr)), ((g 36), .inl (cA 3, 2000, .inl to)), ((g 37), .inl (cA 3, 2000, .inl re)), ((g 38), .inl (cA 3, 2000, .inl ow)), ((g 39), .inl (cA 3, 2000, .inl fi)), ((g 40), .inl (cA 3, 2000, .inl be))] := hD
          refine lv_aload_n hx hb d_Md_type_60 rfl (lv_at hl 2 rfl) ?_
          refine cV (As := []) (rest := []) (n := 0) (wc := [(m0, .inr (6, mF g (K.1, K.2.1, K.2.2.1, nI T.length, nI X.length, K.2.2.2.2.2.1, K.2.2.2.2.2.2.1, K.2.2.2.2.2.2.2.1, nI (a1 + n)) A0 e np B)), ((g 30), .inl (cA 3, 2000, .inl yb))]) (wr := [((g 34), .inl (cA 3, 2000, .inl kd)), ((g 35), .inl (cA 3, 2000, .inl fr)), ((g 36), .inl (cA 3, 2000, .inl to)), ((g 37), .inl (cA 3, 2000, .inl re)), ((g 38), .inl (cA 3, 2000, .inl ow)), ((g 39), .inl (cA 3, 2000, .inl fi)), ((g 40), .inl (cA 3, 2000, .inl be))]) ⟨hx, hb, hml, hown, hts⟩ hno hlocks hl.1 (c_Md_number l hl9 D cA ad H.size m0 g (K.1, K.2.1, K.2.2.1, nI T.length, nI X.length, K.2.2.2.2.2.1, K.2.2.2.2.2.2.1, K.2.2.2.2.2.2.2.1, nI (a1 + n)) A0 e np B yb b lm hlm hyb hb9 (a1 + n) k2 a3 (by omega) hu2) iw4_132 iw4_134 sel_Md_number iw1_7 iw4_135 (by decide +kernel) rfl ⟨Nat.le_of_ble_eq_true rfl, Nat.le_of_ble_eq_true rfl⟩ ⟨Nat.le_of_ble_eq_true rfl, Nat.le_of_ble_eq_true rfl⟩ rfl (Nat.le_of_ble_eq_true rfl) d_Md_type_61 hE hP hD hS hA [0, 1] [2, 3, 4, 5, 6, 7, 8] rfl rfl rfl rfl (by decide) (ci := 6) rfl rfl 0 rfl (fun _ h => h.elim) (fun v_61 u_61 H locs hp_61 hP hD hS => ?_)
          obtain rfl := hp_61
          have hP : va_P D cls [(m0, .inr (6, mF g (K.1, K.2.1, K.2.2.1, nI T.length, nI X.length, K.2.2.2.2.2.1, K.2.2.2.2.2.2.1, K.2.2.2.2.2.2.2.1, nI a3) A0 e np B)), ((g 30), .inl (cA 3, 2000, .inl yb)), ((g 34), .inl (cA 3, 2000, .inl kd)), ((g 35), .inl (cA 3, 2000, .inl fr)), ((g 36), .inl (cA 3, 2000, .inl to)), ((g 37), .inl (cA 3, 2000, .inl re)), ((g 38), .inl (cA 3, 2000, .inl ow)), ((g 39), .inl (cA 3, 2000, .inl fi)), ((g 40), .inl (cA 3, 2000, .inl be))] H := hP.sub [7, 8, 0, 1, 2, 3, 4, 5, 6] rfl
          have hD : va_D A [(m0, .inr (6, mF g (K.1, K.2.1, K.2.2.1, nI T.length, nI X.length, K.2.2.2.2.2.1, K.2.2.2.2.2.2.1, K.2.2.2.2.2.2.2.1, nI a3) A0 e np B)), ((g 30), .inl (cA 3, 2000, .inl yb)), ((g 34), .inl (cA 3, 2000, .inl kd)), ((g 35), .inl (cA 3, 2000, .inl fr)), ((g 36), .inl (cA 3, 2000, .inl to)), ((g 37), .inl (cA 3, 2000, .inl re)), ((g 38), .inl (cA 3, 2000, .inl ow)), ((g 39), .inl (cA 3, 2000, .inl fi)), ((g 40), .inl (cA 3, 2000, .inl be))] := hD.sub [7, 8, 0, 1, 2, 3, 4, 5, 6] (by decide) rfl
          refine W.cs (cells' := 0) (slots' := 0) rfl rfl ?_
          refine W.eq (g2 := F0 m 64 ls [.long (lN k2)]) rfl ?_
          refine lv_l2i hx hb d_Md_type_64 rfl ?_
          rw [lN_i]
          refine lv_istore (lv' := [(5, .int (nI k2)), (4, .int (nI t2)), (0, .ref m0), (1, .int (nI j)), (2, .int 1), (3, .int i)]) hx hb d_Md_type_65 hl (by decide) rfl (fun ls hl => ?_)
          refine lv_iload_n hx hb d_Md_type_67 rfl (lv_at hl 5 rfl) ?_
          refine lv_iconst (v := (-1)) hx hb d_Md_type_68 (by decide) ?_
          refine lv_icmp_ne (tgt := 77) hx hb d_Md_type_69 (by decide) (fun c_69 => ?_) (fun c_69 => ?_)
          · refine lv_iload_n hx hb d_Md_type_77 rfl (lv_at hl 5 rfl) ?_
            refine lv_if_lt (tgt := 87) hx hb d_Md_type_78 (by decide) (fun c_78 => ?_) (fun c_78 => ?_)
            · refine lv_iconst (v := (-1)) hx hb d_Md_type_87 (by decide) ?_
              refine lv_goto (tgt := 102) hx hb d_Md_type_88 (by decide) ?_
              exact cRi (nI a3) hx hb hr hlocks d_Md_type_102 hS hP hD (by rw [hS9, sStr_n c_69 (by first | exact Or.inl c_78 | exact Or.inr (Int32.not_lt.mp c_84)) (by omega)]) (Nat.le_refl _) (Nat.le_refl _)
            · refine lv_iload_n hx hb d_Md_type_81 rfl (lv_at hl 5 rfl) ?_
              refine lv_iload hx hb d_Md_type_82 (lv_at hl 0 rfl) ?_
              refine lv_icmp_lt (tgt := 91) hx hb d_Md_type_84 (by decide) (fun c_84 => ?_) (fun c_84 => ?_)
              · obtain ⟨jj, hjj, rfl⟩ := i32_nn c_78
                have hjn : jj < k2 := (nI_ltI hjj (by omega)).mp c_84
                have hl : lv_has ls 6 [(5, .int (nI k2)), (4, .int (nI t2)), (0, .ref m0), (1, .int (nI j)), (2, .int 1), (3, .int (nI jj))] := hl
                refine lv_aload_n hx hb d_Md_type_91 rfl (lv_at hl 2 rfl) ?_
                refine va_get (D := D) (ci := 6) (v := .ref (g 30)) (C := R_Md) (T := F_Md) (N := 44) hx hb hts (fun w h => List.mem_cons_of_mem _ (i_Md w h)) hown hE.1 hP 0 rfl rfl 30 (by decide) (hts _ (List.mem_cons_of_mem _ iw3_84)) (fun _ h9 => h9) rfl d_Md_type_92 ?_
                refine lv_aload_n hx hb d_Md_type_95 rfl (lv_at hl 2 rfl) ?_
                refine va_get (D := D) (ci := 6) (v := .int (nI a3)) (C := R_Md) (T := F_Md) (N := 44) hx hb hts (fun w h => List.mem_cons_of_mem _ (i_Md w h)) hown hE.1 hP 0 rfl rfl 43 (by decide) (hts _ (List.mem_cons_of_mem _ iw3_97)) (fun _ h9 => h9) rfl d_Md_type_96 ?_
                refine lv_iload_n hx hb d_Md_type_99 rfl (lv_at hl 5 rfl) ?_
                refine lv_iadd hx hb d_Md_type_100 ?_
                rw [nI_add]
                refine va_iald hx hb hE.1 hP 1 3 rfl rfl (vp_in_nI (by omega) (by omega)) d_Md_type_101 ?_
                rw [nI_clamp (n := a3 + jj) (by omega), hyb (a3 + jj) (by omega)]
                exact cRi (nI a3) hx hb hr hlocks d_Md_type_102 hS hP hD (by rw [hS9, sStr_j hjn (by omega) (by omega)]) (Nat.le_refl _) (Nat.le_refl _)
              · refine lv_iconst (v := (-1)) hx hb d_Md_type_87 (by decide) ?_
                refine lv_goto (tgt := 102) hx hb d_Md_type_88 (by decide) ?_
                exact cRi (nI a3) hx hb hr hlocks d_Md_type_102 hS hP hD (by rw [hS9, sStr_n c_69 (by first | exact Or.inl c_78 | exact Or.inr (Int32.not_lt.mp c_84)) (by omega)]) (Nat.le_refl _) (Nat.le_refl _)
          · refine lv_iload hx hb d_Md_type_72 (lv_at hl 0 rfl) ?_
            refine lv_goto (tgt := 102) hx hb d_Md_type_74 (by decide) ?_
            exact cRi (nI a3) hx hb hr hlocks d_Md_type_102 hS hP hD (by rw [hS9, c_69, sStr_m]) (Nat.le_refl _) (Nat.le_refl _)
      · refine lv_iconst (v := (-1)) hx hb d_Md_type_22 (by decide) ?_
        exact cRi (K.2.2.2.2.2.2.2.2) hx hb hr hlocks d_Md_type_23 hS hP hD (by rw [sType, if_neg (by first | (intro q; rw [q] at c_14; exact absurd c_14 (by decide)) | (intro q; rw [q] at c_19; exact c_19 (by decide))), if_neg (by first | (intro q; rw [q] at c_14; exact absurd c_14 (by decide)) | (intro q; rw [q] at c_19; exact c_19 (by decide)))]) (Nat.le_refl _) (Nat.le_refl _)
set_option maxHeartbeats 4000000 in
set_option maxRecDepth 100000 in
/-- place() -/
theorem c_Md_place (l : Launch) (hl9 : l.stackTraces = false) (D : va_G) (cA : Nat → ClassId) (ad : Nat → Nat) (sz : Nat) (m0 : Nat) (g : Nat → Nat) (K : MK) (A0 : A3) (e np : Int32) (B : MB)  :
    cM l y_Md_place (.code y_Md_place b_Md_place 1 (some .int) :: wAll) ({ frames := 0, cells := 0, slots := 0, locals := 0 }) D cA ad [.ref m0] [(m0, .inr (6, mF g K A0 e np B))] sz (fun v (_ : Unit) => v = some (.int K.2.1)) (fun _ => False) (fun _ => [(m0, .inr (6, mF g K A0 e np B))]) (fun _ => (0, 0)) := by
  refine cM.ofW (cc := b_Md_place) (maxL := 1) (ret := (some .int)) (by decide) (Nat.le_of_ble_eq_true rfl) ?_
  intro pg ev s m bw meth cdx A ls hF hsz hA hE hP hD hl
  obtain ⟨⟨hx, hb, hml, hown, hts⟩, hr, hno, hlocks, hin⟩ := hF
  subst hsz
  have hown : s.vm.findClass "ModuleBytesModel" = some m.cls := hown
  have hS : va_S A s.heap s.heap [] := va_S.rf
  have hl : lv_has ls 1 [(0, .ref m0)] := hl
  have hP : va_P D cls [(m0, .inr (6, mF g K A0 e np B))] s.heap := hP
  have hD : va_D A [(m0, .inr (6, mF g K A0 e np B))] := hD
  refine lv_aload_n hx hb d_Md_place_0 rfl (lv_at hl 0 rfl) ?_
  refine va_get (D := D) (ci := 6) (v := .int K.2.1) (C := R_Md) (T := F_Md) (N := 44) hx hb hts (fun w h => List.mem_cons_of_mem _ (i_Md w h)) hown hE.1 hP 0 rfl rfl 5 (by decide) (hts _ (List.mem_cons_of_mem _ iw3_59)) (fun _ h9 => h9) rfl d_Md_place_1 ?_
  exact cRi () hx hb hr hlocks d_Md_place_4 hS hP hD (rfl) (Nat.le_refl _) (Nat.le_refl _)
