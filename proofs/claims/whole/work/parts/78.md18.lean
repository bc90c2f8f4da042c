set_option maxHeartbeats 4000000 in
set_option maxRecDepth 100000 in
/-- lookElement(t, what) -/
theorem c_Md_lookElement (l : Launch) (hl9 : l.stackTraces = false) (D : va_G) (cA : Nat → ClassId) (ad : Nat → Nat) (sz : Nat) (m0 : Nat) (g : Nat → Nat) (K : MK) (A0 : A3) (e np : Int32) (B : MB) (yb : Nat → Int32) (b : Nat → Nat) (lm : Nat) (hlm : lm ≤ 2000) (hyb : ∀ i, i < lm → yb i = nI (b i)) (hb9 : ∀ i, b i < 256) (ow fi be : Nat → Int32) (X : XL) (hXH : XH ow fi be X) (hXf : ∀ x ∈ X, x.1 < 2000 ∧ x.2.1 ≤ 2000 ∧ ∃ z : Nat, x.2.2 = some z ∧ z ≤ 2000) (hX : X.length ≤ 2000) (a a' : Nat) (ha : a ≤ lm) (LL : List Int64) (t : Nat) (ht : t < 2000) (dc : Bool) (m_ a1 : Nat) (c2 : Nat → Int64) (a2 tt a3 n a4 : Nat) (it : List Int64) (nl x1 : Nat) (exs : List (Nat × Nat)) (he1 : pNChoice b lm 7 a = .inr (m_, a1)) (he2 : pElA b lm dc m_ a1 = .inr (c2, a2)) (he3 : pElT b lm m_ a2 = .inr (tt, a3)) (he4 : pU32 b lm a3 = .inr (n, a4)) (he5 : (if 4 ≤ m_ then repX b lm dc n [] a4 else repU b lm n [] a4) = .inr (it, a')) (hseg : seg LL nl it) (hexx : exO t X = (if m_ % 2 = 0 then [(x1, a2)] else []) ++ exs) (hc45 : m_ % 2 = 0 → c2 4 = lN x1 ∧ c2 5 = lN a2) (hitx : 4 ≤ m_ → it = exs.map (fun e => lN e.1)) (hnl : nl < 2 ^ 31) (hx1 : x1 ≤ 2000) (wh : Nat) (hwh : wh < 2 ^ 31) :
    cM l y_Md_lookElement (.code y_Md_lookElement b_Md_lookElement 13 (some .long) :: wAll) ({ frames := 2, cells := 0, slots := 0, locals := 48 }) D cA ad [.ref m0, .int (nI t), .int (nI wh)] [(m0, .inr (6, mF g (K.1, K.2.1, K.2.2.1, K.2.2.2.1, nI X.length, K.2.2.2.2.2.1, K.2.2.2.2.2.2.1, K.2.2.2.2.2.2.2.1, nI a) A0 e np B)), ((g 30), .inl (cA 3, 2000, .inl yb)), ((g 38), .inl (cA 3, 2000, .inl ow)), ((g 39), .inl (cA 3, 2000, .inl fi)), ((g 40), .inl (cA 3, 2000, .inl be))] sz (fun v (_ : Int32) => v = some (.long (lkS 7 (vp_updL (vp_updL (vp_updL (vp_updL (vp_updL c2 1 (lN tt)) 6 (elS m_)) 3 (lN n)) 7 (lN nl)) 8 (lN n)) LL wh))) (fun _ => False) (fun (q : Int32) => [(m0, .inr (6, mF g (K.1, K.2.1, K.2.2.1, K.2.2.2.1, nI X.length, K.2.2.2.2.2.1, K.2.2.2.2.2.2.1, K.2.2.2.2.2.2.2.1, q) A0 e np B)), ((g 30), .inl (cA 3, 2000, .inl yb)), ((g 38), .inl (cA 3, 2000, .inl ow)), ((g 39), .inl (cA 3, 2000, .inl fi)), ((g 40), .inl (cA 3, 2000, .inl be))]) (fun _ => (0, 0)) := by
  refine cM.ofW (cc := b_Md_lookElement) (maxL := 13) (ret := (some .long)) (by decide) (Nat.le_of_ble_eq_true rfl) ?_
  intro pg ev s m bw meth cdx A ls hF hsz hA hE hP hD hl
  obtain ⟨⟨hx, hb, hml, hown, hts⟩, hr, hno, hlocks, hin⟩ := hF
  subst hsz
  have hown : s.vm.findClass "ModuleBytesModel" = some m.cls := hown
  have hS : va_S A s.heap s.heap [] := va_S.rf
  have hl : lv_has ls 13 [(0, .ref m0), (1, .int (nI t)), (2, .int (nI wh))] := hl
  have hP : va_P D cls [(m0, .inr (6, mF g (K.1, K.2.1, K.2.2.1, K.2.2.2.1, nI X.length, K.2.2.2.2.2.1, K.2.2.2.2.2.2.1, K.2.2.2.2.2.2.2.1, nI a) A0 e np B)), ((g 30), .inl (cA 3, 2000, .inl yb)), ((g 38), .inl (cA 3, 2000, .inl ow)), ((g 39), .inl (cA 3, 2000, .inl fi)), ((g 40), .inl (cA 3, 2000, .inl be))] s.heap := hP
  have hD : va_D A [(m0, .inr (6, mF g (K.1, K.2.1, K.2.2.1, K.2.2.2.1, nI X.length, K.2.2.2.2.2.1, K.2.2.2.2.2.2.1, K.2.2.2.2.2.2.2.1, nI a) A0 e np B)), ((g 30), .inl (cA 3, 2000, .inl yb)), ((g 38), .inl (cA 3, 2000, .inl ow)), ((g 39), .inl (cA 3, 2000, .inl fi)), ((g 40), .inl (cA 3, 2000, .inl be))] := hD
  obtain ⟨hmu, hm9⟩ := pNChoice_inv he1
  have hu1 := pU32_ok ha hmu
  have hA9 := pElA_ok (by omega) he2
  have hT9 := pElT_ok (by omega) hb9 he3
  have hu4 := pU32_ok (by omega) he4
  have hitl : it.length = n ∧ n ≤ 2000 := by
    by_cases c4 : 4 ≤ m_
    · rw [if_pos c4] at he5; have q := repX_pref n [] a4 it a' (by omega) he5; simp at q; omega
    · rw [if_neg c4] at he5; obtain ⟨⟨lx, e1, e2⟩, e3, e4⟩ := repU_pref n [] a4 it a' (by omega) he5; rw [e1, List.nil_append, e2]; omega
  rcases (show m_ = 0 ∨ m_ = 1 ∨ m_ = 2 ∨ m_ = 3 ∨ m_ = 4 ∨ m_ = 5 ∨ m_ = 6 ∨ m_ = 7 by omega) with rfl | rfl | rfl | rfl | rfl | rfl | rfl | rfl
  · have he2 : bnd (pExpr b lm dc a1) (fun _ a5 => .inr (vp_updL (vp_updL (vp_updL (vp_updL c_1 0 (elM 0)) 2 0) 4 (lN a1)) 5 (lN a5), a5)) = .inr (c2, a2) := he2
    obtain ⟨_, b9, q9, r9⟩ := bnd_ok he2
    obtain ⟨ec2, eb9⟩ : vp_updL (vp_updL (vp_updL (vp_updL c_1 0 (elM 0)) 2 0) 4 (lN a1)) 5 (lN a2) = c2 ∧ b9 = a2 := by cases r9; exact ⟨rfl, rfl⟩
    subst ec2
    have h4 : lN a1 = lN x1 := (hc45 rfl).1
    obtain ⟨ett, ea3⟩ : 112 = tt ∧ a2 = a3 := by have q : (Sum.inr (112, a2) : PR Nat) = .inr (tt, a3) := he3; cases q; exact ⟨rfl, rfl⟩
    subst ett
    subst ea3
    have hexx : exO t X = (x1, a2) :: exs := hexx
    have he5 : repU b lm n [] a4 = .inr (it, a') := he5
    rcases (show wh = 0 ∨ wh = 1 ∨ wh = 2 ∨ wh = 3 ∨ wh = 4 ∨ wh = 5 ∨ wh = 6 ∨ wh = 7 ∨ 8 ≤ wh by omega) with rfl | rfl | rfl | rfl | rfl | rfl | rfl | rfl | hw8
    · have hl : lv_has ls 13 [(0, .ref m0), (1, .int (nI t)), (2, .int 0)] := hl
      refine lv_aload_n hx hb d_Md_lookElement_0 rfl (lv_at hl 0 rfl) ?_
      refine cV (As := []) (rest := []) (n := 0) (wc := [(m0, .inr (6, mF g (K.1, K.2.1, K.2.2.1, K.2.2.2.1, nI X.length, K.2.2.2.2.2.1, K.2.2.2.2.2.2.1, K.2.2.2.2.2.2.2.1, nI a) A0 e np B)), ((g 30), .inl (cA 3, 2000, .inl yb))]) (wr := [((g 38), .inl (cA 3, 2000, .inl ow)), ((g 39), .inl (cA 3, 2000, .inl fi)), ((g 40), .inl (cA 3, 2000, .inl be))]) ⟨hx, hb, hml, hown, hts⟩ hno hlocks hl.1 (c_Md_number l hl9 D cA ad s.heap.size m0 g (K.1, K.2.1, K.2.2.1, K.2.2.2.1, nI X.length, K.2.2.2.2.2.1, K.2.2.2.2.2.2.1, K.2.2.2.2.2.2.2.1, nI a) A0 e np B yb b lm hlm hyb hb9 a 0 a1 (by omega) hmu) iw4_132 iw4_134 sel_Md_number iw1_7 iw4_135 (by decide +kernel) rfl ⟨Nat.le_of_ble_eq_true rfl, Nat.le_of_ble_eq_true rfl⟩ ⟨Nat.le_of_ble_eq_true rfl, Nat.le_of_ble_eq_true rfl⟩ rfl (Nat.le_of_ble_eq_true rfl) d_Md_lookElement_1 hE hP hD hS hA [0, 1] [2, 3, 4] rfl rfl rfl rfl (by decide) (ci := 6) rfl rfl 0 rfl (fun _ h => h.elim) (fun v_1 u_1 H locs hp_1 hP hD hS => ?_)
      obtain rfl := hp_1
      have hP : va_P D cls [(m0, .inr (6, mF g (K.1, K.2.1, K.2.2.1, K.2.2.2.1, nI X.length, K.2.2.2.2.2.1, K.2.2.2.2.2.2.1, K.2.2.2.2.2.2.2.1, nI a1) A0 e np B)), ((g 30), .inl (cA 3, 2000, .inl yb)), ((g 38), .inl (cA 3, 2000, .inl ow)), ((g 39), .inl (cA 3, 2000, .inl fi)), ((g 40), .inl (cA 3, 2000, .inl be))] H := hP.sub [3, 4, 0, 1, 2] rfl
      have hD : va_D A [(m0, .inr (6, mF g (K.1, K.2.1, K.2.2.1, K.2.2.2.1, nI X.length, K.2.2.2.2.2.1, K.2.2.2.2.2.2.1, K.2.2.2.2.2.2.2.1, nI a1) A0 e np B)), ((g 30), .inl (cA 3, 2000, .inl yb)), ((g 38), .inl (cA 3, 2000, .inl ow)), ((g 39), .inl (cA 3, 2000, .inl fi)), ((g 40), .inl (cA 3, 2000, .inl be))] := hD.sub [3, 4, 0, 1, 2] (by decide) rfl
      refine W.cs (cells' := 0) (slots' := 0) rfl rfl ?_
      refine W.eq (g2 := F0 m 4 ls [.long (lN 0)]) rfl ?_
      refine lv_l2i hx hb d_Md_lookElement_4 rfl ?_
      refine W.eq (g2 := F0 m 5 ls [.int 0]) (by rw [lN_i]; rfl) ?_
      refine lv_istore_n (lv' := [(3, .int 0), (0, .ref m0), (1, .int (nI t)), (2, .int 0)]) hx hb d_Md_lookElement_5 rfl hl (by decide) rfl (fun ls hl => ?_)
      refine lv_iload_n hx hb d_Md_lookElement_6 rfl (lv_at hl 0 rfl) ?_
      refine lv_iconst (v := 1) hx hb d_Md_lookElement_7 (by decide) ?_
      refine lv_iand hx hb d_Md_lookElement_8 ?_
      refine W.eq (g2 := F0 m 9 ls [.int 0]) (by rw [show (0 : Int32) &&& 1 = 0 from by decide +kernel]) ?_
      refine lv_if_ne (tgt := 16) hx hb d_Md_lookElement_9 (by decide) (fun c_9 => absurd (by decide) c_9) (fun c_9 => ?_)
      refine lv_iconst (v := 1) hx hb d_Md_lookElement_12 (by decide) ?_
      refine lv_goto (tgt := 17) hx hb d_Md_lookElement_13 (by decide) ?_
      refine lv_istore (lv' := [(4, .int 1), (3, .int 0), (0, .ref m0), (1, .int (nI t)), (2, .int 0)]) hx hb d_Md_lookElement_17 hl (by decide) rfl (fun ls hl => ?_)
      refine lv_iload hx hb d_Md_lookElement_19 (lv_at hl 0 rfl) ?_
      refine lv_if_eq (tgt := 37) hx hb d_Md_lookElement_21 (by decide) (fun c_21 => absurd c_21 (by decide)) (fun c_21 => ?_)
      refine lv_iload_n hx hb d_Md_lookElement_24 rfl (lv_at hl 1 rfl) ?_
      refine lv_iconst (v := 2) hx hb d_Md_lookElement_25 (by decide) ?_
      refine lv_iand hx hb d_Md_lookElement_26 ?_
      refine W.eq (g2 := F0 m 27 ls [.int 0]) (by rw [show (0 : Int32) &&& 2 = 0 from by decide +kernel]) ?_
      refine lv_if_eq (tgt := 37) hx hb d_Md_lookElement_27 (by decide) (fun c_27 => ?_) (fun c_27 => absurd (by decide) c_27)
      refine lv_lconst (v := 0) hx hb d_Md_lookElement_37 (by decide) ?_
      refine lv_lstore (lv' := [(5, .long 0), (4, .int 1), (3, .int 0), (0, .ref m0), (1, .int (nI t)), (2, .int 0)]) hx hb d_Md_lookElement_38 hl (by decide) rfl (fun ls hl => ?_)
      refine lv_iload_n hx hb d_Md_lookElement_40 rfl (lv_at hl 5 rfl) ?_
      refine lv_if_ne (tgt := 67) hx hb d_Md_lookElement_41 (by decide) (fun c_41 => absurd (by decide) c_41) (fun c_41 => ?_)
      refine lv_iload hx hb d_Md_lookElement_44 (lv_at hl 1 rfl) ?_
      refine lv_if_eq (tgt := 53) hx hb d_Md_lookElement_46 (by decide) (fun c_46 => absurd c_46 (by decide)) (fun c_46 => ?_)
      refine lv_lconst (v := 1) hx hb d_Md_lookElement_49 (by decide) ?_
      refine lv_goto (tgt := 66) hx hb d_Md_lookElement_50 (by decide) ?_
      exact cRl (nI a1) hx hb hr hlocks d_Md_lookElement_66 hS hP hD (rfl) (Nat.le_refl _) (Nat.le_refl _)
    · have hl : lv_has ls 13 [(0, .ref m0), (1, .int (nI t)), (2, .int 1)] := hl
      refine lv_aload_n hx hb d_Md_lookElement_0 rfl (lv_at hl 0 rfl) ?_
      refine cV (As := []) (rest := []) (n := 0) (wc := [(m0, .inr (6, mF g (K.1, K.2.1, K.2.2.1, K.2.2.2.1, nI X.length, K.2.2.2.2.2.1, K.2.2.2.2.2.2.1, K.2.2.2.2.2.2.2.1, nI a) A0 e np B)), ((g 30), .inl (cA 3, 2000, .inl yb))]) (wr := [((g 38), .inl (cA 3, 2000, .inl ow)), ((g 39), .inl (cA 3, 2000, .inl fi)), ((g 40), .inl (cA 3, 2000, .inl be))]) ⟨hx, hb, hml, hown, hts⟩ hno hlocks hl.1 (c_Md_number l hl9 D cA ad s.heap.size m0 g (K.1, K.2.1, K.2.2.1, K.2.2.2.1, nI X.length, K.2.2.2.2.2.1, K.2.2.2.2.2.2.1, K.2.2.2.2.2.2.2.1, nI a) A0 e np B yb b lm hlm hyb hb9 a 0 a1 (by omega) hmu) iw4_132 iw4_134 sel_Md_number iw1_7 iw4_135 (by decide +kernel) rfl ⟨Nat.le_of_ble_eq_true rfl, Nat.le_of_ble_eq_true rfl⟩ ⟨Nat.le_of_ble_eq_true rfl, Nat.le_of_ble_eq_true rfl⟩ rfl (Nat.le_of_ble_eq_true rfl) d_Md_lookElement_1 hE hP hD hS hA [0, 1] [2, 3, 4] rfl rfl rfl rfl (by decide) (ci := 6) rfl rfl 0 rfl (fun _ h => h.elim) (fun v_1 u_1 H locs hp_1 hP hD hS => ?_)
      obtain rfl := hp_1
      have hP : va_P D cls [(m0, .inr (6, mF g (K.1, K.2.1, K.2.2.1, K.2.2.2.1, nI X.length, K.2.2.2.2.2.1, K.2.2.2.2.2.2.1, K.2.2.2.2.2.2.2.1, nI a1) A0 e np B)), ((g 30), .inl (cA 3, 2000, .inl yb)), ((g 38), .inl (cA 3, 2000, .inl ow)), ((g 39), .inl (cA 3, 2000, .inl fi)), ((g 40), .inl (cA 3, 2000, .inl be))] H := hP.sub [3, 4, 0, 1, 2] rfl
      have hD : va_D A [(m0, .inr (6, mF g (K.1, K.2.1, K.2.2.1, K.2.2.2.1, nI X.length, K.2.2.2.2.2.1, K.2.2.2.2.2.2.1, K.2.2.2.2.2.2.2.1, nI a1) A0 e np B)), ((g 30), .inl (cA 3, 2000, .inl yb)), ((g 38), .inl (cA 3, 2000, .inl ow)), ((g 39), .inl (cA 3, 2000, .inl fi)), ((g 40), .inl (cA 3, 2000, .inl be))] := hD.sub [3, 4, 0, 1, 2] (by decide) rfl
      refine W.cs (cells' := 0) (slots' := 0) rfl rfl ?_
      refine W.eq (g2 := F0 m 4 ls [.long (lN 0)]) rfl ?_
      refine lv_l2i hx hb d_Md_lookElement_4 rfl ?_
      refine W.eq (g2 := F0 m 5 ls [.int 0]) (by rw [lN_i]; rfl) ?_
      refine lv_istore_n (lv' := [(3, .int 0), (0, .ref m0), (1, .int (nI t)), (2, .int 1)]) hx hb d_Md_lookElement_5 rfl hl (by decide) rfl (fun ls hl => ?_)
      refine lv_iload_n hx hb d_Md_lookElement_6 rfl (lv_at hl 0 rfl) ?_
      refine lv_iconst (v := 1) hx hb d_Md_lookElement_7 (by decide) ?_
      refine lv_iand hx hb d_Md_lookElement_8 ?_
      refine W.eq (g2 := F0 m 9 ls [.int 0]) (by rw [show (0 : Int32) &&& 1 = 0 from by decide +kernel]) ?_
      refine lv_if_ne (tgt := 16) hx hb d_Md_lookElement_9 (by decide) (fun c_9 => absurd (by decide) c_9) (fun c_9 => ?_)
      refine lv_iconst (v := 1) hx hb d_Md_lookElement_12 (by decide) ?_
      refine lv_goto (tgt := 17) hx hb d_Md_lookElement_13 (by decide) ?_
      refine lv_istore (lv' := [(4, .int 1), (3, .int 0), (0, .ref m0), (1, .int (nI t)), (2, .int 1)]) hx hb d_Md_lookElement_17 hl (by decide) rfl (fun ls hl => ?_)
      refine lv_iload hx hb d_Md_lookElement_19 (lv_at hl 0 rfl) ?_
      refine lv_if_eq (tgt := 37) hx hb d_Md_lookElement_21 (by decide) (fun c_21 => absurd c_21 (by decide)) (fun c_21 => ?_)
      refine lv_iload_n hx hb d_Md_lookElement_24 rfl (lv_at hl 1 rfl) ?_
      refine lv_iconst (v := 2) hx hb d_Md_lookElement_25 (by decide) ?_
      refine lv_iand hx hb d_Md_lookElement_26 ?_
      refine W.eq (g2 := F0 m 27 ls [.int 0]) (by rw [show (0 : Int32) &&& 2 = 0 from by decide +kernel]) ?_
      refine lv_if_eq (tgt := 37) hx hb d_Md_lookElement_27 (by decide) (fun c_27 => ?_) (fun c_27 => absurd (by decide) c_27)
      refine lv_lconst (v := 0) hx hb d_Md_lookElement_37 (by decide) ?_
      refine lv_lstore (lv' := [(5, .long 0), (4, .int 1), (3, .int 0), (0, .ref m0), (1, .int (nI t)), (2, .int 1)]) hx hb d_Md_lookElement_38 hl (by decide) rfl (fun ls hl => ?_)
      refine lv_iload_n hx hb d_Md_lookElement_40 rfl (lv_at hl 5 rfl) ?_
      refine lv_if_ne (tgt := 67) hx hb d_Md_lookElement_41 (by decide) (fun c_41 => ?_) (fun c_41 => absurd c_41 (by decide))
      refine lv_iload_n hx hb d_Md_lookElement_67 rfl (lv_at hl 5 rfl) ?_
      refine lv_iconst (v := 2) hx hb d_Md_lookElement_68 (by decide) ?_
      refine lv_icmp_ne (tgt := 75) hx hb d_Md_lookElement_69 (by decide) (fun c_69 => ?_) (fun c_69 => absurd c_69 (by decide))
      refine lv_iload_n hx hb d_Md_lookElement_75 rfl (lv_at hl 5 rfl) ?_
      refine lv_iconst (v := 4) hx hb d_Md_lookElement_76 (by decide) ?_
      refine lv_icmp_eq (tgt := 85) hx hb d_Md_lookElement_77 (by decide) (fun c_77 => absurd c_77 (by decide)) (fun c_77 => ?_)
      refine lv_iload_n hx hb d_Md_lookElement_80 rfl (lv_at hl 5 rfl) ?_
      refine lv_iconst (v := 5) hx hb d_Md_lookElement_81 (by decide) ?_
      refine lv_icmp_ne (tgt := 104) hx hb d_Md_lookElement_82 (by decide) (fun c_82 => ?_) (fun c_82 => absurd c_82 (by decide))
      refine lv_iload_n hx hb d_Md_lookElement_104 rfl (lv_at hl 5 rfl) ?_
      refine lv_bipush (v := 6) hx hb d_Md_lookElement_105 (by decide) ?_
      refine lv_icmp_ne (tgt := 122) hx hb d_Md_lookElement_107 (by decide) (fun c_107 => ?_) (fun c_107 => absurd c_107 (by decide))
      refine lv_iload hx hb d_Md_lookElement_122 (lv_at hl 1 rfl) ?_
      refine lv_if_eq (tgt := 142) hx hb d_Md_lookElement_124 (by decide) (fun c_124 => absurd c_124 (by decide)) (fun c_124 => ?_)
      refine lv_aload_n hx hb d_Md_lookElement_127 rfl (lv_at hl 3 rfl) ?_
      refine lv_aload_n hx hb d_Md_lookElement_128 rfl (lv_at hl 3 rfl) ?_
      refine va_get (D := D) (ci := 6) (v := .ref (g 40)) (C := R_Md) (T := F_Md) (N := 44) hx hb hts (fun w h => List.mem_cons_of_mem _ (i_Md w h)) hown hE.1 hP 0 rfl rfl 40 (by decide) (hts _ (List.mem_cons_of_mem _ iw3_94)) (fun _ h9 => h9) rfl d_Md_lookElement_129 ?_
      refine lv_aload_n hx hb d_Md_lookElement_132 rfl (lv_at hl 3 rfl) ?_
      refine lv_iload_n hx hb d_Md_lookElement_133 rfl (lv_at hl 4 rfl) ?_
      refine lv_iconst (v := 0) hx hb d_Md_lookElement_134 (by decide) ?_
      refine cV (As := [.int (nI t), .int 0]) (rest := [.ref (g 40), .ref m0]) (n := 2) (wc := [(m0, .inr (6, mF g (K.1, K.2.1, K.2.2.1, K.2.2.2.1, nI X.length, K.2.2.2.2.2.1, K.2.2.2.2.2.2.1, K.2.2.2.2.2.2.2.1, nI a1) A0 e np B)), ((g 38), .inl (cA 3, 2000, .inl ow))]) (wr := [((g 30), .inl (cA 3, 2000, .inl yb)), ((g 39), .inl (cA 3, 2000, .inl fi)), ((g 40), .inl (cA 3, 2000, .inl be))]) ⟨hx, hb, hml, hown, hts⟩ hno hlocks hl.1 (c_Md_expressionOf l hl9 D cA ad H.size m0 g (K.1, K.2.1, K.2.2.1, K.2.2.2.1, nI X.length, K.2.2.2.2.2.1, K.2.2.2.2.2.2.1, K.2.2.2.2.2.2.2.1, nI a1) A0 e np B ow fi be X hXH hXf hX t (by omega) 0 (by omega)) iw4_156 iw4_158 sel_Md_expressionOf iw1_7 iw4_159 (by decide +kernel) rfl ⟨Nat.le_of_ble_eq_true rfl, Nat.le_of_ble_eq_true rfl⟩ ⟨Nat.le_of_ble_eq_true rfl, Nat.le_of_ble_eq_true rfl⟩ rfl (Nat.le_of_ble_eq_true rfl) d_Md_lookElement_135 hE hP hD hS hA [0, 2] [1, 3, 4] rfl rfl rfl rfl (by decide) (ci := 6) rfl rfl 0 rfl (fun _ h => h.elim) (fun v_135 u_135 H locs hp_135 hP hD hS => ?_)
      rcases hp_135 with ⟨rfl, hno249⟩ | ⟨e249_, f249_, z249_, he249, rfl, hg249, hfi249, hbe249, hfb249, hzb249⟩
      · exact absurd hno249 (by rw [hexx]; simp)
      have hP : va_P D cls [(m0, .inr (6, mF g (K.1, K.2.1, K.2.2.1, K.2.2.2.1, nI X.length, K.2.2.2.2.2.1, K.2.2.2.2.2.2.1, K.2.2.2.2.2.2.2.1, nI a1) A0 e np B)), ((g 30), .inl (cA 3, 2000, .inl yb)), ((g 38), .inl (cA 3, 2000, .inl ow)), ((g 39), .inl (cA 3, 2000, .inl fi)), ((g 40), .inl (cA 3, 2000, .inl be))] H := hP.sub [3, 0, 4, 1, 2] rfl
      have hD : va_D A [(m0, .inr (6, mF g (K.1, K.2.1, K.2.2.1, K.2.2.2.1, nI X.length, K.2.2.2.2.2.1, K.2.2.2.2.2.2.1, K.2.2.2.2.2.2.2.1, nI a1) A0 e np B)), ((g 30), .inl (cA 3, 2000, .inl yb)), ((g 38), .inl (cA 3, 2000, .inl ow)), ((g 39), .inl (cA 3, 2000, .inl fi)), ((g 40), .inl (cA 3, 2000, .inl be))] := hD.sub [3, 0, 4, 1, 2] (by decide) rfl
      refine W.cs (cells' := 0) (slots' := 0) rfl rfl ?_
      refine W.eq (g2 := F0 m 138 ls [.int (nI e249_), .ref (g 40), .ref m0]) rfl ?_
      refine va_iald hx hb hE.1 hP 4 3 rfl rfl (vp_in_nI (by omega) (by omega)) d_Md_lookElement_138 ?_
      rw [nI_clamp (n := e249_) (by omega), hbe249, show z249_ = a2 from by rw [hexx] at hg249; exact (congrArg Prod.snd (Option.some.inj hg249)).symm]
      refine va_put (D := D) (ci := 6) (v := .int (nI a2)) (ty := .int) (C := R_Md) (T := F_Md) (N := 44) hx hb hts (fun w h => List.mem_cons_of_mem _ (i_Md w h)) t_Md tk_Md n_Md hown hE.1 hP hD hS 0 rfl rfl 43 (by decide) (hts _ (List.mem_cons_of_mem _ iw3_97)) (fun _ h9 => h9) rfl (by decide +kernel) rfl rfl (Nat.le_of_ble_eq_true rfl) d_Md_lookElement_139 (fun H locs hP hD hS => ?_)
      have hP : va_P D cls [(m0, .inr (6, mF g (K.1, K.2.1, K.2.2.1, K.2.2.2.1, nI X.length, K.2.2.2.2.2.1, K.2.2.2.2.2.2.1, K.2.2.2.2.2.2.2.1, nI a2) A0 e np B)), ((g 30), .inl (cA 3, 2000, .inl yb)), ((g 38), .inl (cA 3, 2000, .inl ow)), ((g 39), .inl (cA 3, 2000, .inl fi)), ((g 40), .inl (cA 3, 2000, .inl be))] H := hP
      have hD : va_D A [(m0, .inr (6, mF g (K.1, K.2.1, K.2.2.1, K.2.2.2.1, nI X.length, K.2.2.2.2.2.1, K.2.2.2.2.2.2.1, K.2.2.2.2.2.2.2.1, nI a2) A0 e np B)), ((g 30), .inl (cA 3, 2000, .inl yb)), ((g 38), .inl (cA 3, 2000, .inl ow)), ((g 39), .inl (cA 3, 2000, .inl fi)), ((g 40), .inl (cA 3, 2000, .inl be))] := hD
      refine lv_iload_n hx hb d_Md_lookElement_142 rfl (lv_at hl 2 rfl) ?_
      refine lv_if_eq (tgt := 155) hx hb d_Md_lookElement_143 (by decide) (fun c_143 => ?_) (fun c_143 => absurd (by decide) c_143)
      refine lv_iconst (v := 0) hx hb d_Md_lookElement_155 (by decide) ?_
      refine lv_istore (lv' := [(7, .int 0), (5, .long 0), (4, .int 1), (3, .int 0), (0, .ref m0), (1, .int (nI t)), (2, .int 1)]) hx hb d_Md_lookElement_156 hl (by decide) rfl (fun ls hl => ?_)
      refine lv_iload hx hb d_Md_lookElement_158 (lv_at hl 0 rfl) ?_
      refine lv_if_eq (tgt := 182) hx hb d_Md_lookElement_160 (by decide) (fun c_160 => ?_) (fun c_160 => absurd (by decide) c_160)
      refine lv_ldc2 hx hb hown (hts _ (List.mem_cons_of_mem _ iw4_168)) d_Md_lookElement_182 ?_
      refine lv_lstore (lv' := [(8, .long 112), (7, .int 0), (5, .long 0), (4, .int 1), (3, .int 0), (0, .ref m0), (1, .int (nI t)), (2, .int 1)]) hx hb d_Md_lookElement_185 hl (by decide) rfl (fun ls hl => ?_)
      refine lv_aload_n hx hb d_Md_lookElement_187 rfl (lv_at hl 5 rfl) ?_
      refine lv_dup hx hb d_Md_lookElement_188 rfl ?_
      refine va_get (D := D) (ci := 6) (v := .int (nI a2)) (C := R_Md) (T := F_Md) (N := 44) hx hb hts (fun w h => List.mem_cons_of_mem _ (i_Md w h)) hown hE.1 hP 0 rfl rfl 43 (by decide) (hts _ (List.mem_cons_of_mem _ iw3_97)) (fun _ h9 => h9) rfl d_Md_lookElement_189 ?_
      refine lv_iload hx hb d_Md_lookElement_192 (lv_at hl 1 rfl) ?_
      refine lv_if_eq (tgt := 201) hx hb d_Md_lookElement_194 (by decide) (fun c_194 => ?_) (fun c_194 => absurd (by decide) c_194)
      refine lv_iconst (v := 0) hx hb d_Md_lookElement_201 (by decide) ?_
      refine lv_iadd hx hb d_Md_lookElement_202 ?_
      rw [Int32.add_zero]
      refine va_put (D := D) (ci := 6) (v := .int (nI a2)) (ty := .int) (C := R_Md) (T := F_Md) (N := 44) hx hb hts (fun w h => List.mem_cons_of_mem _ (i_Md w h)) t_Md tk_Md n_Md hown hE.1 hP hD hS 0 rfl rfl 43 (by decide) (hts _ (List.mem_cons_of_mem _ iw3_97)) (fun _ h9 => h9) rfl (by decide +kernel) rfl rfl (Nat.le_of_ble_eq_true rfl) d_Md_lookElement_203 (fun H locs hP hD hS => ?_)
      have hP : va_P D cls [(m0, .inr (6, mF g (K.1, K.2.1, K.2.2.1, K.2.2.2.1, nI X.length, K.2.2.2.2.2.1, K.2.2.2.2.2.2.1, K.2.2.2.2.2.2.2.1, nI a2) A0 e np B)), ((g 30), .inl (cA 3, 2000, .inl yb)), ((g 38), .inl (cA 3, 2000, .inl ow)), ((g 39), .inl (cA 3, 2000, .inl fi)), ((g 40), .inl (cA 3, 2000, .inl be))] H := hP
      have hD : va_D A [(m0, .inr (6, mF g (K.1, K.2.1, K.2.2.1, K.2.2.2.1, nI X.length, K.2.2.2.2.2.1, K.2.2.2.2.2.2.1, K.2.2.2.2.2.2.2.1, nI a2) A0 e np B)), ((g 30), .inl (cA 3, 2000, .inl yb)), ((g 38), .inl (cA 3, 2000, .inl ow)), ((g 39), .inl (cA 3, 2000, .inl fi)), ((g 40), .inl (cA 3, 2000, .inl be))] := hD
      refine lv_iload_n hx hb d_Md_lookElement_206 rfl (lv_at hl 7 rfl) ?_
      refine lv_iconst (v := 1) hx hb d_Md_lookElement_207 (by decide) ?_
      refine lv_icmp_ne (tgt := 214) hx hb d_Md_lookElement_208 (by decide) (fun c_208 => absurd (by decide) c_208) (fun c_208 => ?_)
      refine lv_lload hx hb d_Md_lookElement_211 (lv_at hl 0 rfl) ?_
      exact cRl (nI a2) hx hb hr hlocks d_Md_lookElement_213 hS hP hD (rfl) (Nat.le_refl _) (Nat.le_refl _)
    · have hl : lv_has ls 13 [(0, .ref m0), (1, .int (nI t)), (2, .int 2)] := hl
      refine lv_aload_n hx hb d_Md_lookElement_0 rfl (lv_at hl 0 rfl) ?_
      refine cV (As := []) (rest := []) (n := 0) (wc := [(m0, .inr (6, mF g (K.1, K.2.1, K.2.2.1, K.2.2.2.1, nI X.length, K.2.2.2.2.2.1, K.2.2.2.2.2.2.1, K.2.2.2.2.2.2.2.1, nI a) A0 e np B)), ((g 30), .inl (cA 3, 2000, .inl yb))]) (wr := [((g 38), .inl (cA 3, 2000, .inl ow)), ((g 39), .inl (cA 3, 2000, .inl fi)), ((g 40), .inl (cA 3, 2000, .inl be))]) ⟨hx, hb, hml, hown, hts⟩ hno hlocks hl.1 (c_Md_number l hl9 D cA ad s.heap.size m0 g (K.1, K.2.1, K.2.2.1, K.2.2.2.1, nI X.length, K.2.2.2.2.2.1, K.2.2.2.2.2.2.1, K.2.2.2.2.2.2.2.1, nI a) A0 e np B yb b lm hlm hyb hb9 a 0 a1 (by omega) hmu) iw4_132 iw4_134 sel_Md_number iw1_7 iw4_135 (by decide +kernel) rfl ⟨Nat.le_of_ble_eq_true rfl, Nat.le_of_ble_eq_true rfl⟩ ⟨Nat.le_of_ble_eq_true rfl, Nat.le_of_ble_eq_true rfl⟩ rfl (Nat.le_of_ble_eq_true rfl) d_Md_lookElement_1 hE hP hD hS hA [0, 1] [2, 3, 4] rfl rfl rfl rfl (by decide) (ci := 6) rfl rfl 0 rfl (fun _ h => h.elim) (fun v_1 u_1 H locs hp_1 hP hD hS => ?_)
      obtain rfl := hp_1
      have hP : va_P D cls [(m0, .inr (6, mF g (K.1, K.2.1, K.2.2.1, K.2.2.2.1, nI X.length, K.2.2.2.2.2.1, K.2.2.2.2.2.2.1, K.2.2.2.2.2.2.2.1, nI a1) A0 e np B)), ((g 30), .inl (cA 3, 2000, .inl yb)), ((g 38), .inl (cA 3, 2000, .inl ow)), ((g 39), .inl (cA 3, 2000, .inl fi)), ((g 40), .inl (cA 3, 2000, .inl be))] H := hP.sub [3, 4, 0, 1, 2] rfl
      have hD : va_D A [(m0, .inr (6, mF g (K.1, K.2.1, K.2.2.1, K.2.2.2.1, nI X.length, K.2.2.2.2.2.1, K.2.2.2.2.2.2.1, K.2.2.2.2.2.2.2.1, nI a1) A0 e np B)), ((g 30), .inl (cA 3, 2000, .inl yb)), ((g 38), .inl (cA 3, 2000, .inl ow)), ((g 39), .inl (cA 3, 2000, .inl fi)), ((g 40), .inl (cA 3, 2000, .inl be))] := hD.sub [3, 4, 0, 1, 2] (by decide) rfl
      refine W.cs (cells' := 0) (slots' := 0) rfl rfl ?_
      refine W.eq (g2 := F0 m 4 ls [.long (lN 0)]) rfl ?_
      refine lv_l2i hx hb d_Md_lookElement_4 rfl ?_
      refine W.eq (g2 := F0 m 5 ls [.int 0]) (by rw [lN_i]; rfl) ?_
      refine lv_istore_n (lv' := [(3, .int 0), (0, .ref m0), (1, .int (nI t)), (2, .int 2)]) hx hb d_Md_lookElement_5 rfl hl (by decide) rfl (fun ls hl => ?_)
      refine lv_iload_n hx hb d_Md_lookElement_6 rfl (lv_at hl 0 rfl) ?_
      refine lv_iconst (v := 1) hx hb d_Md_lookElement_7 (by decide) ?_
      refine lv_iand hx hb d_Md_lookElement_8 ?_
      refine W.eq (g2 := F0 m 9 ls [.int 0]) (by rw [show (0 : Int32) &&& 1 = 0 from by decide +kernel]) ?_
      refine lv_if_ne (tgt := 16) hx hb d_Md_lookElement_9 (by decide) (fun c_9 => absurd (by decide) c_9) (fun c_9 => ?_)
      refine lv_iconst (v := 1) hx hb d_Md_lookElement_12 (by decide) ?_
      refine lv_goto (tgt := 17) hx hb d_Md_lookElement_13 (by decide) ?_
      refine lv_istore (lv' := [(4, .int 1), (3, .int 0), (0, .ref m0), (1, .int (nI t)), (2, .int 2)]) hx hb d_Md_lookElement_17 hl (by decide) rfl (fun ls hl => ?_)
      refine lv_iload hx hb d_Md_lookElement_19 (lv_at hl 0 rfl) ?_
      refine lv_if_eq (tgt := 37) hx hb d_Md_lookElement_21 (by decide) (fun c_21 => absurd c_21 (by decide)) (fun c_21 => ?_)
      refine lv_iload_n hx hb d_Md_lookElement_24 rfl (lv_at hl 1 rfl) ?_
      refine lv_iconst (v := 2) hx hb d_Md_lookElement_25 (by decide) ?_
      refine lv_iand hx hb d_Md_lookElement_26 ?_
      refine W.eq (g2 := F0 m 27 ls [.int 0]) (by rw [show (0 : Int32) &&& 2 = 0 from by decide +kernel]) ?_
      refine lv_if_eq (tgt := 37) hx hb d_Md_lookElement_27 (by decide) (fun c_27 => ?_) (fun c_27 => absurd (by decide) c_27)
      refine lv_lconst (v := 0) hx hb d_Md_lookElement_37 (by decide) ?_
      refine lv_lstore (lv' := [(5, .long 0), (4, .int 1), (3, .int 0), (0, .ref m0), (1, .int (nI t)), (2, .int 2)]) hx hb d_Md_lookElement_38 hl (by decide) rfl (fun ls hl => ?_)
      refine lv_iload_n hx hb d_Md_lookElement_40 rfl (lv_at hl 5 rfl) ?_
      refine lv_if_ne (tgt := 67) hx hb d_Md_lookElement_41 (by decide) (fun c_41 => ?_) (fun c_41 => absurd c_41 (by decide))
      refine lv_iload_n hx hb d_Md_lookElement_67 rfl (lv_at hl 5 rfl) ?_
      refine lv_iconst (v := 2) hx hb d_Md_lookElement_68 (by decide) ?_
      refine lv_icmp_ne (tgt := 75) hx hb d_Md_lookElement_69 (by decide) (fun c_69 => absurd (by decide) c_69) (fun c_69 => ?_)
      refine lv_lload hx hb d_Md_lookElement_72 (lv_at hl 0 rfl) ?_
      exact cRl (nI a1) hx hb hr hlocks d_Md_lookElement_74 hS hP hD (rfl) (Nat.le_refl _) (Nat.le_refl _)
    · have hl : lv_has ls 13 [(0, .ref m0), (1, .int (nI t)), (2, .int 3)] := hl
      refine lv_aload_n hx hb d_Md_lookElement_0 rfl (lv_at hl 0 rfl) ?_
      refine cV (As := []) (rest := []) (n := 0) (wc := [(m0, .inr (6, mF g (K.1, K.2.1, K.2.2.1, K.2.2.2.1, nI X.length, K.2.2.2.2.2.1, K.2.2.2.2.2.2.1, K.2.2.2.2.2.2.2.1, nI a) A0 e np B)), ((g 30), .inl (cA 3, 2000, .inl yb))]) (wr := [((g 38), .inl (cA 3, 2000, .inl ow)), ((g 39), .inl (cA 3, 2000, .inl fi)), ((g 40), .inl (cA 3, 2000, .inl be))]) ⟨hx, hb, hml, hown, hts⟩ hno hlocks hl.1 (c_Md_number l hl9 D cA ad s.heap.size m0 g (K.1, K.2.1, K.2.2.1, K.2.2.2.1, nI X.length, K.2.2.2.2.2.1, K.2.2.2.2.2.2.1, K.2.2.2.2.2.2.2.1, nI a) A0 e np B yb b lm hlm hyb hb9 a 0 a1 (by omega) hmu) iw4_132 iw4_134 sel_Md_number iw1_7 iw4_135 (by decide +kernel) rfl ⟨Nat.le_of_ble_eq_true rfl, Nat.le_of_ble_eq_true rfl⟩ ⟨Nat.le_of_ble_eq_true rfl, Nat.le_of_ble_eq_true rfl⟩ rfl (Nat.le_of_ble_eq_true rfl) d_Md_lookElement_1 hE hP hD hS hA [0, 1] [2, 3, 4] rfl rfl rfl rfl (by decide) (ci := 6) rfl rfl 0 rfl (fun _ h => h.elim) (fun v_1 u_1 H locs hp_1 hP hD hS => ?_)
      obtain rfl := hp_1
      have hP : va_P D cls [(m0, .inr (6, mF g (K.1, K.2.1, K.2.2.1, K.2.2.2.1, nI X.length, K.2.2.2.2.2.1, K.2.2.2.2.2.2.1, K.2.2.2.2.2.2.2.1, nI a1) A0 e np B)), ((g 30), .inl (cA 3, 2000, .inl yb)), ((g 38), .inl (cA 3, 2000, .inl ow)), ((g 39), .inl (cA 3, 2000, .inl fi)), ((g 40), .inl (cA 3, 2000, .inl be))] H := hP.sub [3, 4, 0, 1, 2] rfl
      have hD : va_D A [(m0, .inr (6, mF g (K.1, K.2.1, K.2.2.1, K.2.2.2.1, nI X.length, K.2.2.2.2.2.1, K.2.2.2.2.2.2.1, K.2.2.2.2.2.2.2.1, nI a1) A0 e np B)), ((g 30), .inl (cA 3, 2000, .inl yb)), ((g 38), .inl (cA 3, 2000, .inl ow)), ((g 39), .inl (cA 3, 2000, .inl fi)), ((g 40), .inl (cA 3, 2000, .inl be))] := hD.sub [3, 4, 0, 1, 2] (by decide) rfl
      refine W.cs (cells' := 0) (slots' := 0) rfl rfl ?_
      refine W.eq (g2 := F0 m 4 ls [.long (lN 0)]) rfl ?_
      refine lv_l2i hx hb d_Md_lookElement_4 rfl ?_
      refine W.eq (g2 := F0 m 5 ls [.int 0]) (by rw [lN_i]; rfl) ?_
      refine lv_istore_n (lv' := [(3, .int 0), (0, .ref m0), (1, .int (nI t)), (2, .int 3)]) hx hb d_Md_lookElement_5 rfl hl (by decide) rfl (fun ls hl => ?_)
      refine lv_iload_n hx hb d_Md_lookElement_6 rfl (lv_at hl 0 rfl) ?_
      refine lv_iconst (v := 1) hx hb d_Md_lookElement_7 (by decide) ?_
      refine lv_iand hx hb d_Md_lookElement_8 ?_
      refine W.eq (g2 := F0 m 9 ls [.int 0]) (by rw [show (0 : Int32) &&& 1 = 0 from by decide +kernel]) ?_
      refine lv_if_ne (tgt := 16) hx hb d_Md_lookElement_9 (by decide) (fun c_9 => absurd (by decide) c_9) (fun c_9 => ?_)
      refine lv_iconst (v := 1) hx hb d_Md_lookElement_12 (by decide) ?_
      refine lv_goto (tgt := 17) hx hb d_Md_lookElement_13 (by decide) ?_
      refine lv_istore (lv' := [(4, .int 1), (3, .int 0), (0, .ref m0), (1, .int (nI t)), (2, .int 3)]) hx hb d_Md_lookElement_17 hl (by decide) rfl (fun ls hl => ?_)
      refine lv_iload hx hb d_Md_lookElement_19 (lv_at hl 0 rfl) ?_
      refine lv_if_eq (tgt := 37) hx hb d_Md_lookElement_21 (by decide) (fun c_21 => absurd c_21 (by decide)) (fun c_21 => ?_)
      refine lv_iload_n hx hb d_Md_lookElement_24 rfl (lv_at hl 1 rfl) ?_
      refine lv_iconst (v := 2) hx hb d_Md_lookElement_25 (by decide) ?_
      refine lv_iand hx hb d_Md_lookElement_26 ?_
      refine W.eq (g2 := F0 m 27 ls [.int 0]) (by rw [show (0 : Int32) &&& 2 = 0 from by decide +kernel]) ?_
      refine lv_if_eq (tgt := 37) hx hb d_Md_lookElement_27 (by decide) (fun c_27 => ?_) (fun c_27 => absurd (by decide) c_27)
      refine lv_lconst (v := 0) hx hb d_Md_lookElement_37 (by decide) ?_
      refine lv_lstore (lv' := [(5, .long 0), (4, .int 1), (3, .int 0), (0, .ref m0), (1, .int (nI t)), (2, .int 3)]) hx hb d_Md_lookElement_38 hl (by decide) rfl (fun ls hl => ?_)
      refine lv_iload_n hx hb d_Md_lookElement_40 rfl (lv_at hl 5 rfl) ?_
      refine lv_if_ne (tgt := 67) hx hb d_Md_lookElement_41 (by decide) (fun c_41 => ?_) (fun c_41 => absurd c_41 (by decide))
      refine lv_iload_n hx hb d_Md_lookElement_67 rfl (lv_at hl 5 rfl) ?_
      refine lv_iconst (v := 2) hx hb d_Md_lookElement_68 (by decide) ?_
      refine lv_icmp_ne (tgt := 75) hx hb d_Md_lookElement_69 (by decide) (fun c_69 => ?_) (fun c_69 => absurd c_69 (by decide))
      refine lv_iload_n hx hb d_Md_lookElement_75 rfl (lv_at hl 5 rfl) ?_
      refine lv_iconst (v := 4) hx hb d_Md_lookElement_76 (by decide) ?_
      refine lv_icmp_eq (tgt := 85) hx hb d_Md_lookElement_77 (by decide) (fun c_77 => absurd c_77 (by decide)) (fun c_77 => ?_)
      refine lv_iload_n hx hb d_Md_lookElement_80 rfl (lv_at hl 5 rfl) ?_
      refine lv_iconst (v := 5) hx hb d_Md_lookElement_81 (by decide) ?_
      refine lv_icmp_ne (tgt := 104) hx hb d_Md_lookElement_82 (by decide) (fun c_82 => ?_) (fun c_82 => absurd c_82 (by decide))
      refine lv_iload_n hx hb d_Md_lookElement_104 rfl (lv_at hl 5 rfl) ?_
      refine lv_bipush (v := 6) hx hb d_Md_lookElement_105 (by decide) ?_
      refine lv_icmp_ne (tgt := 122) hx hb d_Md_lookElement_107 (by decide) (fun c_107 => ?_) (fun c_107 => absurd c_107 (by decide))
      refine lv_iload hx hb d_Md_lookElement_122 (lv_at hl 1 rfl) ?_
      refine lv_if_eq (tgt := 142) hx hb d_Md_lookElement_124 (by decide) (fun c_124 => absurd c_124 (by decide)) (fun c_124 => ?_)
      refine lv_aload_n hx hb d_Md_lookElement_127 rfl (lv_at hl 3 rfl) ?_
      refine lv_aload_n hx hb d_Md_lookElement_128 rfl (lv_at hl 3 rfl) ?_
      refine va_get (D := D) (ci := 6) (v := .ref (g 40)) (C := R_Md) (T := F_Md) (N := 44) hx hb hts (fun w h => List.mem_cons_of_mem _ (i_Md w h)) hown hE.1 hP 0 rfl rfl 40 (by decide) (hts _ (List.mem_cons_of_mem _ iw3_94)) (fun _ h9 => h9) rfl d_Md_lookElement_129 ?_
      refine lv_aload_n hx hb d_Md_lookElement_132 rfl (lv_at hl 3 rfl) ?_
      refine lv_iload_n hx hb d_Md_lookElement_133 rfl (lv_at hl 4 rfl) ?_
      refine lv_iconst (v := 0) hx hb d_Md_lookElement_134 (by decide) ?_
      refine cV (As := [.int (nI t), .int 0]) (rest := [.ref (g 40), .ref m0]) (n := 2) (wc := [(m0, .inr (6, mF g (K.1, K.2.1, K.2.2.1, K.2.2.2.1, nI X.length, K.2.2.2.2.2.1, K.2.2.2.2.2.2.1, K.2.2.2.2.2.2.2.1, nI a1) A0 e np B)), ((g 38), .inl (cA 3, 2000, .inl ow))]) (wr := [((g 30), .inl (cA 3, 2000, .inl yb)), ((g 39), .inl (cA 3, 2000, .inl fi)), ((g 40), .inl (cA 3, 2000, .inl be))]) ⟨hx, hb, hml, hown, hts⟩ hno hlocks hl.1 (c_Md_expressionOf l hl9 D cA ad H.size m0 g (K.1, K.2.1, K.2.2.1, K.2.2.2.1, nI X.length, K.2.2.2.2.2.1, K.2.2.2.2.2.2.1, K.2.2.2.2.2.2.2.1, nI a1) A0 e np B ow fi be X hXH hXf hX t (by omega) 0 (by omega)) iw4_156 iw4_158 sel_Md_expressionOf iw1_7 iw4_159 (by decide +kernel) rfl ⟨Nat.le_of_ble_eq_true rfl, Nat.le_of_ble_eq_true rfl⟩ ⟨Nat.le_of_ble_eq_true rfl, Nat.le_of_ble_eq_true rfl⟩ rfl (Nat.le_of_ble_eq_true rfl) d_Md_lookElement_135 hE hP hD hS hA [0, 2] [1, 3, 4] rfl rfl rfl rfl (by decide) (ci := 6) rfl rfl 0 rfl (fun _ h => h.elim) (fun v_135 u_135 H locs hp_135 hP hD hS => ?_)
      rcases hp_135 with ⟨rfl, hno250⟩ | ⟨e250_, f250_, z250_, he250, rfl, hg250, hfi250, hbe250, hfb250, hzb250⟩
      · exact absurd hno250 (by rw [hexx]; simp)
      have hP : va_P D cls [(m0, .inr (6, mF g (K.1, K.2.1, K.2.2.1, K.2.2.2.1, nI X.length, K.2.2.2.2.2.1, K.2.2.2.2.2.2.1, K.2.2.2.2.2.2.2.1, nI a1) A0 e np B)), ((g 30), .inl (cA 3, 2000, .inl yb)), ((g 38), .inl (cA 3, 2000, .inl ow)), ((g 39), .inl (cA 3, 2000, .inl fi)), ((g 40), .inl (cA 3, 2000, .inl be))] H := hP.sub [3, 0, 4, 1, 2] rfl
      have hD : va_D A [(m0, .inr (6, mF g (K.1, K.2.1, K.2.2.1, K.2.2.2.1, nI X.length, K.2.2.2.2.2.1, K.2.2.2.2.2.2.1, K.2.2.2.2.2.2.2.1, nI a1) A0 e np B)), ((g 30), .inl (cA 3, 2000, .inl yb)), ((g 38), .inl (cA 3, 2000, .inl ow)), ((g 39), .inl (cA 3, 2000, .inl fi)), ((g 40), .inl (cA 3, 2000, .inl be))] := hD.sub [3, 0, 4, 1, 2] (by decide) rfl
      refine W.cs (cells' := 0) (slots' := 0) rfl rfl ?_
      refine W.eq (g2 := F0 m 138 ls [.int (nI e250_), .ref (g 40), .ref m0]) rfl ?_
      refine va_iald hx hb hE.1 hP 4 3 rfl rfl (vp_in_nI (by omega) (by omega)) d_Md_lookElement_138 ?_
      rw [nI_clamp (n := e250_) (by omega), hbe250, show z250_ = a2 from by rw [hexx] at hg250; exact (congrArg Prod.snd (Option.some.inj hg250)).symm]
      refine va_put (D := D) (ci := 6) (v := .int (nI a2)) (ty := .int) (C := R_Md) (T := F_Md) (N := 44) hx hb hts (fun w h => List.mem_cons_of_mem _ (i_Md w h)) t_Md tk_Md n_Md hown hE.1 hP hD hS 0 rfl rfl 43 (by decide) (hts _ (List.mem_cons_of_mem _ iw3_97)) (fun _ h9 => h9) rfl (by decide +kernel) rfl rfl (Nat.le_of_ble_eq_true rfl) d_Md_lookElement_139 (fun H locs hP hD hS => ?_)
      have hP : va_P D cls [(m0, .inr (6, mF g (K.1, K.2.1, K.2.2.1, K.2.2.2.1, nI X.length, K.2.2.2.2.2.1, K.2.2.2.2.2.2.1, K.2.2.2.2.2.2.2.1, nI a2) A0 e np B)), ((g 30), .inl (cA 3, 2000, .inl yb)), ((g 38), .inl (cA 3, 2000, .inl ow)), ((g 39), .inl (cA 3, 2000, .inl fi)), ((g 40), .inl (cA 3, 2000, .inl be))] H := hP
      have hD : va_D A [(m0, .inr (6, mF g (K.1, K.2.1, K.2.2.1, K.2.2.2.1, nI X.length, K.2.2.2.2.2.1, K.2.2.2.2.2.2.1, K.2.2.2.2.2.2.2.1, nI a2) A0 e np B)), ((g 30), .inl (cA 3, 2000, .inl yb)), ((g 38), .inl (cA 3, 2000, .inl ow)), ((g 39), .inl (cA 3, 2000, .inl fi)), ((g 40), .inl (cA 3, 2000, .inl be))] := hD
      refine lv_iload_n hx hb d_Md_lookElement_142 rfl (lv_at hl 2 rfl) ?_
      refine lv_if_eq (tgt := 155) hx hb d_Md_lookElement_143 (by decide) (fun c_143 => ?_) (fun c_143 => absurd (by decide) c_143)
      refine lv_iconst (v := 0) hx hb d_Md_lookElement_155 (by decide) ?_
      refine lv_istore (lv' := [(7, .int 0), (5, .long 0), (4, .int 1), (3, .int 0), (0, .ref m0), (1, .int (nI t)), (2, .int 3)]) hx hb d_Md_lookElement_156 hl (by decide) rfl (fun ls hl => ?_)
      refine lv_iload hx hb d_Md_lookElement_158 (lv_at hl 0 rfl) ?_
      refine lv_if_eq (tgt := 182) hx hb d_Md_lookElement_160 (by decide) (fun c_160 => ?_) (fun c_160 => absurd (by decide) c_160)
      refine lv_ldc2 hx hb hown (hts _ (List.mem_cons_of_mem _ iw4_168)) d_Md_lookElement_182 ?_
      refine lv_lstore (lv' := [(8, .long 112), (7, .int 0), (5, .long 0), (4, .int 1), (3, .int 0), (0, .ref m0), (1, .int (nI t)), (2, .int 3)]) hx hb d_Md_lookElement_185 hl (by decide) rfl (fun ls hl => ?_)
      refine lv_aload_n hx hb d_Md_lookElement_187 rfl (lv_at hl 5 rfl) ?_
      refine lv_dup hx hb d_Md_lookElement_188 rfl ?_
      refine va_get (D := D) (ci := 6) (v := .int (nI a2)) (C := R_Md) (T := F_Md) (N := 44) hx hb hts (fun w h => List.mem_cons_of_mem _ (i_Md w h)) hown hE.1 hP 0 rfl rfl 43 (by decide) (hts _ (List.mem_cons_of_mem _ iw3_97)) (fun _ h9 => h9) rfl d_Md_lookElement_189 ?_
      refine lv_iload hx hb d_Md_lookElement_192 (lv_at hl 1 rfl) ?_
      refine lv_if_eq (tgt := 201) hx hb d_Md_lookElement_194 (by decide) (fun c_194 => ?_) (fun c_194 => absurd (by decide) c_194)
      refine lv_iconst (v := 0) hx hb d_Md_lookElement_201 (by decide) ?_
      refine lv_iadd hx hb d_Md_lookElement_202 ?_
      rw [Int32.add_zero]
      refine va_put (D := D) (ci := 6) (v := .int (nI a2)) (ty := .int) (C := R_Md) (T := F_Md) (N := 44) hx hb hts (fun w h => List.mem_cons_of_mem _ (i_Md w h)) t_Md tk_Md n_Md hown hE.1 hP hD hS 0 rfl rfl 43 (by decide) (hts _ (List.mem_cons_of_mem _ iw3_97)) (fun _ h9 => h9) rfl (by decide +kernel) rfl rfl (Nat.le_of_ble_eq_true rfl) d_Md_lookElement_203 (fun H locs hP hD hS => ?_)
      have hP : va_P D cls [(m0, .inr (6, mF g (K.1, K.2.1, K.2.2.1, K.2.2.2.1, nI X.length, K.2.2.2.2.2.1, K.2.2.2.2.2.2.1, K.2.2.2.2.2.2.2.1, nI a2) A0 e np B)), ((g 30), .inl (cA 3, 2000, .inl yb)), ((g 38), .inl (cA 3, 2000, .inl ow)), ((g 39), .inl (cA 3, 2000, .inl fi)), ((g 40), .inl (cA 3, 2000, .inl be))] H := hP
      have hD : va_D A [(m0, .inr (6, mF g (K.1, K.2.1, K.2.2.1, K.2.2.2.1, nI X.length, K.2.2.2.2.2.1, K.2.2.2.2.2.2.1, K.2.2.2.2.2.2.2.1, nI a2) A0 e np B)), ((g 30), .inl (cA 3, 2000, .inl yb)), ((g 38), .inl (cA 3, 2000, .inl ow)), ((g 39), .inl (cA 3, 2000, .inl fi)), ((g 40), .inl (cA 3, 2000, .inl be))] := hD
      refine lv_iload_n hx hb d_Md_lookElement_206 rfl (lv_at hl 7 rfl) ?_
      refine lv_iconst (v := 1) hx hb d_Md_lookElement_207 (by decide) ?_
      refine lv_icmp_ne (tgt := 214) hx hb d_Md_lookElement_208 (by decide) (fun c_208 => ?_) (fun c_208 => absurd c_208 (by decide))
      refine lv_aload_n hx hb d_Md_lookElement_214 rfl (lv_at hl 5 rfl) ?_
      refine cV (As := []) (rest := []) (n := 0) (wc := [(m0, .inr (6, mF g (K.1, K.2.1, K.2.2.1, K.2.2.2.1, nI X.length, K.2.2.2.2.2.1, K.2.2.2.2.2.2.1, K.2.2.2.2.2.2.2.1, nI a2) A0 e np B)), ((g 30), .inl (cA 3, 2000, .inl yb))]) (wr := [((g 38), .inl (cA 3, 2000, .inl ow)), ((g 39), .inl (cA 3, 2000, .inl fi)), ((g 40), .inl (cA 3, 2000, .inl be))]) ⟨hx, hb, hml, hown, hts⟩ hno hlocks hl.1 (c_Md_number l hl9 D cA ad H.size m0 g (K.1, K.2.1, K.2.2.1, K.2.2.2.1, nI X.length, K.2.2.2.2.2.1, K.2.2.2.2.2.2.1, K.2.2.2.2.2.2.2.1, nI a2) A0 e np B yb b lm hlm hyb hb9 a2 n a4 (by omega) he4) iw4_132 iw4_134 sel_Md_number iw1_7 iw4_135 (by decide +kernel) rfl ⟨Nat.le_of_ble_eq_true rfl, Nat.le_of_ble_eq_true rfl⟩ ⟨Nat.le_of_ble_eq_true rfl, Nat.le_of_ble_eq_true rfl⟩ rfl (Nat.le_of_ble_eq_true rfl) d_Md_lookElement_215 hE hP hD hS hA [0, 1] [2, 3, 4] rfl rfl rfl rfl (by decide) (ci := 6) rfl rfl 0 rfl (fun _ h => h.elim) (fun v_215 u_215 H locs hp_215 hP hD hS => ?_)
      obtain rfl := hp_215
      have hP : va_P D cls [(m0, .inr (6, mF g (K.1, K.2.1, K.2.2.1, K.2.2.2.1, nI X.length, K.2.2.2.2.2.1, K.2.2.2.2.2.2.1, K.2.2.2.2.2.2.2.1, nI a4) A0 e np B)), ((g 30), .inl (cA 3, 2000, .inl yb)), ((g 38), .inl (cA 3, 2000, .inl ow)), ((g 39), .inl (cA 3, 2000, .inl fi)), ((g 40), .inl (cA 3, 2000, .inl be))] H := hP.sub [3, 4, 0, 1, 2] rfl
      have hD : va_D A [(m0, .inr (6, mF g (K.1, K.2.1, K.2.2.1, K.2.2.2.1, nI X.length, K.2.2.2.2.2.1, K.2.2.2.2.2.2.1, K.2.2.2.2.2.2.2.1, nI a4) A0 e np B)), ((g 30), .inl (cA 3, 2000, .inl yb)), ((g 38), .inl (cA 3, 2000, .inl ow)), ((g 39), .inl (cA 3, 2000, .inl fi)), ((g 40), .inl (cA 3, 2000, .inl be))] := hD.sub [3, 4, 0, 1, 2] (by decide) rfl
      refine W.cs (cells' := 0) (slots' := 0) rfl rfl ?_
      refine W.eq (g2 := F0 m 218 ls [.long (lN n)]) rfl ?_
      refine lv_lstore (lv' := [(10, .long (lN n)), (8, .long 112), (7, .int 0), (5, .long 0), (4, .int 1), (3, .int 0), (0, .ref m0), (1, .int (nI t)), (2, .int 3)]) hx hb d_Md_lookElement_218 hl (by decide) rfl (fun ls hl => ?_)
      refine lv_iload_n hx hb d_Md_lookElement_220 rfl (lv_at hl 8 rfl) ?_
      refine lv_iconst (v := 3) hx hb d_Md_lookElement_221 (by decide) ?_
      refine lv_icmp_ne (tgt := 228) hx hb d_Md_lookElement_222 (by decide) (fun c_222 => absurd (by decide) c_222) (fun c_222 => ?_)
      refine lv_lload hx hb d_Md_lookElement_225 (lv_at hl 0 rfl) ?_
      exact cRl (nI a4) hx hb hr hlocks d_Md_lookElement_227 hS hP hD (rfl) (Nat.le_refl _) (Nat.le_refl _)
    · have hl : lv_has ls 13 [(0, .ref m0), (1, .int (nI t)), (2, .int 4)] := hl
      refine lv_aload_n hx hb d_Md_lookElement_0 rfl (lv_at hl 0 rfl) ?_
      refine cV (As := []) (rest := []) (n := 0) (wc := [(m0, .inr (6, mF g (K.1, K.2.1, K.2.2.1, K.2.2.2.1, nI X.length, K.2.2.2.2.2.1, K.2.2.2.2.2.2.1, K.2.2.2.2.2.2.2.1, nI a) A0 e np B)), ((g 30), .inl (cA 3, 2000, .inl yb))]) (wr := [((g 38), .inl (cA 3, 2000, .inl ow)), ((g 39), .inl (cA 3, 2000, .inl fi)), ((g 40), .inl (cA 3, 2000, .inl be))]) ⟨hx, hb, hml, hown, hts⟩ hno hlocks hl.1 (c_Md_number l hl9 D cA ad s.heap.size m0 g (K.1, K.2.1, K.2.2.1, K.2.2.2.1, nI X.length, K.2.2.2.2.2.1, K.2.2.2.2.2.2.1, K.2.2.2.2.2.2.2.1, nI a) A0 e np B yb b lm hlm hyb hb9 a 0 a1 (by omega) hmu) iw4_132 iw4_134 sel_Md_number iw1_7 iw4_135 (by decide +kernel) rfl ⟨Nat.le_of_ble_eq_true rfl, Nat.le_of_ble_eq_true rfl⟩ ⟨Nat.le_of_ble_eq_true rfl, Nat.le_of_ble_eq_true rfl⟩ rfl (Nat.le_of_ble_eq_true rfl) d_Md_lookElement_1 hE hP hD hS hA [0, 1] [2, 3, 4] rfl rfl rfl rfl (by decide) (ci := 6) rfl rfl 0 rfl (fun _ h => h.elim) (fun v_1 u_1 H locs hp_1 hP hD hS => ?_)
      obtain rfl := hp_1
      have hP : va_P D cls [(m0, .inr (6, mF g (K.1, K.2.1, K.2.2.1, K.2.2.2.1, nI X.length, K.2.2.2.2.2.1, K.2.2.2.2.2.2.1, K.2.2.2.2.2.2.2.1, nI a1) A0 e np B)), ((g 30), .inl (cA 3, 2000, .inl yb)), ((g 38), .inl (cA 3, 2000, .inl ow)), ((g 39), .inl (cA 3, 2000, .inl fi)), ((g 40), .inl (cA 3, 2000, .inl be))] H := hP.sub [3, 4, 0, 1, 2] rfl
      have hD : va_D A [(m0, .inr (6, mF g (K.1, K.2.1, K.2.2.1, K.2.2.2.1, nI X.length, K.2.2.2.2.2.1, K.2.2.2.2.2.2.1, K.2.2.2.2.2.2.2.1, nI a1) A0 e np B)), ((g 30), .inl (cA 3, 2000, .inl yb)), ((g 38), .inl (cA 3, 2000, .inl ow)), ((g 39), .inl (cA 3, 2000, .inl fi)), ((g 40), .inl (cA 3, 2000, .inl be))] := hD.sub [3, 4, 0, 1, 2] (by decide) rfl
      refine W.cs (cells' := 0) (slots' := 0) rfl rfl ?_
      refine W.eq (g2 := F0 m 4 ls [.long (lN 0)]) rfl ?_
      refine lv_l2i hx hb d_Md_lookElement_4 rfl ?_
      refine W.eq (g2 := F0 m 5 ls [.int 0]) (by rw [lN_i]; rfl) ?_
      refine lv_istore_n (lv' := [(3, .int 0), (0, .ref m0), (1, .int (nI t)), (2, .int 4)]) hx hb d_Md_lookElement_5 rfl hl (by decide) rfl (fun ls hl => ?_)
      refine lv_iload_n hx hb d_Md_lookElement_6 rfl (lv_at hl 0 rfl) ?_
      refine lv_iconst (v := 1) hx hb d_Md_lookElement_7 (by decide) ?_
      refine lv_iand hx hb d_Md_lookElement_8 ?_
      refine W.eq (g2 := F0 m 9 ls [.int 0]) (by rw [show (0 : Int32) &&& 1 = 0 from by decide +kernel]) ?_
      refine lv_if_ne (tgt := 16) hx hb d_Md_lookElement_9 (by decide) (fun c_9 => absurd (by decide) c_9) (fun c_9 => ?_)
      refine lv_iconst (v := 1) hx hb d_Md_lookElement_12 (by decide) ?_
      refine lv_goto (tgt := 17) hx hb d_Md_lookElement_13 (by decide) ?_
      refine lv_istore (lv' := [(4, .int 1), (3, .int 0), (0, .ref m0), (1, .int (nI t)), (2, .int 4)]) hx hb d_Md_lookElement_17 hl (by decide) rfl (fun ls hl => ?_)
      refine lv_iload hx hb d_Md_lookElement_19 (lv_at hl 0 rfl) ?_
      refine lv_if_eq (tgt := 37) hx hb d_Md_lookElement_21 (by decide) (fun c_21 => absurd c_21 (by decide)) (fun c_21 => ?_)
      refine lv_iload_n hx hb d_Md_lookElement_24 rfl (lv_at hl 1 rfl) ?_
      refine lv_iconst (v := 2) hx hb d_Md_lookElement_25 (by decide) ?_
      refine lv_iand hx hb d_Md_lookElement_26 ?_
      refine W.eq (g2 := F0 m 27 ls [.int 0]) (by rw [show (0 : Int32) &&& 2 = 0 from by decide +kernel]) ?_
      refine lv_if_eq (tgt := 37) hx hb d_Md_lookElement_27 (by decide) (fun c_27 => ?_) (fun c_27 => absurd (by decide) c_27)
      refine lv_lconst (v := 0) hx hb d_Md_lookElement_37 (by decide) ?_
      refine lv_lstore (lv' := [(5, .long 0), (4, .int 1), (3, .int 0), (0, .ref m0), (1, .int (nI t)), (2, .int 4)]) hx hb d_Md_lookElement_38 hl (by decide) rfl (fun ls hl => ?_)
      refine lv_iload_n hx hb d_Md_lookElement_40 rfl (lv_at hl 5 rfl) ?_
      refine lv_if_ne (tgt := 67) hx hb d_Md_lookElement_41 (by decide) (fun c_41 => ?_) (fun c_41 => absurd c_41 (by decide))
      refine lv_iload_n hx hb d_Md_lookElement_67 rfl (lv_at hl 5 rfl) ?_
      refine lv_iconst (v := 2) hx hb d_Md_lookElement_68 (by decide) ?_
      refine lv_icmp_ne (tgt := 75) hx hb d_Md_lookElement_69 (by decide) (fun c_69 => ?_) (fun c_69 => absurd c_69 (by decide))
      refine lv_iload_n hx hb d_Md_lookElement_75 rfl (lv_at hl 5 rfl) ?_
      refine lv_iconst (v := 4) hx hb d_Md_lookElement_76 (by decide) ?_
      refine lv_icmp_eq (tgt := 85) hx hb d_Md_lookElement_77 (by decide) (fun c_77 => ?_) (fun c_77 => absurd (by decide) c_77)
      refine lv_iload hx hb d_Md_lookElement_85 (lv_at hl 1 rfl) ?_
      refine lv_if_eq (tgt := 100) hx hb d_Md_lookElement_87 (by decide) (fun c_87 => absurd c_87 (by decide)) (fun c_87 => ?_)
      refine lv_aload_n hx hb d_Md_lookElement_90 rfl (lv_at hl 3 rfl) ?_
      refine lv_iload_n hx hb d_Md_lookElement_91 rfl (lv_at hl 4 rfl) ?_
      refine lv_iload_n hx hb d_Md_lookElement_92 rfl (lv_at hl 5 rfl) ?_
      refine cV (As := [.int (nI t), .int 4]) (rest := []) (n := 2) (wc := [(m0, .inr (6, mF g (K.1, K.2.1, K.2.2.1, K.2.2.2.1, nI X.length, K.2.2.2.2.2.1, K.2.2.2.2.2.2.1, K.2.2.2.2.2.2.2.1, nI a1) A0 e np B)), ((g 38), .inl (cA 3, 2000, .inl ow)), ((g 39), .inl (cA 3, 2000, .inl fi)), ((g 40), .inl (cA 3, 2000, .inl be))]) (wr := [((g 30), .inl (cA 3, 2000, .inl yb))]) ⟨hx, hb, hml, hown, hts⟩ hno hlocks hl.1 (c_Md_placeOf l hl9 D cA ad H.size m0 g (K.1, K.2.1, K.2.2.1, K.2.2.2.1, nI X.length, K.2.2.2.2.2.1, K.2.2.2.2.2.2.1, K.2.2.2.2.2.2.2.1, nI a1) A0 e np B ow fi be X hXH hXf hX t (by omega) x1 a2 exs hexx (4 : Int32)) iw4_152 iw4_154 sel_Md_placeOf iw1_7 iw4_155 (by decide +kernel) rfl ⟨Nat.le_of_ble_eq_true rfl, Nat.le_of_ble_eq_true rfl⟩ ⟨Nat.le_of_ble_eq_true rfl, Nat.le_of_ble_eq_true rfl⟩ rfl (Nat.le_of_ble_eq_true rfl) d_Md_lookElement_93 hE hP hD hS hA [0, 2, 3, 4] [1] rfl rfl rfl rfl (by decide) (ci := 6) rfl rfl 0 rfl (fun _ h => h.elim) (fun v_93 u_93 H locs hp_93 hP hD hS => ?_)
      obtain rfl := hp_93
      have hP : va_P D cls [(m0, .inr (6, mF g (K.1, K.2.1, K.2.2.1, K.2.2.2.1, nI X.length, K.2.2.2.2.2.1, K.2.2.2.2.2.2.1, K.2.2.2.2.2.2.2.1, nI a1) A0 e np B)), ((g 30), .inl (cA 3, 2000, .inl yb)), ((g 38), .inl (cA 3, 2000, .inl ow)), ((g 39), .inl (cA 3, 2000, .inl fi)), ((g 40), .inl (cA 3, 2000, .inl be))] H := hP.sub [1, 0, 2, 3, 4] rfl
      have hD : va_D A [(m0, .inr (6, mF g (K.1, K.2.1, K.2.2.1, K.2.2.2.1, nI X.length, K.2.2.2.2.2.1, K.2.2.2.2.2.2.1, K.2.2.2.2.2.2.2.1, nI a1) A0 e np B)), ((g 30), .inl (cA 3, 2000, .inl yb)), ((g 38), .inl (cA 3, 2000, .inl ow)), ((g 39), .inl (cA 3, 2000, .inl fi)), ((g 40), .inl (cA 3, 2000, .inl be))] := hD.sub [1, 0, 2, 3, 4] (by decide) rfl
      refine W.cs (cells' := 0) (slots' := 0) rfl rfl ?_
      refine W.eq (g2 := F0 m 96 ls [.int (if (4 : Int32) = 4 then nI x1 else nI a2)]) rfl ?_
      refine lv_i2l hx hb d_Md_lookElement_96 rfl ?_
      rw [if_pos rfl, nI_l (n := x1) (by omega)]
      refine lv_goto (tgt := 103) hx hb d_Md_lookElement_97 (by decide) ?_
      exact cRl (nI a1) hx hb hr hlocks d_Md_lookElement_103 hS hP hD (congrArg (fun z : Int64 => some (Value.long z)) h4.symm) (Nat.le_refl _) (Nat.le_refl _)
    · have hl : lv_has ls 13 [(0, .ref m0), (1, .int (nI t)), (2, .int 5)] := hl
      refine lv_aload_n hx hb d_Md_lookElement_0 rfl (lv_at hl 0 rfl) ?_
      refine cV (As := []) (rest := []) (n := 0) (wc := [(m0, .inr (6, mF g (K.1, K.2.1, K.2.2.1, K.2.2.2.1, nI X.length, K.2.2.2.2.2.1, K.2.2.2.2.2.2.1, K.2.2.2.2.2.2.2.1, nI a) A0 e np B)), ((g 30), .inl (cA 3, 2000, .inl yb))]) (wr := [((g 38), .inl (cA 3, 2000, .inl ow)), ((g 39), .inl (cA 3, 2000, .inl fi)), ((g 40), .inl (cA 3, 2000, .inl be))]) ⟨hx, hb, hml, hown, hts⟩ hno hlocks hl.1 (c_Md_number l hl9 D cA ad s.heap.size m0 g (K.1, K.2.1, K.2.2.1, K.2.2.2.1, nI X.length, K.2.2.2.2.2.1, K.2.2.2.2.2.2.1, K.2.2.2.2.2.2.2.1, nI a) A0 e np B yb b lm hlm hyb hb9 a 0 a1 (by omega) hmu) iw4_132 iw4_134 sel_Md_number iw1_7 iw4_135 (by decide +kernel) rfl ⟨Nat.le_of_ble_eq_true rfl, Nat.le_of_ble_eq_true rfl⟩ ⟨Nat.le_of_ble_eq_true rfl, Nat.le_of_ble_eq_true rfl⟩ rfl (Nat.le_of_ble_eq_true rfl) d_Md_lookElement_1 hE hP hD hS hA [0, 1] [2, 3, 4] rfl rfl rfl rfl (by decide) (ci := 6) rfl rfl 0 rfl (fun _ h => h.elim) (fun v_1 u_1 H locs hp_1 hP hD hS => ?_)
      obtain rfl := hp_1
      have hP : va_P D cls [(m0, .inr (6, mF g (K.1, K.2.1, K.2.2.1, K.2.2.2.1, nI X.length, K.2.2.2.2.2.1, K.2.2.2.2.2.2.1, K.2.2.2.2.2.2.2.1, nI a1) A0 e np B)), ((g 30), .inl (cA 3, 2000, .inl yb)), ((g 38), .inl (cA 3, 2000, .inl ow)), ((g 39), .inl (cA 3, 2000, .inl fi)), ((g 40), .inl (cA 3, 2000, .inl be))] H := hP.sub [3, 4, 0, 1, 2] rfl
      have hD : va_D A [(m0, .inr (6, mF g (K.1, K.2.1, K.2.2.1, K.2.2.2.1, nI X.length, K.2.2.2.2.2.1, K.2.2.2.2.2.2.1, K.2.2.2.2.2.2.2.1, nI a1) A0 e np B)), ((g 30), .inl (cA 3, 2000, .inl yb)), ((g 38), .inl (cA 3, 2000, .inl ow)), ((g 39), .inl (cA 3, 2000, .inl fi)), ((g 40), .inl (cA 3, 2000, .inl be))] := hD.sub [3, 4, 0, 1, 2] (by decide) rfl
      refine W.cs (cells' := 0) (slots' := 0) rfl rfl ?_
      refine W.eq (g2 := F0 m 4 ls [.long (lN 0)]) rfl ?_
      refine lv_l2i hx hb d_Md_lookElement_4 rfl ?_
      refine W.eq (g2 := F0 m 5 ls [.int 0]) (by rw [lN_i]; rfl) ?_
      refine lv_istore_n (lv' := [(3, .int 0), (0, .ref m0), (1, .int (nI t)), (2, .int 5)]) hx hb d_Md_lookElement_5 rfl hl (by decide) rfl (fun ls hl => ?_)
      refine lv_iload_n hx hb d_Md_lookElement_6 rfl (lv_at hl 0 rfl) ?_
      refine lv_iconst (v := 1) hx hb d_Md_lookElement_7 (by decide) ?_
      refine lv_iand hx hb d_Md_lookElement_8 ?_
      refine W.eq (g2 := F0 m 9 ls [.int 0]) (by rw [show (0 : Int32) &&& 1 = 0 from by decide +kernel]) ?_
      refine lv_if_ne (tgt := 16) hx hb d_Md_lookElement_9 (by decide) (fun c_9 => absurd (by decide) c_9) (fun c_9 => ?_)
      refine lv_iconst (v := 1) hx hb d_Md_lookElement_12 (by decide) ?_
      refine lv_goto (tgt := 17) hx hb d_Md_lookElement_13 (by decide) ?_
      refine lv_istore (lv' := [(4, .int 1), (3, .int 0), (0, .ref m0), (1, .int (nI t)), (2, .int 5)]) hx hb d_Md_lookElement_17 hl (by decide) rfl (fun ls hl => ?_)
      refine lv_iload hx hb d_Md_lookElement_19 (lv_at hl 0 rfl) ?_
      refine lv_if_eq (tgt := 37) hx hb d_Md_lookElement_21 (by decide) (fun c_21 => absurd c_21 (by decide)) (fun c_21 => ?_)
      refine lv_iload_n hx hb d_Md_lookElement_24 rfl (lv_at hl 1 rfl) ?_
      refine lv_iconst (v := 2) hx hb d_Md_lookElement_25 (by decide) ?_
      refine lv_iand hx hb d_Md_lookElement_26 ?_
      refine W.eq (g2 := F0 m 27 ls [.int 0]) (by rw [show (0 : Int32) &&& 2 = 0 from by decide +kernel]) ?_
      refine lv_if_eq (tgt := 37) hx hb d_Md_lookElement_27 (by decide) (fun c_27 => ?_) (fun c_27 => absurd (by decide) c_27)
      refine lv_lconst (v := 0) hx hb d_Md_lookElement_37 (by decide) ?_
      refine lv_lstore (lv' := [(5, .long 0), (4, .int 1), (3, .int 0), (0, .ref m0), (1, .int (nI t)), (2, .int 5)]) hx hb d_Md_lookElement_38 hl (by decide) rfl (fun ls hl => ?_)
      refine lv_iload_n hx hb d_Md_lookElement_40 rfl (lv_at hl 5 rfl) ?_
      refine lv_if_ne (tgt := 67) hx hb d_Md_lookElement_41 (by decide) (fun c_41 => ?_) (fun c_41 => absurd c_41 (by decide))
      refine lv_iload_n hx hb d_Md_lookElement_67 rfl (lv_at hl 5 rfl) ?_
      refine lv_iconst (v := 2) hx hb d_Md_lookElement_68 (by decide) ?_
      refine lv_icmp_ne (tgt := 75) hx hb d_Md_lookElement_69 (by decide) (fun c_69 => ?_) (fun c_69 => absurd c_69 (by decide))
      refine lv_iload_n hx hb d_Md_lookElement_75 rfl (lv_at hl 5 rfl) ?_
      refine lv_iconst (v := 4) hx hb d_Md_lookElement_76 (by decide) ?_
      refine lv_icmp_eq (tgt := 85) hx hb d_Md_lookElement_77 (by decide) (fun c_77 => absurd c_77 (by decide)) (fun c_77 => ?_)
      refine lv_iload_n hx hb d_Md_lookElement_80 rfl (lv_at hl 5 rfl) ?_
      refine lv_iconst (v := 5) hx hb d_Md_lookElement_81 (by decide) ?_
      refine lv_icmp_ne (tgt := 104) hx hb d_Md_lookElement_82 (by decide) (fun c_82 => absurd (by decide) c_82) (fun c_82 => ?_)
      refine lv_iload hx hb d_Md_lookElement_85 (lv_at hl 1 rfl) ?_
      refine lv_if_eq (tgt := 100) hx hb d_Md_lookElement_87 (by decide) (fun c_87 => absurd c_87 (by decide)) (fun c_87 => ?_)
      refine lv_aload_n hx hb d_Md_lookElement_90 rfl (lv_at hl 3 rfl) ?_
      refine lv_iload_n hx hb d_Md_lookElement_91 rfl (lv_at hl 4 rfl) ?_
      refine lv_iload_n hx hb d_Md_lookElement_92 rfl (lv_at hl 5 rfl) ?_
      refine cV (As := [.int (nI t), .int 5]) (rest := []) (n := 2) (wc := [(m0, .inr (6, mF g (K.1, K.2.1, K.2.2.1, K.2.2.2.1, nI X.length, K.2.2.2.2.2.1, K.2.2.2.2.2.2.1, K.2.2.2.2.2.2.2.1, nI a1) A0 e np B)), ((g 38), .inl (cA 3, 2000, .inl ow)), ((g 39), .inl (cA 3, 2000, .inl fi)), ((g 40), .inl (cA 3, 2000, .inl be))]) (wr := [((g 30), .inl (cA 3, 2000, .inl yb))]) ⟨hx, hb, hml, hown, hts⟩ hno hlocks hl.1 (c_Md_placeOf l hl9 D cA ad H.size m0 g (K.1, K.2.1, K.2.2.1, K.2.2.2.1, nI X.length, K.2.2.2.2.2.1, K.2.2.2.2.2.2.1, K.2.2.2.2.2.2.2.1, nI a1) A0 e np B ow fi be X hXH hXf hX t (by omega) x1 a2 exs hexx (5 : Int32)) iw4_152 iw4_154 sel_Md_placeOf iw1_7 iw4_155 (by decide +kernel) rfl ⟨Nat.le_of_ble_eq_true rfl, Nat.le_of_ble_eq_true rfl⟩ ⟨Nat.le_of_ble_eq_true rfl, Nat.le_of_ble_eq_true rfl⟩ rfl (Nat.le_of_ble_eq_true rfl) d_Md_lookElement_93 hE hP hD hS hA [0, 2, 3, 4] [1] rfl rfl rfl rfl (by decide) (ci := 6) rfl rfl 0 rfl (fun _ h => h.elim) (fun v_93 u_93 H locs hp_93 hP hD hS => ?_)
      obtain rfl := hp_93
      have hP : va_P D cls [(m0, .inr (6, mF g (K.1, K.2.1, K.2.2.1, K.2.2.2.1, nI X.length, K.2.2.2.2.2.1, K.2.2.2.2.2.2.1, K.2.2.2.2.2.2.2.1, nI a1) A0 e np B)), ((g 30), .inl (cA 3, 2000, .inl yb)), ((g 38), .inl (cA 3, 2000, .inl ow)), ((g 39), .inl (cA 3, 2000, .inl fi)), ((g 40), .inl (cA 3, 2000, .inl be))] H := hP.sub [1, 0, 2, 3, 4] rfl
      have hD : va_D A [(m0, .inr (6, mF g (K.1, K.2.1, K.2.2.1, K.2.2.2.1, nI X.length, K.2.2.2.2.2.1, K.2.2.2.2.2.2.1, K.2.2.2.2.2.2.2.1, nI a1) A0 e np B)), ((g 30), .inl (cA 3, 2000, .inl yb)), ((g 38), .inl (cA 3, 2000, .inl ow)), ((g 39), .inl (cA 3, 2000, .inl fi)), ((g 40), .inl (cA 3, 2000, .inl be))] := hD.sub [1, 0, 2, 3, 4] (by decide) rfl
      refine W.cs (cells' := 0) (slots' := 0) rfl rfl ?_
      refine W.eq (g2 := F0 m 96 ls [.int (if (5 : Int32) = 4 then nI x1 else nI a2)]) rfl ?_
      refine lv_i2l hx hb d_Md_lookElement_96 rfl ?_
      rw [if_neg (by decide), nI_l (n := a2) (by omega)]
      refine lv_goto (tgt := 103) hx hb d_Md_lookElement_97 (by decide) ?_
      exact cRl (nI a1) hx hb hr hlocks d_Md_lookElement_103 hS hP hD (rfl) (Nat.le_refl _) (Nat.le_refl _)
    · have hl : lv_has ls 13 [(0, .ref m0), (1, .int (nI t)), (2, .int 6)] := hl
      refine lv_aload_n hx hb d_Md_lookElement_0 rfl (lv_at hl 0 rfl) ?_
      refine cV (As := []) (rest := []) (n := 0) (wc := [(m0, .inr (6, mF g (K.1, K.2.1, K.2.2.1, K.2.2.2.1, nI X.length, K.2.2.2.2.2.1, K.2.2.2.2.2.2.1, K.2.2.2.2.2.2.2.1, nI a) A0 e np B)), ((g 30), .inl (cA 3, 2000, .inl yb))]) (wr := [((g 38), .inl (cA 3, 2000, .inl ow)), ((g 39), .inl (cA 3, 2000, .inl fi)), ((g 40), .inl (cA 3, 2000, .inl be))]) ⟨hx, hb, hml, hown, hts⟩ hno hlocks hl.1 (c_Md_number l hl9 D cA ad s.heap.size m0 g (K.1, K.2.1, K.2.2.1, K.2.2.2.1, nI X.length, K.2.2.2.2.2.1, K.2.2.2.2.2.2.1, K.2.2.2.2.2.2.2.1, nI a) A0 e np B yb b lm hlm hyb hb9 a 0 a1 (by omega) hmu) iw4_132 iw4_134 sel_Md_number iw1_7 iw4_135 (by decide +kernel) rfl ⟨Nat.le_of_ble_eq_true rfl, Nat.le_of_ble_eq_true rfl⟩ ⟨Nat.le_of_ble_eq_true rfl, Nat.le_of_ble_eq_true rfl⟩ rfl (Nat.le_of_ble_eq_true rfl) d_Md_lookElement_1 hE hP hD hS hA [0, 1] [2, 3, 4] rfl rfl rfl rfl (by decide) (ci := 6) rfl rfl 0 rfl (fun _ h => h.elim) (fun v_1 u_1 H locs hp_1 hP hD hS => ?_)
      obtain rfl := hp_1
      have hP : va_P D cls [(m0, .inr (6, mF g (K.1, K.2.1, K.2.2.1, K.2.2.2.1, nI X.length, K.2.2.2.2.2.1, K.2.2.2.2.2.2.1, K.2.2.2.2.2.2.2.1, nI a1) A0 e np B)), ((g 30), .inl (cA 3, 2000, .inl yb)), ((g 38), .inl (cA 3, 2000, .inl ow)), ((g 39), .inl (cA 3, 2000, .inl fi)), ((g 40), .inl (cA 3, 2000, .inl be))] H := hP.sub [3, 4, 0, 1, 2] rfl
      have hD : va_D A [(m0, .inr (6, mF g (K.1, K.2.1, K.2.2.1, K.2.2.2.1, nI X.length, K.2.2.2.2.2.1, K.2.2.2.2.2.2.1, K.2.2.2.2.2.2.2.1, nI a1) A0 e np B)), ((g 30), .inl (cA 3, 2000, .inl yb)), ((g 38), .inl (cA 3, 2000, .inl ow)), ((g 39), .inl (cA 3, 2000, .inl fi)), ((g 40), .inl (cA 3, 2000, .inl be))] := hD.sub [3, 4, 0, 1, 2] (by decide) rfl
      refine W.cs (cells' := 0) (slots' := 0) rfl rfl ?_
      refine W.eq (g2 := F0 m 4 ls [.long (lN 0)]) rfl ?_
      refine lv_l2i hx hb d_Md_lookElement_4 rfl ?_
      refine W.eq (g2 := F0 m 5 ls [.int 0]) (by rw [lN_i]; rfl) ?_
      refine lv_istore_n (lv' := [(3, .int 0), (0, .ref m0), (1, .int (nI t)), (2, .int 6)]) hx hb d_Md_lookElement_5 rfl hl (by decide) rfl (fun ls hl => ?_)
      refine lv_iload_n hx hb d_Md_lookElement_6 rfl (lv_at hl 0 rfl) ?_
      refine lv_iconst (v := 1) hx hb d_Md_lookElement_7 (by decide) ?_
      refine lv_iand hx hb d_Md_lookElement_8 ?_
      refine W.eq (g2 := F0 m 9 ls [.int 0]) (by rw [show (0 : Int32) &&& 1 = 0 from by decide +kernel]) ?_
      refine lv_if_ne (tgt := 16) hx hb d_Md_lookElement_9 (by decide) (fun c_9 => absurd (by decide) c_9) (fun c_9 => ?_)
      refine lv_iconst (v := 1) hx hb d_Md_lookElement_12 (by decide) ?_
      refine lv_goto (tgt := 17) hx hb d_Md_lookElement_13 (by decide) ?_
      refine lv_istore (lv' := [(4, .int 1), (3, .int 0), (0, .ref m0), (1, .int (nI t)), (2, .int 6)]) hx hb d_Md_lookElement_17 hl (by decide) rfl (fun ls hl => ?_)
      refine lv_iload hx hb d_Md_lookElement_19 (lv_at hl 0 rfl) ?_
      refine lv_if_eq (tgt := 37) hx hb d_Md_lookElement_21 (by decide) (fun c_21 => absurd c_21 (by decide)) (fun c_21 => ?_)
      refine lv_iload_n hx hb d_Md_lookElement_24 rfl (lv_at hl 1 rfl) ?_
      refine lv_iconst (v := 2) hx hb d_Md_lookElement_25 (by decide) ?_
      refine lv_iand hx hb d_Md_lookElement_26 ?_
      refine W.eq (g2 := F0 m 27 ls [.int 0]) (by rw [show (0 : Int32) &&& 2 = 0 from by decide +kernel]) ?_
      refine lv_if_eq (tgt := 37) hx hb d_Md_lookElement_27 (by decide) (fun c_27 => ?_) (fun c_27 => absurd (by decide) c_27)
      refine lv_lconst (v := 0) hx hb d_Md_lookElement_37 (by decide) ?_
      refine lv_lstore (lv' := [(5, .long 0), (4, .int 1), (3, .int 0), (0, .ref m0), (1, .int (nI t)), (2, .int 6)]) hx hb d_Md_lookElement_38 hl (by decide) rfl (fun ls hl => ?_)
      refine lv_iload_n hx hb d_Md_lookElement_40 rfl (lv_at hl 5 rfl) ?_
      refine lv_if_ne (tgt := 67) hx hb d_Md_lookElement_41 (by decide) (fun c_41 => ?_) (fun c_41 => absurd c_41 (by decide))
      refine lv_iload_n hx hb d_Md_lookElement_67 rfl (lv_at hl 5 rfl) ?_
      refine lv_iconst (v := 2) hx hb d_Md_lookElement_68 (by decide) ?_
      refine lv_icmp_ne (tgt := 75) hx hb d_Md_lookElement_69 (by decide) (fun c_69 => ?_) (fun c_69 => absurd c_69 (by decide))
      refine lv_iload_n hx hb d_Md_lookElement_75 rfl (lv_at hl 5 rfl) ?_
      refine lv_iconst (v := 4) hx hb d_Md_lookElement_76 (by decide) ?_
      refine lv_icmp_eq (tgt := 85) hx hb d_Md_lookElement_77 (by decide) (fun c_77 => absurd c_77 (by decide)) (fun c_77 => ?_)
      refine lv_iload_n hx hb d_Md_lookElement_80 rfl (lv_at hl 5 rfl) ?_
      refine lv_iconst (v := 5) hx hb d_Md_lookElement_81 (by decide) ?_
      refine lv_icmp_ne (tgt := 104) hx hb d_Md_lookElement_82 (by decide) (fun c_82 => ?_) (fun c_82 => absurd c_82 (by decide))
      refine lv_iload_n hx hb d_Md_lookElement_104 rfl (lv_at hl 5 rfl) ?_
      refine lv_bipush (v := 6) hx hb d_Md_lookElement_105 (by decide) ?_
      refine lv_icmp_ne (tgt := 122) hx hb d_Md_lookElement_107 (by decide) (fun c_107 => absurd (by decide) c_107) (fun c_107 => ?_)
      refine lv_iload_n hx hb d_Md_lookElement_110 rfl (lv_at hl 2 rfl) ?_
      refine lv_iconst (v := 4) hx hb d_Md_lookElement_111 (by decide) ?_
      refine lv_iand hx hb d_Md_lookElement_112 ?_
      refine W.eq (g2 := F0 m 113 ls [.int 0]) (by rw [show (0 : Int32) &&& 4 = 0 from by decide +kernel]) ?_
      refine lv_if_eq (tgt := 120) hx hb d_Md_lookElement_113 (by decide) (fun c_113 => ?_) (fun c_113 => absurd (by decide) c_113)
      refine lv_lconst (v := 0) hx hb d_Md_lookElement_120 (by decide) ?_
      exact cRl (nI a1) hx hb hr hlocks d_Md_lookElement_121 hS hP hD (rfl) (Nat.le_refl _) (Nat.le_refl _)
    · have hl : lv_has ls 13 [(0, .ref m0), (1, .int (nI t)), (2, .int 7)] := hl
      refine lv_aload_n hx hb d_Md_lookElement_0 rfl (lv_at hl 0 rfl) ?_
      refine cV (As := []) (rest := []) (n := 0) (wc := [(m0, .inr (6, mF g (K.1, K.2.1, K.2.2.1, K.2.2.2.1, nI X.length, K.2.2.2.2.2.1, K.2.2.2.2.2.2.1, K.2.2.2.2.2.2.2.1, nI a) A0 e np B)), ((g 30), .inl (cA 3, 2000, .inl yb))]) (wr := [((g 38), .inl (cA 3, 2000, .inl ow)), ((g 39), .inl (cA 3, 2000, .inl fi)), ((g 40), .inl (cA 3, 2000, .inl be))]) ⟨hx, hb, hml, hown, hts⟩ hno hlocks hl.1 (c_Md_number l hl9 D cA ad s.heap.size m0 g (K.1, K.2.1, K.2.2.1, K.2.2.2.1, nI X.length, K.2.2.2.2.2.1, K.2.2.2.2.2.2.1, K.2.2.2.2.2.2.2.1, nI a) A0 e np B yb b lm hlm hyb hb9 a 0 a1 (by omega) hmu) iw4_132 iw4_134 sel_Md_number iw1_7 iw4_135 (by decide +kernel) rfl ⟨Nat.le_of_ble_eq_true rfl, Nat.le_of_ble_eq_true rfl⟩ ⟨Nat.le_of_ble_eq_true rfl, Nat.le_of_ble_eq_true rfl⟩ rfl (Nat.le_of_ble_eq_true rfl) d_Md_lookElement_1 hE hP hD hS hA [0, 1] [2, 3, 4] rfl rfl rfl rfl (by decide) (ci := 6) rfl rfl 0 rfl (fun _ h => h.elim) (fun v_1 u_1 H locs hp_1 hP hD hS => ?_)
      obtain rfl := hp_1
      have hP : va_P D cls [(m0, .inr (6, mF g (K.1, K.2.1, K.2.2.1, K.2.2.2.1, nI X.length, K.2.2.2.2.2.1, K.2.2.2.2.2.2.1, K.2.2.2.2.2.2.2.1, nI a1) A0 e np B)), ((g 30), .inl (cA 3, 2000, .inl yb)), ((g 38), .inl (cA 3, 2000, .inl ow)), ((g 39), .inl (cA 3, 2000, .inl fi)), ((g 40), .inl (cA 3, 2000, .inl be))] H := hP.sub [3, 4, 0, 1, 2] rfl
      have hD : va_D A [(m0, .inr (6, mF g (K.1, K.2.1, K.2.2.1, K.2.2.2.1, nI X.length, K.2.2.2.2.2.1, K.2.2.2.2.2.2.1, K.2.2.2.2.2.2.2.1, nI a1) A0 e np B)), ((g 30), .inl (cA 3, 2000, .inl yb)), ((g 38), .inl (cA 3, 2000, .inl ow)), ((g 39), .inl (cA 3, 2000, .inl fi)), ((g 40), .inl (cA 3, 2000, .inl be))] := hD.sub [3, 4, 0, 1, 2] (by decide) rfl
      refine W.cs (cells' := 0) (slots' := 0) rfl rfl ?_
      refine W.eq (g2 := F0 m 4 ls [.long (lN 0)]) rfl ?_
      refine lv_l2i hx hb d_Md_lookElement_4 rfl ?_
      refine W.eq (g2 := F0 m 5 ls [.int 0]) (by rw [lN_i]; rfl) ?_
      refine lv_istore_n (lv' := [(3, .int 0), (0, .ref m0), (1, .int (nI t)), (2, .int 7)]) hx hb d_Md_lookElement_5 rfl hl (by decide) rfl (fun ls hl => ?_)
      refine lv_iload_n hx hb d_Md_lookElement_6 rfl (lv_at hl 0 rfl) ?_
      refine lv_iconst (v := 1) hx hb d_Md_lookElement_7 (by decide) ?_
      refine lv_iand hx hb d_Md_lookElement_8 ?_
      refine W.eq (g2 := F0 m 9 ls [.int 0]) (by rw [show (0 : Int32) &&& 1 = 0 from by decide +kernel]) ?_
      refine lv_if_ne (tgt := 16) hx hb d_Md_lookElement_9 (by decide) (fun c_9 => absurd (by decide) c_9) (fun c_9 => ?_)
      refine lv_iconst (v := 1) hx hb d_Md_lookElement_12 (by decide) ?_
      refine lv_goto (tgt := 17) hx hb d_Md_lookElement_13 (by decide) ?_
      refine lv_istore (lv' := [(4, .int 1), (3, .int 0), (0, .ref m0), (1, .int (nI t)), (2, .int 7)]) hx hb d_Md_lookElement_17 hl (by decide) rfl (fun ls hl => ?_)
      refine lv_iload hx hb d_Md_lookElement_19 (lv_at hl 0 rfl) ?_
      refine lv_if_eq (tgt := 37) hx hb d_Md_lookElement_21 (by decide) (fun c_21 => absurd c_21 (by decide)) (fun c_21 => ?_)
      refine lv_iload_n hx hb d_Md_lookElement_24 rfl (lv_at hl 1 rfl) ?_
      refine lv_iconst (v := 2) hx hb d_Md_lookElement_25 (by decide) ?_
      refine lv_iand hx hb d_Md_lookElement_26 ?_
      refine W.eq (g2 := F0 m 27 ls [.int 0]) (by rw [show (0 : Int32) &&& 2 = 0 from by decide +kernel]) ?_
      refine lv_if_eq (tgt := 37) hx hb d_Md_lookElement_27 (by decide) (fun c_27 => ?_) (fun c_27 => absurd (by decide) c_27)
      refine lv_lconst (v := 0) hx hb d_Md_lookElement_37 (by decide) ?_
      refine lv_lstore (lv' := [(5, .long 0), (4, .int 1), (3, .int 0), (0, .ref m0), (1, .int (nI t)), (2, .int 7)]) hx hb d_Md_lookElement_38 hl (by decide) rfl (fun ls hl => ?_)
      refine lv_iload_n hx hb d_Md_lookElement_40 rfl (lv_at hl 5 rfl) ?_
      refine lv_if_ne (tgt := 67) hx hb d_Md_lookElement_41 (by decide) (fun c_41 => ?_) (fun c_41 => absurd c_41 (by decide))
      refine lv_iload_n hx hb d_Md_lookElement_67 rfl (lv_at hl 5 rfl) ?_
      refine lv_iconst (v := 2) hx hb d_Md_lookElement_68 (by decide) ?_
      refine lv_icmp_ne (tgt := 75) hx hb d_Md_lookElement_69 (by decide) (fun c_69 => ?_) (fun c_69 => absurd c_69 (by decide))
      refine lv_iload_n hx hb d_Md_lookElement_75 rfl (lv_at hl 5 rfl) ?_
      refine lv_iconst (v := 4) hx hb d_Md_lookElement_76 (by decide) ?_
      refine lv_icmp_eq (tgt := 85) hx hb d_Md_lookElement_77 (by decide) (fun c_77 => absurd c_77 (by decide)) (fun c_77 => ?_)
      refine lv_iload_n hx hb d_Md_lookElement_80 rfl (lv_at hl 5 rfl) ?_
      refine lv_iconst (v := 5) hx hb d_Md_lookElement_81 (by decide) ?_
      refine lv_icmp_ne (tgt := 104) hx hb d_Md_lookElement_82 (by decide) (fun c_82 => ?_) (fun c_82 => absurd c_82 (by decide))
      refine lv_iload_n hx hb d_Md_lookElement_104 rfl (lv_at hl 5 rfl) ?_
      refine lv_bipush (v := 6) hx hb d_Md_lookElement_105 (by decide) ?_
      refine lv_icmp_ne (tgt := 122) hx hb d_Md_lookElement_107 (by decide) (fun c_107 => ?_) (fun c_107 => absurd c_107 (by decide))
      refine lv_iload hx hb d_Md_lookElement_122 (lv_at hl 1 rfl) ?_
      refine lv_if_eq (tgt := 142) hx hb d_Md_lookElement_124 (by decide) (fun c_124 => absurd c_124 (by decide)) (fun c_124 => ?_)
      refine lv_aload_n hx hb d_Md_lookElement_127 rfl (lv_at hl 3 rfl) ?_
      refine lv_aload_n hx hb d_Md_lookElement_128 rfl (lv_at hl 3 rfl) ?_
      refine va_get (D := D) (ci := 6) (v := .ref (g 40)) (C := R_Md) (T := F_Md) (N := 44) hx hb hts (fun w h => List.mem_cons_of_mem _ (i_Md w h)) hown hE.1 hP 0 rfl rfl 40 (by decide) (hts _ (List.mem_cons_of_mem _ iw3_94)) (fun _ h9 => h9) rfl d_Md_lookElement_129 ?_
      refine lv_aload_n hx hb d_Md_lookElement_132 rfl (lv_at hl 3 rfl) ?_
      refine lv_iload_n hx hb d_Md_lookElement_133 rfl (lv_at hl 4 rfl) ?_
      refine lv_iconst (v := 0) hx hb d_Md_lookElement_134 (by decide) ?_
      refine cV (As := [.int (nI t), .int 0]) (rest := [.ref (g 40), .ref m0]) (n := 2) (wc := [(m0, .inr (6, mF g (K.1, K.2.1, K.2.2.1, K.2.2.2.1, nI X.length, K.2.2.2.2.2.1, K.2.2.2.2.2.2.1, K.2.2.2.2.2.2.2.1, nI a1) A0 e np B)), ((g 38), .inl (cA 3, 2000, .inl ow))]) (wr := [((g 30), .inl (cA 3, 2000, .inl yb)), ((g 39), .inl (cA 3, 2000, .inl fi)), ((g 40), .inl (cA 3, 2000, .inl be))]) ⟨hx, hb, hml, hown, hts⟩ hno hlocks hl.1 (c_Md_expressionOf l hl9 D cA ad H.size m0 g (K.1, K.2.1, K.2.2.1, K.2.2.2.1, nI X.length, K.2.2.2.2.2.1, K.2.2.2.2.2.2.1, K.2.2.2.2.2.2.2.1, nI a1) A0 e np B ow fi be X hXH hXf hX t (by omega) 0 (by omega)) iw4_156 iw4_158 sel_Md_expressionOf iw1_7 iw4_159 (by decide +kernel) rfl ⟨Nat.le_of_ble_eq_true rfl, Nat.le_of_ble_eq_true rfl⟩ ⟨Nat.le_of_ble_eq_true rfl, Nat.le_of_ble_eq_true rfl⟩ rfl (Nat.le_of_ble_eq_true rfl) d_Md_lookElement_135 hE hP hD hS hA [0, 2] [1, 3, 4] rfl rfl rfl rfl (by decide) (ci := 6) rfl rfl 0 rfl (fun _ h => h.elim) (fun v_135 u_135 H locs hp_135 hP hD hS => ?_)
      rcases hp_135 with ⟨rfl, hno251⟩ | ⟨e251_, f251_, z251_, he251, rfl, hg251, hfi251, hbe251, hfb251, hzb251⟩
      · exact absurd hno251 (by rw [hexx]; simp)
      have hP : va_P D cls [(m0, .inr (6, mF g (K.1, K.2.1, K.2.2.1, K.2.2.2.1, nI X.length, K.2.2.2.2.2.1, K.2.2.2.2.2.2.1, K.2.2.2.2.2.2.2.1, nI a1) A0 e np B)), ((g 30), .inl (cA 3, 2000, .inl yb)), ((g 38), .inl (cA 3, 2000, .inl ow)), ((g 39), .inl (cA 3, 2000, .inl fi)), ((g 40), .inl (cA 3, 2000, .inl be))] H := hP.sub [3, 0, 4, 1, 2] rfl
      have hD : va_D A [(m0, .inr (6, mF g (K.1, K.2.1, K.2.2.1, K.2.2.2.1, nI X.length, K.2.2.2.2.2.1, K.2.2.2.2.2.2.1, K.2.2.2.2.2.2.2.1, nI a1) A0 e np B)), ((g 30), .inl (cA 3, 2000, .inl yb)), ((g 38), .inl (cA 3, 2000, .inl ow)), ((g 39), .inl (cA 3, 2000, .inl fi)), ((g 40), .inl (cA 3, 2000, .inl be))] := hD.sub [3, 0, 4, 1, 2] (by decide) rfl
      refine W.cs (cells' := 0) (slots' := 0) rfl rfl ?_
      refine W.eq (g2 := F0 m 138 ls [.int (nI e251_), .ref (g 40), .ref m0]) rfl ?_
      refine va_iald hx hb hE.1 hP 4 3 rfl rfl (vp_in_nI (by omega) (by omega)) d_Md_lookElement_138 ?_
      rw [nI_clamp (n := e251_) (by omega), hbe251, show z251_ = a2 from by rw [hexx] at hg251; exact (congrArg Prod.snd (Option.some.inj hg251)).symm]
      refine va_put (D := D) (ci := 6) (v := .int (nI a2)) (ty := .int) (C := R_Md) (T := F_Md) (N := 44) hx hb hts (fun w h => List.mem_cons_of_mem _ (i_Md w h)) t_Md tk_Md n_Md hown hE.1 hP hD hS 0 rfl rfl 43 (by decide) (hts _ (List.mem_cons_of_mem _ iw3_97)) (fun _ h9 => h9) rfl (by decide +kernel) rfl rfl (Nat.le_of_ble_eq_true rfl) d_Md_lookElement_139 (fun H locs hP hD hS => ?_)
      have hP : va_P D cls [(m0, .inr (6, mF g (K.1, K.2.1, K.2.2.1, K.2.2.2.1, nI X.length, K.2.2.2.2.2.1, K.2.2.2.2.2.2.1, K.2.2.2.2.2.2.2.1, nI a2) A0 e np B)), ((g 30), .inl (cA 3, 2000, .inl yb)), ((g 38), .inl (cA 3, 2000, .inl ow)), ((g 39), .inl (cA 3, 2000, .inl fi)), ((g 40), .inl (cA 3, 2000, .inl be))] H := hP
      have hD : va_D A [(m0, .inr (6, mF g (K.1, K.2.1, K.2.2.1, K.2.2.2.1, nI X.length, K.2.2.2.2.2.1, K.2.2.2.2.2.2.1, K.2.2.2.2.2.2.2.1, nI a2) A0 e np B)), ((g 30), .inl (cA 3, 2000, .inl yb)), ((g 38), .inl (cA 3, 2000, .inl ow)), ((g 39), .inl (cA 3, 2000, .inl fi)), ((g 40), .inl (cA 3, 2000, .inl be))] := hD
      refine lv_iload_n hx hb d_Md_lookElement_142 rfl (lv_at hl 2 rfl) ?_
      refine lv_if_eq (tgt := 155) hx hb d_Md_lookElement_143 (by decide) (fun c_143 => ?_) (fun c_143 => absurd (by decide) c_143)
      refine lv_iconst (v := 0) hx hb d_Md_lookElement_155 (by decide) ?_
      refine lv_istore (lv' := [(7, .int 0), (5, .long 0), (4, .int 1), (3, .int 0), (0, .ref m0), (1, .int (nI t)), (2, .int 7)]) hx hb d_Md_lookElement_156 hl (by decide) rfl (fun ls hl => ?_)
      refine lv_iload hx hb d_Md_lookElement_158 (lv_at hl 0 rfl) ?_
      refine lv_if_eq (tgt := 182) hx hb d_Md_lookElement_160 (by decide) (fun c_160 => ?_) (fun c_160 => absurd (by decide) c_160)
      refine lv_ldc2 hx hb hown (hts _ (List.mem_cons_of_mem _ iw4_168)) d_Md_lookElement_182 ?_
      refine lv_lstore (lv' := [(8, .long 112), (7, .int 0), (5, .long 0), (4, .int 1), (3, .int 0), (0, .ref m0), (1, .int (nI t)), (2, .int 7)]) hx hb d_Md_lookElement_185 hl (by decide) rfl (fun ls hl => ?_)
      refine lv_aload_n hx hb d_Md_lookElement_187 rfl (lv_at hl 5 rfl) ?_
      refine lv_dup hx hb d_Md_lookElement_188 rfl ?_
      refine va_get (D := D) (ci := 6) (v := .int (nI a2)) (C := R_Md) (T := F_Md) (N := 44) hx hb hts (fun w h => List.mem_cons_of_mem _ (i_Md w h)) hown hE.1 hP 0 rfl rfl 43 (by decide) (hts _ (List.mem_cons_of_mem _ iw3_97)) (fun _ h9 => h9) rfl d_Md_lookElement_189 ?_
      refine lv_iload hx hb d_Md_lookElement_192 (lv_at hl 1 rfl) ?_
      refine lv_if_eq (tgt := 201) hx hb d_Md_lookElement_194 (by decide) (fun c_194 => ?_) (fun c_194 => absurd (by decide) c_194)
      refine lv_iconst (v := 0) hx hb d_Md_lookElement_201 (by decide) ?_
      refine lv_iadd hx hb d_Md_lookElement_202 ?_
      rw [Int32.add_zero]
      refine va_put (D := D) (ci := 6) (v := .int (nI a2)) (ty := .int) (C := R_Md) (T := F_Md) (N := 44) hx hb hts (fun w h => List.mem_cons_of_mem _ (i_Md w h)) t_Md tk_Md n_Md hown hE.1 hP hD hS 0 rfl rfl 43 (by decide) (hts _ (List.mem_cons_of_mem _ iw3_97)) (fun _ h9 => h9) rfl (by decide +kernel) rfl rfl (Nat.le_of_ble_eq_true rfl) d_Md_lookElement_203 (fun H locs hP hD hS => ?_)
      have hP : va_P D cls [(m0, .inr (6, mF g (K.1, K.2.1, K.2.2.1, K.2.2.2.1, nI X.length, K.2.2.2.2.2.1, K.2.2.2.2.2.2.1, K.2.2.2.2.2.2.2.1, nI a2) A0 e np B)), ((g 30), .inl (cA 3, 2000, .inl yb)), ((g 38), .inl (cA 3, 2000, .inl ow)), ((g 39), .inl (cA 3, 2000, .inl fi)), ((g 40), .inl (cA 3, 2000, .inl be))] H := hP
      have hD : va_D A [(m0, .inr (6, mF g (K.1, K.2.1, K.2.2.1, K.2.2.2.1, nI X.length, K.2.2.2.2.2.1, K.2.2.2.2.2.2.1, K.2.2.2.2.2.2.2.1, nI a2) A0 e np B)), ((g 30), .inl (cA 3, 2000, .inl yb)), ((g 38), .inl (cA 3, 2000, .inl ow)), ((g 39), .inl (cA 3, 2000, .inl fi)), ((g 40), .inl (cA 3, 2000, .inl be))] := hD
      refine lv_iload_n hx hb d_Md_lookElement_206 rfl (lv_at hl 7 rfl) ?_
      refine lv_iconst (v := 1) hx hb d_Md_lookElement_207 (by decide) ?_
      refine lv_icmp_ne (tgt := 214) hx hb d_Md_lookElement_208 (by decide) (fun c_208 => ?_) (fun c_208 => absurd c_208 (by decide))
      refine lv_aload_n hx hb d_Md_lookElement_214 rfl (lv_at hl 5 rfl) ?_
      refine cV (As := []) (rest := []) (n := 0) (wc := [(m0, .inr (6, mF g (K.1, K.2.1, K.2.2.1, K.2.2.2.1, nI X.length, K.2.2.2.2.2.1, K.2.2.2.2.2.2.1, K.2.2.2.2.2.2.2.1, nI a2) A0 e np B)), ((g 30), .inl (cA 3, 2000, .inl yb))]) (wr := [((g 38), .inl (cA 3, 2000, .inl ow)), ((g 39), .inl (cA 3, 2000, .inl fi)), ((g 40), .inl (cA 3, 2000, .inl be))]) ⟨hx, hb, hml, hown, hts⟩ hno hlocks hl.1 (c_Md_number l hl9 D cA ad H.size m0 g (K.1, K.2.1, K.2.2.1, K.2.2.2.1, nI X.length, K.2.2.2.2.2.1, K.2.2.2.2.2.2.1, K.2.2.2.2.2.2.2.1, nI a2) A0 e np B yb b lm hlm hyb hb9 a2 n a4 (by omega) he4) iw4_132 iw4_134 sel_Md_number iw1_7 iw4_135 (by decide +kernel) rfl ⟨Nat.le_of_ble_eq_true rfl, Nat.le_of_ble_eq_true rfl⟩ ⟨Nat.le_of_ble_eq_true rfl, Nat.le_of_ble_eq_true rfl⟩ rfl (Nat.le_of_ble_eq_true rfl) d_Md_lookElement_215 hE hP hD hS hA [0, 1] [2, 3, 4] rfl rfl rfl rfl (by decide) (ci := 6) rfl rfl 0 rfl (fun _ h => h.elim) (fun v_215 u_215 H locs hp_215 hP hD hS => ?_)
      obtain rfl := hp_215
      have hP : va_P D cls [(m0, .inr (6, mF g (K.1, K.2.1, K.2.2.1, K.2.2.2.1, nI X.length, K.2.2.2.2.2.1, K.2.2.2.2.2.2.1, K.2.2.2.2.2.2.2.1, nI a4) A0 e np B)), ((g 30), .inl (cA 3, 2000, .inl yb)), ((g 38), .inl (cA 3, 2000, .inl ow)), ((g 39), .inl (cA 3, 2000, .inl fi)), ((g 40), .inl (cA 3, 2000, .inl be))] H := hP.sub [3, 4, 0, 1, 2] rfl
      have hD : va_D A [(m0, .inr (6, mF g (K.1, K.2.1, K.2.2.1, K.2.2.2.1, nI X.length, K.2.2.2.2.2.1, K.2.2.2.2.2.2.1, K.2.2.2.2.2.2.2.1, nI a4) A0 e np B)), ((g 30), .inl (cA 3, 2000, .inl yb)), ((g 38), .inl (cA 3, 2000, .inl ow)), ((g 39), .inl (cA 3, 2000, .inl fi)), ((g 40), .inl (cA 3, 2000, .inl be))] := hD.sub [3, 4, 0, 1, 2] (by decide) rfl
      refine W.cs (cells' := 0) (slots' := 0) rfl rfl ?_
      refine W.eq (g2 := F0 m 218 ls [.long (lN n)]) rfl ?_
      refine lv_lstore (lv' := [(10, .long (lN n)), (8, .long 112), (7, .int 0), (5, .long 0), (4, .int 1), (3, .int 0), (0, .ref m0), (1, .int (nI t)), (2, .int 7)]) hx hb d_Md_lookElement_218 hl (by decide) rfl (fun ls hl => ?_)
      refine lv_iload_n hx hb d_Md_lookElement_220 rfl (lv_at hl 8 rfl) ?_
      refine lv_iconst (v := 3) hx hb d_Md_lookElement_221 (by decide) ?_
      refine lv_icmp_ne (tgt := 228) hx hb d_Md_lookElement_222 (by decide) (fun c_222 => ?_) (fun c_222 => absurd c_222 (by decide))
      refine lv_iload_n hx hb d_Md_lookElement_228 rfl (lv_at hl 8 rfl) ?_
      refine lv_bipush (v := 8) hx hb d_Md_lookElement_229 (by decide) ?_
      refine lv_icmp_lt (tgt := 245) hx hb d_Md_lookElement_231 (by decide) (fun c_231 => ?_) (fun c_231 => absurd (by decide) c_231)
      refine lv_ldc2 hx hb hown (hts _ (List.mem_cons_of_mem _ iw3_204)) d_Md_lookElement_245 ?_
      exact cRl (nI a4) hx hb hr hlocks d_Md_lookElement_248 hS hP hD (rfl) (Nat.le_refl _) (Nat.le_refl _)
    · have hl := hl
      refine lv_aload_n hx hb d_Md_lookElement_0 rfl (lv_at hl 0 rfl) ?_
      refine cV (As := []) (rest := []) (n := 0) (wc := [(m0, .inr (6, mF g (K.1, K.2.1, K.2.2.1, K.2.2.2.1, nI X.length, K.2.2.2.2.2.1, K.2.2.2.2.2.2.1, K.2.2.2.2.2.2.2.1, nI a) A0 e np B)), ((g 30), .inl (cA 3, 2000, .inl yb))]) (wr := [((g 38), .inl (cA 3, 2000, .inl ow)), ((g 39), .inl (cA 3, 2000, .inl fi)), ((g 40), .inl (cA 3, 2000, .inl be))]) ⟨hx, hb, hml, hown, hts⟩ hno hlocks hl.1 (c_Md_number l hl9 D cA ad s.heap.size m0 g (K.1, K.2.1, K.2.2.1, K.2.2.2.1, nI X.length, K.2.2.2.2.2.1, K.2.2.2.2.2.2.1, K.2.2.2.2.2.2.2.1, nI a) A0 e np B yb b lm hlm hyb hb9 a 0 a1 (by omega) hmu) iw4_132 iw4_134 sel_Md_number iw1_7 iw4_135 (by decide +kernel) rfl ⟨Nat.le_of_ble_eq_true rfl, Nat.le_of_ble_eq_true rfl⟩ ⟨Nat.le_of_ble_eq_true rfl, Nat.le_of_ble_eq_true rfl⟩ rfl (Nat.le_of_ble_eq_true rfl) d_Md_lookElement_1 hE hP hD hS hA [0, 1] [2, 3, 4] rfl rfl rfl rfl (by decide) (ci := 6) rfl rfl 0 rfl (fun _ h => h.elim) (fun v_1 u_1 H locs hp_1 hP hD hS => ?_)
      obtain rfl := hp_1
      have hP : va_P D cls [(m0, .inr (6, mF g (K.1, K.2.1, K.2.2.1, K.2.2.2.1, nI X.length, K.2.2.2.2.2.1, K.2.2.2.2.2.2.1, K.2.2.2.2.2.2.2.1, nI a1) A0 e np B)), ((g 30), .inl (cA 3, 2000, .inl yb)), ((g 38), .inl (cA 3, 2000, .inl ow)), ((g 39), .inl (cA 3, 2000, .inl fi)), ((g 40), .inl (cA 3, 2000, .inl be))] H := hP.sub [3, 4, 0, 1, 2] rfl
      have hD : va_D A [(m0, .inr (6, mF g (K.1, K.2.1, K.2.2.1, K.2.2.2.1, nI X.length, K.2.2.2.2.2.1, K.2.2.2.2.2.2.1, K.2.2.2.2.2.2.2.1, nI a1) A0 e np B)), ((g 30), .inl (cA 3, 2000, .inl yb)), ((g 38), .inl (cA 3, 2000, .inl ow)), ((g 39), .inl (cA 3, 2000, .inl fi)), ((g 40), .inl (cA 3, 2000, .inl be))] := hD.sub [3, 4, 0, 1, 2] (by decide) rfl
      refine W.cs (cells' := 0) (slots' := 0) rfl rfl ?_
      refine W.eq (g2 := F0 m 4 ls [.long (lN 0)]) rfl ?_
      refine lv_l2i hx hb d_Md_lookElement_4 rfl ?_
      refine W.eq (g2 := F0 m 5 ls [.int 0]) (by rw [lN_i]; rfl) ?_
      refine lv_istore_n (lv' := [(3, .int 0), (0, .ref m0), (1, .int (nI t)), (2, .int (nI wh))]) hx hb d_Md_lookElement_5 rfl hl (by decide) rfl (fun ls hl => ?_)
      refine lv_iload_n hx hb d_Md_lookElement_6 rfl (lv_at hl 0 rfl) ?_
      refine lv_iconst (v := 1) hx hb d_Md_lookElement_7 (by decide) ?_
      refine lv_iand hx hb d_Md_lookElement_8 ?_
      refine W.eq (g2 := F0 m 9 ls [.int 0]) (by rw [show (0 : Int32) &&& 1 = 0 from by decide +kernel]) ?_
      refine lv_if_ne (tgt := 16) hx hb d_Md_lookElement_9 (by decide) (fun c_9 => absurd (by decide) c_9) (fun c_9 => ?_)
      refine lv_iconst (v := 1) hx hb d_Md_lookElement_12 (by decide) ?_
      refine lv_goto (tgt := 17) hx hb d_Md_lookElement_13 (by decide) ?_
      refine lv_istore (lv' := [(4, .int 1), (3, .int 0), (0, .ref m0), (1, .int (nI t)), (2, .int (nI wh))]) hx hb d_Md_lookElement_17 hl (by decide) rfl (fun ls hl => ?_)
      refine lv_iload hx hb d_Md_lookElement_19 (lv_at hl 0 rfl) ?_
      refine lv_if_eq (tgt := 37) hx hb d_Md_lookElement_21 (by decide) (fun c_21 => absurd c_21 (by decide)) (fun c_21 => ?_)
      refine lv_iload_n hx hb d_Md_lookElement_24 rfl (lv_at hl 1 rfl) ?_
      refine lv_iconst (v := 2) hx hb d_Md_lookElement_25 (by decide) ?_
      refine lv_iand hx hb d_Md_lookElement_26 ?_
      refine W.eq (g2 := F0 m 27 ls [.int 0]) (by rw [show (0 : Int32) &&& 2 = 0 from by decide +kernel]) ?_
      refine lv_if_eq (tgt := 37) hx hb d_Md_lookElement_27 (by decide) (fun c_27 => ?_) (fun c_27 => absurd (by decide) c_27)
      refine lv_lconst (v := 0) hx hb d_Md_lookElement_37 (by decide) ?_
      refine lv_lstore (lv' := [(5, .long 0), (4, .int 1), (3, .int 0), (0, .ref m0), (1, .int (nI t)), (2, .int (nI wh))]) hx hb d_Md_lookElement_38 hl (by decide) rfl (fun ls hl => ?_)
      refine lv_iload_n hx hb d_Md_lookElement_40 rfl (lv_at hl 5 rfl) ?_
      refine lv_if_ne (tgt := 67) hx hb d_Md_lookElement_41 (by decide) (fun c_41 => ?_) (fun c_41 => absurd c_41 (fun q => absurd ((nI_eq (a := wh) (b := 0) (by omega) (by decide)).mp q) (by omega)))
      refine lv_iload_n hx hb d_Md_lookElement_67 rfl (lv_at hl 5 rfl) ?_
      refine lv_iconst (v := 2) hx hb d_Md_lookElement_68 (by decide) ?_
      refine lv_icmp_ne (tgt := 75) hx hb d_Md_lookElement_69 (by decide) (fun c_69 => ?_) (fun c_69 => absurd c_69 (fun q => absurd ((nI_eq (a := wh) (b := 2) (by omega) (by decide)).mp q) (by omega)))
      refine lv_iload_n hx hb d_Md_lookElement_75 rfl (lv_at hl 5 rfl) ?_
      refine lv_iconst (v := 4) hx hb d_Md_lookElement_76 (by decide) ?_
      refine lv_icmp_eq (tgt := 85) hx hb d_Md_lookElement_77 (by decide) (fun c_77 => absurd c_77 (fun q => absurd ((nI_eq (a := wh) (b := 4) (by omega) (by decide)).mp q) (by omega))) (fun c_77 => ?_)
      refine lv_iload_n hx hb d_Md_lookElement_80 rfl (lv_at hl 5 rfl) ?_
      refine lv_iconst (v := 5) hx hb d_Md_lookElement_81 (by decide) ?_
      refine lv_icmp_ne (tgt := 104) hx hb d_Md_lookElement_82 (by decide) (fun c_82 => ?_) (fun c_82 => absurd c_82 (fun q => absurd ((nI_eq (a := wh) (b := 5) (by omega) (by decide)).mp q) (by omega)))
      refine lv_iload_n hx hb d_Md_lookElement_104 rfl (lv_at hl 5 rfl) ?_
      refine lv_bipush (v := 6) hx hb d_Md_lookElement_105 (by decide) ?_
      refine lv_icmp_ne (tgt := 122) hx hb d_Md_lookElement_107 (by decide) (fun c_107 => ?_) (fun c_107 => absurd c_107 (fun q => absurd ((nI_eq (a := wh) (b := 6) (by omega) (by decide)).mp q) (by omega)))
      refine lv_iload hx hb d_Md_lookElement_122 (lv_at hl 1 rfl) ?_
      refine lv_if_eq (tgt := 142) hx hb d_Md_lookElement_124 (by decide) (fun c_124 => absurd c_124 (by decide)) (fun c_124 => ?_)
      refine lv_aload_n hx hb d_Md_lookElement_127 rfl (lv_at hl 3 rfl) ?_
      refine lv_aload_n hx hb d_Md_lookElement_128 rfl (lv_at hl 3 rfl) ?_
      refine va_get (D := D) (ci := 6) (v := .ref (g 40)) (C := R_Md) (T := F_Md) (N := 44) hx hb hts (fun w h => List.mem_cons_of_mem _ (i_Md w h)) hown hE.1 hP 0 rfl rfl 40 (by decide) (hts _ (List.mem_cons_of_mem _ iw3_94)) (fun _ h9 => h9) rfl d_Md_lookElement_129 ?_
      refine lv_aload_n hx hb d_Md_lookElement_132 rfl (lv_at hl 3 rfl) ?_
      refine lv_iload_n hx hb d_Md_lookElement_133 rfl (lv_at hl 4 rfl) ?_
      refine lv_iconst (v := 0) hx hb d_Md_lookElement_134 (by decide) ?_
      refine cV (As := [.int (nI t), .int 0]) (rest := [.ref (g 40), .ref m0]) (n := 2) (wc := [(m0, .inr (6, mF g (K.1, K.2.1, K.2.2.1, K.2.2.2.1, nI X.length, K.2.2.2.2.2.1, K.2.2.2.2.2.2.1, K.2.2.2.2.2.2.2.1, nI a1) A0 e np B)), ((g 38), .inl (cA 3, 2000, .inl ow))]) (wr := [((g 30), .inl (cA 3, 2000, .inl yb)), ((g 39), .inl (cA 3, 2000, .inl fi)), ((g 40), .inl (cA 3, 2000, .inl be))]) ⟨hx, hb, hml, hown, hts⟩ hno hlocks hl.1 (c_Md_expressionOf l hl9 D cA ad H.size m0 g (K.1, K.2.1, K.2.2.1, K.2.2.2.1, nI X.length, K.2.2.2.2.2.1, K.2.2.2.2.2.2.1, K.2.2.2.2.2.2.2.1, nI a1) A0 e np B ow fi be X hXH hXf hX t (by omega) 0 (by omega)) iw4_156 iw4_158 sel_Md_expressionOf iw1_7 iw4_159 (by decide +kernel) rfl ⟨Nat.le_of_ble_eq_true rfl, Nat.le_of_ble_eq_true rfl⟩ ⟨Nat.le_of_ble_eq_true rfl, Nat.le_of_ble_eq_true rfl⟩ rfl (Nat.le_of_ble_eq_true rfl) d_Md_lookElement_135 hE hP hD hS hA [0, 2] [1, 3, 4] rfl rfl rfl rfl (by decide) (ci := 6) rfl rfl 0 rfl (fun _ h => h.elim) (fun v_135 u_135 H locs hp_135 hP hD hS => ?_)
      rcases hp_135 with ⟨rfl, hno252⟩ | ⟨e252_, f252_, z252_, he252, rfl, hg252, hfi252, hbe252, hfb252, hzb252⟩
      · exact absurd hno252 (by rw [hexx]; simp)
      have hP : va_P D cls [(m0, .inr (6, mF g (K.1, K.2.1, K.2.2.1, K.2.2.2.1, nI X.length, K.2.2.2.2.2.1, K.2.2.2.2.2.2.1, K.2.2.2.2.2.2.2.1, nI a1) A0 e np B)), ((g 30), .inl (cA 3, 2000, .inl yb)), ((g 38), .inl (cA 3, 2000, .inl ow)), ((g 39), .inl (cA 3, 2000, .inl fi)), ((g 40), .inl (cA 3, 2000, .inl be))] H := hP.sub [3, 0, 4, 1, 2] rfl
      have hD : va_D A [(m0, .inr (6, mF g (K.1, K.2.1, K.2.2.1, K.2.2.2.1, nI X.length, K.2.2.2.2.2.1, K.2.2.2.2.2.2.1, K.2.2.2.2.2.2.2.1, nI a1) A0 e np B)), ((g 30), .inl (cA 3, 2000, .inl yb)), ((g 38), .inl (cA 3, 2000, .inl ow)), ((g 39), .inl (cA 3, 2000, .inl fi)), ((g 40), .inl (cA 3, 2000, .inl be))] := hD.sub [3, 0, 4, 1, 2] (by decide) rfl
      refine W.cs (cells' := 0) (slots' := 0) rfl rfl ?_
      refine W.eq (g2 := F0 m 138 ls [.int (nI e252_), .ref (g 40), .ref m0]) rfl ?_
      refine va_iald hx hb hE.1 hP 4 3 rfl rfl (vp_in_nI (by omega) (by omega)) d_Md_lookElement_138 ?_
      rw [nI_clamp (n := e252_) (by omega), hbe252, show z252_ = a2 from by rw [hexx] at hg252; exact (congrArg Prod.snd (Option.some.inj hg252)).symm]
      refine va_put (D := D) (ci := 6) (v := .int (nI a2)) (ty := .int) (C := R_Md) (T := F_Md) (N := 44) hx hb hts (fun w h => List.mem_cons_of_mem _ (i_Md w h)) t_Md tk_Md n_Md hown hE.1 hP hD hS 0 rfl rfl 43 (by decide) (hts _ (List.mem_cons_of_mem _ iw3_97)) (fun _ h9 => h9) rfl (by decide +kernel) rfl rfl (Nat.le_of_ble_eq_true rfl) d_Md_lookElement_139 (fun H locs hP hD hS => ?_)
      have hP : va_P D cls [(m0, .inr (6, mF g (K.1, K.2.1, K.2.2.1, K.2.2.2.1, nI X.length, K.2.2.2.2.2.1, K.2.2.2.2.2.2.1, K.2.2.2.2.2.2.2.1, nI a2) A0 e np B)), ((g 30), .inl (cA 3, 2000, .inl yb)), ((g 38), .inl (cA 3, 2000, .inl ow)), ((g 39), .inl (cA 3, 2000, .inl fi)), ((g 40), .inl (cA 3, 2000, .inl be))] H := hP
      have hD : va_D A [(m0, .inr (6, mF g (K.1, K.2.1, K.2.2.1, K.2.2.2.1, nI X.length, K.2.2.2.2.2.1, K.2.2.2.2.2.2.1, K.2.2.2.2.2.2.2.1, nI a2) A0 e np B)), ((g 30), .inl (cA 3, 2000, .inl yb)), ((g 38), .inl (cA 3, 2000, .inl ow)), ((g 39), .inl (cA 3, 2000, .inl fi)), ((g 40), .inl (cA 3, 2000, .inl be))] := hD
      refine lv_iload_n hx hb d_Md_lookElement_142 rfl (lv_at hl 2 rfl) ?_
      refine lv_if_eq (tgt := 155) hx hb d_Md_lookElement_143 (by decide) (fun c_143 => ?_) (fun c_143 => absurd (by decide) c_143)
      refine lv_iconst (v := 0) hx hb d_Md_lookElement_155 (by decide) ?_
      refine lv_istore (lv' := [(7, .int 0), (5, .long 0), (4, .int 1), (3, .int 0), (0, .ref m0), (1, .int (nI t)), (2, .int (nI wh))]) hx hb d_Md_lookElement_156 hl (by decide) rfl (fun ls hl => ?_)
      refine lv_iload hx hb d_Md_lookElement_158 (lv_at hl 0 rfl) ?_
      refine lv_if_eq (tgt := 182) hx hb d_Md_lookElement_160 (by decide) (fun c_160 => ?_) (fun c_160 => absurd (by decide) c_160)
      refine lv_ldc2 hx hb hown (hts _ (List.mem_cons_of_mem _ iw4_168)) d_Md_lookElement_182 ?_
      refine lv_lstore (lv' := [(8, .long 112), (7, .int 0), (5, .long 0), (4, .int 1), (3, .int 0), (0, .ref m0), (1, .int (nI t)), (2, .int (nI wh))]) hx hb d_Md_lookElement_185 hl (by decide) rfl (fun ls hl => ?_)
      refine lv_aload_n hx hb d_Md_lookElement_187 rfl (lv_at hl 5 rfl) ?_
      refine lv_dup hx hb d_Md_lookElement_188 rfl ?_
      refine va_get (D := D) (ci := 6) (v := .int (nI a2)) (C := R_Md) (T := F_Md) (N := 44) hx hb hts (fun w h => List.mem_cons_of_mem _ (i_Md w h)) hown hE.1 hP 0 rfl rfl 43 (by decide) (hts _ (List.mem_cons_of_mem _ iw3_97)) (fun _ h9 => h9) rfl d_Md_lookElement_189 ?_
      refine lv_iload hx hb d_Md_lookElement_192 (lv_at hl 1 rfl) ?_
      refine lv_if_eq (tgt := 201) hx hb d_Md_lookElement_194 (by decide) (fun c_194 => ?_) (fun c_194 => absurd (by decide) c_194)
      refine lv_iconst (v := 0) hx hb d_Md_lookElement_201 (by decide) ?_
      refine lv_iadd hx hb d_Md_lookElement_202 ?_
      rw [Int32.add_zero]
      refine va_put (D := D) (ci := 6) (v := .int (nI a2)) (ty := .int) (C := R_Md) (T := F_Md) (N := 44) hx hb hts (fun w h => List.mem_cons_of_mem _ (i_Md w h)) t_Md tk_Md n_Md hown hE.1 hP hD hS 0 rfl rfl 43 (by decide) (hts _ (List.mem_cons_of_mem _ iw3_97)) (fun _ h9 => h9) rfl (by decide +kernel) rfl rfl (Nat.le_of_ble_eq_true rfl) d_Md_lookElement_203 (fun H locs hP hD hS => ?_)
      have hP : va_P D cls [(m0, .inr (6, mF g (K.1, K.2.1, K.2.2.1, K.2.2.2.1, nI X.length, K.2.2.2.2.2.1, K.2.2.2.2.2.2.1, K.2.2.2.2.2.2.2.1, nI a2) A0 e np B)), ((g 30), .inl (cA 3, 2000, .inl yb)), ((g 38), .inl (cA 3, 2000, .inl ow)), ((g 39), .inl (cA 3, 2000, .inl fi)), ((g 40), .inl (cA 3, 2000, .inl be))] H := hP
      have hD : va_D A [(m0, .inr (6, mF g (K.1, K.2.1, K.2.2.1, K.2.2.2.1, nI X.length, K.2.2.2.2.2.1, K.2.2.2.2.2.2.1, K.2.2.2.2.2.2.2.1, nI a2) A0 e np B)), ((g 30), .inl (cA 3, 2000, .inl yb)), ((g 38), .inl (cA 3, 2000, .inl ow)), ((g 39), .inl (cA 3, 2000, .inl fi)), ((g 40), .inl (cA 3, 2000, .inl be))] := hD
      refine lv_iload_n hx hb d_Md_lookElement_206 rfl (lv_at hl 7 rfl) ?_
      refine lv_iconst (v := 1) hx hb d_Md_lookElement_207 (by decide) ?_
      refine lv_icmp_ne (tgt := 214) hx hb d_Md_lookElement_208 (by decide) (fun c_208 => ?_) (fun c_208 => absurd c_208 (fun q => absurd ((nI_eq (a := wh) (b := 1) (by omega) (by decide)).mp q) (by omega)))
      refine lv_aload_n hx hb d_Md_lookElement_214 rfl (lv_at hl 5 rfl) ?_
      refine cV (As := []) (rest := []) (n := 0) (wc := [(m0, .inr (6, mF g (K.1, K.2.1, K.2.2.1, K.2.2.2.1, nI X.length, K.2.2.2.2.2.1, K.2.2.2.2.2.2.1, K.2.2.2.2.2.2.2.1, nI a2) A0 e np B)), ((g 30), .inl (cA 3, 2000, .inl yb))]) (wr := [((g 38), .inl (cA 3, 2000, .inl ow)), ((g 39), .inl (cA 3, 2000, .inl fi)), ((g 40), .inl (cA 3, 2000, .inl be))]) ⟨hx, hb, hml, hown, hts⟩ hno hlocks hl.1 (c_Md_number l hl9 D cA ad H.size m0 g (K.1, K.2.1, K.2.2.1, K.2.2.2.1, nI X.length, K.2.2.2.2.2.1, K.2.2.2.2.2.2.1, K.2.2.2.2.2.2.2.1, nI a2) A0 e np B yb b lm hlm hyb hb9 a2 n a4 (by omega) he4) iw4_132 iw4_134 sel_Md_number iw1_7 iw4_135 (by decide +kernel) rfl ⟨Nat.le_of_ble_eq_true rfl, Nat.le_of_ble_eq_true rfl⟩ ⟨Nat.le_of_ble_eq_true rfl, Nat.le_of_ble_eq_true rfl⟩ rfl (Nat.le_of_ble_eq_true rfl) d_Md_lookElement_215 hE hP hD hS hA [0, 1] [2, 3, 4] rfl rfl rfl rfl (by decide) (ci := 6) rfl rfl 0 rfl (fun _ h => h.elim) (fun v_215 u_215 H locs hp_215 hP hD hS => ?_)
      obtain rfl := hp_215
      have hP : va_P D cls [(m0, .inr (6, mF g (K.1, K.2.1, K.2.2.1, K.2.2.2.1, nI X.length, K.2.2.2.2.2.1, K.2.2.2.2.2.2.1, K.2.2.2.2.2.2.2.1, nI a4) A0 e np B)), ((g 30), .inl (cA 3, 2000, .inl yb)), ((g 38), .inl (cA 3, 2000, .inl ow)), ((g 39), .inl (cA 3, 2000, .inl fi)), ((g 40), .inl (cA 3, 2000, .inl be))] H := hP.sub [3, 4, 0, 1, 2] rfl
      have hD : va_D A [(m0, .inr (6, mF g (K.1, K.2.1, K.2.2.1, K.2.2.2.1, nI X.length, K.2.2.2.2.2.1, K.2.2.2.2.2.2.1, K.2.2.2.2.2.2.2.1, nI a4) A0 e np B)), ((g 30), .inl (cA 3, 2000, .inl yb)), ((g 38), .inl (cA 3, 2000, .inl ow)), ((g 39), .inl (cA 3, 2000, .inl fi)), ((g 40), .inl (cA 3, 2000, .inl be))] := hD.sub [3, 4, 0, 1, 2] (by decide) rfl
      refine W.cs (cells' := 0) (slots' := 0) rfl rfl ?_
      refine W.eq (g2 := F0 m 218 ls [.long (lN n)]) rfl ?_
      refine lv_lstore (lv' := [(10, .long (lN n)), (8, .long 112), (7, .int 0), (5, .long 0), (4, .int 1), (3, .int 0), (0, .ref m0), (1, .int (nI t)), (2, .int (nI wh))]) hx hb d_Md_lookElement_218 hl (by decide) rfl (fun ls hl => ?_)
      refine lv_iload_n hx hb d_Md_lookElement_220 rfl (lv_at hl 8 rfl) ?_
      refine lv_iconst (v := 3) hx hb d_Md_lookElement_221 (by decide) ?_
      refine lv_icmp_ne (tgt := 228) hx hb d_Md_lookElement_222 (by decide) (fun c_222 => ?_) (fun c_222 => absurd c_222 (fun q => absurd ((nI_eq (a := wh) (b := 3) (by omega) (by decide)).mp q) (by omega)))
      refine lv_iload_n hx hb d_Md_lookElement_228 rfl (lv_at hl 8 rfl) ?_
      refine lv_bipush (v := 8) hx hb d_Md_lookElement_229 (by decide) ?_
      refine lv_icmp_lt (tgt := 245) hx hb d_Md_lookElement_231 (by decide) (fun c_231 => absurd c_231 (nI_nlt (a := wh) (b := 8) (by omega) (by omega))) (fun c_231 => ?_)
      refine lv_iload_n hx hb d_Md_lookElement_234 rfl (lv_at hl 8 rfl) ?_
      refine lv_bipush (v := 8) hx hb d_Md_lookElement_235 (by decide) ?_
      refine lv_isub hx hb d_Md_lookElement_237 ?_
      refine lv_i2l hx hb d_Md_lookElement_238 rfl ?_
      refine lv_lload hx hb d_Md_lookElement_239 (lv_at hl 0 rfl) ?_
      rw [show (8 : Int32) = nI 8 from rfl, pk_sub hw8, nI_l (n := wh - 8) (by omega)]
      refine W.lcmp hx hb d_Md_lookElement_241 ?_
      refine lv_if_lt (tgt := 249) hx hb d_Md_lookElement_242 (by decide) (fun c_242 => ?_) (fun c_242 => ?_)
      · have hin : wh - 8 < n := (pk_lLT (by omega) (by omega)).mp ((lg_cmp_lt _ _).mp c_242)
        refine lv_iload_n hx hb d_Md_lookElement_249 rfl (lv_at hl 5 rfl) ?_
        refine lv_iconst (v := 4) hx hb d_Md_lookElement_250 (by decide) ?_
        refine lv_iand hx hb d_Md_lookElement_251 ?_
        refine W.eq (g2 := F0 m 252 ls [.int 0]) (by rw [show (0 : Int32) &&& 4 = 0 from by decide +kernel]) ?_
        refine lv_if_eq (tgt := 282) hx hb d_Md_lookElement_252 (by decide) (fun c_252 => ?_) (fun c_252 => absurd (by decide) c_252)
        refine lv_bipush (v := 8) hx hb d_Md_lookElement_282 (by decide) ?_
        refine lv_istore (lv' := [(12, .int 8), (10, .long (lN n)), (8, .long 112), (7, .int 0), (5, .long 0), (4, .int 1), (3, .int 0), (0, .ref m0), (1, .int (nI t)), (2, .int (nI wh))]) hx hb d_Md_lookElement_284 hl (by decide) rfl (fun ls hl => ?_)
        have key : ∀ (d k ak : Nat) (acc : List Int64) (H : Heap) (locs : List Loc) (ls : Array Slot), k + d = wh → 8 ≤ k → ak ≤ lm → acc.length = k - 8 → repU b lm (n - (k - 8)) acc ak = .inr (it, a') → va_P D cls [(m0, .inr (6, mF g (K.1, K.2.1, K.2.2.1, K.2.2.2.1, nI X.length, K.2.2.2.2.2.1, K.2.2.2.2.2.2.1, K.2.2.2.2.2.2.2.1, nI ak) A0 e np B)), ((g 30), .inl (cA 3, 2000, .inl yb)), ((g 38), .inl (cA 3, 2000, .inl ow)), ((g 39), .inl (cA 3, 2000, .inl fi)), ((g 40), .inl (cA 3, 2000, .inl be))] H → va_D A [(m0, .inr (6, mF g (K.1, K.2.1, K.2.2.1, K.2.2.2.1, nI X.length, K.2.2.2.2.2.1, K.2.2.2.2.2.2.1, K.2.2.2.2.2.2.2.1, nI ak) A0 e np B)), ((g 30), .inl (cA 3, 2000, .inl yb)), ((g 38), .inl (cA 3, 2000, .inl ow)), ((g 39), .inl (cA 3, 2000, .inl fi)), ((g 40), .inl (cA 3, 2000, .inl be))] → va_S A s.heap H locs → lv_has ls 13 [(0, .ref m0), (2, .int (nI wh)), (12, .int (nI k))] → W pg l ev ({ frames := 2, cells := 0, slots := 0, locals := 48 }) s m ([.ref m0, .int (nI t), .int (nI wh)] : List Value).toArray bw meth cdx H locs 0 0 (tx_Q bw (cQ D (fun vv (_ : Int32) => vv = some (.long (lkS 7 (vp_updL (vp_updL (vp_updL (vp_updL (vp_updL (vp_updL (vp_updL (vp_updL (vp_updL c_1 0 (elM 0)) 2 0) 4 (lN a1)) 5 (lN a2)) 1 (lN 112)) 6 (elS 0)) 3 (lN n)) 7 (lN nl)) 8 (lN n)) LL wh))) (fun _ => False) (fun (q : Int32) => [(m0, .inr (6, mF g (K.1, K.2.1, K.2.2.1, K.2.2.2.1, nI X.length, K.2.2.2.2.2.1, K.2.2.2.2.2.2.1, K.2.2.2.2.2.2.2.1, q) A0 e np B)), ((g 30), .inl (cA 3, 2000, .inl yb)), ((g 38), .inl (cA 3, 2000, .inl ow)), ((g 39), .inl (cA 3, 2000, .inl fi)), ((g 40), .inl (cA 3, 2000, .inl be))]) (fun _ => (0, 0)) A) ([.ref m0, .int (nI t), .int (nI wh)] : List Value).toArray s A) (F0 m 286 ls []) := by
          intro d
          induction d with
          | zero =>
            intro k ak acc H locs ls hkd hk8 hak hacc hrep hP hD hS hl
            obtain ⟨r, hr9⟩ : ∃ r, n - (k - 8) = r + 1 := ⟨n - (k - 8) - 1, by omega⟩
            rw [hr9, repU] at hrep
            obtain ⟨vk, b1, hv1, hrep⟩ := bnd_ok hrep
            have hw1 := pU32_ok (by omega) hv1
            obtain ⟨⟨ly, hiy, hly⟩, -, -⟩ := repU_pref r _ _ it a' (by omega) hrep
            refine lv_iload hx hb d_Md_lookElement_286 (lv_at hl 2 rfl) ?_
            refine lv_iload_n hx hb d_Md_lookElement_288 rfl (lv_at hl 1 rfl) ?_
            refine lv_icmp_ge (tgt := 303) hx hb d_Md_lookElement_289 (by decide) (fun c_289 => ?_) (fun c_289 => absurd (nI_le (by omega) (by omega)) c_289)
            refine lv_aload_n hx hb d_Md_lookElement_303 rfl (lv_at hl 0 rfl) ?_
            refine cV (As := []) (rest := []) (n := 0) (wc := [(m0, .inr (6, mF g (K.1, K.2.1, K.2.2.1, K.2.2.2.1, nI X.length, K.2.2.2.2.2.1, K.2.2.2.2.2.2.1, K.2.2.2.2.2.2.2.1, nI ak) A0 e np B)), ((g 30), .inl (cA 3, 2000, .inl yb))]) (wr := [((g 38), .inl (cA 3, 2000, .inl ow)), ((g 39), .inl (cA 3, 2000, .inl fi)), ((g 40), .inl (cA 3, 2000, .inl be))]) ⟨hx, hb, hml, hown, hts⟩ hno hlocks hl.1 (c_Md_number l hl9 D cA ad H.size m0 g (K.1, K.2.1, K.2.2.1, K.2.2.2.1, nI X.length, K.2.2.2.2.2.1, K.2.2.2.2.2.2.1, K.2.2.2.2.2.2.2.1, nI ak) A0 e np B yb b lm hlm hyb hb9 ak vk b1 (by omega) hv1) iw4_132 iw4_134 sel_Md_number iw1_7 iw4_135 (by decide +kernel) rfl ⟨Nat.le_of_ble_eq_true rfl, Nat.le_of_ble_eq_true rfl⟩ ⟨Nat.le_of_ble_eq_true rfl, Nat.le_of_ble_eq_true rfl⟩ rfl (Nat.le_of_ble_eq_true rfl) d_Md_lookElement_304 hE hP hD hS hA [0, 1] [2, 3, 4] rfl rfl rfl rfl (by decide) (ci := 6) rfl rfl 0 rfl (fun _ h => h.elim) (fun v_304 u_304 H locs hp_304 hP hD hS => ?_)
            obtain rfl := hp_304
            have hP : va_P D cls [(m0, .inr (6, mF g (K.1, K.2.1, K.2.2.1, K.2.2.2.1, nI X.length, K.2.2.2.2.2.1, K.2.2.2.2.2.2.1, K.2.2.2.2.2.2.2.1, nI b1) A0 e np B)), ((g 30), .inl (cA 3, 2000, .inl yb)), ((g 38), .inl (cA 3, 2000, .inl ow)), ((g 39), .inl (cA 3, 2000, .inl fi)), ((g 40), .inl (cA 3, 2000, .inl be))] H := hP.sub [3, 4, 0, 1, 2] rfl
            have hD : va_D A [(m0, .inr (6, mF g (K.1, K.2.1, K.2.2.1, K.2.2.2.1, nI X.length, K.2.2.2.2.2.1, K.2.2.2.2.2.2.1, K.2.2.2.2.2.2.2.1, nI b1) A0 e np B)), ((g 30), .inl (cA 3, 2000, .inl yb)), ((g 38), .inl (cA 3, 2000, .inl ow)), ((g 39), .inl (cA 3, 2000, .inl fi)), ((g 40), .inl (cA 3, 2000, .inl be))] := hD.sub [3, 4, 0, 1, 2] (by decide) rfl
            refine W.cs (cells' := 0) (slots' := 0) rfl rfl ?_
            refine W.eq (g2 := F0 m 307 ls [.long (lN vk)]) rfl ?_
            exact cRl (nI b1) hx hb hr hlocks d_Md_lookElement_307 hS hP hD (by rw [lkS, if_pos (show 8 ≤ wh by omega), if_pos rfl, lst_in (z := vp_updL (vp_updL (vp_updL (vp_updL (vp_updL (vp_updL (vp_updL (vp_updL (vp_updL c_1 0 (elM 0)) 2 0) 4 (lN a1)) 5 (lN a2)) 1 (lN 112)) 6 (elS 0)) 3 (lN n)) 7 (lN nl)) 8 (lN n)) (cs := 7) (cn := 8) (M := n) (nl := nl) rfl rfl (by omega) hnl hitl.1 hseg (show wh - 8 < n by omega), hiy, List.append_assoc, List.singleton_append, getD_at (show acc.length = wh - 8 by omega)]) (Nat.le_refl _) (Nat.le_refl _)
          | succ d ih =>
            intro k ak acc H locs ls hkd hk8 hak hacc hrep hP hD hS hl
            obtain ⟨r, hr9⟩ : ∃ r, n - (k - 8) = r + 1 := ⟨n - (k - 8) - 1, by omega⟩
            rw [hr9, repU] at hrep
            obtain ⟨vk, b1, hv1, hrep⟩ := bnd_ok hrep
            have hw1 := pU32_ok (by omega) hv1
            obtain ⟨⟨ly, hiy, hly⟩, -, -⟩ := repU_pref r _ _ it a' (by omega) hrep
            refine lv_iload hx hb d_Md_lookElement_286 (lv_at hl 2 rfl) ?_
            refine lv_iload_n hx hb d_Md_lookElement_288 rfl (lv_at hl 1 rfl) ?_
            refine lv_icmp_ge (tgt := 303) hx hb d_Md_lookElement_289 (by decide) (fun c_289 => absurd c_289 (nI_ge (by omega) (by omega))) (fun c_289 => ?_)
            refine lv_aload_n hx hb d_Md_lookElement_292 rfl (lv_at hl 0 rfl) ?_
            refine cV (As := []) (rest := []) (n := 0) (wc := [(m0, .inr (6, mF g (K.1, K.2.1, K.2.2.1, K.2.2.2.1, nI X.length, K.2.2.2.2.2.1, K.2.2.2.2.2.2.1, K.2.2.2.2.2.2.2.1, nI ak) A0 e np B)), ((g 30), .inl (cA 3, 2000, .inl yb))]) (wr := [((g 38), .inl (cA 3, 2000, .inl ow)), ((g 39), .inl (cA 3, 2000, .inl fi)), ((g 40), .inl (cA 3, 2000, .inl be))]) ⟨hx, hb, hml, hown, hts⟩ hno hlocks hl.1 (c_Md_number l hl9 D cA ad H.size m0 g (K.1, K.2.1, K.2.2.1, K.2.2.2.1, nI X.length, K.2.2.2.2.2.1, K.2.2.2.2.2.2.1, K.2.2.2.2.2.2.2.1, nI ak) A0 e np B yb b lm hlm hyb hb9 ak vk b1 (by omega) hv1) iw4_132 iw4_134 sel_Md_number iw1_7 iw4_135 (by decide +kernel) rfl ⟨Nat.le_of_ble_eq_true rfl, Nat.le_of_ble_eq_true rfl⟩ ⟨Nat.le_of_ble_eq_true rfl, Nat.le_of_ble_eq_true rfl⟩ rfl (Nat.le_of_ble_eq_true rfl) d_Md_lookElement_293 hE hP hD hS hA [0, 1] [2, 3, 4] rfl rfl rfl rfl (by decide) (ci := 6) rfl rfl 0 rfl (fun _ h => h.elim) (fun v_293 u_293 H locs hp_293 hP hD hS => ?_)
            obtain rfl := hp_293
            have hP : va_P D cls [(m0, .inr (6, mF g (K.1, K.2.1, K.2.2.1, K.2.2.2.1, nI X.length, K.2.2.2.2.2.1, K.2.2.2.2.2.2.1, K.2.2.2.2.2.2.2.1, nI b1) A0 e np B)), ((g 30), .inl (cA 3, 2000, .inl yb)), ((g 38), .inl (cA 3, 2000, .inl ow)), ((g 39), .inl (cA 3, 2000, .inl fi)), ((g 40), .inl (cA 3, 2000, .inl be))] H := hP.sub [3, 4, 0, 1, 2] rfl
            have hD : va_D A [(m0, .inr (6, mF g (K.1, K.2.1, K.2.2.1, K.2.2.2.1, nI X.length, K.2.2.2.2.2.1, K.2.2.2.2.2.2.1, K.2.2.2.2.2.2.2.1, nI b1) A0 e np B)), ((g 30), .inl (cA 3, 2000, .inl yb)), ((g 38), .inl (cA 3, 2000, .inl ow)), ((g 39), .inl (cA 3, 2000, .inl fi)), ((g 40), .inl (cA 3, 2000, .inl be))] := hD.sub [3, 4, 0, 1, 2] (by decide) rfl
            refine W.cs (cells' := 0) (slots' := 0) rfl rfl ?_
            refine W.eq (g2 := F0 m 296 ls [.long (lN vk)]) rfl ?_
            refine lv_pop2_2 hx hb d_Md_lookElement_296 rfl ?_
            obtain ⟨x12_1, ex12_1⟩ : ∃ y : Int32, y = (nI k) + 1 := ⟨_, rfl⟩
            refine lv_iinc (v := x12_1) (lv' := [(12, .int x12_1), (0, .ref m0), (2, .int (nI wh))]) hx hb d_Md_lookElement_297 hl (k := 2) rfl (by rw [ex12_1]; rfl) (by decide) rfl (fun ls hl => ?_)
            refine lv_goto (tgt := 286) hx hb d_Md_lookElement_300 (by decide) ?_
            have e9 : x12_1 = nI (k + 1) := by rw [ex12_1]; exact nI_1 k
            subst e9
            exact ih (k + 1) b1 (acc ++ [lN vk]) H locs ls (by omega) (by omega) (by omega) (by simp; omega) (by rw [show n - (k + 1 - 8) = r by omega]; exact hrep) hP hD hS (lv_sub hl [1, 2, 0] rfl)
        exact key (wh - 8) 8 a4 [] H _ ls (by omega) (Nat.le_refl _) (by omega) rfl (by rw [Nat.sub_self, Nat.sub_zero]; exact he5) hP hD hS (lv_sub hl [7, 9, 0] rfl)
      · refine lv_ldc2 hx hb hown (hts _ (List.mem_cons_of_mem _ iw3_204)) d_Md_lookElement_245 ?_
        exact cRl (nI a4) hx hb hr hlocks d_Md_lookElement_248 hS hP hD (by rw [lkS, if_pos (show 8 ≤ wh by omega), if_pos rfl, lst_out (z := vp_updL (vp_updL (vp_updL (vp_updL (vp_updL (vp_updL (vp_updL (vp_updL (vp_updL c_1 0 (elM 0)) 2 0) 4 (lN a1)) 5 (lN a2)) 1 (lN 112)) 6 (elS 0)) 3 (lN n)) 7 (lN nl)) 8 (lN n)) (cs := 7) (cn := 8) (M := n) rfl (by omega) (by omega) (by have := (pk_lLE (a := n) (b := wh - 8) (by omega) (by omega)).mp (Int64.not_lt.mp (fun q => c_242 ((lg_cmp_lt _ _).mpr q))); omega)]) (Nat.le_refl _) (Nat.le_refl _)
  · obtain ⟨ec2, ea2⟩ : vp_updL (vp_updL c_1 0 (elM 1)) 2 0 = c2 ∧ a1 = a2 := by have q : (Sum.inr (vp_updL (vp_updL c_1 0 (elM 1)) 2 0, a1) : PR (Nat → Int64)) = .inr (c2, a2) := he2; cases q; exact ⟨rfl, rfl⟩
    subst ea2
    subst ec2
    have he3 : bnd (pChoice b lm 0 a1) (fun _ a5 => .inr (112, a5)) = .inr (tt, a3) := he3
    obtain ⟨g7, b7, q7, r7⟩ := bnd_ok he3
    obtain ⟨h71, h72, -, -⟩ := pChoice_inv q7
    obtain ⟨ett, ea3⟩ : 112 = tt ∧ a1 + 1 = a3 := by cases r7; exact ⟨rfl, h72.symm⟩
    subst ett
    subst ea3
    have hexx : exO t X = exs := hexx
    have he5 : repU b lm n [] a4 = .inr (it, a') := he5
    rcases (show wh = 0 ∨ wh = 1 ∨ wh = 2 ∨ wh = 3 ∨ wh = 4 ∨ wh = 5 ∨ wh = 6 ∨ wh = 7 ∨ 8 ≤ wh by omega) with rfl | rfl | rfl | rfl | rfl | rfl | rfl | rfl | hw8
    · have hl : lv_has ls 13 [(0, .ref m0), (1, .int (nI t)), (2, .int 0)] := hl
      refine lv_aload_n hx hb d_Md_lookElement_0 rfl (lv_at hl 0 rfl) ?_
      refine cV (As := []) (rest := []) (n := 0) (wc := [(m0, .inr (6, mF g (K.1, K.2.1, K.2.2.1, K.2.2.2.1, nI X.length, K.2.2.2.2.2.1, K.2.2.2.2.2.2.1, K.2.2.2.2.2.2.2.1, nI a) A0 e np B)), ((g 30), .inl (cA 3, 2000, .inl yb))]) (wr := [((g 38), .inl (cA 3, 2000, .inl ow)), ((g 39), .inl (cA 3, 2000, .inl fi)), ((g 40), .inl (cA 3, 2000, .inl be))]) ⟨hx, hb, hml, hown, hts⟩ hno hlocks hl.1 (c_Md_number l hl9 D cA ad s.heap.size m0 g (K.1, K.2.1, K.2.2.1, K.2.2.2.1, nI X.length, K.2.2.2.2.2.1, K.2.2.2.2.2.2.1, K.2.2.2.2.2.2.2.1, nI a) A0 e np B yb b lm hlm hyb hb9 a 1 a1 (by omega) hmu) iw4_132 iw4_134 sel_Md_number iw1_7 iw4_135 (by decide +kernel) rfl ⟨Nat.le_of_ble_eq_true rfl, Nat.le_of_ble_eq_true rfl⟩ ⟨Nat.le_of_ble_eq_true rfl, Nat.le_of_ble_eq_true rfl⟩ rfl (Nat.le_of_ble_eq_true rfl) d_Md_lookElement_1 hE hP hD hS hA [0, 1] [2, 3, 4] rfl rfl rfl rfl (by decide) (ci := 6) rfl rfl 0 rfl (fun _ h => h.elim) (fun v_1 u_1 H locs hp_1 hP hD hS => ?_)
      obtain rfl := hp_1
      have hP : va_P D cls [(m0, .inr (6, mF g (K.1, K.2.1, K.2.2.1, K.2.2.2.1, nI X.length, K.2.2.2.2.2.1, K.2.2.2.2.2.2.1, K.2.2.2.2.2.2.2.1, nI a1) A0 e np B)), ((g 30), .inl (cA 3, 2000, .inl yb)), ((g 38), .inl (cA 3, 2000, .inl ow)), ((g 39), .inl (cA 3, 2000, .inl fi)), ((g 40), .inl (cA 3, 2000, .inl be))] H := hP.sub [3, 4, 0, 1, 2] rfl
      have hD : va_D A [(m0, .inr (6, mF g (K.1, K.2.1, K.2.2.1, K.2.2.2.1, nI X.length, K.2.2.2.2.2.1, K.2.2.2.2.2.2.1, K.2.2.2.2.2.2.2.1, nI a1) A0 e np B)), ((g 30), .inl (cA 3, 2000, .inl yb)), ((g 38), .inl (cA 3, 2000, .inl ow)), ((g 39), .inl (cA 3, 2000, .inl fi)), ((g 40), .inl (cA 3, 2000, .inl be))] := hD.sub [3, 4, 0, 1, 2] (by decide) rfl
      refine W.cs (cells' := 0) (slots' := 0) rfl rfl ?_
      refine W.eq (g2 := F0 m 4 ls [.long (lN 1)]) rfl ?_
      refine lv_l2i hx hb d_Md_lookElement_4 rfl ?_
      refine W.eq (g2 := F0 m 5 ls [.int 1]) (by rw [lN_i]; rfl) ?_
      refine lv_istore_n (lv' := [(3, .int 1), (0, .ref m0), (1, .int (nI t)), (2, .int 0)]) hx hb d_Md_lookElement_5 rfl hl (by decide) rfl (fun ls hl => ?_)
      refine lv_iload_n hx hb d_Md_lookElement_6 rfl (lv_at hl 0 rfl) ?_
      refine lv_iconst (v := 1) hx hb d_Md_lookElement_7 (by decide) ?_
      refine lv_iand hx hb d_Md_lookElement_8 ?_
      refine W.eq (g2 := F0 m 9 ls [.int 1]) (by rw [show (1 : Int32) &&& 1 = 1 from by decide +kernel]) ?_
      refine lv_if_ne (tgt := 16) hx hb d_Md_lookElement_9 (by decide) (fun c_9 => ?_) (fun c_9 => absurd c_9 (by decide))
      refine lv_iconst (v := 0) hx hb d_Md_lookElement_16 (by decide) ?_
      refine lv_istore (lv' := [(4, .int 0), (3, .int 1), (0, .ref m0), (1, .int (nI t)), (2, .int 0)]) hx hb d_Md_lookElement_17 hl (by decide) rfl (fun ls hl => ?_)
      refine lv_iload hx hb d_Md_lookElement_19 (lv_at hl 0 rfl) ?_
      refine lv_if_eq (tgt := 37) hx hb d_Md_lookElement_21 (by decide) (fun c_21 => ?_) (fun c_21 => absurd (by decide) c_21)
      refine lv_lconst (v := 0) hx hb d_Md_lookElement_37 (by decide) ?_
      refine lv_lstore (lv' := [(5, .long 0), (4, .int 0), (3, .int 1), (0, .ref m0), (1, .int (nI t)), (2, .int 0)]) hx hb d_Md_lookElement_38 hl (by decide) rfl (fun ls hl => ?_)
      refine lv_iload_n hx hb d_Md_lookElement_40 rfl (lv_at hl 5 rfl) ?_
      refine lv_if_ne (tgt := 67) hx hb d_Md_lookElement_41 (by decide) (fun c_41 => absurd (by decide) c_41) (fun c_41 => ?_)
      refine lv_iload hx hb d_Md_lookElement_44 (lv_at hl 1 rfl) ?_
      refine lv_if_eq (tgt := 53) hx hb d_Md_lookElement_46 (by decide) (fun c_46 => ?_) (fun c_46 => absurd (by decide) c_46)
      refine lv_iload_n hx hb d_Md_lookElement_53 rfl (lv_at hl 2 rfl) ?_
      refine lv_iconst (v := 2) hx hb d_Md_lookElement_54 (by decide) ?_
      refine lv_iand hx hb d_Md_lookElement_55 ?_
      refine W.eq (g2 := F0 m 56 ls [.int 0]) (by rw [show (1 : Int32) &&& 2 = 0 from by decide +kernel]) ?_
      refine lv_if_eq (tgt := 65) hx hb d_Md_lookElement_56 (by decide) (fun c_56 => ?_) (fun c_56 => absurd (by decide) c_56)
      refine lv_lconst (v := 0) hx hb d_Md_lookElement_65 (by decide) ?_
      exact cRl (nI a1) hx hb hr hlocks d_Md_lookElement_66 hS hP hD (rfl) (Nat.le_refl _) (Nat.le_refl _)
    · have hl : lv_has ls 13 [(0, .ref m0), (1, .int (nI t)), (2, .int 1)] := hl
      refine lv_aload_n hx hb d_Md_lookElement_0 rfl (lv_at hl 0 rfl) ?_
      refine cV (As := []) (rest := []) (n := 0) (wc := [(m0, .inr (6, mF g (K.1, K.2.1, K.2.2.1, K.2.2.2.1, nI X.length, K.2.2.2.2.2.1, K.2.2.2.2.2.2.1, K.2.2.2.2.2.2.2.1, nI a) A0 e np B)), ((g 30), .inl (cA 3, 2000, .inl yb))]) (wr := [((g 38), .inl (cA 3, 2000, .inl ow)), ((g 39), .inl (cA 3, 2000, .inl fi)), ((g 40), .inl (cA 3, 2000, .inl be))]) ⟨hx, hb, hml, hown, hts⟩ hno hlocks hl.1 (c_Md_number l hl9 D cA ad s.heap.size m0 g (K.1, K.2.1, K.2.2.1, K.2.2.2.1, nI X.length, K.2.2.2.2.2.1, K.2.2.2.2.2.2.1, K.2.2.2.2.2.2.2.1, nI a) A0 e np B yb b lm hlm hyb hb9 a 1 a1 (by omega) hmu) iw4_132 iw4_134 sel_Md_number iw1_7 iw4_135 (by decide +kernel) rfl ⟨Nat.le_of_ble_eq_true rfl, Nat.le_of_ble_eq_true rfl⟩ ⟨Nat.le_of_ble_eq_true rfl, Nat.le_of_ble_eq_true rfl⟩ rfl (Nat.le_of_ble_eq_true rfl) d_Md_lookElement_1 hE hP hD hS hA [0, 1] [2, 3, 4] rfl rfl rfl rfl (by decide) (ci := 6) rfl rfl 0 rfl (fun _ h => h.elim) (fun v_1 u_1 H locs hp_1 hP hD hS => ?_)
      obtain rfl := hp_1
      have hP : va_P D cls [(m0, .inr (6, mF g (K.1, K.2.1, K.2.2.1, K.2.2.2.1, nI X.length, K.2.2.2.2.2.1, K.2.2.2.2.2.2.1, K.2.2.2.2.2.2.2.1, nI a1) A0 e np B)), ((g 30), .inl (cA 3, 2000, .inl yb)), ((g 38), .inl (cA 3, 2000, .inl ow)), ((g 39), .inl (cA 3, 2000, .inl fi)), ((g 40), .inl (cA 3, 2000, .inl be))] H := hP.sub [3, 4, 0, 1, 2] rfl
      have hD : va_D A [(m0, .inr (6, mF g (K.1, K.2.1, K.2.2.1, K.2.2.2.1, nI X.length, K.2.2.2.2.2.1, K.2.2.2.2.2.2.1, K.2.2.2.2.2.2.2.1, nI a1) A0 e np B)), ((g 30), .inl (cA 3, 2000, .inl yb)), ((g 38), .inl (cA 3, 2000, .inl ow)), ((g 39), .inl (cA 3, 2000, .inl fi)), ((g 40), .inl (cA 3, 2000, .inl be))] := hD.sub [3, 4, 0, 1, 2] (by decide) rfl
      refine W.cs (cells' := 0) (slots' := 0) rfl rfl ?_
      refine W.eq (g2 := F0 m 4 ls [.long (lN 1)]) rfl ?_
      refine lv_l2i hx hb d_Md_lookElement_4 rfl ?_
      refine W.eq (g2 := F0 m 5 ls [.int 1]) (by rw [lN_i]; rfl) ?_
      refine lv_istore_n (lv' := [(3, .int 1), (0, .ref m0), (1, .int (nI t)), (2, .int 1)]) hx hb d_Md_lookElement_5 rfl hl (by decide) rfl (fun ls hl => ?_)
      refine lv_iload_n hx hb d_Md_lookElement_6 rfl (lv_at hl 0 rfl) ?_
      refine lv_iconst (v := 1) hx hb d_Md_lookElement_7 (by decide) ?_
      refine lv_iand hx hb d_Md_lookElement_8 ?_
      refine W.eq (g2 := F0 m 9 ls [.int 1]) (by rw [show (1 : Int32) &&& 1 = 1 from by decide +kernel]) ?_
      refine lv_if_ne (tgt := 16) hx hb d_Md_lookElement_9 (by decide) (fun c_9 => ?_) (fun c_9 => absurd c_9 (by decide))
      refine lv_iconst (v := 0) hx hb d_Md_lookElement_16 (by decide) ?_
      refine lv_istore (lv' := [(4, .int 0), (3, .int 1), (0, .ref m0), (1, .int (nI t)), (2, .int 1)]) hx hb d_Md_lookElement_17 hl (by decide) rfl (fun ls hl => ?_)
      refine lv_iload hx hb d_Md_lookElement_19 (lv_at hl 0 rfl) ?_
      refine lv_if_eq (tgt := 37) hx hb d_Md_lookElement_21 (by decide) (fun c_21 => ?_) (fun c_21 => absurd (by decide) c_21)
      refine lv_lconst (v := 0) hx hb d_Md_lookElement_37 (by decide) ?_
      refine lv_lstore (lv' := [(5, .long 0), (4, .int 0), (3, .int 1), (0, .ref m0), (1, .int (nI t)), (2, .int 1)]) hx hb d_Md_lookElement_38 hl (by decide) rfl (fun ls hl => ?_)
      refine lv_iload_n hx hb d_Md_lookElement_40 rfl (lv_at hl 5 rfl) ?_
      refine lv_if_ne (tgt := 67) hx hb d_Md_lookElement_41 (by decide) (fun c_41 => ?_) (fun c_41 => absurd c_41 (by decide))
      refine lv_iload_n hx hb d_Md_lookElement_67 rfl (lv_at hl 5 rfl) ?_
      refine lv_iconst (v := 2) hx hb d_Md_lookElement_68 (by decide) ?_
      refine lv_icmp_ne (tgt := 75) hx hb d_Md_lookElement_69 (by decide) (fun c_69 => ?_) (fun c_69 => absurd c_69 (by decide))
      refine lv_iload_n hx hb d_Md_lookElement_75 rfl (lv_at hl 5 rfl) ?_
      refine lv_iconst (v := 4) hx hb d_Md_lookElement_76 (by decide) ?_
      refine lv_icmp_eq (tgt := 85) hx hb d_Md_lookElement_77 (by decide) (fun c_77 => absurd c_77 (by decide)) (fun c_77 => ?_)
      refine lv_iload_n hx hb d_Md_lookElement_80 rfl (lv_at hl 5 rfl) ?_
      refine lv_iconst (v := 5) hx hb d_Md_lookElement_81 (by decide) ?_
      refine lv_icmp_ne (tgt := 104) hx hb d_Md_lookElement_82 (by decide) (fun c_82 => ?_) (fun c_82 => absurd c_82 (by decide))
      refine lv_iload_n hx hb d_Md_lookElement_104 rfl (lv_at hl 5 rfl) ?_
      refine lv_bipush (v := 6) hx hb d_Md_lookElement_105 (by decide) ?_
      refine lv_icmp_ne (tgt := 122) hx hb d_Md_lookElement_107 (by decide) (fun c_107 => ?_) (fun c_107 => absurd c_107 (by decide))
      refine lv_iload hx hb d_Md_lookElement_122 (lv_at hl 1 rfl) ?_
      refine lv_if_eq (tgt := 142) hx hb d_Md_lookElement_124 (by decide) (fun c_124 => ?_) (fun c_124 => absurd (by decide) c_124)
      refine lv_iload_n hx hb d_Md_lookElement_142 rfl (lv_at hl 2 rfl) ?_
      refine lv_if_eq (tgt := 155) hx hb d_Md_lookElement_143 (by decide) (fun c_143 => absurd c_143 (by decide)) (fun c_143 => ?_)
      refine lv_iload_n hx hb d_Md_lookElement_146 rfl (lv_at hl 2 rfl) ?_
      refine lv_iconst (v := 4) hx hb d_Md_lookElement_147 (by decide) ?_
      refine lv_icmp_eq (tgt := 155) hx hb d_Md_lookElement_148 (by decide) (fun c_148 => absurd c_148 (by decide)) (fun c_148 => ?_)
      refine lv_iconst (v := 1) hx hb d_Md_lookElement_151 (by decide) ?_
      refine lv_goto (tgt := 156) hx hb d_Md_lookElement_152 (by decide) ?_
      refine lv_istore (lv' := [(7, .int 1), (5, .long 0), (4, .int 0), (3, .int 1), (0, .ref m0), (1, .int (nI t)), (2, .int 1)]) hx hb d_Md_lookElement_156 hl (by decide) rfl (fun ls hl => ?_)
      refine lv_iload hx hb d_Md_lookElement_158 (lv_at hl 0 rfl) ?_
      refine lv_if_eq (tgt := 182) hx hb d_Md_lookElement_160 (by decide) (fun c_160 => absurd c_160 (by decide)) (fun c_160 => ?_)
      refine lv_iload_n hx hb d_Md_lookElement_163 rfl (lv_at hl 3 rfl) ?_
      refine lv_iconst (v := 4) hx hb d_Md_lookElement_164 (by decide) ?_
      refine lv_iand hx hb d_Md_lookElement_165 ?_
      refine W.eq (g2 := F0 m 166 ls [.int 0]) (by rw [show (1 : Int32) &&& 4 = 0 from by decide +kernel]) ?_
      refine lv_if_eq (tgt := 182) hx hb d_Md_lookElement_166 (by decide) (fun c_166 => ?_) (fun c_166 => absurd (by decide) c_166)
      refine lv_ldc2 hx hb hown (hts _ (List.mem_cons_of_mem _ iw4_168)) d_Md_lookElement_182 ?_
      refine lv_lstore (lv' := [(8, .long 112), (7, .int 1), (5, .long 0), (4, .int 0), (3, .int 1), (0, .ref m0), (1, .int (nI t)), (2, .int 1)]) hx hb d_Md_lookElement_185 hl (by decide) rfl (fun ls hl => ?_)
      refine lv_aload_n hx hb d_Md_lookElement_187 rfl (lv_at hl 5 rfl) ?_
      refine lv_dup hx hb d_Md_lookElement_188 rfl ?_
      refine va_get (D := D) (ci := 6) (v := .int (nI a1)) (C := R_Md) (T := F_Md) (N := 44) hx hb hts (fun w h => List.mem_cons_of_mem _ (i_Md w h)) hown hE.1 hP 0 rfl rfl 43 (by decide) (hts _ (List.mem_cons_of_mem _ iw3_97)) (fun _ h9 => h9) rfl d_Md_lookElement_189 ?_
      refine lv_iload hx hb d_Md_lookElement_192 (lv_at hl 1 rfl) ?_
      refine lv_if_eq (tgt := 201) hx hb d_Md_lookElement_194 (by decide) (fun c_194 => absurd c_194 (by decide)) (fun c_194 => ?_)
      refine lv_iconst (v := 1) hx hb d_Md_lookElement_197 (by decide) ?_
      refine lv_goto (tgt := 202) hx hb d_Md_lookElement_198 (by decide) ?_
      refine lv_iadd hx hb d_Md_lookElement_202 ?_
      rw [nI_1]
      refine va_put (D := D) (ci := 6) (v := .int (nI (a1 + 1))) (ty := .int) (C := R_Md) (T := F_Md) (N := 44) hx hb hts (fun w h => List.mem_cons_of_mem _ (i_Md w h)) t_Md tk_Md n_Md hown hE.1 hP hD hS 0 rfl rfl 43 (by decide) (hts _ (List.mem_cons_of_mem _ iw3_97)) (fun _ h9 => h9) rfl (by decide +kernel) rfl rfl (Nat.le_of_ble_eq_true rfl) d_Md_lookElement_203 (fun H locs hP hD hS => ?_)
      have hP : va_P D cls [(m0, .inr (6, mF g (K.1, K.2.1, K.2.2.1, K.2.2.2.1, nI X.length, K.2.2.2.2.2.1, K.2.2.2.2.2.2.1, K.2.2.2.2.2.2.2.1, nI (a1 + 1)) A0 e np B)), ((g 30), .inl (cA 3, 2000, .inl yb)), ((g 38), .inl (cA 3, 2000, .inl ow)), ((g 39), .inl (cA 3, 2000, .inl fi)), ((g 40), .inl (cA 3, 2000, .inl be))] H := hP
      have hD : va_D A [(m0, .inr (6, mF g (K.1, K.2.1, K.2.2.1, K.2.2.2.1, nI X.length, K.2.2.2.2.2.1, K.2.2.2.2.2.2.1, K.2.2.2.2.2.2.2.1, nI (a1 + 1)) A0 e np B)), ((g 30), .inl (cA 3, 2000, .inl yb)), ((g 38), .inl (cA 3, 2000, .inl ow)), ((g 39), .inl (cA 3, 2000, .inl fi)), ((g 40), .inl (cA 3, 2000, .inl be))] := hD
      refine lv_iload_n hx hb d_Md_lookElement_206 rfl (lv_at hl 7 rfl) ?_
      refine lv_iconst (v := 1) hx hb d_Md_lookElement_207 (by decide) ?_
      refine lv_icmp_ne (tgt := 214) hx hb d_Md_lookElement_208 (by decide) (fun c_208 => absurd (by decide) c_208) (fun c_208 => ?_)
      refine lv_lload hx hb d_Md_lookElement_211 (lv_at hl 0 rfl) ?_
      exact cRl (nI (a1 + 1)) hx hb hr hlocks d_Md_lookElement_213 hS hP hD (rfl) (Nat.le_refl _) (Nat.le_refl _)
    · have hl : lv_has ls 13 [(0, .ref m0), (1, .int (nI t)), (2, .int 2)] := hl
      refine lv_aload_n hx hb d_Md_lookElement_0 rfl (lv_at hl 0 rfl) ?_
      refine cV (As := []) (rest := []) (n := 0) (wc := [(m0, .inr (6, mF g (K.1, K.2.1, K.2.2.1, K.2.2.2.1, nI X.length, K.2.2.2.2.2.1, K.2.2.2.2.2.2.1, K.2.2.2.2.2.2.2.1, nI a) A0 e np B)), ((g 30), .inl (cA 3, 2000, .inl yb))]) (wr := [((g 38), .inl (cA 3, 2000, .inl ow)), ((g 39), .inl (cA 3, 2000, .inl fi)), ((g 40), .inl (cA 3, 2000, .inl be))]) ⟨hx, hb, hml, hown, hts⟩ hno hlocks hl.1 (c_Md_number l hl9 D cA ad s.heap.size m0 g (K.1, K.2.1, K.2.2.1, K.2.2.2.1, nI X.length, K.2.2.2.2.2.1, K.2.2.2.2.2.2.1, K.2.2.2.2.2.2.2.1, nI a) A0 e np B yb b lm hlm hyb hb9 a 1 a1 (by omega) hmu) iw4_132 iw4_134 sel_Md_number iw1_7 iw4_135 (by decide +kernel) rfl ⟨Nat.le_of_ble_eq_true rfl, Nat.le_of_ble_eq_true rfl⟩ ⟨Nat.le_of_ble_eq_true rfl, Nat.le_of_ble_eq_true rfl⟩ rfl (Nat.le_of_ble_eq_true rfl) d_Md_lookElement_1 hE hP hD hS hA [0, 1] [2, 3, 4] rfl rfl rfl rfl (by decide) (ci := 6) rfl rfl 0 rfl (fun _ h => h.elim) (fun v_1 u_1 H locs hp_1 hP hD hS => ?_)
      obtain rfl := hp_1
      have hP : va_P D cls [(m0, .inr (6, mF g (K.1, K.2.1, K.2.2.1, K.2.2.2.1, nI X.length, K.2.2.2.2.2.1, K.2.2.2.2.2.2.1, K.2.2.2.2.2.2.2.1, nI a1) A0 e np B)), ((g 30), .inl (cA 3, 2000, .inl yb)), ((g 38), .inl (cA 3, 2000, .inl ow)), ((g 39), .inl (cA 3, 2000, .inl fi)), ((g 40), .inl (cA 3, 2000, .inl be))] H := hP.sub [3, 4, 0, 1, 2] rfl
      have hD : va_D A [(m0, .inr (6, mF g (K.1, K.2.1, K.2.2.1, K.2.2.2.1, nI X.length, K.2.2.2.2.2.1, K.2.2.2.2.2.2.1, K.2.2.2.2.2.2.2.1, nI a1) A0 e np B)), ((g 30), .inl (cA 3, 2000, .inl yb)), ((g 38), .inl (cA 3, 2000, .inl ow)), ((g 39), .inl (cA 3, 2000, .inl fi)), ((g 40), .inl (cA 3, 2000, .inl be))] := hD.sub [3, 4, 0, 1, 2] (by decide) rfl
      refine W.cs (cells' := 0) (slots' := 0) rfl rfl ?_
      refine W.eq (g2 := F0 m 4 ls [.long (lN 1)]) rfl ?_
      refine lv_l2i hx hb d_Md_lookElement_4 rfl ?_
      refine W.eq (g2 := F0 m 5 ls [.int 1]) (by rw [lN_i]; rfl) ?_
      refine lv_istore_n (lv' := [(3, .int 1), (0, .ref m0), (1, .int (nI t)), (2, .int 2)]) hx hb d_Md_lookElement_5 rfl hl (by decide) rfl (fun ls hl => ?_)
      refine lv_iload_n hx hb d_Md_lookElement_6 rfl (lv_at hl 0 rfl) ?_
      refine lv_iconst (v := 1) hx hb d_Md_lookElement_7 (by decide) ?_
      refine lv_iand hx hb d_Md_lookElement_8 ?_
      refine W.eq (g2 := F0 m 9 ls [.int 1]) (by rw [show (1 : Int32) &&& 1 = 1 from by decide +kernel]) ?_
      refine lv_if_ne (tgt := 16) hx hb d_Md_lookElement_9 (by decide) (fun c_9 => ?_) (fun c_9 => absurd c_9 (by decide))
      refine lv_iconst (v := 0) hx hb d_Md_lookElement_16 (by decide) ?_
      refine lv_istore (lv' := [(4, .int 0), (3, .int 1), (0, .ref m0), (1, .int (nI t)), (2, .int 2)]) hx hb d_Md_lookElement_17 hl (by decide) rfl (fun ls hl => ?_)
      refine lv_iload hx hb d_Md_lookElement_19 (lv_at hl 0 rfl) ?_
      refine lv_if_eq (tgt := 37) hx hb d_Md_lookElement_21 (by decide) (fun c_21 => ?_) (fun c_21 => absurd (by decide) c_21)
      refine lv_lconst (v := 0) hx hb d_Md_lookElement_37 (by decide) ?_
      refine lv_lstore (lv' := [(5, .long 0), (4, .int 0), (3, .int 1), (0, .ref m0), (1, .int (nI t)), (2, .int 2)]) hx hb d_Md_lookElement_38 hl (by decide) rfl (fun ls hl => ?_)
      refine lv_iload_n hx hb d_Md_lookElement_40 rfl (lv_at hl 5 rfl) ?_
      refine lv_if_ne (tgt := 67) hx hb d_Md_lookElement_41 (by decide) (fun c_41 => ?_) (fun c_41 => absurd c_41 (by decide))
      refine lv_iload_n hx hb d_Md_lookElement_67 rfl (lv_at hl 5 rfl) ?_
      refine lv_iconst (v := 2) hx hb d_Md_lookElement_68 (by decide) ?_
      refine lv_icmp_ne (tgt := 75) hx hb d_Md_lookElement_69 (by decide) (fun c_69 => absurd (by decide) c_69) (fun c_69 => ?_)
      refine lv_lload hx hb d_Md_lookElement_72 (lv_at hl 0 rfl) ?_
      exact cRl (nI a1) hx hb hr hlocks d_Md_lookElement_74 hS hP hD (rfl) (Nat.le_refl _) (Nat.le_refl _)
    · have hl : lv_has ls 13 [(0, .ref m0), (1, .int (nI t)), (2, .int 3)] := hl
      refine lv_aload_n hx hb d_Md_lookElement_0 rfl (lv_at hl 0 rfl) ?_
      refine cV (As := []) (rest := []) (n := 0) (wc := [(m0, .inr (6, mF g (K.1, K.2.1, K.2.2.1, K.2.2.2.1, nI X.length, K.2.2.2.2.2.1, K.2.2.2.2.2.2.1, K.2.2.2.2.2.2.2.1, nI a) A0 e np B)), ((g 30), .inl (cA 3, 2000, .inl yb))]) (wr := [((g 38), .inl (cA 3, 2000, .inl ow)), ((g 39), .inl (cA 3, 2000, .inl fi)), ((g 40), .inl (cA 3, 2000, .inl be))]) ⟨hx, hb, hml, hown, hts⟩ hno hlocks hl.1 (c_Md_number l hl9 D cA ad s.heap.size m0 g (K.1, K.2.1, K.2.2.1, K.2.2.2.1, nI X.length, K.2.2.2.2.2.1, K.2.2.2.2.2.2.1, K.2.2.2.2.2.2.2.1, nI a) A0 e np B yb b lm hlm hyb hb9 a 1 a1 (by omega) hmu) iw4_132 iw4_134 sel_Md_number iw1_7 iw4_135 (by decide +kernel) rfl ⟨Nat.le_of_ble_eq_true rfl, Nat.le_of_ble_eq_true rfl⟩ ⟨Nat.le_of_ble_eq_true rfl, Nat.le_of_ble_eq_true rfl⟩ rfl (Nat.le_of_ble_eq_true rfl) d_Md_lookElement_1 hE hP hD hS hA [0, 1] [2, 3, 4] rfl rfl rfl rfl (by decide) (ci := 6) rfl rfl 0 rfl (fun _ h => h.elim) (fun v_1 u_1 H locs hp_1 hP hD hS => ?_)
      obtain rfl := hp_1
      have hP : va_P D cls [(m0, .inr (6, mF g (K.1, K.2.1, K.2.2.1, K.2.2.2.1, nI X.length, K.2.2.2.2.2.1, K.2.2.2.2.2.2.1, K.2.2.2.2.2.2.2.1, nI a1) A0 e np B)), ((g 30), .inl (cA 3, 2000, .inl yb)), ((g 38), .inl (cA 3, 2000, .inl ow)), ((g 39), .inl (cA 3, 2000, .inl fi)), ((g 40), .inl (cA 3, 2000, .inl be))] H := hP.sub [3, 4, 0, 1, 2] rfl
      have hD : va_D A [(m0, .inr (6, mF g (K.1, K.2.1, K.2.2.1, K.2.2.2.1, nI X.length, K.2.2.2.2.2.1, K.2.2.2.2.2.2.1, K.2.2.2.2.2.2.2.1, nI a1) A0 e np B)), ((g 30), .inl (cA 3, 2000, .inl yb)), ((g 38), .inl (cA 3, 2000, .inl ow)), ((g 39), .inl (cA 3, 2000, .inl fi)), ((g 40), .inl (cA 3, 2000, .inl be))] := hD.sub [3, 4, 0, 1, 2] (by decide) rfl
      refine W.cs (cells' := 0) (slots' := 0) rfl rfl ?_
      refine W.eq (g2 := F0 m 4 ls [.long (lN 1)]) rfl ?_
      refine lv_l2i hx hb d_Md_lookElement_4 rfl ?_
      refine W.eq (g2 := F0 m 5 ls [.int 1]) (by rw [lN_i]; rfl) ?_
      refine lv_istore_n (lv' := [(3, .int 1), (0, .ref m0), (1, .int (nI t)), (2, .int 3)]) hx hb d_Md_lookElement_5 rfl hl (by decide) rfl (fun ls hl => ?_)
      refine lv_iload_n hx hb d_Md_lookElement_6 rfl (lv_at hl 0 rfl) ?_
      refine lv_iconst (v := 1) hx hb d_Md_lookElement_7 (by decide) ?_
      refine lv_iand hx hb d_Md_lookElement_8 ?_
      refine W.eq (g2 := F0 m 9 ls [.int 1]) (by rw [show (1 : Int32) &&& 1 = 1 from by decide +kernel]) ?_
      refine lv_if_ne (tgt := 16) hx hb d_Md_lookElement_9 (by decide) (fun c_9 => ?_) (fun c_9 => absurd c_9 (by decide))
      refine lv_iconst (v := 0) hx hb d_Md_lookElement_16 (by decide) ?_
      refine lv_istore (lv' := [(4, .int 0), (3, .int 1), (0, .ref m0), (1, .int (nI t)), (2, .int 3)]) hx hb d_Md_lookElement_17 hl (by decide) rfl (fun ls hl => ?_)
      refine lv_iload hx hb d_Md_lookElement_19 (lv_at hl 0 rfl) ?_
      refine lv_if_eq (tgt := 37) hx hb d_Md_lookElement_21 (by decide) (fun c_21 => ?_) (fun c_21 => absurd (by decide) c_21)
      refine lv_lconst (v := 0) hx hb d_Md_lookElement_37 (by decide) ?_
      refine lv_lstore (lv' := [(5, .long 0), (4, .int 0), (3, .int 1), (0, .ref m0), (1, .int (nI t)), (2, .int 3)]) hx hb d_Md_lookElement_38 hl (by decide) rfl (fun ls hl => ?_)
      refine lv_iload_n hx hb d_Md_lookElement_40 rfl (lv_at hl 5 rfl) ?_
      refine lv_if_ne (tgt := 67) hx hb d_Md_lookElement_41 (by decide) (fun c_41 => ?_) (fun c_41 => absurd c_41 (by decide))
      refine lv_iload_n hx hb d_Md_lookElement_67 rfl (lv_at hl 5 rfl) ?_
      refine lv_iconst (v := 2) hx hb d_Md_lookElement_68 (by decide) ?_
      refine lv_icmp_ne (tgt := 75) hx hb d_Md_lookElement_69 (by decide) (fun c_69 => ?_) (fun c_69 => absurd c_69 (by decide))
      refine lv_iload_n hx hb d_Md_lookElement_75 rfl (lv_at hl 5 rfl) ?_
      refine lv_iconst (v := 4) hx hb d_Md_lookElement_76 (by decide) ?_
      refine lv_icmp_eq (tgt := 85) hx hb d_Md_lookElement_77 (by decide) (fun c_77 => absurd c_77 (by decide)) (fun c_77 => ?_)
      refine lv_iload_n hx hb d_Md_lookElement_80 rfl (lv_at hl 5 rfl) ?_
      refine lv_iconst (v := 5) hx hb d_Md_lookElement_81 (by decide) ?_
      refine lv_icmp_ne (tgt := 104) hx hb d_Md_lookElement_82 (by decide) (fun c_82 => ?_) (fun c_82 => absurd c_82 (by decide))
      refine lv_iload_n hx hb d_Md_lookElement_104 rfl (lv_at hl 5 rfl) ?_
      refine lv_bipush (v := 6) hx hb d_Md_lookElement_105 (by decide) ?_
      refine lv_icmp_ne (tgt := 122) hx hb d_Md_lookElement_107 (by decide) (fun c_107 => ?_) (fun c_107 => absurd c_107 (by decide))
      refine lv_iload hx hb d_Md_lookElement_122 (lv_at hl 1 rfl) ?_
      refine lv_if_eq (tgt := 142) hx hb d_Md_lookElement_124 (by decide) (fun c_124 => ?_) (fun c_124 => absurd (by decide) c_124)
      refine lv_iload_n hx hb d_Md_lookElement_142 rfl (lv_at hl 2 rfl) ?_
      refine lv_if_eq (tgt := 155) hx hb d_Md_lookElement_143 (by decide) (fun c_143 => absurd c_143 (by decide)) (fun c_143 => ?_)
      refine lv_iload_n hx hb d_Md_lookElement_146 rfl (lv_at hl 2 rfl) ?_
      refine lv_iconst (v := 4) hx hb d_Md_lookElement_147 (by decide) ?_
      refine lv_icmp_eq (tgt := 155) hx hb d_Md_lookElement_148 (by decide) (fun c_148 => absurd c_148 (by decide)) (fun c_148 => ?_)
      refine lv_iconst (v := 1) hx hb d_Md_lookElement_151 (by decide) ?_
      refine lv_goto (tgt := 156) hx hb d_Md_lookElement_152 (by decide) ?_
      refine lv_istore (lv' := [(7, .int 1), (5, .long 0), (4, .int 0), (3, .int 1), (0, .ref m0), (1, .int (nI t)), (2, .int 3)]) hx hb d_Md_lookElement_156 hl (by decide) rfl (fun ls hl => ?_)
      refine lv_iload hx hb d_Md_lookElement_158 (lv_at hl 0 rfl) ?_
      refine lv_if_eq (tgt := 182) hx hb d_Md_lookElement_160 (by decide) (fun c_160 => absurd c_160 (by decide)) (fun c_160 => ?_)
      refine lv_iload_n hx hb d_Md_lookElement_163 rfl (lv_at hl 3 rfl) ?_
      refine lv_iconst (v := 4) hx hb d_Md_lookElement_164 (by decide) ?_
      refine lv_iand hx hb d_Md_lookElement_165 ?_
      refine W.eq (g2 := F0 m 166 ls [.int 0]) (by rw [show (1 : Int32) &&& 4 = 0 from by decide +kernel]) ?_
      refine lv_if_eq (tgt := 182) hx hb d_Md_lookElement_166 (by decide) (fun c_166 => ?_) (fun c_166 => absurd (by decide) c_166)
      refine lv_ldc2 hx hb hown (hts _ (List.mem_cons_of_mem _ iw4_168)) d_Md_lookElement_182 ?_
      refine lv_lstore (lv' := [(8, .long 112), (7, .int 1), (5, .long 0), (4, .int 0), (3, .int 1), (0, .ref m0), (1, .int (nI t)), (2, .int 3)]) hx hb d_Md_lookElement_185 hl (by decide) rfl (fun ls hl => ?_)
      refine lv_aload_n hx hb d_Md_lookElement_187 rfl (lv_at hl 5 rfl) ?_
      refine lv_dup hx hb d_Md_lookElement_188 rfl ?_
      refine va_get (D := D) (ci := 6) (v := .int (nI a1)) (C := R_Md) (T := F_Md) (N := 44) hx hb hts (fun w h => List.mem_cons_of_mem _ (i_Md w h)) hown hE.1 hP 0 rfl rfl 43 (by decide) (hts _ (List.mem_cons_of_mem _ iw3_97)) (fun _ h9 => h9) rfl d_Md_lookElement_189 ?_
      refine lv_iload hx hb d_Md_lookElement_192 (lv_at hl 1 rfl) ?_
      refine lv_if_eq (tgt := 201) hx hb d_Md_lookElement_194 (by decide) (fun c_194 => absurd c_194 (by decide)) (fun c_194 => ?_)
      refine lv_iconst (v := 1) hx hb d_Md_lookElement_197 (by decide) ?_
      refine lv_goto (tgt := 202) hx hb d_Md_lookElement_198 (by decide) ?_
      refine lv_iadd hx hb d_Md_lookElement_202 ?_
      rw [nI_1]
      refine va_put (D := D) (ci := 6) (v := .int (nI (a1 + 1))) (ty := .int) (C := R_Md) (T := F_Md) (N := 44) hx hb hts (fun w h => List.mem_cons_of_mem _ (i_Md w h)) t_Md tk_Md n_Md hown hE.1 hP hD hS 0 rfl rfl 43 (by decide) (hts _ (List.mem_cons_of_mem _ iw3_97)) (fun _ h9 => h9) rfl (by decide +kernel) rfl rfl (Nat.le_of_ble_eq_true rfl) d_Md_lookElement_203 (fun H locs hP hD hS => ?_)
      have hP : va_P D cls [(m0, .inr (6, mF g (K.1, K.2.1, K.2.2.1, K.2.2.2.1, nI X.length, K.2.2.2.2.2.1, K.2.2.2.2.2.2.1, K.2.2.2.2.2.2.2.1, nI (a1 + 1)) A0 e np B)), ((g 30), .inl (cA 3, 2000, .inl yb)), ((g 38), .inl (cA 3, 2000, .inl ow)), ((g 39), .inl (cA 3, 2000, .inl fi)), ((g 40), .inl (cA 3, 2000, .inl be))] H := hP
      have hD : va_D A [(m0, .inr (6, mF g (K.1, K.2.1, K.2.2.1, K.2.2.2.1, nI X.length, K.2.2.2.2.2.1, K.2.2.2.2.2.2.1, K.2.2.2.2.2.2.2.1, nI (a1 + 1)) A0 e np B)), ((g 30), .inl (cA 3, 2000, .inl yb)), ((g 38), .inl (cA 3, 2000, .inl ow)), ((g 39), .inl (cA 3, 2000, .inl fi)), ((g 40), .inl (cA 3, 2000, .inl be))] := hD
      refine lv_iload_n hx hb d_Md_lookElement_206 rfl (lv_at hl 7 rfl) ?_
      refine lv_iconst (v := 1) hx hb d_Md_lookElement_207 (by decide) ?_
      refine lv_icmp_ne (tgt := 214) hx hb d_Md_lookElement_208 (by decide) (fun c_208 => ?_) (fun c_208 => absurd c_208 (by decide))
      refine lv_aload_n hx hb d_Md_lookElement_214 rfl (lv_at hl 5 rfl) ?_
      refine cV (As := []) (rest := []) (n := 0) (wc := [(m0, .inr (6, mF g (K.1, K.2.1, K.2.2.1, K.2.2.2.1, nI X.length, K.2.2.2.2.2.1, K.2.2.2.2.2.2.1, K.2.2.2.2.2.2.2.1, nI (a1 + 1)) A0 e np B)), ((g 30), .inl (cA 3, 2000, .inl yb))]) (wr := [((g 38), .inl (cA 3, 2000, .inl ow)), ((g 39), .inl (cA 3, 2000, .inl fi)), ((g 40), .inl (cA 3, 2000, .inl be))]) ⟨hx, hb, hml, hown, hts⟩ hno hlocks hl.1 (c_Md_number l hl9 D cA ad H.size m0 g (K.1, K.2.1, K.2.2.1, K.2.2.2.1, nI X.length, K.2.2.2.2.2.1, K.2.2.2.2.2.2.1, K.2.2.2.2.2.2.2.1, nI (a1 + 1)) A0 e np B yb b lm hlm hyb hb9 (a1 + 1) n a4 (by omega) he4) iw4_132 iw4_134 sel_Md_number iw1_7 iw4_135 (by decide +kernel) rfl ⟨Nat.le_of_ble_eq_true rfl, Nat.le_of_ble_eq_true rfl⟩ ⟨Nat.le_of_ble_eq_true rfl, Nat.le_of_ble_eq_true rfl⟩ rfl (Nat.le_of_ble_eq_true rfl) d_Md_lookElement_215 hE hP hD hS hA [0, 1] [2, 3, 4] rfl rfl rfl rfl (by decide) (ci := 6) rfl rfl 0 rfl (fun _ h => h.elim) (fun v_215 u_215 H locs hp_215 hP hD hS => ?_)
      obtain rfl := hp_215
      have hP : va_P D cls [(m0, .inr (6, mF g (K.1, K.2.1, K.2.2.1, K.2.2.2.1, nI X.length, K.2.2.2.2.2.1, K.2.2.2.2.2.2.1, K.2.2.2.2.2.2.2.1, nI a4) A0 e np B)), ((g 30), .inl (cA 3, 2000, .inl yb)), ((g 38), .inl (cA 3, 2000, .inl ow)), ((g 39), .inl (cA 3, 2000, .inl fi)), ((g 40), .inl (cA 3, 2000, .inl be))] H := hP.sub [3, 4, 0, 1, 2] rfl
      have hD : va_D A [(m0, .inr (6, mF g (K.1, K.2.1, K.2.2.1, K.2.2.2.1, nI X.length, K.2.2.2.2.2.1, K.2.2.2.2.2.2.1, K.2.2.2.2.2.2.2.1, nI a4) A0 e np B)), ((g 30), .inl (cA 3, 2000, .inl yb)), ((g 38), .inl (cA 3, 2000, .inl ow)), ((g 39), .inl (cA 3, 2000, .inl fi)), ((g 40), .inl (cA 3, 2000, .inl be))] := hD.sub [3, 4, 0, 1, 2] (by decide) rfl
      refine W.cs (cells' := 0) (slots' := 0) rfl rfl ?_
      refine W.eq (g2 := F0 m 218 ls [.long (lN n)]) rfl ?_
      refine lv_lstore (lv' := [(10, .long (lN n)), (8, .long 112), (7, .int 1), (5, .long 0), (4, .int 0), (3, .int 1), (0, .ref m0), (1, .int (nI t)), (2, .int 3)]) hx hb d_Md_lookElement_218 hl (by decide) rfl (fun ls hl => ?_)
      refine lv_iload_n hx hb d_Md_lookElement_220 rfl (lv_at hl 8 rfl) ?_
      refine lv_iconst (v := 3) hx hb d_Md_lookElement_221 (by decide) ?_
      refine lv_icmp_ne (tgt := 228) hx hb d_Md_lookElement_222 (by decide) (fun c_222 => absurd (by decide) c_222) (fun c_222 => ?_)
      refine lv_lload hx hb d_Md_lookElement_225 (lv_at hl 0 rfl) ?_
      exact cRl (nI a4) hx hb hr hlocks d_Md_lookElement_227 hS hP hD (rfl) (Nat.le_refl _) (Nat.le_refl _)
    · have hl : lv_has ls 13 [(0, .ref m0), (1, .int (nI t)), (2, .int 4)] := hl
      refine lv_aload_n hx hb d_Md_lookElement_0 rfl (lv_at hl 0 rfl) ?_
      refine cV (As := []) (rest := []) (n := 0) (wc := [(m0, .inr (6, mF g (K.1, K.2.1, K.2.2.1, K.2.2.2.1, nI X.length, K.2.2.2.2.2.1, K.2.2.2.2.2.2.1, K.2.2.2.2.2.2.2.1, nI a) A0 e np B)), ((g 30), .inl (cA 3, 2000, .inl yb))]) (wr := [((g 38), .inl (cA 3, 2000, .inl ow)), ((g 39), .inl (cA 3, 2000, .inl fi)), ((g 40), .inl (cA 3, 2000, .inl be))]) ⟨hx, hb, hml, hown, hts⟩ hno hlocks hl.1 (c_Md_number l hl9 D cA ad s.heap.size m0 g (K.1, K.2.1, K.2.2.1, K.2.2.2.1, nI X.length, K.2.2.2.2.2.1, K.2.2.2.2.2.2.1, K.2.2.2.2.2.2.2.1, nI a) A0 e np B yb b lm hlm hyb hb9 a 1 a1 (by omega) hmu) iw4_132 iw4_134 sel_Md_number iw1_7 iw4_135 (by decide +kernel) rfl ⟨Nat.le_of_ble_eq_true rfl, Nat.le_of_ble_eq_true rfl⟩ ⟨Nat.le_of_ble_eq_true rfl, Nat.le_of_ble_eq_true rfl⟩ rfl (Nat.le_of_ble_eq_true rfl) d_Md_lookElement_1 hE hP hD hS hA [0, 1] [2, 3, 4] rfl rfl rfl rfl (by decide) (ci := 6) rfl rfl 0 rfl (fun _ h => h.elim) (fun v_1 u_1 H locs hp_1 hP hD hS => ?_)
      obtain rfl := hp_1
      have hP : va_P D cls [(m0, .inr (6, mF g (K.1, K.2.1, K.2.2.1, K.2.2.2.1, nI X.length, K.2.2.2.2.2.1, K.2.2.2.2.2.2.1, K.2.2.2.2.2.2.2.1, nI a1) A0 e np B)), ((g 30), .inl (cA 3, 2000, .inl yb)), ((g 38), .inl (cA 3, 2000, .inl ow)), ((g 39), .inl (cA 3, 2000, .inl fi)), ((g 40), .inl (cA 3, 2000, .inl be))] H := hP.sub [3, 4, 0, 1, 2] rfl
      have hD : va_D A [(m0, .inr (6, mF g (K.1, K.2.1, K.2.2.1, K.2.2.2.1, nI X.length, K.2.2.2.2.2.1, K.2.2.2.2.2.2.1, K.2.2.2.2.2.2.2.1, nI a1) A0 e np B)), ((g 30), .inl (cA 3, 2000, .inl yb)), ((g 38), .inl (cA 3, 2000, .inl ow)), ((g 39), .inl (cA 3, 2000, .inl fi)), ((g 40), .inl (cA 3, 2000, .inl be))] := hD.sub [3, 4, 0, 1, 2] (by decide) rfl
      refine W.cs (cells' := 0) (slots' := 0) rfl rfl ?_
      refine W.eq (g2 := F0 m 4 ls [.long (lN 1)]) rfl ?_
      refine lv_l2i hx hb d_Md_lookElement_4 rfl ?_
      refine W.eq (g2 := F0 m 5 ls [.int 1]) (by rw [lN_i]; rfl) ?_
      refine lv_istore_n (lv' := [(3, .int 1), (0, .ref m0), (1, .int (nI t)), (2, .int 4)]) hx hb d_Md_lookElement_5 rfl hl (by decide) rfl (fun ls hl => ?_)
      refine lv_iload_n hx hb d_Md_lookElement_6 rfl (lv_at hl 0 rfl) ?_
      refine lv_iconst (v := 1) hx hb d_Md_lookElement_7 (by decide) ?_
      refine lv_iand hx hb d_Md_lookElement_8 ?_
      refine W.eq (g2 := F0 m 9 ls [.int 1]) (by rw [show (1 : Int32) &&& 1 = 1 from by decide +kernel]) ?_
      refine lv_if_ne (tgt := 16) hx hb d_Md_lookElement_9 (by decide) (fun c_9 => ?_) (fun c_9 => absurd c_9 (by decide))
      refine lv_iconst (v := 0) hx hb d_Md_lookElement_16 (by decide) ?_
      refine lv_istore (lv' := [(4, .int 0), (3, .int 1), (0, .ref m0), (1, .int (nI t)), (2, .int 4)]) hx hb d_Md_lookElement_17 hl (by decide) rfl (fun ls hl => ?_)
      refine lv_iload hx hb d_Md_lookElement_19 (lv_at hl 0 rfl) ?_
      refine lv_if_eq (tgt := 37) hx hb d_Md_lookElement_21 (by decide) (fun c_21 => ?_) (fun c_21 => absurd (by decide) c_21)
      refine lv_lconst (v := 0) hx hb d_Md_lookElement_37 (by decide) ?_
      refine lv_lstore (lv' := [(5, .long 0), (4, .int 0), (3, .int 1), (0, .ref m0), (1, .int (nI t)), (2, .int 4)]) hx hb d_Md_lookElement_38 hl (by decide) rfl (fun ls hl => ?_)
      refine lv_iload_n hx hb d_Md_lookElement_40 rfl (lv_at hl 5 rfl) ?_
      refine lv_if_ne (tgt := 67) hx hb d_Md_lookElement_41 (by decide) (fun c_41 => ?_) (fun c_41 => absurd c_41 (by decide))
      refine lv_iload_n hx hb d_Md_lookElement_67 rfl (lv_at hl 5 rfl) ?_
      refine lv_iconst (v := 2) hx hb d_Md_lookElement_68 (by decide) ?_
      refine lv_icmp_ne (tgt := 75) hx hb d_Md_lookElement_69 (by decide) (fun c_69 => ?_) (fun c_69 => absurd c_69 (by decide))
      refine lv_iload_n hx hb d_Md_lookElement_75 rfl (lv_at hl 5 rfl) ?_
      refine lv_iconst (v := 4) hx hb d_Md_lookElement_76 (by decide) ?_
      refine lv_icmp_eq (tgt := 85) hx hb d_Md_lookElement_77 (by decide) (fun c_77 => ?_) (fun c_77 => absurd (by decide) c_77)
      refine lv_iload hx hb d_Md_lookElement_85 (lv_at hl 1 rfl) ?_
      refine lv_if_eq (tgt := 100) hx hb d_Md_lookElement_87 (by decide) (fun c_87 => ?_) (fun c_87 => absurd (by decide) c_87)
      refine lv_ldc2 hx hb hown (hts _ (List.mem_cons_of_mem _ iw3_204)) d_Md_lookElement_100 ?_
      exact cRl (nI a1) hx hb hr hlocks d_Md_lookElement_103 hS hP hD (rfl) (Nat.le_refl _) (Nat.le_refl _)
    · have hl : lv_has ls 13 [(0, .ref m0), (1, .int (nI t)), (2, .int 5)] := hl
      refine lv_aload_n hx hb d_Md_lookElement_0 rfl (lv_at hl 0 rfl) ?_
      refine cV (As := []) (rest := []) (n := 0) (wc := [(m0, .inr (6, mF g (K.1, K.2.1, K.2.2.1, K.2.2.2.1, nI X.length, K.2.2.2.2.2.1, K.2.2.2.2.2.2.1, K.2.2.2.2.2.2.2.1, nI a) A0 e np B)), ((g 30), .inl (cA 3, 2000, .inl yb))]) (wr := [((g 38), .inl (cA 3, 2000, .inl ow)), ((g 39), .inl (cA 3, 2000, .inl fi)), ((g 40), .inl (cA 3, 2000, .inl be))]) ⟨hx, hb, hml, hown, hts⟩ hno hlocks hl.1 (c_Md_number l hl9 D cA ad s.heap.size m0 g (K.1, K.2.1, K.2.2.1, K.2.2.2.1, nI X.length, K.2.2.2.2.2.1, K.2.2.2.2.2.2.1, K.2.2.2.2.2.2.2.1, nI a) A0 e np B yb b lm hlm hyb hb9 a 1 a1 (by omega) hmu) iw4_132 iw4_134 sel_Md_number iw1_7 iw4_135 (by decide +kernel) rfl ⟨Nat.le_of_ble_eq_true rfl, Nat.le_of_ble_eq_true rfl⟩ ⟨Nat.le_of_ble_eq_true rfl, Nat.le_of_ble_eq_true rfl⟩ rfl (Nat.le_of_ble_eq_true rfl) d_Md_lookElement_1 hE hP hD hS hA [0, 1] [2, 3, 4] rfl rfl rfl rfl (by decide) (ci := 6) rfl rfl 0 rfl (fun _ h => h.elim) (fun v_1 u_1 H locs hp_1 hP hD hS => ?_)
      obtain rfl := hp_1
      have hP : va_P D cls [(m0, .inr (6, mF g (K.1, K.2.1, K.2.2.1, K.2.2.2.1, nI X.length, K.2.2.2.2.2.1, K.2.2.2.2.2.2.1, K.2.2.2.2.2.2.2.1, nI a1) A0 e np B)), ((g 30), .inl (cA 3, 2000, .inl yb)), ((g 38), .inl (cA 3, 2000, .inl ow)), ((g 39), .inl (cA 3, 2000, .inl fi)), ((g 40), .inl (cA 3, 2000, .inl be))] H := hP.sub [3, 4, 0, 1, 2] rfl
      have hD : va_D A [(m0, .inr (6, mF g (K.1, K.2.1, K.2.2.1, K.2.2.2.1, nI X.length, K.2.2.2.2.2.1, K.2.2.2.2.2.2.1, K.2.2.2.2.2.2.2.1, nI a1) A0 e np B)), ((g 30), .inl (cA 3, 2000, .inl yb)), ((g 38), .inl (cA 3, 2000, .inl ow)), ((g 39), .inl (cA 3, 2000, .inl fi)), ((g 40), .inl (cA 3, 2000, .inl be))] := hD.sub [3, 4, 0, 1, 2] (by decide) rfl
      refine W.cs (cells' := 0) (slots' := 0) rfl rfl ?_
      refine W.eq (g2 := F0 m 4 ls [.long (lN 1)]) rfl ?_
      refine lv_l2i hx hb d_Md_lookElement_4 rfl ?_
      refine W.eq (g2 := F0 m 5 ls [.int 1]) (by rw [lN_i]; rfl) ?_
      refine lv_istore_n (lv' := [(3, .int 1), (0, .ref m0), (1, .int (nI t)), (2, .int 5)]) hx hb d_Md_lookElement_5 rfl hl (by decide) rfl (fun ls hl => ?_)
      refine lv_iload_n hx hb d_Md_lookElement_6 rfl (lv_at hl 0 rfl) ?_
      refine lv_iconst (v := 1) hx hb d_Md_lookElement_7 (by decide) ?_
      refine lv_iand hx hb d_Md_lookElement_8 ?_
      refine W.eq (g2 := F0 m 9 ls [.int 1]) (by rw [show (1 : Int32) &&& 1 = 1 from by decide +kernel]) ?_
      refine lv_if_ne (tgt := 16) hx hb d_Md_lookElement_9 (by decide) (fun c_9 => ?_) (fun c_9 => absurd c_9 (by decide))
      refine lv_iconst (v := 0) hx hb d_Md_lookElement_16 (by decide) ?_
      refine lv_istore (lv' := [(4, .int 0), (3, .int 1), (0, .ref m0), (1, .int (nI t)), (2, .int 5)]) hx hb d_Md_lookElement_17 hl (by decide) rfl (fun ls hl => ?_)
      refine lv_iload hx hb d_Md_lookElement_19 (lv_at hl 0 rfl) ?_
      refine lv_if_eq (tgt := 37) hx hb d_Md_lookElement_21 (by decide) (fun c_21 => ?_) (fun c_21 => absurd (by decide) c_21)
      refine lv_lconst (v := 0) hx hb d_Md_lookElement_37 (by decide) ?_
      refine lv_lstore (lv' := [(5, .long 0), (4, .int 0), (3, .int 1), (0, .ref m0), (1, .int (nI t)), (2, .int 5)]) hx hb d_Md_lookElement_38 hl (by decide) rfl (fun ls hl => ?_)
      refine lv_iload_n hx hb d_Md_lookElement_40 rfl (lv_at hl 5 rfl) ?_
      refine lv_if_ne (tgt := 67) hx hb d_Md_lookElement_41 (by decide) (fun c_41 => ?_) (fun c_41 => absurd c_41 (by decide))
      refine lv_iload_n hx hb d_Md_lookElement_67 rfl (lv_at hl 5 rfl) ?_
      refine lv_iconst (v := 2) hx hb d_Md_lookElement_68 (by decide) ?_
      refine lv_icmp_ne (tgt := 75) hx hb d_Md_lookElement_69 (by decide) (fun c_69 => ?_) (fun c_69 => absurd c_69 (by decide))
      refine lv_iload_n hx hb d_Md_lookElement_75 rfl (lv_at hl 5 rfl) ?_
      refine lv_iconst (v := 4) hx hb d_Md_lookElement_76 (by decide) ?_
      refine lv_icmp_eq (tgt := 85) hx hb d_Md_lookElement_77 (by decide) (fun c_77 => absurd c_77 (by decide)) (fun c_77 => ?_)
      refine lv_iload_n hx hb d_Md_lookElement_80 rfl (lv_at hl 5 rfl) ?_
      refine lv_iconst (v := 5) hx hb d_Md_lookElement_81 (by decide) ?_
      refine lv_icmp_ne (tgt := 104) hx hb d_Md_lookElement_82 (by decide) (fun c_82 => absurd (by decide) c_82) (fun c_82 => ?_)
      refine lv_iload hx hb d_Md_lookElement_85 (lv_at hl 1 rfl) ?_
      refine lv_if_eq (tgt := 100) hx hb d_Md_lookElement_87 (by decide) (fun c_87 => ?_) (fun c_87 => absurd (by decide) c_87)
      refine lv_ldc2 hx hb hown (hts _ (List.mem_cons_of_mem _ iw3_204)) d_Md_lookElement_100 ?_
      exact cRl (nI a1) hx hb hr hlocks d_Md_lookElement_103 hS hP hD (rfl) (Nat.le_refl _) (Nat.le_refl _)
    · have hl : lv_has ls 13 [(0, .ref m0), (1, .int (nI t)), (2, .int 6)] := hl
      refine lv_aload_n hx hb d_Md_lookElement_0 rfl (lv_at hl 0 rfl) ?_
      refine cV (As := []) (rest := []) (n := 0) (wc := [(m0, .inr (6, mF g (K.1, K.2.1, K.2.2.1, K.2.2.2.1, nI X.length, K.2.2.2.2.2.1, K.2.2.2.2.2.2.1, K.2.2.2.2.2.2.2.1, nI a) A0 e np B)), ((g 30), .inl (cA 3, 2000, .inl yb))]) (wr := [((g 38), .inl (cA 3, 2000, .inl ow)), ((g 39), .inl (cA 3, 2000, .inl fi)), ((g 40), .inl (cA 3, 2000, .inl be))]) ⟨hx, hb, hml, hown, hts⟩ hno hlocks hl.1 (c_Md_number l hl9 D cA ad s.heap.size m0 g (K.1, K.2.1, K.2.2.1, K.2.2.2.1, nI X.length, K.2.2.2.2.2.1, K.2.2.2.2.2.2.1, K.2.2.2.2.2.2.2.1, nI a) A0 e np B yb b lm hlm hyb hb9 a 1 a1 (by omega) hmu) iw4_132 iw4_134 sel_Md_number iw1_7 iw4_135 (by decide +kernel) rfl ⟨Nat.le_of_ble_eq_true rfl, Nat.le_of_ble_eq_true rfl⟩ ⟨Nat.le_of_ble_eq_true rfl, Nat.le_of_ble_eq_true rfl⟩ rfl (Nat.le_of_ble_eq_true rfl) d_Md_lookElement_1 hE hP hD hS hA [0, 1] [2, 3, 4] rfl rfl rfl rfl (by decide) (ci := 6) rfl rfl 0 rfl (fun _ h => h.elim) (fun v_1 u_1 H locs hp_1 hP hD hS => ?_)
      obtain rfl := hp_1
      have hP : va_P D cls [(m0, .inr (6, mF g (K.1, K.2.1, K.2.2.1, K.2.2.2.1, nI X.length, K.2.2.2.2.2.1, K.2.2.2.2.2.2.1, K.2.2.2.2.2.2.2.1, nI a1) A0 e np B)), ((g 30), .inl (cA 3, 2000, .inl yb)), ((g 38), .inl (cA 3, 2000, .inl ow)), ((g 39), .inl (cA 3, 2000, .inl fi)), ((g 40), .inl (cA 3, 2000, .inl be))] H := hP.sub [3, 4, 0, 1, 2] rfl
      have hD : va_D A [(m0, .inr (6, mF g (K.1, K.2.1, K.2.2.1, K.2.2.2.1, nI X.length, K.2.2.2.2.2.1, K.2.2.2.2.2.2.1, K.2.2.2.2.2.2.2.1, nI a1) A0 e np B)), ((g 30), .inl (cA 3, 2000, .inl yb)), ((g 38), .inl (cA 3, 2000, .inl ow)), ((g 39), .inl (cA 3, 2000, .inl fi)), ((g 40), .inl (cA 3, 2000, .inl be))] := hD.sub [3, 4, 0, 1, 2] (by decide) rfl
      refine W.cs (cells' := 0) (slots' := 0) rfl rfl ?_
      refine W.eq (g2 := F0 m 4 ls [.long (lN 1)]) rfl ?_
      refine lv_l2i hx hb d_Md_lookElement_4 rfl ?_
      refine W.eq (g2 := F0 m 5 ls [.int 1]) (by rw [lN_i]; rfl) ?_
      refine lv_istore_n (lv' := [(3, .int 1), (0, .ref m0), (1, .int (nI t)), (2, .int 6)]) hx hb d_Md_lookElement_5 rfl hl (by decide) rfl (fun ls hl => ?_)
      refine lv_iload_n hx hb d_Md_lookElement_6 rfl (lv_at hl 0 rfl) ?_
      refine lv_iconst (v := 1) hx hb d_Md_lookElement_7 (by decide) ?_
      refine lv_iand hx hb d_Md_lookElement_8 ?_
      refine W.eq (g2 := F0 m 9 ls [.int 1]) (by rw [show (1 : Int32) &&& 1 = 1 from by decide +kernel]) ?_
      refine lv_if_ne (tgt := 16) hx hb d_Md_lookElement_9 (by decide) (fun c_9 => ?_) (fun c_9 => absurd c_9 (by decide))
      refine lv_iconst (v := 0) hx hb d_Md_lookElement_16 (by decide) ?_
      refine lv_istore (lv' := [(4, .int 0), (3, .int 1), (0, .ref m0), (1, .int (nI t)), (2, .int 6)]) hx hb d_Md_lookElement_17 hl (by decide) rfl (fun ls hl => ?_)
      refine lv_iload hx hb d_Md_lookElement_19 (lv_at hl 0 rfl) ?_
      refine lv_if_eq (tgt := 37) hx hb d_Md_lookElement_21 (by decide) (fun c_21 => ?_) (fun c_21 => absurd (by decide) c_21)
      refine lv_lconst (v := 0) hx hb d_Md_lookElement_37 (by decide) ?_
      refine lv_lstore (lv' := [(5, .long 0), (4, .int 0), (3, .int 1), (0, .ref m0), (1, .int (nI t)), (2, .int 6)]) hx hb d_Md_lookElement_38 hl (by decide) rfl (fun ls hl => ?_)
      refine lv_iload_n hx hb d_Md_lookElement_40 rfl (lv_at hl 5 rfl) ?_
      refine lv_if_ne (tgt := 67) hx hb d_Md_lookElement_41 (by decide) (fun c_41 => ?_) (fun c_41 => absurd c_41 (by decide))
      refine lv_iload_n hx hb d_Md_lookElement_67 rfl (lv_at hl 5 rfl) ?_
      refine lv_iconst (v := 2) hx hb d_Md_lookElement_68 (by decide) ?_
      refine lv_icmp_ne (tgt := 75) hx hb d_Md_lookElement_69 (by decide) (fun c_69 => ?_) (fun c_69 => absurd c_69 (by decide))
      refine lv_iload_n hx hb d_Md_lookElement_75 rfl (lv_at hl 5 rfl) ?_
      refine lv_iconst (v := 4) hx hb d_Md_lookElement_76 (by decide) ?_
      refine lv_icmp_eq (tgt := 85) hx hb d_Md_lookElement_77 (by decide) (fun c_77 => absurd c_77 (by decide)) (fun c_77 => ?_)
      refine lv_iload_n hx hb d_Md_lookElement_80 rfl (lv_at hl 5 rfl) ?_
      refine lv_iconst (v := 5) hx hb d_Md_lookElement_81 (by decide) ?_
      refine lv_icmp_ne (tgt := 104) hx hb d_Md_lookElement_82 (by decide) (fun c_82 => ?_) (fun c_82 => absurd c_82 (by decide))
      refine lv_iload_n hx hb d_Md_lookElement_104 rfl (lv_at hl 5 rfl) ?_
      refine lv_bipush (v := 6) hx hb d_Md_lookElement_105 (by decide) ?_
      refine lv_icmp_ne (tgt := 122) hx hb d_Md_lookElement_107 (by decide) (fun c_107 => absurd (by decide) c_107) (fun c_107 => ?_)
      refine lv_iload_n hx hb d_Md_lookElement_110 rfl (lv_at hl 2 rfl) ?_
      refine lv_iconst (v := 4) hx hb d_Md_lookElement_111 (by decide) ?_
      refine lv_iand hx hb d_Md_lookElement_112 ?_
      refine W.eq (g2 := F0 m 113 ls [.int 0]) (by rw [show (1 : Int32) &&& 4 = 0 from by decide +kernel]) ?_
      refine lv_if_eq (tgt := 120) hx hb d_Md_lookElement_113 (by decide) (fun c_113 => ?_) (fun c_113 => absurd (by decide) c_113)
      refine lv_lconst (v := 0) hx hb d_Md_lookElement_120 (by decide) ?_
      exact cRl (nI a1) hx hb hr hlocks d_Md_lookElement_121 hS hP hD (rfl) (Nat.le_refl _) (Nat.le_refl _)
    · have hl : lv_has ls 13 [(0, .ref m0), (1, .int (nI t)), (2, .int 7)] := hl
      refine lv_aload_n hx hb d_Md_lookElement_0 rfl (lv_at hl 0 rfl) ?_
      refine cV (As := []) (rest := []) (n := 0) (wc := [(m0, .inr (6, mF g (K.1, K.2.1, K.2.2.1, K.2.2.2.1, nI X.length, K.2.2.2.2.2.1, K.2.2.2.2.2.2.1, K.2.2.2.2.2.2.2.1, nI a) A0 e np B)), ((g 30), .inl (cA 3, 2000, .inl yb))]) (wr := [((g 38), .inl (cA 3, 2000, .inl ow)), ((g 39), .inl (cA 3, 2000, .inl fi)), ((g 40), .inl (cA 3, 2000, .inl be))]) ⟨hx, hb, hml, hown, hts⟩ hno hlocks hl.1 (c_Md_number l hl9 D cA ad s.heap.size m0 g (K.1, K.2.1, K.2.2.1, K.2.2.2.1, nI X.length, K.2.2.2.2.2.1, K.2.2.2.2.2.2.1, K.2.2.2.2.2.2.2.1, nI a) A0 e np B yb b lm hlm hyb hb9 a 1 a1 (by omega) hmu) iw4_132 iw4_134 sel_Md_number iw1_7 iw4_135 (by decide +kernel) rfl ⟨Nat.le_of_ble_eq_true rfl, Nat.le_of_ble_eq_true rfl⟩ ⟨Nat.le_of_ble_eq_true rfl, Nat.le_of_ble_eq_true rfl⟩ rfl (Nat.le_of_ble_eq_true rfl) d_Md_lookElement_1 hE hP hD hS hA [0, 1] [2, 3, 4] rfl rfl rfl rfl (by decide) (ci := 6) rfl rfl 0 rfl (fun _ h => h.elim) (fun v_1 u_1 H locs hp_1 hP hD hS => ?_)
      obtain rfl := hp_1
      have hP : va_P D cls [(m0, .inr (6, mF g (K.1, K.2.1, K.2.2.1, K.2.2.2.1, nI X.length, K.2.2.2.2.2.1, K.2.2.2.2.2.2.1, K.2.2.2.2.2.2.2.1, nI a1) A0 e np B)), ((g 30), .inl (cA 3, 2000, .inl yb)), ((g 38), .inl (cA 3, 2000, .inl ow)), ((g 39), .inl (cA 3, 2000, .inl fi)), ((g 40), .inl (cA 3, 2000, .inl be))] H := hP.sub [3, 4, 0, 1, 2] rfl
      have hD : va_D A [(m0, .inr (6, mF g (K.1, K.2.1, K.2.2.1, K.2.2.2.1, nI X.length, K.2.2.2.2.2.1, K.2.2.2.2.2.2.1, K.2.2.2.2.2.2.2.1, nI a1) A0 e np B)), ((g 30), .inl (cA 3, 2000, .inl yb)), ((g 38), .inl (cA 3, 2000, .inl ow)), ((g 39), .inl (cA 3, 2000, .inl fi)), ((g 40), .inl (cA 3, 2000, .inl be))] := hD.sub [3, 4, 0, 1, 2] (by decide) rfl
      refine W.cs (cells' := 0) (slots' := 0) rfl rfl ?_
      refine W.eq (g2 := F0 m 4 ls [.long (lN 1)]) rfl ?_
      refine lv_l2i hx hb d_Md_lookElement_4 rfl ?_
      refine W.eq (g2 := F0 m 5 ls [.int 1]) (by rw [lN_i]; rfl) ?_
      refine lv_istore_n (lv' := [(3, .int 1), (0, .ref m0), (1, .int (nI t)), (2, .int 7)]) hx hb d_Md_lookElement_5 rfl hl (by decide) rfl (fun ls hl => ?_)
      refine lv_iload_n hx hb d_Md_lookElement_6 rfl (lv_at hl 0 rfl) ?_
      refine lv_iconst (v := 1) hx hb d_Md_lookElement_7 (by decide) ?_
      refine lv_iand hx hb d_Md_lookElement_8 ?_
      refine W.eq (g2 := F0 m 9 ls [.int 1]) (by rw [show (1 : Int32) &&& 1 = 1 from by decide +kernel]) ?_
      refine lv_if_ne (tgt := 16) hx hb d_Md_lookElement_9 (by decide) (fun c_9 => ?_) (fun c_9 => absurd c_9 (by decide))
      refine lv_iconst (v := 0) hx hb d_Md_lookElement_16 (by decide) ?_
      refine lv_istore (lv' := [(4, .int 0), (3, .int 1), (0, .ref m0), (1, .int (nI t)), (2, .int 7)]) hx hb d_Md_lookElement_17 hl (by decide) rfl (fun ls hl => ?_)
      refine lv_iload hx hb d_Md_lookElement_19 (lv_at hl 0 rfl) ?_
      refine lv_if_eq (tgt := 37) hx hb d_Md_lookElement_21 (by decide) (fun c_21 => ?_) (fun c_21 => absurd (by decide) c_21)
      refine lv_lconst (v := 0) hx hb d_Md_lookElement_37 (by decide) ?_
      refine lv_lstore (lv' := [(5, .long 0), (4, .int 0), (3, .int 1), (0, .ref m0), (1, .int (nI t)), (2, .int 7)]) hx hb d_Md_lookElement_38 hl (by decide) rfl (fun ls hl => ?_)
      refine lv_iload_n hx hb d_Md_lookElement_40 rfl (lv_at hl 5 rfl) ?_
      refine lv_if_ne (tgt := 67) hx hb d_Md_lookElement_41 (by decide) (fun c_41 => ?_) (fun c_41 => absurd c_41 (by decide))
      refine lv_iload_n hx hb d_Md_lookElement_67 rfl (lv_at hl 5 rfl) ?_
      refine lv_iconst (v := 2) hx hb d_Md_lookElement_68 (by decide) ?_
      refine lv_icmp_ne (tgt := 75) hx hb d_Md_lookElement_69 (by decide) (fun c_69 => ?_) (fun c_69 => absurd c_69 (by decide))
      refine lv_iload_n hx hb d_Md_lookElement_75 rfl (lv_at hl 5 rfl) ?_
      refine lv_iconst (v := 4) hx hb d_Md_lookElement_76 (by decide) ?_
      refine lv_icmp_eq (tgt := 85) hx hb d_Md_lookElement_77 (by decide) (fun c_77 => absurd c_77 (by decide)) (fun c_77 => ?_)
      refine lv_iload_n hx hb d_Md_lookElement_80 rfl (lv_at hl 5 rfl) ?_
      refine lv_iconst (v := 5) hx hb d_Md_lookElement_81 (by decide) ?_
      refine lv_icmp_ne (tgt := 104) hx hb d_Md_lookElement_82 (by decide) (fun c_82 => ?_) (fun c_82 => absurd c_82 (by decide))
      refine lv_iload_n hx hb d_Md_lookElement_104 rfl (lv_at hl 5 rfl) ?_
      refine lv_bipush (v := 6) hx hb d_Md_lookElement_105 (by decide) ?_
      refine lv_icmp_ne (tgt := 122) hx hb d_Md_lookElement_107 (by decide) (fun c_107 => ?_) (fun c_107 => absurd c_107 (by decide))
      refine lv_iload hx hb d_Md_lookElement_122 (lv_at hl 1 rfl) ?_
      refine lv_if_eq (tgt := 142) hx hb d_Md_lookElement_124 (by decide) (fun c_124 => ?_) (fun c_124 => absurd (by decide) c_124)
      refine lv_iload_n hx hb d_Md_lookElement_142 rfl (lv_at hl 2 rfl) ?_
      refine lv_if_eq (tgt := 155) hx hb d_Md_lookElement_143 (by decide) (fun c_143 => absurd c_143 (by decide)) (fun c_143 => ?_)
      refine lv_iload_n hx hb d_Md_lookElement_146 rfl (lv_at hl 2 rfl) ?_
      refine lv_iconst (v := 4) hx hb d_Md_lookElement_147 (by decide) ?_
      refine lv_icmp_eq (tgt := 155) hx hb d_Md_lookElement_148 (by decide) (fun c_148 => absurd c_148 (by decide)) (fun c_148 => ?_)
      refine lv_iconst (v := 1) hx hb d_Md_lookElement_151 (by decide) ?_
      refine lv_goto (tgt := 156) hx hb d_Md_lookElement_152 (by decide) ?_
      refine lv_istore (lv' := [(7, .int 1), (5, .long 0), (4, .int 0), (3, .int 1), (0, .ref m0), (1, .int (nI t)), (2, .int 7)]) hx hb d_Md_lookElement_156 hl (by decide) rfl (fun ls hl => ?_)
      refine lv_iload hx hb d_Md_lookElement_158 (lv_at hl 0 rfl) ?_
      refine lv_if_eq (tgt := 182) hx hb d_Md_lookElement_160 (by decide) (fun c_160 => absurd c_160 (by decide)) (fun c_160 => ?_)
      refine lv_iload_n hx hb d_Md_lookElement_163 rfl (lv_at hl 3 rfl) ?_
      refine lv_iconst (v := 4) hx hb d_Md_lookElement_164 (by decide) ?_
      refine lv_iand hx hb d_Md_lookElement_165 ?_
      refine W.eq (g2 := F0 m 166 ls [.int 0]) (by rw [show (1 : Int32) &&& 4 = 0 from by decide +kernel]) ?_
      refine lv_if_eq (tgt := 182) hx hb d_Md_lookElement_166 (by decide) (fun c_166 => ?_) (fun c_166 => absurd (by decide) c_166)
      refine lv_ldc2 hx hb hown (hts _ (List.mem_cons_of_mem _ iw4_168)) d_Md_lookElement_182 ?_
      refine lv_lstore (lv' := [(8, .long 112), (7, .int 1), (5, .long 0), (4, .int 0), (3, .int 1), (0, .ref m0), (1, .int (nI t)), (2, .int 7)]) hx hb d_Md_lookElement_185 hl (by decide) rfl (fun ls hl => ?_)
      refine lv_aload_n hx hb d_Md_lookElement_187 rfl (lv_at hl 5 rfl) ?_
      refine lv_dup hx hb d_Md_lookElement_188 rfl ?_
      refine va_get (D := D) (ci := 6) (v := .int (nI a1)) (C := R_Md) (T := F_Md) (N := 44) hx hb hts (fun w h => List.mem_cons_of_mem _ (i_Md w h)) hown hE.1 hP 0 rfl rfl 43 (by decide) (hts _ (List.mem_cons_of_mem _ iw3_97)) (fun _ h9 => h9) rfl d_Md_lookElement_189 ?_
      refine lv_iload hx hb d_Md_lookElement_192 (lv_at hl 1 rfl) ?_
      refine lv_if_eq (tgt := 201) hx hb d_Md_lookElement_194 (by decide) (fun c_194 => absurd c_194 (by decide)) (fun c_194 => ?_)
      refine lv_iconst (v := 1) hx hb d_Md_lookElement_197 (by decide) ?_
      refine lv_goto (tgt := 202) hx hb d_Md_lookElement_198 (by decide) ?_
      refine lv_iadd hx hb d_Md_lookElement_202 ?_
      rw [nI_1]
      refine va_put (D := D) (ci := 6) (v := .int (nI (a1 + 1))) (ty := .int) (C := R_Md) (T := F_Md) (N := 44) hx hb hts (fun w h => List.mem_cons_of_mem _ (i_Md w h)) t_Md tk_Md n_Md hown hE.1 hP hD hS 0 rfl rfl 43 (by decide) (hts _ (List.mem_cons_of_mem _ iw3_97)) (fun _ h9 => h9) rfl (by decide +kernel) rfl rfl (Nat.le_of_ble_eq_true rfl) d_Md_lookElement_203 (fun H locs hP hD hS => ?_)
      have hP : va_P D cls [(m0, .inr (6, mF g (K.1, K.2.1, K.2.2.1, K.2.2.2.1, nI X.length, K.2.2.2.2.2.1, K.2.2.2.2.2.2.1, K.2.2.2.2.2.2.2.1, nI (a1 + 1)) A0 e np B)), ((g 30), .inl (cA 3, 2000, .inl yb)), ((g 38), .inl (cA 3, 2000, .inl ow)), ((g 39), .inl (cA 3, 2000, .inl fi)), ((g 40), .inl (cA 3, 2000, .inl be))] H := hP
      have hD : va_D A [(m0, .inr (6, mF g (K.1, K.2.1, K.2.2.1, K.2.2.2.1, nI X.length, K.2.2.2.2.2.1, K.2.2.2.2.2.2.1, K.2.2.2.2.2.2.2.1, nI (a1 + 1)) A0 e np B)), ((g 30), .inl (cA 3, 2000, .inl yb)), ((g 38), .inl (cA 3, 2000, .inl ow)), ((g 39), .inl (cA 3, 2000, .inl fi)), ((g 40), .inl (cA 3, 2000, .inl be))] := hD
      refine lv_iload_n hx hb d_Md_lookElement_206 rfl (lv_at hl 7 rfl) ?_
      refine lv_iconst (v := 1) hx hb d_Md_lookElement_207 (by decide) ?_
      refine lv_icmp_ne (tgt := 214) hx hb d_Md_lookElement_208 (by decide) (fun c_208 => ?_) (fun c_208 => absurd c_208 (by decide))
      refine lv_aload_n hx hb d_Md_lookElement_214 rfl (lv_at hl 5 rfl) ?_
      refine cV (As := []) (rest := []) (n := 0) (wc := [(m0, .inr (6, mF g (K.1, K.2.1, K.2.2.1, K.2.2.2.1, nI X.length, K.2.2.2.2.2.1, K.2.2.2.2.2.2.1, K.2.2.2.2.2.2.2.1, nI (a1 + 1)) A0 e np B)), ((g 30), .inl (cA 3, 2000, .inl yb))]) (wr := [((g 38), .inl (cA 3, 2000, .inl ow)), ((g 39), .inl (cA 3, 2000, .inl fi)), ((g 40), .inl (cA 3, 2000, .inl be))]) ⟨hx, hb, hml, hown, hts⟩ hno hlocks hl.1 (c_Md_number l hl9 D cA ad H.size m0 g (K.1, K.2.1, K.2.2.1, K.2.2.2.1, nI X.length, K.2.2.2.2.2.1, K.2.2.2.2.2.2.1, K.2.2.2.2.2.2.2.1, nI (a1 + 1)) A0 e np B yb b lm hlm hyb hb9 (a1 + 1) n a4 (by omega) he4) iw4_132 iw4_134 sel_Md_number iw1_7 iw4_135 (by decide +kernel) rfl ⟨Nat.le_of_ble_eq_true rfl, Nat.le_of_ble_eq_true rfl⟩ ⟨Nat.le_of_ble_eq_true rfl, Nat.le_of_ble_eq_true rfl⟩ rfl (Nat.le_of_ble_eq_true rfl) d_Md_lookElement_215 hE hP hD hS hA [0, 1] [2, 3, 4] rfl rfl rfl rfl (by decide) (ci := 6) rfl rfl 0 rfl (fun _ h => h.elim) (fun v_215 u_215 H locs hp_215 hP hD hS => ?_)
      obtain rfl := hp_215
      have hP : va_P D cls [(m0, .inr (6, mF g (K.1, K.2.1, K.2.2.1, K.2.2.2.1, nI X.length, K.2.2.2.2.2.1, K.2.2.2.2.2.2.1, K.2.2.2.2.2.2.2.1, nI a4) A0 e np B)), ((g 30), .inl (cA 3, 2000, .inl yb)), ((g 38), .inl (cA 3, 2000, .inl ow)), ((g 39), .inl (cA 3, 2000, .inl fi)), ((g 40), .inl (cA 3, 2000, .inl be))] H := hP.sub [3, 4, 0, 1, 2] rfl
      have hD : va_D A [(m0, .inr (6, mF g (K.1, K.2.1, K.2.2.1, K.2.2.2.1, nI X.length, K.2.2.2.2.2.1, K.2.2.2.2.2.2.1, K.2.2.2.2.2.2.2.1, nI a4) A0 e np B)), ((g 30), .inl (cA 3, 2000, .inl yb)), ((g 38), .inl (cA 3, 2000, .inl ow)), ((g 39), .inl (cA 3, 2000, .inl fi)), ((g 40), .inl (cA 3, 2000, .inl be))] := hD.sub [3, 4, 0, 1, 2] (by decide) rfl
      refine W.cs (cells' := 0) (slots' := 0) rfl rfl ?_
      refine W.eq (g2 := F0 m 218 ls [.long (lN n)]) rfl ?_
      refine lv_lstore (lv' := [(10, .long (lN n)), (8, .long 112), (7, .int 1), (5, .long 0), (4, .int 0), (3, .int 1), (0, .ref m0), (1, .int (nI t)), (2, .int 7)]) hx hb d_Md_lookElement_218 hl (by decide) rfl (fun ls hl => ?_)
      refine lv_iload_n hx hb d_Md_lookElement_220 rfl (lv_at hl 8 rfl) ?_
      refine lv_iconst (v := 3) hx hb d_Md_lookElement_221 (by decide) ?_
      refine lv_icmp_ne (tgt := 228) hx hb d_Md_lookElement_222 (by decide) (fun c_222 => ?_) (fun c_222 => absurd c_222 (by decide))
      refine lv_iload_n hx hb d_Md_lookElement_228 rfl (lv_at hl 8 rfl) ?_
      refine lv_bipush (v := 8) hx hb d_Md_lookElement_229 (by decide) ?_
      refine lv_icmp_lt (tgt := 245) hx hb d_Md_lookElement_231 (by decide) (fun c_231 => ?_) (fun c_231 => absurd (by decide) c_231)
      refine lv_ldc2 hx hb hown (hts _ (List.mem_cons_of_mem _ iw3_204)) d_Md_lookElement_245 ?_
      exact cRl (nI a4) hx hb hr hlocks d_Md_lookElement_248 hS hP hD (rfl) (Nat.le_refl _) (Nat.le_refl _)
    · have hl := hl
      refine lv_aload_n hx hb d_Md_lookElement_0 rfl (lv_at hl 0 rfl) ?_
      refine cV (As := []) (rest := []) (n := 0) (wc := [(m0, .inr (6, mF g (K.1, K.2.1, K.2.2.1, K.2.2.2.1, nI X.length, K.2.2.2.2.2.1, K.2.2.2.2.2.2.1, K.2.2.2.2.2.2.2.1, nI a) A0 e np B)), ((g 30), .inl (cA 3, 2000, .inl yb))]) (wr := [((g 38), .inl (cA 3, 2000, .inl ow)), ((g 39), .inl (cA 3, 2000, .inl fi)), ((g 40), .inl (cA 3, 2000, .inl be))]) ⟨hx, hb, hml, hown, hts⟩ hno hlocks hl.1 (c_Md_number l hl9 D cA ad s.heap.size m0 g (K.1, K.2.1, K.2.2.1, K.2.2.2.1, nI X.length, K.2.2.2.2.2.1, K.2.2.2.2.2.2.1, K.2.2.2.2.2.2.2.1, nI a) A0 e np B yb b lm hlm hyb hb9 a 1 a1 (by omega) hmu) iw4_132 iw4_134 sel_Md_number iw1_7 iw4_135 (by decide +kernel) rfl ⟨Nat.le_of_ble_eq_true rfl, Nat.le_of_ble_eq_true rfl⟩ ⟨Nat.le_of_ble_eq_true rfl, Nat.le_of_ble_eq_true rfl⟩ rfl (Nat.le_of_ble_eq_true rfl) d_Md_lookElement_1 hE hP hD hS hA [0, 1] [2, 3, 4] rfl rfl rfl rfl (by decide) (ci := 6) rfl rfl 0 rfl (fun _ h => h.elim) (fun v_1 u_1 H locs hp_1 hP hD hS => ?_)
      obtain rfl := hp_1
      have hP : va_P D cls [(m0, .inr (6, mF g (K.1, K.2.1, K.2.2.1, K.2.2.2.1, nI X.length, K.2.2.2.2.2.1, K.2.2.2.2.2.2.1, K.2.2.2.2.2.2.2.1, nI a1) A0 e np B)), ((g 30), .inl (cA 3, 2000, .inl yb)), ((g 38), .inl (cA 3, 2000, .inl ow)), ((g 39), .inl (cA 3, 2000, .inl fi)), ((g 40), .inl (cA 3, 2000, .inl be))] H := hP.sub [3, 4, 0, 1, 2] rfl
      have hD : va_D A [(m0, .inr (6, mF g (K.1, K.2.1, K.2.2.1, K.2.2.2.1, nI X.length, K.2.2.2.2.2.1, K.2.2.2.2.2.2.1, K.2.2.2.2.2.2.2.1, nI a1) A0 e np B)), ((g 30), .inl (cA 3, 2000, .inl yb)), ((g 38), .inl (cA 3, 2000, .inl ow)), ((g 39), .inl (cA 3, 2000, .inl fi)), ((g 40), .inl (cA 3, 2000, .inl be))] := hD.sub [3, 4, 0, 1, 2] (by decide) rfl
      refine W.cs (cells' := 0) (slots' := 0) rfl rfl ?_
      refine W.eq (g2 := F0 m 4 ls [.long (lN 1)]) rfl ?_
      refine lv_l2i hx hb d_Md_lookElement_4 rfl ?_
      refine W.eq (g2 := F0 m 5 ls [.int 1]) (by rw [lN_i]; rfl) ?_
      refine lv_istore_n (lv' := [(3, .int 1), (0, .ref m0), (1, .int (nI t)), (2, .int (nI wh))]) hx hb d_Md_lookElement_5 rfl hl (by decide) rfl (fun ls hl => ?_)
      refine lv_iload_n hx hb d_Md_lookElement_6 rfl (lv_at hl 0 rfl) ?_
      refine lv_iconst (v := 1) hx hb d_Md_lookElement_7 (by decide) ?_
      refine lv_iand hx hb d_Md_lookElement_8 ?_
      refine W.eq (g2 := F0 m 9 ls [.int 1]) (by rw [show (1 : Int32) &&& 1 = 1 from by decide +kernel]) ?_
      refine lv_if_ne (tgt := 16) hx hb d_Md_lookElement_9 (by decide) (fun c_9 => ?_) (fun c_9 => absurd c_9 (by decide))
      refine lv_iconst (v := 0) hx hb d_Md_lookElement_16 (by decide) ?_
      refine lv_istore (lv' := [(4, .int 0), (3, .int 1), (0, .ref m0), (1, .int (nI t)), (2, .int (nI wh))]) hx hb d_Md_lookElement_17 hl (by decide) rfl (fun ls hl => ?_)
      refine lv_iload hx hb d_Md_lookElement_19 (lv_at hl 0 rfl) ?_
      refine lv_if_eq (tgt := 37) hx hb d_Md_lookElement_21 (by decide) (fun c_21 => ?_) (fun c_21 => absurd (by decide) c_21)
      refine lv_lconst (v := 0) hx hb d_Md_lookElement_37 (by decide) ?_
      refine lv_lstore (lv' := [(5, .long 0), (4, .int 0), (3, .int 1), (0, .ref m0), (1, .int (nI t)), (2, .int (nI wh))]) hx hb d_Md_lookElement_38 hl (by decide) rfl (fun ls hl => ?_)
      refine lv_iload_n hx hb d_Md_lookElement_40 rfl (lv_at hl 5 rfl) ?_
      refine lv_if_ne (tgt := 67) hx hb d_Md_lookElement_41 (by decide) (fun c_41 => ?_) (fun c_41 => absurd c_41 (fun q => absurd ((nI_eq (a := wh) (b := 0) (by omega) (by decide)).mp q) (by omega)))
      refine lv_iload_n hx hb d_Md_lookElement_67 rfl (lv_at hl 5 rfl) ?_
      refine lv_iconst (v := 2) hx hb d_Md_lookElement_68 (by decide) ?_
      refine lv_icmp_ne (tgt := 75) hx hb d_Md_lookElement_69 (by decide) (fun c_69 => ?_) (fun c_69 => absurd c_69 (fun q => absurd ((nI_eq (a := wh) (b := 2) (by omega) (by decide)).mp q) (by omega)))
      refine lv_iload_n hx hb d_Md_lookElement_75 rfl (lv_at hl 5 rfl) ?_
      refine lv_iconst (v := 4) hx hb d_Md_lookElement_76 (by decide) ?_
      refine lv_icmp_eq (tgt := 85) hx hb d_Md_lookElement_77 (by decide) (fun c_77 => absurd c_77 (fun q => absurd ((nI_eq (a := wh) (b := 4) (by omega) (by decide)).mp q) (by omega))) (fun c_77 => ?_)
      refine lv_iload_n hx hb d_Md_lookElement_80 rfl (lv_at hl 5 rfl) ?_
      refine lv_iconst (v := 5) hx hb d_Md_lookElement_81 (by decide) ?_
      refine lv_icmp_ne (tgt := 104) hx hb d_Md_lookElement_82 (by decide) (fun c_82 => ?_) (fun c_82 => absurd c_82 (fun q => absurd ((nI_eq (a := wh) (b := 5) (by omega) (by decide)).mp q) (by omega)))
      refine lv_iload_n hx hb d_Md_lookElement_104 rfl (lv_at hl 5 rfl) ?_
      refine lv_bipush (v := 6) hx hb d_Md_lookElement_105 (by decide) ?_
      refine lv_icmp_ne (tgt := 122) hx hb d_Md_lookElement_107 (by decide) (fun c_107 => ?_) (fun c_107 => absurd c_107 (fun q => absurd ((nI_eq (a := wh) (b := 6) (by omega) (by decide)).mp q) (by omega)))
      refine lv_iload hx hb d_Md_lookElement_122 (lv_at hl 1 rfl) ?_
      refine lv_if_eq (tgt := 142) hx hb d_Md_lookElement_124 (by decide) (fun c_124 => ?_) (fun c_124 => absurd (by decide) c_124)
      refine lv_iload_n hx hb d_Md_lookElement_142 rfl (lv_at hl 2 rfl) ?_
      refine lv_if_eq (tgt := 155) hx hb d_Md_lookElement_143 (by decide) (fun c_143 => absurd c_143 (by decide)) (fun c_143 => ?_)
      refine lv_iload_n hx hb d_Md_lookElement_146 rfl (lv_at hl 2 rfl) ?_
      refine lv_iconst (v := 4) hx hb d_Md_lookElement_147 (by decide) ?_
      refine lv_icmp_eq (tgt := 155) hx hb d_Md_lookElement_148 (by decide) (fun c_148 => absurd c_148 (by decide)) (fun c_148 => ?_)
      refine lv_iconst (v := 1) hx hb d_Md_lookElement_151 (by decide) ?_
      refine lv_goto (tgt := 156) hx hb d_Md_lookElement_152 (by decide) ?_
      refine lv_istore (lv' := [(7, .int 1), (5, .long 0), (4, .int 0), (3, .int 1), (0, .ref m0), (1, .int (nI t)), (2, .int (nI wh))]) hx hb d_Md_lookElement_156 hl (by decide) rfl (fun ls hl => ?_)
      refine lv_iload hx hb d_Md_lookElement_158 (lv_at hl 0 rfl) ?_
      refine lv_if_eq (tgt := 182) hx hb d_Md_lookElement_160 (by decide) (fun c_160 => absurd c_160 (by decide)) (fun c_160 => ?_)
      refine lv_iload_n hx hb d_Md_lookElement_163 rfl (lv_at hl 3 rfl) ?_
      refine lv_iconst (v := 4) hx hb d_Md_lookElement_164 (by decide) ?_
      refine lv_iand hx hb d_Md_lookElement_165 ?_
      refine W.eq (g2 := F0 m 166 ls [.int 0]) (by rw [show (1 : Int32) &&& 4 = 0 from by decide +kernel]) ?_
      refine lv_if_eq (tgt := 182) hx hb d_Md_lookElement_166 (by decide) (fun c_166 => ?_) (fun c_166 => absurd (by decide) c_166)
      refine lv_ldc2 hx hb hown (hts _ (List.mem_cons_of_mem _ iw4_168)) d_Md_lookElement_182 ?_
      refine lv_lstore (lv' := [(8, .long 112), (7, .int 1), (5, .long 0), (4, .int 0), (3, .int 1), (0, .ref m0), (1, .int (nI t)), (2, .int (nI wh))]) hx hb d_Md_lookElement_185 hl (by decide) rfl (fun ls hl => ?_)
      refine lv_aload_n hx hb d_Md_lookElement_187 rfl (lv_at hl 5 rfl) ?_
      refine lv_dup hx hb d_Md_lookElement_188 rfl ?_
      refine va_get (D := D) (ci := 6) (v := .int (nI a1)) (C := R_Md) (T := F_Md) (N := 44) hx hb hts (fun w h => List.mem_cons_of_mem _ (i_Md w h)) hown hE.1 hP 0 rfl rfl 43 (by decide) (hts _ (List.mem_cons_of_mem _ iw3_97)) (fun _ h9 => h9) rfl d_Md_lookElement_189 ?_
      refine lv_iload hx hb d_Md_lookElement_192 (lv_at hl 1 rfl) ?_
      refine lv_if_eq (tgt := 201) hx hb d_Md_lookElement_194 (by decide) (fun c_194 => absurd c_194 (by decide)) (fun c_194 => ?_)
      refine lv_iconst (v := 1) hx hb d_Md_lookElement_197 (by decide) ?_
      refine lv_goto (tgt := 202) hx hb d_Md_lookElement_198 (by decide) ?_
      refine lv_iadd hx hb d_Md_lookElement_202 ?_
      rw [nI_1]
      refine va_put (D := D) (ci := 6) (v := .int (nI (a1 + 1))) (ty := .int) (C := R_Md) (T := F_Md) (N := 44) hx hb hts (fun w h => List.mem_cons_of_mem _ (i_Md w h)) t_Md tk_Md n_Md hown hE.1 hP hD hS 0 rfl rfl 43 (by decide) (hts _ (List.mem_cons_of_mem _ iw3_97)) (fun _ h9 => h9) rfl (by decide +kernel) rfl rfl (Nat.le_of_ble_eq_true rfl) d_Md_lookElement_203 (fun H locs hP hD hS => ?_)
      have hP : va_P D cls [(m0, .inr (6, mF g (K.1, K.2.1, K.2.2.1, K.2.2.2.1, nI X.length, K.2.2.2.2.2.1, K.2.2.2.2.2.2.1, K.2.2.2.2.2.2.2.1, nI (a1 + 1)) A0 e np B)), ((g 30), .inl (cA 3, 2000, .inl yb)), ((g 38), .inl (cA 3, 2000, .inl ow)), ((g 39), .inl (cA 3, 2000, .inl fi)), ((g 40), .inl (cA 3, 2000, .inl be))] H := hP
      have hD : va_D A [(m0, .inr (6, mF g (K.1, K.2.1, K.2.2.1, K.2.2.2.1, nI X.length, K.2.2.2.2.2.1, K.2.2.2.2.2.2.1, K.2.2.2.2.2.2.2.1, nI (a1 + 1)) A0 e np B)), ((g 30), .inl (cA 3, 2000, .inl yb)), ((g 38), .inl (cA 3, 2000, .inl ow)), ((g 39), .inl (cA 3, 2000, .inl fi)), ((g 40), .inl (cA 3, 2000, .inl be))] := hD
      refine lv_iload_n hx hb d_Md_lookElement_206 rfl (lv_at hl 7 rfl) ?_
      refine lv_iconst (v := 1) hx hb d_Md_lookElement_207 (by decide) ?_
      refine lv_icmp_ne (tgt := 214) hx hb d_Md_lookElement_208 (by decide) (fun c_208 => ?_) (fun c_208 => absurd c_208 (fun q => absurd ((nI_eq (a := wh) (b := 1) (by omega) (by decide)).mp q) (by omega)))
      refine lv_aload_n hx hb d_Md_lookElement_214 rfl (lv_at hl 5 rfl) ?_
      refine cV (As := []) (rest := []) (n := 0) (wc := [(m0, .inr (6, mF g (K.1, K.2.1, K.2.2.1, K.2.2.2.1, nI X.length, K.2.2.2.2.2.1, K.2.2.2.2.2.2.1, K.2.2.2.2.2.2.2.1, nI (a1 + 1)) A0 e np B)), ((g 30), .inl (cA 3, 2000, .inl yb))]) (wr := [((g 38), .inl (cA 3, 2000, .inl ow)), ((g 39), .inl (cA 3, 2000, .inl fi)), ((g 40), .inl (cA 3, 2000, .inl be))]) ⟨hx, hb, hml, hown, hts⟩ hno hlocks hl.1 (c_Md_number l hl9 D cA ad H.size m0 g (K.1, K.2.1, K.2.2.1, K.2.2.2.1, nI X.length, K.2.2.2.2.2.1, K.2.2.2.2.2.2.1, K.2.2.2.2.2.2.2.1, nI (a1 + 1)) A0 e np B yb b lm hlm hyb hb9 (a1 + 1) n a4 (by omega) he4) iw4_132 iw4_134 sel_Md_number iw1_7 iw4_135 (by decide +kernel) rfl ⟨Nat.le_of_ble_eq_true rfl, Nat.le_of_ble_eq_true rfl⟩ ⟨Nat.le_of_ble_eq_true rfl, Nat.le_of_ble_eq_true rfl⟩ rfl (Nat.le_of_ble_eq_true rfl) d_Md_lookElement_215 hE hP hD hS hA [0, 1] [2, 3, 4] rfl rfl rfl rfl (by decide) (ci := 6) rfl rfl 0 rfl (fun _ h => h.elim) (fun v_215 u_215 H locs hp_215 hP hD hS => ?_)
      obtain rfl := hp_215
      have hP : va_P D cls [(m0, .inr (6, mF g (K.1, K.2.1, K.2.2.1, K.2.2.2.1, nI X.length, K.2.2.2.2.2.1, K.2.2.2.2.2.2.1, K.2.2.2.2.2.2.2.1, nI a4) A0 e np B)), ((g 30), .inl (cA 3, 2000, .inl yb)), ((g 38), .inl (cA 3, 2000, .inl ow)), ((g 39), .inl (cA 3, 2000, .inl fi)), ((g 40), .inl (cA 3, 2000, .inl be))] H := hP.sub [3, 4, 0, 1, 2] rfl
      have hD : va_D A [(m0, .inr (6, mF g (K.1, K.2.1, K.2.2.1, K.2.2.2.1, nI X.length, K.2.2.2.2.2.1, K.2.2.2.2.2.2.1, K.2.2.2.2.2.2.2.1, nI a4) A0 e np B)), ((g 30), .inl (cA 3, 2000, .inl yb)), ((g 38), .inl (cA 3, 2000, .inl ow)), ((g 39), .inl (cA 3, 2000, .inl fi)), ((g 40), .inl (cA 3, 2000, .inl be))] := hD.sub [3, 4, 0, 1, 2] (by decide) rfl
      refine W.cs (cells' := 0) (slots' := 0) rfl rfl ?_
      refine W.eq (g2 := F0 m 218 ls [.long (lN n)]) rfl ?_
      refine lv_lstore (lv' := [(10, .long (lN n)), (8, .long 112), (7, .int 1), (5, .long 0), (4, .int 0), (3, .int 1), (0, .ref m0), (1, .int (nI t)), (2, .int (nI wh))]) hx hb d_Md_lookElement_218 hl (by decide) rfl (fun ls hl => ?_)
      refine lv_iload_n hx hb d_Md_lookElement_220 rfl (lv_at hl 8 rfl) ?_
      refine lv_iconst (v := 3) hx hb d_Md_lookElement_221 (by decide) ?_
      refine lv_icmp_ne (tgt := 228) hx hb d_Md_lookElement_222 (by decide) (fun c_222 => ?_) (fun c_222 => absurd c_222 (fun q => absurd ((nI_eq (a := wh) (b := 3) (by omega) (by decide)).mp q) (by omega)))
      refine lv_iload_n hx hb d_Md_lookElement_228 rfl (lv_at hl 8 rfl) ?_
      refine lv_bipush (v := 8) hx hb d_Md_lookElement_229 (by decide) ?_
      refine lv_icmp_lt (tgt := 245) hx hb d_Md_lookElement_231 (by decide) (fun c_231 => absurd c_231 (nI_nlt (a := wh) (b := 8) (by omega) (by omega))) (fun c_231 => ?_)
      refine lv_iload_n hx hb d_Md_lookElement_234 rfl (lv_at hl 8 rfl) ?_
      refine lv_bipush (v := 8) hx hb d_Md_lookElement_235 (by decide) ?_
      refine lv_isub hx hb d_Md_lookElement_237 ?_
      refine lv_i2l hx hb d_Md_lookElement_238 rfl ?_
      refine lv_lload hx hb d_Md_lookElement_239 (lv_at hl 0 rfl) ?_
      rw [show (8 : Int32) = nI 8 from rfl, pk_sub hw8, nI_l (n := wh - 8) (by omega)]
      refine W.lcmp hx hb d_Md_lookElement_241 ?_
      refine lv_if_lt (tgt := 249) hx hb d_Md_lookElement_242 (by decide) (fun c_242 => ?_) (fun c_242 => ?_)
      · have hin : wh - 8 < n := (pk_lLT (by omega) (by omega)).mp ((lg_cmp_lt _ _).mp c_242)
        refine lv_iload_n hx hb d_Md_lookElement_249 rfl (lv_at hl 5 rfl) ?_
        refine lv_iconst (v := 4) hx hb d_Md_lookElement_250 (by decide) ?_
        refine lv_iand hx hb d_Md_lookElement_251 ?_
        refine W.eq (g2 := F0 m 252 ls [.int 0]) (by rw [show (1 : Int32) &&& 4 = 0 from by decide +kernel]) ?_
        refine lv_if_eq (tgt := 282) hx hb d_Md_lookElement_252 (by decide) (fun c_252 => ?_) (fun c_252 => absurd (by decide) c_252)
        refine lv_bipush (v := 8) hx hb d_Md_lookElement_282 (by decide) ?_
        refine lv_istore (lv' := [(12, .int 8), (10, .long (lN n)), (8, .long 112), (7, .int 1), (5, .long 0), (4, .int 0), (3, .int 1), (0, .ref m0), (1, .int (nI t)), (2, .int (nI wh))]) hx hb d_Md_lookElement_284 hl (by decide) rfl (fun ls hl => ?_)
        have key : ∀ (d k ak : Nat) (acc : List Int64) (H : Heap) (locs : List Loc) (ls : Array Slot), k + d = wh → 8 ≤ k → ak ≤ lm → acc.length = k - 8 → repU b lm (n - (k - 8)) acc ak = .inr (it, a') → va_P D cls [(m0, .inr (6, mF g (K.1, K.2.1, K.2.2.1, K.2.2.2.1, nI X.length, K.2.2.2.2.2.1, K.2.2.2.2.2.2.1, K.2.2.2.2.2.2.2.1, nI ak) A0 e np B)), ((g 30), .inl (cA 3, 2000, .inl yb)), ((g 38), .inl (cA 3, 2000, .inl ow)), ((g 39), .inl (cA 3, 2000, .inl fi)), ((g 40), .inl (cA 3, 2000, .inl be))] H → va_D A [(m0, .inr (6, mF g (K.1, K.2.1, K.2.2.1, K.2.2.2.1, nI X.length, K.2.2.2.2.2.1, K.2.2.2.2.2.2.1, K.2.2.2.2.2.2.2.1, nI ak) A0 e np B)), ((g 30), .inl (cA 3, 2000, .inl yb)), ((g 38), .inl (cA 3, 2000, .inl ow)), ((g 39), .inl (cA 3, 2000, .inl fi)), ((g 40), .inl (cA 3, 2000, .inl be))] → va_S A s.heap H locs → lv_has ls 13 [(0, .ref m0), (2, .int (nI wh)), (12, .int (nI k))] → W pg l ev ({ frames := 2, cells := 0, slots := 0, locals := 48 }) s m ([.ref m0, .int (nI t), .int (nI wh)] : List Value).toArray bw meth cdx H locs 0 0 (tx_Q bw (cQ D (fun vv (_ : Int32) => vv = some (.long (lkS 7 (vp_updL (vp_updL (vp_updL (vp_updL (vp_updL (vp_updL (vp_updL c_1 0 (elM 1)) 2 0) 1 (lN 112)) 6 (elS 1)) 3 (lN n)) 7 (lN nl)) 8 (lN n)) LL wh))) (fun _ => False) (fun (q : Int32) => [(m0, .inr (6, mF g (K.1, K.2.1, K.2.2.1, K.2.2.2.1, nI X.length, K.2.2.2.2.2.1, K.2.2.2.2.2.2.1, K.2.2.2.2.2.2.2.1, q) A0 e np B)), ((g 30), .inl (cA 3, 2000, .inl yb)), ((g 38), .inl (cA 3, 2000, .inl ow)), ((g 39), .inl (cA 3, 2000, .inl fi)), ((g 40), .inl (cA 3, 2000, .inl be))]) (fun _ => (0, 0)) A) ([.ref m0, .int (nI t), .int (nI wh)] : List Value).toArray s A) (F0 m 286 ls []) := by
          intro d
          induction d with
          | zero =>
            intro k ak acc H locs ls hkd hk8 hak hacc hrep hP hD hS hl
            obtain ⟨r, hr9⟩ : ∃ r, n - (k - 8) = r + 1 := ⟨n - (k - 8) - 1, by omega⟩
            rw [hr9, repU] at hrep
            obtain ⟨vk, b1, hv1, hrep⟩ := bnd_ok hrep
            have hw1 := pU32_ok (by omega) hv1
            obtain ⟨⟨ly, hiy, hly⟩, -, -⟩ := repU_pref r _ _ it a' (by omega) hrep
            refine lv_iload hx hb d_Md_lookElement_286 (lv_at hl 2 rfl) ?_
            refine lv_iload_n hx hb d_Md_lookElement_288 rfl (lv_at hl 1 rfl) ?_
            refine lv_icmp_ge (tgt := 303) hx hb d_Md_lookElement_289 (by decide) (fun c_289 => ?_) (fun c_289 => absurd (nI_le (by omega) (by omega)) c_289)
            refine lv_aload_n hx hb d_Md_lookElement_303 rfl (lv_at hl 0 rfl) ?_
            refine cV (As := []) (rest := []) (n := 0) (wc := [(m0, .inr (6, mF g (K.1, K.2.1, K.2.2.1, K.2.2.2.1, nI X.length, K.2.2.2.2.2.1, K.2.2.2.2.2.2.1, K.2.2.2.2.2.2.2.1, nI ak) A0 e np B)), ((g 30), .inl (cA 3, 2000, .inl yb))]) (wr := [((g 38), .inl (cA 3, 2000, .inl ow)), ((g 39), .inl (cA 3, 2000, .inl fi)), ((g 40), .inl (cA 3, 2000, .inl be))]) ⟨hx, hb, hml, hown, hts⟩ hno hlocks hl.1 (c_Md_number l hl9 D cA ad H.size m0 g (K.1, K.2.1, K.2.2.1, K.2.2.2.1, nI X.length, K.2.2.2.2.2.1, K.2.2.2.2.2.2.1, K.2.2.2.2.2.2.2.1, nI ak) A0 e np B yb b lm hlm hyb hb9 ak vk b1 (by omega) hv1) iw4_132 iw4_134 sel_Md_number iw1_7 iw4_135 (by decide +kernel) rfl ⟨Nat.le_of_ble_eq_true rfl, Nat.le_of_ble_eq_true rfl⟩ ⟨Nat.le_of_ble_eq_true rfl, Nat.le_of_ble_eq_true rfl⟩ rfl (Nat.le_of_ble_eq_true rfl) d_Md_lookElement_304 hE hP hD hS hA [0, 1] [2, 3, 4] rfl rfl rfl rfl (by decide) (ci := 6) rfl rfl 0 rfl (fun _ h => h.elim) (fun v_304 u_304 H locs hp_304 hP hD hS => ?_)
            obtain rfl := hp_304
            have hP : va_P D cls [(m0, .inr (6, mF g (K.1, K.2.1, K.2.2.1, K.2.2.2.1, nI X.length, K.2.2.2.2.2.1, K.2.2.2.2.2.2.1, K.2.2.2.2.2.2.2.1, nI b1) A0 e np B)), ((g 30), .inl (cA 3, 2000, .inl yb)), ((g 38), .inl (cA 3, 2000, .inl ow)), ((g 39), .inl (cA 3, 2000, .inl fi)), ((g 40), .inl (cA 3, 2000, .inl be))] H := hP.sub [3, 4, 0, 1, 2] rfl
            have hD : va_D A [(m0, .inr (6, mF g (K.1, K.2.1, K.2.2.1, K.2.2.2.1, nI X.length, K.2.2.2.2.2.1, K.2.2.2.2.2.2.1, K.2.2.2.2.2.2.2.1, nI b1) A0 e np B)), ((g 30), .inl (cA 3, 2000, .inl yb)), ((g 38), .inl (cA 3, 2000, .inl ow)), ((g 39), .inl (cA 3, 2000, .inl fi)), ((g 40), .inl (cA 3, 2000, .inl be))] := hD.sub [3, 4, 0, 1, 2] (by decide) rfl
            refine W.cs (cells' := 0) (slots' := 0) rfl rfl ?_
            refine W.eq (g2 := F0 m 307 ls [.long (lN vk)]) rfl ?_
            exact cRl (nI b1) hx hb hr hlocks d_Md_lookElement_307 hS hP hD (by rw [lkS, if_pos (show 8 ≤ wh by omega), if_pos rfl, lst_in (z := vp_updL (vp_updL (vp_updL (vp_updL (vp_updL (vp_updL (vp_updL c_1 0 (elM 1)) 2 0) 1 (lN 112)) 6 (elS 1)) 3 (lN n)) 7 (lN nl)) 8 (lN n)) (cs := 7) (cn := 8) (M := n) (nl := nl) rfl rfl (by omega) hnl hitl.1 hseg (show wh - 8 < n by omega), hiy, List.append_assoc, List.singleton_append, getD_at (show acc.length = wh - 8 by omega)]) (Nat.le_refl _) (Nat.le_refl _)
          | succ d ih =>
            intro k ak acc H locs ls hkd hk8 hak hacc hrep hP hD hS hl
            obtain ⟨r, hr9⟩ : ∃ r, n - (k - 8) = r + 1 := ⟨n - (k - 8) - 1, by omega⟩
            rw [hr9, repU] at hrep
            obtain ⟨vk, b1, hv1, hrep⟩ := bnd_ok hrep
            have hw1 := pU32_ok (by omega) hv1
            obtain ⟨⟨ly, hiy, hly⟩, -, -⟩ := repU_pref r _ _ it a' (by omega) hrep
            refine lv_iload hx hb d_Md_lookElement_286 (lv_at hl 2 rfl) ?_
            refine lv_iload_n hx hb d_Md_lookElement_288 rfl (lv_at hl 1 rfl) ?_
            refine lv_icmp_ge (tgt := 303) hx hb d_Md_lookElement_289 (by decide) (fun c_289 => absurd c_289 (nI_ge (by omega) (by omega))) (fun c_289 => ?_)
            refine lv_aload_n hx hb d_Md_lookElement_292 rfl (lv_at hl 0 rfl) ?_
            refine cV (As := []) (rest := []) (n := 0) (wc := [(m0, .inr (6, mF g (K.1, K.2.1, K.2.2.1, K.2.2.2.1, nI X.length, K.2.2.2.2.2.1, K.2.2.2.2.2.2.1, K.2.2.2.2.2.2.2.1, nI ak) A0 e np B)), ((g 30), .inl (cA 3, 2000, .inl yb))]) (wr := [((g 38), .inl (cA 3, 2000, .inl ow)), ((g 39), .inl (cA 3, 2000, .inl fi)), ((g 40), .inl (cA 3, 2000, .inl be))]) ⟨hx, hb, hml, hown, hts⟩ hno hlocks hl.1 (c_Md_number l hl9 D cA ad H.size m0 g (K.1, K.2.1, K.2.2.1, K.2.2.2.1, nI X.length, K.2.2.2.2.2.1, K.2.2.2.2.2.2.1, K.2.2.2.2.2.2.2.1, nI ak) A0 e np B yb b lm hlm hyb hb9 ak vk b1 (by omega) hv1) iw4_132 iw4_134 sel_Md_number iw1_7 iw4_135 (by decide +kernel) rfl ⟨Nat.le_of_ble_eq_true rfl, Nat.le_of_ble_eq_true rfl⟩ ⟨Nat.le_of_ble_eq_true rfl, Nat.le_of_ble_eq_true rfl⟩ rfl (Nat.le_of_ble_eq_true rfl) d_Md_lookElement_293 hE hP hD hS hA [0, 1] [2, 3, 4] rfl rfl rfl rfl (by decide) (ci := 6) rfl rfl 0 rfl (fun _ h => h.elim) (fun v_293 u_293 H locs hp_293 hP hD hS => ?_)
            obtain rfl := hp_293
            have hP : va_P D cls [(m0, .inr (6, mF g (K.1, K.2.1, K.2.2.1, K.2.2.2.1, nI X.length, K.2.2.2.2.2.1, K.2.2.2.2.2.2.1, K.2.2.2.2.2.2.2.1, nI b1) A0 e np B)), ((g 30), .inl (cA 3, 2000, .inl yb)), ((g 38), .inl (cA 3, 2000, .inl ow)), ((g 39), .inl (cA 3, 2000, .inl fi)), ((g 40), .inl (cA 3, 2000, .inl be))] H := hP.sub [3, 4, 0, 1, 2] rfl
            have hD : va_D A [(m0, .inr (6, mF g (K.1, K.2.1, K.2.2.1, K.2.2.2.1, nI X.length, K.2.2.2.2.2.1, K.2.2.2.2.2.2.1, K.2.2.2.2.2.2.2.1, nI b1) A0 e np B)), ((g 30), .inl (cA 3, 2000, .inl yb)), ((g 38), .inl (cA 3, 2000, .inl ow)), ((g 39), .inl (cA 3, 2000, .inl fi)), ((g 40), .inl (cA 3, 2000, .inl be))] := hD.sub [3, 4, 0, 1, 2] (by decide) rfl
            refine W.cs (cells' := 0) (slots' := 0) rfl rfl ?_
            refine W.eq (g2 := F0 m 296 ls [.long (lN vk)]) rfl ?_
            refine lv_pop2_2 hx hb d_Md_lookElement_296 rfl ?_
            obtain ⟨x12_2, ex12_2⟩ : ∃ y : Int32, y = (nI k) + 1 := ⟨_, rfl⟩
            refine lv_iinc (v := x12_2) (lv' := [(12, .int x12_2), (0, .ref m0), (2, .int (nI wh))]) hx hb d_Md_lookElement_297 hl (k := 2) rfl (by rw [ex12_2]; rfl) (by decide) rfl (fun ls hl => ?_)
            refine lv_goto (tgt := 286) hx hb d_Md_lookElement_300 (by decide) ?_
            have e9 : x12_2 = nI (k + 1) := by rw [ex12_2]; exact nI_1 k
            subst e9
            exact ih (k + 1) b1 (acc ++ [lN vk]) H locs ls (by omega) (by omega) (by omega) (by simp; omega) (by rw [show n - (k + 1 - 8) = r by omega]; exact hrep) hP hD hS (lv_sub hl [1, 2, 0] rfl)
        exact key (wh - 8) 8 a4 [] H _ ls (by omega) (Nat.le_refl _) (by omega) rfl (by rw [Nat.sub_self, Nat.sub_zero]; exact he5) hP hD hS (lv_sub hl [7, 9, 0] rfl)
      · refine lv_ldc2 hx hb hown (hts _ (List.mem_cons_of_mem _ iw3_204)) d_Md_lookElement_245 ?_
        exact cRl (nI a4) hx hb hr hlocks d_Md_lookElement_248 hS hP hD (by rw [lkS, if_pos (show 8 ≤ wh by omega), if_pos rfl, lst_out (z := vp_updL (vp_updL (vp_updL (vp_updL (vp_updL (vp_updL (vp_updL c_1 0 (elM 1)) 2 0) 1 (lN 112)) 6 (elS 1)) 3 (lN n)) 7 (lN nl)) 8 (lN n)) (cs := 7) (cn := 8) (M := n) rfl (by omega) (by omega) (by have := (pk_lLE (a := n) (b := wh - 8) (by omega) (by omega)).mp (Int64.not_lt.mp (fun q => c_242 ((lg_cmp_lt _ _).mpr q))); omega)]) (Nat.le_refl _) (Nat.le_refl _)
  · have he2 : bnd (pU32 b lm a1) (fun v a6 => bnd (pExpr b lm dc a6) (fun _ a5 => .inr (vp_updL (vp_updL (vp_updL (vp_updL c_1 0 (elM 2)) 2 (lN v)) 4 (lN a6)) 5 (lN a5), a5))) = .inr (c2, a2) := he2
    obtain ⟨v, b8, hv8, r8⟩ := bnd_ok he2
    have hu8 := pU32_ok (by omega) hv8
    obtain ⟨_, b9, q9, r9⟩ := bnd_ok r8
    obtain ⟨ec2, eb9⟩ : vp_updL (vp_updL (vp_updL (vp_updL c_1 0 (elM 2)) 2 (lN v)) 4 (lN b8)) 5 (lN a2) = c2 ∧ b9 = a2 := by cases r9; exact ⟨rfl, rfl⟩
    subst ec2
    have h4 : lN b8 = lN x1 := (hc45 rfl).1
    have he3 : bnd (pChoice b lm 0 a2) (fun _ a5 => .inr (112, a5)) = .inr (tt, a3) := he3
    obtain ⟨g7, b7, q7, r7⟩ := bnd_ok he3
    obtain ⟨h71, h72, -, -⟩ := pChoice_inv q7
    obtain ⟨ett, ea3⟩ : 112 = tt ∧ a2 + 1 = a3 := by cases r7; exact ⟨rfl, h72.symm⟩
    subst ett
    subst ea3
    have hexx : exO t X = (x1, a2) :: exs := hexx
    have he5 : repU b lm n [] a4 = .inr (it, a') := he5
    rcases (show wh = 0 ∨ wh = 1 ∨ wh = 2 ∨ wh = 3 ∨ wh = 4 ∨ wh = 5 ∨ wh = 6 ∨ wh = 7 ∨ 8 ≤ wh by omega) with rfl | rfl | rfl | rfl | rfl | rfl | rfl | rfl | hw8
    · have hl : lv_has ls 13 [(0, .ref m0), (1, .int (nI t)), (2, .int 0)] := hl
      refine lv_aload_n hx hb d_Md_lookElement_0 rfl (lv_at hl 0 rfl) ?_
      refine cV (As := []) (rest := []) (n := 0) (wc := [(m0, .inr (6, mF g (K.1, K.2.1, K.2.2.1, K.2.2.2.1, nI X.length, K.2.2.2.2.2.1, K.2.2.2.2.2.2.1, K.2.2.2.2.2.2.2.1, nI a) A0 e np B)), ((g 30), .inl (cA 3, 2000, .inl yb))]) (wr := [((g 38), .inl (cA 3, 2000, .inl ow)), ((g 39), .inl (cA 3, 2000, .inl fi)), ((g 40), .inl (cA 3, 2000, .inl be))]) ⟨hx, hb, hml, hown, hts⟩ hno hlocks hl.1 (c_Md_number l hl9 D cA ad s.heap.size m0 g (K.1, K.2.1, K.2.2.1, K.2.2.2.1, nI X.length, K.2.2.2.2.2.1, K.2.2.2.2.2.2.1, K.2.2.2.2.2.2.2.1, nI a) A0 e np B yb b lm hlm hyb hb9 a 2 a1 (by omega) hmu) iw4_132 iw4_134 sel_Md_number iw1_7 iw4_135 (by decide +kernel) rfl ⟨Nat.le_of_ble_eq_true rfl, Nat.le_of_ble_eq_true rfl⟩ ⟨Nat.le_of_ble_eq_true rfl, Nat.le_of_ble_eq_true rfl⟩ rfl (Nat.le_of_ble_eq_true rfl) d_Md_lookElement_1 hE hP hD hS hA [0, 1] [2, 3, 4] rfl rfl rfl rfl (by decide) (ci := 6) rfl rfl 0 rfl (fun _ h => h.elim) (fun v_1 u_1 H locs hp_1 hP hD hS => ?_)
      obtain rfl := hp_1
      have hP : va_P D cls [(m0, .inr (6, mF g (K.1, K.2.1, K.2.2.1, K.2.2.2.1, nI X.length, K.2.2.2.2.2.1, K.2.2.2.2.2.2.1, K.2.2.2.2.2.2.2.1, nI a1) A0 e np B)), ((g 30), .inl (cA 3, 2000, .inl yb)), ((g 38), .inl (cA 3, 2000, .inl ow)), ((g 39), .inl (cA 3, 2000, .inl fi)), ((g 40), .inl (cA 3, 2000, .inl be))] H := hP.sub [3, 4, 0, 1, 2] rfl
      have hD : va_D A [(m0, .inr (6, mF g (K.1, K.2.1, K.2.2.1, K.2.2.2.1, nI X.length, K.2.2.2.2.2.1, K.2.2.2.2.2.2.1, K.2.2.2.2.2.2.2.1, nI a1) A0 e np B)), ((g 30), .inl (cA 3, 2000, .inl yb)), ((g 38), .inl (cA 3, 2000, .inl ow)), ((g 39), .inl (cA 3, 2000, .inl fi)), ((g 40), .inl (cA 3, 2000, .inl be))] := hD.sub [3, 4, 0, 1, 2] (by decide) rfl
      refine W.cs (cells' := 0) (slots' := 0) rfl rfl ?_
      refine W.eq (g2 := F0 m 4 ls [.long (lN 2)]) rfl ?_
      refine lv_l2i hx hb d_Md_lookElement_4 rfl ?_
      refine W.eq (g2 := F0 m 5 ls [.int 2]) (by rw [lN_i]; rfl) ?_
      refine lv_istore_n (lv' := [(3, .int 2), (0, .ref m0), (1, .int (nI t)), (2, .int 0)]) hx hb d_Md_lookElement_5 rfl hl (by decide) rfl (fun ls hl => ?_)
      refine lv_iload_n hx hb d_Md_lookElement_6 rfl (lv_at hl 0 rfl) ?_
      refine lv_iconst (v := 1) hx hb d_Md_lookElement_7 (by decide) ?_
      refine lv_iand hx hb d_Md_lookElement_8 ?_
      refine W.eq (g2 := F0 m 9 ls [.int 0]) (by rw [show (2 : Int32) &&& 1 = 0 from by decide +kernel]) ?_
      refine lv_if_ne (tgt := 16) hx hb d_Md_lookElement_9 (by decide) (fun c_9 => absurd (by decide) c_9) (fun c_9 => ?_)
      refine lv_iconst (v := 1) hx hb d_Md_lookElement_12 (by decide) ?_
      refine lv_goto (tgt := 17) hx hb d_Md_lookElement_13 (by decide) ?_
      refine lv_istore (lv' := [(4, .int 1), (3, .int 2), (0, .ref m0), (1, .int (nI t)), (2, .int 0)]) hx hb d_Md_lookElement_17 hl (by decide) rfl (fun ls hl => ?_)
      refine lv_iload hx hb d_Md_lookElement_19 (lv_at hl 0 rfl) ?_
      refine lv_if_eq (tgt := 37) hx hb d_Md_lookElement_21 (by decide) (fun c_21 => absurd c_21 (by decide)) (fun c_21 => ?_)
      refine lv_iload_n hx hb d_Md_lookElement_24 rfl (lv_at hl 1 rfl) ?_
      refine lv_iconst (v := 2) hx hb d_Md_lookElement_25 (by decide) ?_
      refine lv_iand hx hb d_Md_lookElement_26 ?_
      refine W.eq (g2 := F0 m 27 ls [.int 2]) (by rw [show (2 : Int32) &&& 2 = 2 from by decide +kernel]) ?_
      refine lv_if_eq (tgt := 37) hx hb d_Md_lookElement_27 (by decide) (fun c_27 => absurd c_27 (by decide)) (fun c_27 => ?_)
      refine lv_aload_n hx hb d_Md_lookElement_30 rfl (lv_at hl 2 rfl) ?_
      refine cV (As := []) (rest := []) (n := 0) (wc := [(m0, .inr (6, mF g (K.1, K.2.1, K.2.2.1, K.2.2.2.1, nI X.length, K.2.2.2.2.2.1, K.2.2.2.2.2.2.1, K.2.2.2.2.2.2.2.1, nI a1) A0 e np B)), ((g 30), .inl (cA 3, 2000, .inl yb))]) (wr := [((g 38), .inl (cA 3, 2000, .inl ow)), ((g 39), .inl (cA 3, 2000, .inl fi)), ((g 40), .inl (cA 3, 2000, .inl be))]) ⟨hx, hb, hml, hown, hts⟩ hno hlocks hl.1 (c_Md_number l hl9 D cA ad H.size m0 g (K.1, K.2.1, K.2.2.1, K.2.2.2.1, nI X.length, K.2.2.2.2.2.1, K.2.2.2.2.2.2.1, K.2.2.2.2.2.2.2.1, nI a1) A0 e np B yb b lm hlm hyb hb9 a1 v b8 (by omega) hv8) iw4_132 iw4_134 sel_Md_number iw1_7 iw4_135 (by decide +kernel) rfl ⟨Nat.le_of_ble_eq_true rfl, Nat.le_of_ble_eq_true rfl⟩ ⟨Nat.le_of_ble_eq_true rfl, Nat.le_of_ble_eq_true rfl⟩ rfl (Nat.le_of_ble_eq_true rfl) d_Md_lookElement_31 hE hP hD hS hA [0, 1] [2, 3, 4] rfl rfl rfl rfl (by decide) (ci := 6) rfl rfl 0 rfl (fun _ h => h.elim) (fun v_31 u_31 H locs hp_31 hP hD hS => ?_)
      obtain rfl := hp_31
      have hP : va_P D cls [(m0, .inr (6, mF g (K.1, K.2.1, K.2.2.1, K.2.2.2.1, nI X.length, K.2.2.2.2.2.1, K.2.2.2.2.2.2.1, K.2.2.2.2.2.2.2.1, nI b8) A0 e np B)), ((g 30), .inl (cA 3, 2000, .inl yb)), ((g 38), .inl (cA 3, 2000, .inl ow)), ((g 39), .inl (cA 3, 2000, .inl fi)), ((g 40), .inl (cA 3, 2000, .inl be))] H := hP.sub [3, 4, 0, 1, 2] rfl
      have hD : va_D A [(m0, .inr (6, mF g (K.1, K.2.1, K.2.2.1, K.2.2.2.1, nI X.length, K.2.2.2.2.2.1, K.2.2.2.2.2.2.1, K.2.2.2.2.2.2.2.1, nI b8) A0 e np B)), ((g 30), .inl (cA 3, 2000, .inl yb)), ((g 38), .inl (cA 3, 2000, .inl ow)), ((g 39), .inl (cA 3, 2000, .inl fi)), ((g 40), .inl (cA 3, 2000, .inl be))] := hD.sub [3, 4, 0, 1, 2] (by decide) rfl
      refine W.cs (cells' := 0) (slots' := 0) rfl rfl ?_
      refine W.eq (g2 := F0 m 34 ls [.long (lN v)]) rfl ?_
      refine lv_goto (tgt := 38) hx hb d_Md_lookElement_34 (by decide) ?_
      refine lv_lstore (lv' := [(5, .long (lN v)), (4, .int 1), (3, .int 2), (0, .ref m0), (1, .int (nI t)), (2, .int 0)]) hx hb d_Md_lookElement_38 hl (by decide) rfl (fun ls hl => ?_)
      refine lv_iload_n hx hb d_Md_lookElement_40 rfl (lv_at hl 5 rfl) ?_
      refine lv_if_ne (tgt := 67) hx hb d_Md_lookElement_41 (by decide) (fun c_41 => absurd (by decide) c_41) (fun c_41 => ?_)
      refine lv_iload hx hb d_Md_lookElement_44 (lv_at hl 1 rfl) ?_
      refine lv_if_eq (tgt := 53) hx hb d_Md_lookElement_46 (by decide) (fun c_46 => absurd c_46 (by decide)) (fun c_46 => ?_)
      refine lv_lconst (v := 1) hx hb d_Md_lookElement_49 (by decide) ?_
      refine lv_goto (tgt := 66) hx hb d_Md_lookElement_50 (by decide) ?_
      exact cRl (nI b8) hx hb hr hlocks d_Md_lookElement_66 hS hP hD (rfl) (Nat.le_refl _) (Nat.le_refl _)
    · have hl : lv_has ls 13 [(0, .ref m0), (1, .int (nI t)), (2, .int 1)] := hl
      refine lv_aload_n hx hb d_Md_lookElement_0 rfl (lv_at hl 0 rfl) ?_
      refine cV (As := []) (rest := []) (n := 0) (wc := [(m0, .inr (6, mF g (K.1, K.2.1, K.2.2.1, K.2.2.2.1, nI X.length, K.2.2.2.2.2.1, K.2.2.2.2.2.2.1, K.2.2.2.2.2.2.2.1, nI a) A0 e np B)), ((g 30), .inl (cA 3, 2000, .inl yb))]) (wr := [((g 38), .inl (cA 3, 2000, .inl ow)), ((g 39), .inl (cA 3, 2000, .inl fi)), ((g 40), .inl (cA 3, 2000, .inl be))]) ⟨hx, hb, hml, hown, hts⟩ hno hlocks hl.1 (c_Md_number l hl9 D cA ad s.heap.size m0 g (K.1, K.2.1, K.2.2.1, K.2.2.2.1, nI X.length, K.2.2.2.2.2.1, K.2.2.2.2.2.2.1, K.2.2.2.2.2.2.2.1, nI a) A0 e np B yb b lm hlm hyb hb9 a 2 a1 (by omega) hmu) iw4_132 iw4_134 sel_Md_number iw1_7 iw4_135 (by decide +kernel) rfl ⟨Nat.le_of_ble_eq_true rfl, Nat.le_of_ble_eq_true rfl⟩ ⟨Nat.le_of_ble_eq_true rfl, Nat.le_of_ble_eq_true rfl⟩ rfl (Nat.le_of_ble_eq_true rfl) d_Md_lookElement_1 hE hP hD hS hA [0, 1] [2, 3, 4] rfl rfl rfl rfl (by decide) (ci := 6) rfl rfl 0 rfl (fun _ h => h.elim) (fun v_1 u_1 H locs hp_1 hP hD hS => ?_)
      obtain rfl := hp_1
      have hP : va_P D cls [(m0, .inr (6, mF g (K.1, K.2.1, K.2.2.1, K.2.2.2.1, nI X.length, K.2.2.2.2.2.1, K.2.2.2.2.2.2.1, K.2.2.2.2.2.2.2.1, nI a1) A0 e np B)), ((g 30), .inl (cA 3, 2000, .inl yb)), ((g 38), .inl (cA 3, 2000, .inl ow)), ((g 39), .inl (cA 3, 2000, .inl fi)), ((g 40), .inl (cA 3, 2000, .inl be))] H := hP.sub [3, 4, 0, 1, 2] rfl
      have hD : va_D A [(m0, .inr (6, mF g (K.1, K.2.1, K.2.2.1, K.2.2.2.1, nI X.length, K.2.2.2.2.2.1, K.2.2.2.2.2.2.1, K.2.2.2.2.2.2.2.1, nI a1) A0 e np B)), ((g 30), .inl (cA 3, 2000, .inl yb)), ((g 38), .inl (cA 3, 2000, .inl ow)), ((g 39), .inl (cA 3, 2000, .inl fi)), ((g 40), .inl (cA 3, 2000, .inl be))] := hD.sub [3, 4, 0, 1, 2] (by decide) rfl
      refine W.cs (cells' := 0) (slots' := 0) rfl rfl ?_
      refine W.eq (g2 := F0 m 4 ls [.long (lN 2)]) rfl ?_
      refine lv_l2i hx hb d_Md_lookElement_4 rfl ?_
      refine W.eq (g2 := F0 m 5 ls [.int 2]) (by rw [lN_i]; rfl) ?_
      refine lv_istore_n (lv' := [(3, .int 2), (0, .ref m0), (1, .int (nI t)), (2, .int 1)]) hx hb d_Md_lookElement_5 rfl hl (by decide) rfl (fun ls hl => ?_)
      refine lv_iload_n hx hb d_Md_lookElement_6 rfl (lv_at hl 0 rfl) ?_
      refine lv_iconst (v := 1) hx hb d_Md_lookElement_7 (by decide) ?_
      refine lv_iand hx hb d_Md_lookElement_8 ?_
      refine W.eq (g2 := F0 m 9 ls [.int 0]) (by rw [show (2 : Int32) &&& 1 = 0 from by decide +kernel]) ?_
      refine lv_if_ne (tgt := 16) hx hb d_Md_lookElement_9 (by decide) (fun c_9 => absurd (by decide) c_9) (fun c_9 => ?_)
      refine lv_iconst (v := 1) hx hb d_Md_lookElement_12 (by decide) ?_
      refine lv_goto (tgt := 17) hx hb d_Md_lookElement_13 (by decide) ?_
      refine lv_istore (lv' := [(4, .int 1), (3, .int 2), (0, .ref m0), (1, .int (nI t)), (2, .int 1)]) hx hb d_Md_lookElement_17 hl (by decide) rfl (fun ls hl => ?_)
      refine lv_iload hx hb d_Md_lookElement_19 (lv_at hl 0 rfl) ?_
      refine lv_if_eq (tgt := 37) hx hb d_Md_lookElement_21 (by decide) (fun c_21 => absurd c_21 (by decide)) (fun c_21 => ?_)
      refine lv_iload_n hx hb d_Md_lookElement_24 rfl (lv_at hl 1 rfl) ?_
      refine lv_iconst (v := 2) hx hb d_Md_lookElement_25 (by decide) ?_
      refine lv_iand hx hb d_Md_lookElement_26 ?_
      refine W.eq (g2 := F0 m 27 ls [.int 2]) (by rw [show (2 : Int32) &&& 2 = 2 from by decide +kernel]) ?_
      refine lv_if_eq (tgt := 37) hx hb d_Md_lookElement_27 (by decide) (fun c_27 => absurd c_27 (by decide)) (fun c_27 => ?_)
      refine lv_aload_n hx hb d_Md_lookElement_30 rfl (lv_at hl 2 rfl) ?_
      refine cV (As := []) (rest := []) (n := 0) (wc := [(m0, .inr (6, mF g (K.1, K.2.1, K.2.2.1, K.2.2.2.1, nI X.length, K.2.2.2.2.2.1, K.2.2.2.2.2.2.1, K.2.2.2.2.2.2.2.1, nI a1) A0 e np B)), ((g 30), .inl (cA 3, 2000, .inl yb))]) (wr := [((g 38), .inl (cA 3, 2000, .inl ow)), ((g 39), .inl (cA 3, 2000, .inl fi)), ((g 40), .inl (cA 3, 2000, .inl be))]) ⟨hx, hb, hml, hown, hts⟩ hno hlocks hl.1 (c_Md_number l hl9 D cA ad H.size m0 g (K.1, K.2.1, K.2.2.1, K.2.2.2.1, nI X.length, K.2.2.2.2.2.1, K.2.2.2.2.2.2.1, K.2.2.2.2.2.2.2.1, nI a1) A0 e np B yb b lm hlm hyb hb9 a1 v b8 (by omega) hv8) iw4_132 iw4_134 sel_Md_number iw1_7 iw4_135 (by decide +kernel) rfl ⟨Nat.le_of_ble_eq_true rfl, Nat.le_of_ble_eq_true rfl⟩ ⟨Nat.le_of_ble_eq_true rfl, Nat.le_of_ble_eq_true rfl⟩ rfl (Nat.le_of_ble_eq_true rfl) d_Md_lookElement_31 hE hP hD hS hA [0, 1] [2, 3, 4] rfl rfl rfl rfl (by decide) (ci := 6) rfl rfl 0 rfl (fun _ h => h.elim) (fun v_31 u_31 H locs hp_31 hP hD hS => ?_)
      obtain rfl := hp_31
      have hP : va_P D cls [(m0, .inr (6, mF g (K.1, K.2.1, K.2.2.1, K.2.2.2.1, nI X.length, K.2.2.2.2.2.1, K.2.2.2.2.2.2.1, K.2.2.2.2.2.2.2.1, nI b8) A0 e np B)), ((g 30), .inl (cA 3, 2000, .inl yb)), ((g 38), .inl (cA 3, 2000, .inl ow)), ((g 39), .inl (cA 3, 2000, .inl fi)), ((g 40), .inl (cA 3, 2000, .inl be))] H := hP.sub [3, 4, 0, 1, 2] rfl
      have hD : va_D A [(m0, .inr (6, mF g (K.1, K.2.1, K.2.2.1, K.2.2.2.1, nI X.length, K.2.2.2.2.2.1, K.2.2.2.2.2.2.1, K.2.2.2.2.2.2.2.1, nI b8) A0 e np B)), ((g 30), .inl (cA 3, 2000, .inl yb)), ((g 38), .inl (cA 3, 2000, .inl ow)), ((g 39), .inl (cA 3, 2000, .inl fi)), ((g 40), .inl (cA 3, 2000, .inl be))] := hD.sub [3, 4, 0, 1, 2] (by decide) rfl
      refine W.cs (cells' := 0) (slots' := 0) rfl rfl ?_
      refine W.eq (g2 := F0 m 34 ls [.long (lN v)]) rfl ?_
      refine lv_goto (tgt := 38) hx hb d_Md_lookElement_34 (by decide) ?_
      refine lv_lstore (lv' := [(5, .long (lN v)), (4, .int 1), (3, .int 2), (0, .ref m0), (1, .int (nI t)), (2, .int 1)]) hx hb d_Md_lookElement_38 hl (by decide) rfl (fun ls hl => ?_)
      refine lv_iload_n hx hb d_Md_lookElement_40 rfl (lv_at hl 5 rfl) ?_
      refine lv_if_ne (tgt := 67) hx hb d_Md_lookElement_41 (by decide) (fun c_41 => ?_) (fun c_41 => absurd c_41 (by decide))
      refine lv_iload_n hx hb d_Md_lookElement_67 rfl (lv_at hl 5 rfl) ?_
      refine lv_iconst (v := 2) hx hb d_Md_lookElement_68 (by decide) ?_
      refine lv_icmp_ne (tgt := 75) hx hb d_Md_lookElement_69 (by decide) (fun c_69 => ?_) (fun c_69 => absurd c_69 (by decide))
      refine lv_iload_n hx hb d_Md_lookElement_75 rfl (lv_at hl 5 rfl) ?_
      refine lv_iconst (v := 4) hx hb d_Md_lookElement_76 (by decide) ?_
      refine lv_icmp_eq (tgt := 85) hx hb d_Md_lookElement_77 (by decide) (fun c_77 => absurd c_77 (by decide)) (fun c_77 => ?_)
      refine lv_iload_n hx hb d_Md_lookElement_80 rfl (lv_at hl 5 rfl) ?_
      refine lv_iconst (v := 5) hx hb d_Md_lookElement_81 (by decide) ?_
      refine lv_icmp_ne (tgt := 104) hx hb d_Md_lookElement_82 (by decide) (fun c_82 => ?_) (fun c_82 => absurd c_82 (by decide))
      refine lv_iload_n hx hb d_Md_lookElement_104 rfl (lv_at hl 5 rfl) ?_
      refine lv_bipush (v := 6) hx hb d_Md_lookElement_105 (by decide) ?_
      refine lv_icmp_ne (tgt := 122) hx hb d_Md_lookElement_107 (by decide) (fun c_107 => ?_) (fun c_107 => absurd c_107 (by decide))
      refine lv_iload hx hb d_Md_lookElement_122 (lv_at hl 1 rfl) ?_
      refine lv_if_eq (tgt := 142) hx hb d_Md_lookElement_124 (by decide) (fun c_124 => absurd c_124 (by decide)) (fun c_124 => ?_)
      refine lv_aload_n hx hb d_Md_lookElement_127 rfl (lv_at hl 3 rfl) ?_
      refine lv_aload_n hx hb d_Md_lookElement_128 rfl (lv_at hl 3 rfl) ?_
      refine va_get (D := D) (ci := 6) (v := .ref (g 40)) (C := R_Md) (T := F_Md) (N := 44) hx hb hts (fun w h => List.mem_cons_of_mem _ (i_Md w h)) hown hE.1 hP 0 rfl rfl 40 (by decide) (hts _ (List.mem_cons_of_mem _ iw3_94)) (fun _ h9 => h9) rfl d_Md_lookElement_129 ?_
      refine lv_aload_n hx hb d_Md_lookElement_132 rfl (lv_at hl 3 rfl) ?_
      refine lv_iload_n hx hb d_Md_lookElement_133 rfl (lv_at hl 4 rfl) ?_
      refine lv_iconst (v := 0) hx hb d_Md_lookElement_134 (by decide) ?_
      refine cV (As := [.int (nI t), .int 0]) (rest := [.ref (g 40), .ref m0]) (n := 2) (wc := [(m0, .inr (6, mF g (K.1, K.2.1, K.2.2.1, K.2.2.2.1, nI X.length, K.2.2.2.2.2.1, K.2.2.2.2.2.2.1, K.2.2.2.2.2.2.2.1, nI b8) A0 e np B)), ((g 38), .inl (cA 3, 2000, .inl ow))]) (wr := [((g 30), .inl (cA 3, 2000, .inl yb)), ((g 39), .inl (cA 3, 2000, .inl fi)), ((g 40), .inl (cA 3, 2000, .inl be))]) ⟨hx, hb, hml, hown, hts⟩ hno hlocks hl.1 (c_Md_expressionOf l hl9 D cA ad H.size m0 g (K.1, K.2.1, K.2.2.1, K.2.2.2.1, nI X.length, K.2.2.2.2.2.1, K.2.2.2.2.2.2.1, K.2.2.2.2.2.2.2.1, nI b8) A0 e np B ow fi be X hXH hXf hX t (by omega) 0 (by omega)) iw4_156 iw4_158 sel_Md_expressionOf iw1_7 iw4_159 (by decide +kernel) rfl ⟨Nat.le_of_ble_eq_true rfl, Nat.le_of_ble_eq_true rfl⟩ ⟨Nat.le_of_ble_eq_true rfl, Nat.le_of_ble_eq_true rfl⟩ rfl (Nat.le_of_ble_eq_true rfl) d_Md_lookElement_135 hE hP hD hS hA [0, 2] [1, 3, 4] rfl rfl rfl rfl (by decide) (ci := 6) rfl rfl 0 rfl (fun _ h => h.elim) (fun v_135 u_135 H locs hp_135 hP hD hS => ?_)
      rcases hp_135 with ⟨rfl, hno253⟩ | ⟨e253_, f253_, z253_, he253, rfl, hg253, hfi253, hbe253, hfb253, hzb253⟩
      · exact absurd hno253 (by rw [hexx]; simp)
      have hP : va_P D cls [(m0, .inr (6, mF g (K.1, K.2.1, K.2.2.1, K.2.2.2.1, nI X.length, K.2.2.2.2.2.1, K.2.2.2.2.2.2.1, K.2.2.2.2.2.2.2.1, nI b8) A0 e np B)), ((g 30), .inl (cA 3, 2000, .inl yb)), ((g 38), .inl (cA 3, 2000, .inl ow)), ((g 39), .inl (cA 3, 2000, .inl fi)), ((g 40), .inl (cA 3, 2000, .inl be))] H := hP.sub [3, 0, 4, 1, 2] rfl
      have hD : va_D A [(m0, .inr (6, mF g (K.1, K.2.1, K.2.2.1, K.2.2.2.1, nI X.length, K.2.2.2.2.2.1, K.2.2.2.2.2.2.1, K.2.2.2.2.2.2.2.1, nI b8) A0 e np B)), ((g 30), .inl (cA 3, 2000, .inl yb)), ((g 38), .inl (cA 3, 2000, .inl ow)), ((g 39), .inl (cA 3, 2000, .inl fi)), ((g 40), .inl (cA 3, 2000, .inl be))] := hD.sub [3, 0, 4, 1, 2] (by decide) rfl
      refine W.cs (cells' := 0) (slots' := 0) rfl rfl ?_
      refine W.eq (g2 := F0 m 138 ls [.int (nI e253_), .ref (g 40), .ref m0]) rfl ?_
      refine va_iald hx hb hE.1 hP 4 3 rfl rfl (vp_in_nI (by omega) (by omega)) d_Md_lookElement_138 ?_
      rw [nI_clamp (n := e253_) (by omega), hbe253, show z253_ = a2 from by rw [hexx] at hg253; exact (congrArg Prod.snd (Option.some.inj hg253)).symm]
      refine va_put (D := D) (ci := 6) (v := .int (nI a2)) (ty := .int) (C := R_Md) (T := F_Md) (N := 44) hx hb hts (fun w h => List.mem_cons_of_mem _ (i_Md w h)) t_Md tk_Md n_Md hown hE.1 hP hD hS 0 rfl rfl 43 (by decide) (hts _ (List.mem_cons_of_mem _ iw3_97)) (fun _ h9 => h9) rfl (by decide +kernel) rfl rfl (Nat.le_of_ble_eq_true rfl) d_Md_lookElement_139 (fun H locs hP hD hS => ?_)
      have hP : va_P D cls [(m0, .inr (6, mF g (K.1, K.2.1, K.2.2.1, K.2.2.2.1, nI X.length, K.2.2.2.2.2.1, K.2.2.2.2.2.2.1, K.2.2.2.2.2.2.2.1, nI a2) A0 e np B)), ((g 30), .inl (cA 3, 2000, .inl yb)), ((g 38), .inl (cA 3, 2000, .inl ow)), ((g 39), .inl (cA 3, 2000, .inl fi)), ((g 40), .inl (cA 3, 2000, .inl be))] H := hP
      have hD : va_D A [(m0, .inr (6, mF g (K.1, K.2.1, K.2.2.1, K.2.2.2.1, nI X.length, K.2.2.2.2.2.1, K.2.2.2.2.2.2.1, K.2.2.2.2.2.2.2.1, nI a2) A0 e np B)), ((g 30), .inl (cA 3, 2000, .inl yb)), ((g 38), .inl (cA 3, 2000, .inl ow)), ((g 39), .inl (cA 3, 2000, .inl fi)), ((g 40), .inl (cA 3, 2000, .inl be))] := hD
      refine lv_iload_n hx hb d_Md_lookElement_142 rfl (lv_at hl 2 rfl) ?_
      refine lv_if_eq (tgt := 155) hx hb d_Md_lookElement_143 (by decide) (fun c_143 => absurd c_143 (by decide)) (fun c_143 => ?_)
      refine lv_iload_n hx hb d_Md_lookElement_146 rfl (lv_at hl 2 rfl) ?_
      refine lv_iconst (v := 4) hx hb d_Md_lookElement_147 (by decide) ?_
      refine lv_icmp_eq (tgt := 155) hx hb d_Md_lookElement_148 (by decide) (fun c_148 => absurd c_148 (by decide)) (fun c_148 => ?_)
      refine lv_iconst (v := 1) hx hb d_Md_lookElement_151 (by decide) ?_
      refine lv_goto (tgt := 156) hx hb d_Md_lookElement_152 (by decide) ?_
      refine lv_istore (lv' := [(7, .int 1), (5, .long (lN v)), (4, .int 1), (3, .int 2), (0, .ref m0), (1, .int (nI t)), (2, .int 1)]) hx hb d_Md_lookElement_156 hl (by decide) rfl (fun ls hl => ?_)
      refine lv_iload hx hb d_Md_lookElement_158 (lv_at hl 0 rfl) ?_
      refine lv_if_eq (tgt := 182) hx hb d_Md_lookElement_160 (by decide) (fun c_160 => absurd c_160 (by decide)) (fun c_160 => ?_)
      refine lv_iload_n hx hb d_Md_lookElement_163 rfl (lv_at hl 3 rfl) ?_
      refine lv_iconst (v := 4) hx hb d_Md_lookElement_164 (by decide) ?_
      refine lv_iand hx hb d_Md_lookElement_165 ?_
      refine W.eq (g2 := F0 m 166 ls [.int 0]) (by rw [show (2 : Int32) &&& 4 = 0 from by decide +kernel]) ?_
      refine lv_if_eq (tgt := 182) hx hb d_Md_lookElement_166 (by decide) (fun c_166 => ?_) (fun c_166 => absurd (by decide) c_166)
      refine lv_ldc2 hx hb hown (hts _ (List.mem_cons_of_mem _ iw4_168)) d_Md_lookElement_182 ?_
      refine lv_lstore (lv' := [(8, .long 112), (7, .int 1), (5, .long (lN v)), (4, .int 1), (3, .int 2), (0, .ref m0), (1, .int (nI t)), (2, .int 1)]) hx hb d_Md_lookElement_185 hl (by decide) rfl (fun ls hl => ?_)
      refine lv_aload_n hx hb d_Md_lookElement_187 rfl (lv_at hl 5 rfl) ?_
      refine lv_dup hx hb d_Md_lookElement_188 rfl ?_
      refine va_get (D := D) (ci := 6) (v := .int (nI a2)) (C := R_Md) (T := F_Md) (N := 44) hx hb hts (fun w h => List.mem_cons_of_mem _ (i_Md w h)) hown hE.1 hP 0 rfl rfl 43 (by decide) (hts _ (List.mem_cons_of_mem _ iw3_97)) (fun _ h9 => h9) rfl d_Md_lookElement_189 ?_
      refine lv_iload hx hb d_Md_lookElement_192 (lv_at hl 1 rfl) ?_
      refine lv_if_eq (tgt := 201) hx hb d_Md_lookElement_194 (by decide) (fun c_194 => absurd c_194 (by decide)) (fun c_194 => ?_)
      refine lv_iconst (v := 1) hx hb d_Md_lookElement_197 (by decide) ?_
      refine lv_goto (tgt := 202) hx hb d_Md_lookElement_198 (by decide) ?_
      refine lv_iadd hx hb d_Md_lookElement_202 ?_
      rw [nI_1]
      refine va_put (D := D) (ci := 6) (v := .int (nI (a2 + 1))) (ty := .int) (C := R_Md) (T := F_Md) (N := 44) hx hb hts (fun w h => List.mem_cons_of_mem _ (i_Md w h)) t_Md tk_Md n_Md hown hE.1 hP hD hS 0 rfl rfl 43 (by decide) (hts _ (List.mem_cons_of_mem _ iw3_97)) (fun _ h9 => h9) rfl (by decide +kernel) rfl rfl (Nat.le_of_ble_eq_true rfl) d_Md_lookElement_203 (fun H locs hP hD hS => ?_)
      have hP : va_P D cls [(m0, .inr (6, mF g (K.1, K.2.1, K.2.2.1, K.2.2.2.1, nI X.length, K.2.2.2.2.2.1, K.2.2.2.2.2.2.1, K.2.2.2.2.2.2.2.1, nI (a2 + 1)) A0 e np B)), ((g 30), .inl (cA 3, 2000, .inl yb)), ((g 38), .inl (cA 3, 2000, .inl ow)), ((g 39), .inl (cA 3, 2000, .inl fi)), ((g 40), .inl (cA 3, 2000, .inl be))] H := hP
      have hD : va_D A [(m0, .inr (6, mF g (K.1, K.2.1, K.2.2.1, K.2.2.2.1, nI X.length, K.2.2.2.2.2.1, K.2.2.2.2.2.2.1, K.2.2.2.2.2.2.2.1, nI (a2 + 1)) A0 e np B)), ((g 30), .inl (cA 3, 2000, .inl yb)), ((g 38), .inl (cA 3, 2000, .inl ow)), ((g 39), .inl (cA 3, 2000, .inl fi)), ((g 40), .inl (cA 3, 2000, .inl be))] := hD
      refine lv_iload_n hx hb d_Md_lookElement_206 rfl (lv_at hl 7 rfl) ?_
      refine lv_iconst (v := 1) hx hb d_Md_lookElement_207 (by decide) ?_
      refine lv_icmp_ne (tgt := 214) hx hb d_Md_lookElement_208 (by decide) (fun c_208 => absurd (by decide) c_208) (fun c_208 => ?_)
      refine lv_lload hx hb d_Md_lookElement_211 (lv_at hl 0 rfl) ?_
      exact cRl (nI (a2 + 1)) hx hb hr hlocks d_Md_lookElement_213 hS hP hD (rfl) (Nat.le_refl _) (Nat.le_refl _)
    · have hl : lv_has ls 13 [(0, .ref m0), (1, .int (nI t)), (2, .int 2)] := hl
      refine lv_aload_n hx hb d_Md_lookElement_0 rfl (lv_at hl 0 rfl) ?_
      refine cV (As := []) (rest := []) (n := 0) (wc := [(m0, .inr (6, mF g (K.1, K.2.1, K.2.2.1, K.2.2.2.1, nI X.length, K.2.2.2.2.2.1, K.2.2.2.2.2.2.1, K.2.2.2.2.2.2.2.1, nI a) A0 e np B)), ((g 30), .inl (cA 3, 2000, .inl yb))]) (wr := [((g 38), .inl (cA 3, 2000, .inl ow)), ((g 39), .inl (cA 3, 2000, .inl fi)), ((g 40), .inl (cA 3, 2000, .inl be))]) ⟨hx, hb, hml, hown, hts⟩ hno hlocks hl.1 (c_Md_number l hl9 D cA ad s.heap.size m0 g (K.1, K.2.1, K.2.2.1, K.2.2.2.1, nI X.length, K.2.2.2.2.2.1, K.2.2.2.2.2.2.1, K.2.2.2.2.2.2.2.1, nI a) A0 e np B yb b lm hlm hyb hb9 a 2 a1 (by omega) hmu) iw4_132 iw4_134 sel_Md_number iw1_7 iw4_135 (by decide +kernel) rfl ⟨Nat.le_of_ble_eq_true rfl, Nat.le_of_ble_eq_true rfl⟩ ⟨Nat.le_of_ble_eq_true rfl, Nat.le_of_ble_eq_true rfl⟩ rfl (Nat.le_of_ble_eq_true rfl) d_Md_lookElement_1 hE hP hD hS hA [0, 1] [2, 3, 4] rfl rfl rfl rfl (by decide) (ci := 6) rfl rfl 0 rfl (fun _ h => h.elim) (fun v_1 u_1 H locs hp_1 hP hD hS => ?_)
      obtain rfl := hp_1
      have hP : va_P D cls [(m0, .inr (6, mF g (K.1, K.2.1, K.2.2.1, K.2.2.2.1, nI X.length, K.2.2.2.2.2.1, K.2.2.2.2.2.2.1, K.2.2.2.2.2.2.2.1, nI a1) A0 e np B)), ((g 30), .inl (cA 3, 2000, .inl yb)), ((g 38), .inl (cA 3, 2000, .inl ow)), ((g 39), .inl (cA 3, 2000, .inl fi)), ((g 40), .inl (cA 3, 2000, .inl be))] H := hP.sub [3, 4, 0, 1, 2] rfl
      have hD : va_D A [(m0, .inr (6, mF g (K.1, K.2.1, K.2.2.1, K.2.2.2.1, nI X.length, K.2.2.2.2.2.1, K.2.2.2.2.2.2.1, K.2.2.2.2.2.2.2.1, nI a1) A0 e np B)), ((g 30), .inl (cA 3, 2000, .inl yb)), ((g 38), .inl (cA 3, 2000, .inl ow)), ((g 39), .inl (cA 3, 2000, .inl fi)), ((g 40), .inl (cA 3, 2000, .inl be))] := hD.sub [3, 4, 0, 1, 2] (by decide) rfl
      refine W.cs (cells' := 0) (slots' := 0) rfl rfl ?_
      refine W.eq (g2 := F0 m 4 ls [.long (lN 2)]) rfl ?_
      refine lv_l2i hx hb d_Md_lookElement_4 rfl ?_
      refine W.eq (g2 := F0 m 5 ls [.int 2]) (by rw [lN_i]; rfl) ?_
      refine lv_istore_n (lv' := [(3, .int 2), (0, .ref m0), (1, .int (nI t)), (2, .int 2)]) hx hb d_Md_lookElement_5 rfl hl (by decide) rfl (fun ls hl => ?_)
      refine lv_iload_n hx hb d_Md_lookElement_6 rfl (lv_at hl 0 rfl) ?_
      refine lv_iconst (v := 1) hx hb d_Md_lookElement_7 (by decide) ?_
      refine lv_iand hx hb d_Md_lookElement_8 ?_
      refine W.eq (g2 := F0 m 9 ls [.int 0]) (by rw [show (2 : Int32) &&& 1 = 0 from by decide +kernel]) ?_
      refine lv_if_ne (tgt := 16) hx hb d_Md_lookElement_9 (by decide) (fun c_9 => absurd (by decide) c_9) (fun c_9 => ?_)
      refine lv_iconst (v := 1) hx hb d_Md_lookElement_12 (by decide) ?_
      refine lv_goto (tgt := 17) hx hb d_Md_lookElement_13 (by decide) ?_
      refine lv_istore (lv' := [(4, .int 1), (3, .int 2), (0, .ref m0), (1, .int (nI t)), (2, .int 2)]) hx hb d_Md_lookElement_17 hl (by decide) rfl (fun ls hl => ?_)
      refine lv_iload hx hb d_Md_lookElement_19 (lv_at hl 0 rfl) ?_
      refine lv_if_eq (tgt := 37) hx hb d_Md_lookElement_21 (by decide) (fun c_21 => absurd c_21 (by decide)) (fun c_21 => ?_)
      refine lv_iload_n hx hb d_Md_lookElement_24 rfl (lv_at hl 1 rfl) ?_
      refine lv_iconst (v := 2) hx hb d_Md_lookElement_25 (by decide) ?_
      refine lv_iand hx hb d_Md_lookElement_26 ?_
      refine W.eq (g2 := F0 m 27 ls [.int 2]) (by rw [show (2 : Int32) &&& 2 = 2 from by decide +kernel]) ?_
      refine lv_if_eq (tgt := 37) hx hb d_Md_lookElement_27 (by decide) (fun c_27 => absurd c_27 (by decide)) (fun c_27 => ?_)
      refine lv_aload_n hx hb d_Md_lookElement_30 rfl (lv_at hl 2 rfl) ?_
      refine cV (As := []) (rest := []) (n := 0) (wc := [(m0, .inr (6, mF g (K.1, K.2.1, K.2.2.1, K.2.2.2.1, nI X.length, K.2.2.2.2.2.1, K.2.2.2.2.2.2.1, K.2.2.2.2.2.2.2.1, nI a1) A0 e np B)), ((g 30), .inl (cA 3, 2000, .inl yb))]) (wr := [((g 38), .inl (cA 3, 2000, .inl ow)), ((g 39), .inl (cA 3, 2000, .inl fi)), ((g 40), .inl (cA 3, 2000, .inl be))]) ⟨hx, hb, hml, hown, hts⟩ hno hlocks hl.1 (c_Md_number l hl9 D cA ad H.size m0 g (K.1, K.2.1, K.2.2.1, K.2.2.2.1, nI X.length, K.2.2.2.2.2.1, K.2.2.2.2.2.2.1, K.2.2.2.2.2.2.2.1, nI a1) A0 e np B yb b lm hlm hyb hb9 a1 v b8 (by omega) hv8) iw4_132 iw4_134 sel_Md_number iw1_7 iw4_135 (by decide +kernel) rfl ⟨Nat.le_of_ble_eq_true rfl, Nat.le_of_ble_eq_true rfl⟩ ⟨Nat.le_of_ble_eq_true rfl, Nat.le_of_ble_eq_true rfl⟩ rfl (Nat.le_of_ble_eq_true rfl) d_Md_lookElement_31 hE hP hD hS hA [0, 1] [2, 3, 4] rfl rfl rfl rfl (by decide) (ci := 6) rfl rfl 0 rfl (fun _ h => h.elim) (fun v_31 u_31 H locs hp_31 hP hD hS => ?_)
      obtain rfl := hp_31
      have hP : va_P D cls [(m0, .inr (6, mF g (K.1, K.2.1, K.2.2.1, K.2.2.2.1, nI X.length, K.2.2.2.2.2.1, K.2.2.2.2.2.2.1, K.2.2.2.2.2.2.2.1, nI b8) A0 e np B)), ((g 30), .inl (cA 3, 2000, .inl yb)), ((g 38), .inl (cA 3, 2000, .inl ow)), ((g 39), .inl (cA 3, 2000, .inl fi)), ((g 40), .inl (cA 3, 2000, .inl be))] H := hP.sub [3, 4, 0, 1, 2] rfl
      have hD : va_D A [(m0, .inr (6, mF g (K.1, K.2.1, K.2.2.1, K.2.2.2.1, nI X.length, K.2.2.2.2.2.1, K.2.2.2.2.2.2.1, K.2.2.2.2.2.2.2.1, nI b8) A0 e np B)), ((g 30), .inl (cA 3, 2000, .inl yb)), ((g 38), .inl (cA 3, 2000, .inl ow)), ((g 39), .inl (cA 3, 2000, .inl fi)), ((g 40), .inl (cA 3, 2000, .inl be))] := hD.sub [3, 4, 0, 1, 2] (by decide) rfl
      refine W.cs (cells' := 0) (slots' := 0) rfl rfl ?_
      refine W.eq (g2 := F0 m 34 ls [.long (lN v)]) rfl ?_
      refine lv_goto (tgt := 38) hx hb d_Md_lookElement_34 (by decide) ?_
      refine lv_lstore (lv' := [(5, .long (lN v)), (4, .int 1), (3, .int 2), (0, .ref m0), (1, .int (nI t)), (2, .int 2)]) hx hb d_Md_lookElement_38 hl (by decide) rfl (fun ls hl => ?_)
      refine lv_iload_n hx hb d_Md_lookElement_40 rfl (lv_at hl 5 rfl) ?_
      refine lv_if_ne (tgt := 67) hx hb d_Md_lookElement_41 (by decide) (fun c_41 => ?_) (fun c_41 => absurd c_41 (by decide))
      refine lv_iload_n hx hb d_Md_lookElement_67 rfl (lv_at hl 5 rfl) ?_
      refine lv_iconst (v := 2) hx hb d_Md_lookElement_68 (by decide) ?_
      refine lv_icmp_ne (tgt := 75) hx hb d_Md_lookElement_69 (by decide) (fun c_69 => absurd (by decide) c_69) (fun c_69 => ?_)
      refine lv_lload hx hb d_Md_lookElement_72 (lv_at hl 0 rfl) ?_
      exact cRl (nI b8) hx hb hr hlocks d_Md_lookElement_74 hS hP hD (rfl) (Nat.le_refl _) (Nat.le_refl _)
    · have hl : lv_has ls 13 [(0, .ref m0), (1, .int (nI t)), (2, .int 3)] := hl
      refine lv_aload_n hx hb d_Md_lookElement_0 rfl (lv_at hl 0 rfl) ?_
      refine cV (As := []) (rest := []) (n := 0) (wc := [(m0, .inr (6, mF g (K.1, K.2.1, K.2.2.1, K.2.2.2.1, nI X.length, K.2.2.2.2.2.1, K.2.2.2.2.2.2.1, K.2.2.2.2.2.2.2.1, nI a) A0 e np B)), ((g 30), .inl (cA 3, 2000, .inl yb))]) (wr := [((g 38), .inl (cA 3, 2000, .inl ow)), ((g 39), .inl (cA 3, 2000, .inl fi)), ((g 40), .inl (cA 3, 2000, .inl be))]) ⟨hx, hb, hml, hown, hts⟩ hno hlocks hl.1 (c_Md_number l hl9 D cA ad s.heap.size m0 g (K.1, K.2.1, K.2.2.1, K.2.2.2.1, nI X.length, K.2.2.2.2.2.1, K.2.2.2.2.2.2.1, K.2.2.2.2.2.2.2.1, nI a) A0 e np B yb b lm hlm hyb hb9 a 2 a1 (by omega) hmu) iw4_132 iw4_134 sel_Md_number iw1_7 iw4_135 (by decide +kernel) rfl ⟨Nat.le_of_ble_eq_true rfl, Nat.le_of_ble_eq_true rfl⟩ ⟨Nat.le_of_ble_eq_true rfl, Nat.le_of_ble_eq_true rfl⟩ rfl (Nat.le_of_ble_eq_true rfl) d_Md_lookElement_1 hE hP hD hS hA [0, 1] [2, 3, 4] rfl rfl rfl rfl (by decide) (ci := 6) rfl rfl 0 rfl (fun _ h => h.elim) (fun v_1 u_1 H locs hp_1 hP hD hS => ?_)
      obtain rfl := hp_1
      have hP : va_P D cls [(m0, .inr (6, mF g (K.1, K.2.1, K.2.2.1, K.2.2.2.1, nI X.length, K.2.2.2.2.2.1, K.2.2.2.2.2.2.1, K.2.2.2.2.2.2.2.1, nI a1) A0 e np B)), ((g 30), .inl (cA 3, 2000, .inl yb)), ((g 38), .inl (cA 3, 2000, .inl ow)), ((g 39), .inl (cA 3, 2000, .inl fi)), ((g 40), .inl (cA 3, 2000, .inl be))] H := hP.sub [3, 4, 0, 1, 2] rfl
      have hD : va_D A [(m0, .inr (6, mF g (K.1, K.2.1, K.2.2.1, K.2.2.2.1, nI X.length, K.2.2.2.2.2.1, K.2.2.2.2.2.2.1, K.2.2.2.2.2.2.2.1, nI a1) A0 e np B)), ((g 30), .inl (cA 3, 2000, .inl yb)), ((g 38), .inl (cA 3, 2000, .inl ow)), ((g 39), .inl (cA 3, 2000, .inl fi)), ((g 40), .inl (cA 3, 2000, .inl be))] := hD.sub [3, 4, 0, 1, 2] (by decide) rfl
      refine W.cs (cells' := 0) (slots' := 0) rfl rfl ?_
      refine W.eq (g2 := F0 m 4 ls [.long (lN 2)]) rfl ?_
      refine lv_l2i hx hb d_Md_lookElement_4 rfl ?_
      refine W.eq (g2 := F0 m 5 ls [.int 2]) (by rw [lN_i]; rfl) ?_
      refine lv_istore_n (lv' := [(3, .int 2), (0, .ref m0), (1, .int (nI t)), (2, .int 3)]) hx hb d_Md_lookElement_5 rfl hl (by decide) rfl (fun ls hl => ?_)
      refine lv_iload_n hx hb d_Md_lookElement_6 rfl (lv_at hl 0 rfl) ?_
      refine lv_iconst (v := 1) hx hb d_Md_lookElement_7 (by decide) ?_
      refine lv_iand hx hb d_Md_lookElement_8 ?_
      refine W.eq (g2 := F0 m 9 ls [.int 0]) (by rw [show (2 : Int32) &&& 1 = 0 from by decide +kernel]) ?_
      refine lv_if_ne (tgt := 16) hx hb d_Md_lookElement_9 (by decide) (fun c_9 => absurd (by decide) c_9) (fun c_9 => ?_)
      refine lv_iconst (v := 1) hx hb d_Md_lookElement_12 (by decide) ?_
      refine lv_goto (tgt := 17) hx hb d_Md_lookElement_13 (by decide) ?_
      refine lv_istore (lv' := [(4, .int 1), (3, .int 2), (0, .ref m0), (1, .int (nI t)), (2, .int 3)]) hx hb d_Md_lookElement_17 hl (by decide) rfl (fun ls hl => ?_)
      refine lv_iload hx hb d_Md_lookElement_19 (lv_at hl 0 rfl) ?_
      refine lv_if_eq (tgt := 37) hx hb d_Md_lookElement_21 (by decide) (fun c_21 => absurd c_21 (by decide)) (fun c_21 => ?_)
      refine lv_iload_n hx hb d_Md_lookElement_24 rfl (lv_at hl 1 rfl) ?_
      refine lv_iconst (v := 2) hx hb d_Md_lookElement_25 (by decide) ?_
      refine lv_iand hx hb d_Md_lookElement_26 ?_
      refine W.eq (g2 := F0 m 27 ls [.int 2]) (by rw [show (2 : Int32) &&& 2 = 2 from by decide +kernel]) ?_
      refine lv_if_eq (tgt := 37) hx hb d_Md_lookElement_27 (by decide) (fun c_27 => absurd c_27 (by decide)) (fun c_27 => ?_)
      refine lv_aload_n hx hb d_Md_lookElement_30 rfl (lv_at hl 2 rfl) ?_
      refine cV (As := []) (rest := []) (n := 0) (wc := [(m0, .inr (6, mF g (K.1, K.2.1, K.2.2.1, K.2.2.2.1, nI X.length, K.2.2.2.2.2.1, K.2.2.2.2.2.2.1, K.2.2.2.2.2.2.2.1, nI a1) A0 e np B)), ((g 30), .inl (cA 3, 2000, .inl yb))]) (wr := [((g 38), .inl (cA 3, 2000, .inl ow)), ((g 39), .inl (cA 3, 2000, .inl fi)), ((g 40), .inl (cA 3, 2000, .inl be))]) ⟨hx, hb, hml, hown, hts⟩ hno hlocks hl.1 (c_Md_number l hl9 D cA ad H.size m0 g (K.1, K.2.1, K.2.2.1, K.2.2.2.1, nI X.length, K.2.2.2.2.2.1, K.2.2.2.2.2.2.1, K.2.2.2.2.2.2.2.1, nI a1) A0 e np B yb b lm hlm hyb hb9 a1 v b8 (by omega) hv8) iw4_132 iw4_134 sel_Md_number iw1_7 iw4_135 (by decide +kernel) rfl ⟨Nat.le_of_ble_eq_true rfl, Nat.le_of_ble_eq_true rfl⟩ ⟨Nat.le_of_ble_eq_true rfl, Nat.le_of_ble_eq_true rfl⟩ rfl (Nat.le_of_ble_eq_true rfl) d_Md_lookElement_31 hE hP hD hS hA [0, 1] [2, 3, 4] rfl rfl rfl rfl (by decide) (ci := 6) rfl rfl 0 rfl (fun _ h => h.elim) (fun v_31 u_31 H locs hp_31 hP hD hS => ?_)
      obtain rfl := hp_31
      have hP : va_P D cls [(m0, .inr (6, mF g (K.1, K.2.1, K.2.2.1, K.2.2.2.1, nI X.length, K.2.2.2.2.2.1, K.2.2.2.2.2.2.1, K.2.2.2.2.2.2.2.1, nI b8) A0 e np B)), ((g 30), .inl (cA 3, 2000, .inl yb)), ((g 38), .inl (cA 3, 2000, .inl ow)), ((g 39), .inl (cA 3, 2000, .inl fi)), ((g 40), .inl (cA 3, 2000, .inl be))] H := hP.sub [3, 4, 0, 1, 2] rfl
      have hD : va_D A [(m0, .inr (6, mF g (K.1, K.2.1, K.2.2.1, K.2.2.2.1, nI X.length, K.2.2.2.2.2.1, K.2.2.2.2.2.2.1, K.2.2.2.2.2.2.2.1, nI b8) A0 e np B)), ((g 30), .inl (cA 3, 2000, .inl yb)), ((g 38), .inl (cA 3, 2000, .inl ow)), ((g 39), .inl (cA 3, 2000, .inl fi)), ((g 40), .inl (cA 3, 2000, .inl be))] := hD.sub [3, 4, 0, 1, 2] (by decide) rfl
      refine W.cs (cells' := 0) (slots' := 0) rfl rfl ?_
      refine W.eq (g2 := F0 m 34 ls [.long (lN v)]) rfl ?_
      refine lv_goto (tgt := 38) hx hb d_Md_lookElement_34 (by decide) ?_
      refine lv_lstore (lv' := [(5, .long (lN v)), (4, .int 1), (3, .int 2), (0, .ref m0), (1, .int (nI t)), (2, .int 3)]) hx hb d_Md_lookElement_38 hl (by decide) rfl (fun ls hl => ?_)
      refine lv_iload_n hx hb d_Md_lookElement_40 rfl (lv_at hl 5 rfl) ?_
      refine lv_if_ne (tgt := 67) hx hb d_Md_lookElement_41 (by decide) (fun c_41 => ?_) (fun c_41 => absurd c_41 (by decide))
      refine lv_iload_n hx hb d_Md_lookElement_67 rfl (lv_at hl 5 rfl) ?_
      refine lv_iconst (v := 2) hx hb d_Md_lookElement_68 (by decide) ?_
      refine lv_icmp_ne (tgt := 75) hx hb d_Md_lookElement_69 (by decide) (fun c_69 => ?_) (fun c_69 => absurd c_69 (by decide))
      refine lv_iload_n hx hb d_Md_lookElement_75 rfl (lv_at hl 5 rfl) ?_
      refine lv_iconst (v := 4) hx hb d_Md_lookElement_76 (by decide) ?_
      refine lv_icmp_eq (tgt := 85) hx hb d_Md_lookElement_77 (by decide) (fun c_77 => absurd c_77 (by decide)) (fun c_77 => ?_)
      refine lv_iload_n hx hb d_Md_lookElement_80 rfl (lv_at hl 5 rfl) ?_
      refine lv_iconst (v := 5) hx hb d_Md_lookElement_81 (by decide) ?_
      refine lv_icmp_ne (tgt := 104) hx hb d_Md_lookElement_82 (by decide) (fun c_82 => ?_) (fun c_82 => absurd c_82 (by decide))
      refine lv_iload_n hx hb d_Md_lookElement_104 rfl (lv_at hl 5 rfl) ?_
      refine lv_bipush (v := 6) hx hb d_Md_lookElement_105 (by decide) ?_
      refine lv_icmp_ne (tgt := 122) hx hb d_Md_lookElement_107 (by decide) (fun c_107 => ?_) (fun c_107 => absurd c_107 (by decide))
      refine lv_iload hx hb d_Md_lookElement_122 (lv_at hl 1 rfl) ?_
      refine lv_if_eq (tgt := 142) hx hb d_Md_lookElement_124 (by decide) (fun c_124 => absurd c_124 (by decide)) (fun c_124 => ?_)
      refine lv_aload_n hx hb d_Md_lookElement_127 rfl (lv_at hl 3 rfl) ?_
      refine lv_aload_n hx hb d_Md_lookElement_128 rfl (lv_at hl 3 rfl) ?_
      refine va_get (D := D) (ci := 6) (v := .ref (g 40)) (C := R_Md) (T := F_Md) (N := 44) hx hb hts (fun w h => List.mem_cons_of_mem _ (i_Md w h)) hown hE.1 hP 0 rfl rfl 40 (by decide) (hts _ (List.mem_cons_of_mem _ iw3_94)) (fun _ h9 => h9) rfl d_Md_lookElement_129 ?_
      refine lv_aload_n hx hb d_Md_lookElement_132 rfl (lv_at hl 3 rfl) ?_
      refine lv_iload_n hx hb d_Md_lookElement_133 rfl (lv_at hl 4 rfl) ?_
      refine lv_iconst (v := 0) hx hb d_Md_lookElement_134 (by decide) ?_
      refine cV (As := [.int (nI t), .int 0]) (rest := [.ref (g 40), .ref m0]) (n := 2) (wc := [(m0, .inr (6, mF g (K.1, K.2.1, K.2.2.1, K.2.2.2.1, nI X.length, K.2.2.2.2.2.1, K.2.2.2.2.2.2.1, K.2.2.2.2.2.2.2.1, nI b8) A0 e np B)), ((g 38), .inl (cA 3, 2000, .inl ow))]) (wr := [((g 30), .inl (cA 3, 2000, .inl yb)), ((g 39), .inl (cA 3, 2000, .inl fi)), ((g 40), .inl (cA 3, 2000, .inl be))]) ⟨hx, hb, hml, hown, hts⟩ hno hlocks hl.1 (c_Md_expressionOf l hl9 D cA ad H.size m0 g (K.1, K.2.1, K.2.2.1, K.2.2.2.1, nI X.length, K.2.2.2.2.2.1, K.2.2.2.2.2.2.1, K.2.2.2.2.2.2.2.1, nI b8) A0 e np B ow fi be X hXH hXf hX t (by omega) 0 (by omega)) iw4_156 iw4_158 sel_Md_expressionOf iw1_7 iw4_159 (by decide +kernel) rfl ⟨Nat.le_of_ble_eq_true rfl, Nat.le_of_ble_eq_true rfl⟩ ⟨Nat.le_of_ble_eq_true rfl, Nat.le_of_ble_eq_true rfl⟩ rfl (Nat.le_of_ble_eq_true rfl) d_Md_lookElement_135 hE hP hD hS hA [0, 2] [1, 3, 4] rfl rfl rfl rfl (by decide) (ci := 6) rfl rfl 0 rfl (fun _ h => h.elim) (fun v_135 u_135 H locs hp_135 hP hD hS => ?_)
      rcases hp_135 with ⟨rfl, hno254⟩ | ⟨e254_, f254_, z254_, he254, rfl, hg254, hfi254, hbe254, hfb254, hzb254⟩
      · exact absurd hno254 (by rw [hexx]; simp)
      have hP : va_P D cls [(m0, .inr (6, mF g (K.1, K.2.1, K.2.2.1, K.2.2.2.1, nI X.length, K.2.2.2.2.2.1, K.2.2.2.2.2.2.1, K.2.2.2.2.2.2.2.1, nI b8) A0 e np B)), ((g 30), .inl (cA 3, 2000, .inl yb)), ((g 38), .inl (cA 3, 2000, .inl ow)), ((g 39), .inl (cA 3, 2000, .inl fi)), ((g 40), .inl (cA 3, 2000, .inl be))] H := hP.sub [3, 0, 4, 1, 2] rfl
      have hD : va_D A [(m0, .inr (6, mF g (K.1, K.2.1, K.2.2.1, K.2.2.2.1, nI X.length, K.2.2.2.2.2.1, K.2.2.2.2.2.2.1, K.2.2.2.2.2.2.2.1, nI b8) A0 e np B)), ((g 30), .inl (cA 3, 2000, .inl yb)), ((g 38), .inl (cA 3, 2000, .inl ow)), ((g 39), .inl (cA 3, 2000, .inl fi)), ((g 40), .inl (cA 3, 2000, .inl be))] := hD.sub [3, 0, 4, 1, 2] (by decide) rfl
      refine W.cs (cells' := 0) (slots' := 0) rfl rfl ?_
      refine W.eq (g2 := F0 m 138 ls [.int (nI e254_), .ref (g 40), .ref m0]) rfl ?_
      refine va_iald hx hb hE.1 hP 4 3 rfl rfl (vp_in_nI (by omega) (by omega)) d_Md_lookElement_138 ?_
      rw [nI_clamp (n := e254_) (by omega), hbe254, show z254_ = a2 from by rw [hexx] at hg254; exact (congrArg Prod.snd (Option.some.inj hg254)).symm]
      refine va_put (D := D) (ci := 6) (v := .int (nI a2)) (ty := .int) (C := R_Md) (T := F_Md) (N := 44) hx hb hts (fun w h => List.mem_cons_of_mem _ (i_Md w h)) t_Md tk_Md n_Md hown hE.1 hP hD hS 0 rfl rfl 43 (by decide) (hts _ (List.mem_cons_of_mem _ iw3_97)) (fun _ h9 => h9) rfl (by decide +kernel) rfl rfl (Nat.le_of_ble_eq_true rfl) d_Md_lookElement_139 (fun H locs hP hD hS => ?_)
      have hP : va_P D cls [(m0, .inr (6, mF g (K.1, K.2.1, K.2.2.1, K.2.2.2.1, nI X.length, K.2.2.2.2.2.1, K.2.2.2.2.2.2.1, K.2.2.2.2.2.2.2.1, nI a2) A0 e np B)), ((g 30), .inl (cA 3, 2000, .inl yb)), ((g 38), .inl (cA 3, 2000, .inl ow)), ((g 39), .inl (cA 3, 2000, .inl fi)), ((g 40), .inl (cA 3, 2000, .inl be))] H := hP
      have hD : va_D A [(m0, .inr (6, mF g (K.1, K.2.1, K.2.2.1, K.2.2.2.1, nI X.length, K.2.2.2.2.2.1, K.2.2.2.2.2.2.1, K.2.2.2.2.2.2.2.1, nI a2) A0 e np B)), ((g 30), .inl (cA 3, 2000, .inl yb)), ((g 38), .inl (cA 3, 2000, .inl ow)), ((g 39), .inl (cA 3, 2000, .inl fi)), ((g 40), .inl (cA 3, 2000, .inl be))] := hD
      refine lv_iload_n hx hb d_Md_lookElement_142 rfl (lv_at hl 2 rfl) ?_
      refine lv_if_eq (tgt := 155) hx hb d_Md_lookElement_143 (by decide) (fun c_143 => absurd c_143 (by decide)) (fun c_143 => ?_)
      refine lv_iload_n hx hb d_Md_lookElement_146 rfl (lv_at hl 2 rfl) ?_
      refine lv_iconst (v := 4) hx hb d_Md_lookElement_147 (by decide) ?_
      refine lv_icmp_eq (tgt := 155) hx hb d_Md_lookElement_148 (by decide) (fun c_148 => absurd c_148 (by decide)) (fun c_148 => ?_)
      refine lv_iconst (v := 1) hx hb d_Md_lookElement_151 (by decide) ?_
      refine lv_goto (tgt := 156) hx hb d_Md_lookElement_152 (by decide) ?_
      refine lv_istore (lv' := [(7, .int 1), (5, .long (lN v)), (4, .int 1), (3, .int 2), (0, .ref m0), (1, .int (nI t)), (2, .int 3)]) hx hb d_Md_lookElement_156 hl (by decide) rfl (fun ls hl => ?_)
      refine lv_iload hx hb d_Md_lookElement_158 (lv_at hl 0 rfl) ?_
      refine lv_if_eq (tgt := 182) hx hb d_Md_lookElement_160 (by decide) (fun c_160 => absurd c_160 (by decide)) (fun c_160 => ?_)
      refine lv_iload_n hx hb d_Md_lookElement_163 rfl (lv_at hl 3 rfl) ?_
      refine lv_iconst (v := 4) hx hb d_Md_lookElement_164 (by decide) ?_
      refine lv_iand hx hb d_Md_lookElement_165 ?_
      refine W.eq (g2 := F0 m 166 ls [.int 0]) (by rw [show (2 : Int32) &&& 4 = 0 from by decide +kernel]) ?_
      refine lv_if_eq (tgt := 182) hx hb d_Md_lookElement_166 (by decide) (fun c_166 => ?_) (fun c_166 => absurd (by decide) c_166)
      refine lv_ldc2 hx hb hown (hts _ (List.mem_cons_of_mem _ iw4_168)) d_Md_lookElement_182 ?_
      refine lv_lstore (lv' := [(8, .long 112), (7, .int 1), (5, .long (lN v)), (4, .int 1), (3, .int 2), (0, .ref m0), (1, .int (nI t)), (2, .int 3)]) hx hb d_Md_lookElement_185 hl (by decide) rfl (fun ls hl => ?_)
      refine lv_aload_n hx hb d_Md_lookElement_187 rfl (lv_at hl 5 rfl) ?_
      refine lv_dup hx hb d_Md_lookElement_188 rfl ?_
      refine va_get (D := D) (ci := 6) (v := .int (nI a2)) (C := R_Md) (T := F_Md) (N := 44) hx hb hts (fun w h => List.mem_cons_of_mem _ (i_Md w h)) hown hE.1 hP 0 rfl rfl 43 (by decide) (hts _ (List.mem_cons_of_mem _ iw3_97)) (fun _ h9 => h9) rfl d_Md_lookElement_189 ?_
      refine lv_iload hx hb d_Md_lookElement_192 (lv_at hl 1 rfl) ?_
      refine lv_if_eq (tgt := 201) hx hb d_Md_lookElement_194 (by decide) (fun c_194 => absurd c_194 (by decide)) (fun c_194 => ?_)
      refine lv_iconst (v := 1) hx hb d_Md_lookElement_197 (by decide) ?_
      refine lv_goto (tgt := 202) hx hb d_Md_lookElement_198 (by decide) ?_
      refine lv_iadd hx hb d_Md_lookElement_202 ?_
      rw [nI_1]
      refine va_put (D := D) (ci := 6) (v := .int (nI (a2 + 1))) (ty := .int) (C := R_Md) (T := F_Md) (N := 44) hx hb hts (fun w h => List.mem_cons_of_mem _ (i_Md w h)) t_Md tk_Md n_Md hown hE.1 hP hD hS 0 rfl rfl 43 (by decide) (hts _ (List.mem_cons_of_mem _ iw3_97)) (fun _ h9 => h9) rfl (by decide +kernel) rfl rfl (Nat.le_of_ble_eq_true rfl) d_Md_lookElement_203 (fun H locs hP hD hS => ?_)
      have hP : va_P D cls [(m0, .inr (6, mF g (K.1, K.2.1, K.2.2.1, K.2.2.2.1, nI X.length, K.2.2.2.2.2.1, K.2.2.2.2.2.2.1, K.2.2.2.2.2.2.2.1, nI (a2 + 1)) A0 e np B)), ((g 30), .inl (cA 3, 2000, .inl yb)), ((g 38), .inl (cA 3, 2000, .inl ow)), ((g 39), .inl (cA 3, 2000, .inl fi)), ((g 40), .inl (cA 3, 2000, .inl be))] H := hP
      have hD : va_D A [(m0, .inr (6, mF g (K.1, K.2.1, K.2.2.1, K.2.2.2.1, nI X.length, K.2.2.2.2.2.1, K.2.2.2.2.2.2.1, K.2.2.2.2.2.2.2.1, nI (a2 + 1)) A0 e np B)), ((g 30), .inl (cA 3, 2000, .inl yb)), ((g 38), .inl (cA 3, 2000, .inl ow)), ((g 39), .inl (cA 3, 2000, .inl fi)), ((g 40), .inl (cA 3, 2000, .inl be))] := hD
      refine lv_iload_n hx hb d_Md_lookElement_206 rfl (lv_at hl 7 rfl) ?_
      refine lv_iconst (v := 1) hx hb d_Md_lookElement_207 (by decide) ?_
      refine lv_icmp_ne (tgt := 214) hx hb d_Md_lookElement_208 (by decide) (fun c_208 => ?_) (fun c_208 => absurd c_208 (by decide))
      refine lv_aload_n hx hb d_Md_lookElement_214 rfl (lv_at hl 5 rfl) ?_
      refine cV (As := []) (rest := []) (n := 0) (wc := [(m0, .inr (6, mF g (K.1, K.2.1, K.2.2.1, K.2.2.2.1, nI X.length, K.2.2.2.2.2.1, K.2.2.2.2.2.2.1, K.2.2.2.2.2.2.2.1, nI (a2 + 1)) A0 e np B)), ((g 30), .inl (cA 3, 2000, .inl yb))]) (wr := [((g 38), .inl (cA 3, 2000, .inl ow)), ((g 39), .inl (cA 3, 2000, .inl fi)), ((g 40), .inl (cA 3, 2000, .inl be))]) ⟨hx, hb, hml, hown, hts⟩ hno hlocks hl.1 (c_Md_number l hl9 D cA ad H.size m0 g (K.1, K.2.1, K.2.2.1, K.2.2.2.1, nI X.length, K.2.2.2.2.2.1, K.2.2.2.2.2.2.1, K.2.2.2.2.2.2.2.1, nI (a2 + 1)) A0 e np B yb b lm hlm hyb hb9 (a2 + 1) n a4 (by omega) he4) iw4_132 iw4_134 sel_Md_number iw1_7 iw4_135 (by decide +kernel) rfl ⟨Nat.le_of_ble_eq_true rfl, Nat.le_of_ble_eq_true rfl⟩ ⟨Nat.le_of_ble_eq_true rfl, Nat.le_of_ble_eq_true rfl⟩ rfl (Nat.le_of_ble_eq_true rfl) d_Md_lookElement_215 hE hP hD hS hA [0, 1] [2, 3, 4] rfl rfl rfl rfl (by decide) (ci := 6) rfl rfl 0 rfl (fun _ h => h.elim) (fun v_215 u_215 H locs hp_215 hP hD hS => ?_)
      obtain rfl := hp_215
      have hP : va_P D cls [(m0, .inr (6, mF g (K.1, K.2.1, K.2.2.1, K.2.2.2.1, nI X.length, K.2.2.2.2.2.1, K.2.2.2.2.2.2.1, K.2.2.2.2.2.2.2.1, nI a4) A0 e np B)), ((g 30), .inl (cA 3, 2000, .inl yb)), ((g 38), .inl (cA 3, 2000, .inl ow)), ((g 39), .inl (cA 3, 2000, .inl fi)), ((g 40), .inl (cA 3, 2000, .inl be))] H := hP.sub [3, 4, 0, 1, 2] rfl
      have hD : va_D A [(m0, .inr (6, mF g (K.1, K.2.1, K.2.2.1, K.2.2.2.1, nI X.length, K.2.2.2.2.2.1, K.2.2.2.2.2.2.1, K.2.2.2.2.2.2.2.1, nI a4) A0 e np B)), ((g 30), .inl (cA 3, 2000, .inl yb)), ((g 38), .inl (cA 3, 2000, .inl ow)), ((g 39), .inl (cA 3, 2000, .inl fi)), ((g 40), .inl (cA 3, 2000, .inl be))] := hD.sub [3, 4, 0, 1, 2] (by decide) rfl
      refine W.cs (cells' := 0) (slots' := 0) rfl rfl ?_
      refine W.eq (g2 := F0 m 218 ls [.long (lN n)]) rfl ?_
      refine lv_lstore (lv' := [(10, .long (lN n)), (8, .long 112), (7, .int 1), (5, .long (lN v)), (4, .int 1), (3, .int 2), (0, .ref m0), (1, .int (nI t)), (2, .int 3)]) hx hb d_Md_lookElement_218 hl (by decide) rfl (fun ls hl => ?_)
      refine lv_iload_n hx hb d_Md_lookElement_220 rfl (lv_at hl 8 rfl) ?_
      refine lv_iconst (v := 3) hx hb d_Md_lookElement_221 (by decide) ?_
      refine lv_icmp_ne (tgt := 228) hx hb d_Md_lookElement_222 (by decide) (fun c_222 => absurd (by decide) c_222) (fun c_222 => ?_)
      refine lv_lload hx hb d_Md_lookElement_225 (lv_at hl 0 rfl) ?_
      exact cRl (nI a4) hx hb hr hlocks d_Md_lookElement_227 hS hP hD (rfl) (Nat.le_refl _) (Nat.le_refl _)
    · have hl : lv_has ls 13 [(0, .ref m0), (1, .int (nI t)), (2, .int 4)] := hl
      refine lv_aload_n hx hb d_Md_lookElement_0 rfl (lv_at hl 0 rfl) ?_
      refine cV (As := []) (rest := []) (n := 0) (wc := [(m0, .inr (6, mF g (K.1, K.2.1, K.2.2.1, K.2.2.2.1, nI X.length, K.2.2.2.2.2.1, K.2.2.2.2.2.2.1, K.2.2.2.2.2.2.2.1, nI a) A0 e np B)), ((g 30), .inl (cA 3, 2000, .inl yb))]) (wr := [((g 38), .inl (cA 3, 2000, .inl ow)), ((g 39), .inl (cA 3, 2000, .inl fi)), ((g 40), .inl (cA 3, 2000, .inl be))]) ⟨hx, hb, hml, hown, hts⟩ hno hlocks hl.1 (c_Md_number l hl9 D cA ad s.heap.size m0 g (K.1, K.2.1, K.2.2.1, K.2.2.2.1, nI X.length, K.2.2.2.2.2.1, K.2.2.2.2.2.2.1, K.2.2.2.2.2.2.2.1, nI a) A0 e np B yb b lm hlm hyb hb9 a 2 a1 (by omega) hmu) iw4_132 iw4_134 sel_Md_number iw1_7 iw4_135 (by decide +kernel) rfl ⟨Nat.le_of_ble_eq_true rfl, Nat.le_of_ble_eq_true rfl⟩ ⟨Nat.le_of_ble_eq_true rfl, Nat.le_of_ble_eq_true rfl⟩ rfl (Nat.le_of_ble_eq_true rfl) d_Md_lookElement_1 hE hP hD hS hA [0, 1] [2, 3, 4] rfl rfl rfl rfl (by decide) (ci := 6) rfl rfl 0 rfl (fun _ h => h.elim) (fun v_1 u_1 H locs hp_1 hP hD hS => ?_)
      obtain rfl := hp_1
      have hP : va_P D cls [(m0, .inr (6, mF g (K.1, K.2.1, K.2.2.1, K.2.2.2.1, nI X.length, K.2.2.2.2.2.1, K.2.2.2.2.2.2.1, K.2.2.2.2.2.2.2.1, nI a1) A0 e np B)), ((g 30), .inl (cA 3, 2000, .inl yb)), ((g 38), .inl (cA 3, 2000, .inl ow)), ((g 39), .inl (cA 3, 2000, .inl fi)), ((g 40), .inl (cA 3, 2000, .inl be))] H := hP.sub [3, 4, 0, 1, 2] rfl
      have hD : va_D A [(m0, .inr (6, mF g (K.1, K.2.1, K.2.2.1, K.2.2.2.1, nI X.length, K.2.2.2.2.2.1, K.2.2.2.2.2.2.1, K.2.2.2.2.2.2.2.1, nI a1) A0 e np B)), ((g 30), .inl (cA 3, 2000, .inl yb)), ((g 38), .inl (cA 3, 2000, .inl ow)), ((g 39), .inl (cA 3, 2000, .inl fi)), ((g 40), .inl (cA 3, 2000, .inl be))] := hD.sub [3, 4, 0, 1, 2] (by decide) rfl
      refine W.cs (cells' := 0) (slots' := 0) rfl rfl ?_
      refine W.eq (g2 := F0 m 4 ls [.long (lN 2)]) rfl ?_
      refine lv_l2i hx hb d_Md_lookElement_4 rfl ?_
      refine W.eq (g2 := F0 m 5 ls [.int 2]) (by rw [lN_i]; rfl) ?_
      refine lv_istore_n (lv' := [(3, .int 2), (0, .ref m0), (1, .int (nI t)), (2, .int 4)]) hx hb d_Md_lookElement_5 rfl hl (by decide) rfl (fun ls hl => ?_)
      refine lv_iload_n hx hb d_Md_lookElement_6 rfl (lv_at hl 0 rfl) ?_
      refine lv_iconst (v := 1) hx hb d_Md_lookElement_7 (by decide) ?_
      refine lv_iand hx hb d_Md_lookElement_8 ?_
      refine W.eq (g2 := F0 m 9 ls [.int 0]) (by rw [show (2 : Int32) &&& 1 = 0 from by decide +kernel]) ?_
      refine lv_if_ne (tgt := 16) hx hb d_Md_lookElement_9 (by decide) (fun c_9 => absurd (by decide) c_9) (fun c_9 => ?_)
      refine lv_iconst (v := 1) hx hb d_Md_lookElement_12 (by decide) ?_
      refine lv_goto (tgt := 17) hx hb d_Md_lookElement_13 (by decide) ?_
      refine lv_istore (lv' := [(4, .int 1), (3, .int 2), (0, .ref m0), (1, .int (nI t)), (2, .int 4)]) hx hb d_Md_lookElement_17 hl (by decide) rfl (fun ls hl => ?_)
      refine lv_iload hx hb d_Md_lookElement_19 (lv_at hl 0 rfl) ?_
      refine lv_if_eq (tgt := 37) hx hb d_Md_lookElement_21 (by decide) (fun c_21 => absurd c_21 (by decide)) (fun c_21 => ?_)
      refine lv_iload_n hx hb d_Md_lookElement_24 rfl (lv_at hl 1 rfl) ?_
      refine lv_iconst (v := 2) hx hb d_Md_lookElement_25 (by decide) ?_
      refine lv_iand hx hb d_Md_lookElement_26 ?_
      refine W.eq (g2 := F0 m 27 ls [.int 2]) (by rw [show (2 : Int32) &&& 2 = 2 from by decide +kernel]) ?_
      refine lv_if_eq (tgt := 37) hx hb d_Md_lookElement_27 (by decide) (fun c_27 => absurd c_27 (by decide)) (fun c_27 => ?_)
      refine lv_aload_n hx hb d_Md_lookElement_30 rfl (lv_at hl 2 rfl) ?_
      refine cV (As := []) (rest := []) (n := 0) (wc := [(m0, .inr (6, mF g (K.1, K.2.1, K.2.2.1, K.2.2.2.1, nI X.length, K.2.2.2.2.2.1, K.2.2.2.2.2.2.1, K.2.2.2.2.2.2.2.1, nI a1) A0 e np B)), ((g 30), .inl (cA 3, 2000, .inl yb))]) (wr := [((g 38), .inl (cA 3, 2000, .inl ow)), ((g 39), .inl (cA 3, 2000, .inl fi)), ((g 40), .inl (cA 3, 2000, .inl be))]) ⟨hx, hb, hml, hown, hts⟩ hno hlocks hl.1 (c_Md_number l hl9 D cA ad H.size m0 g (K.1, K.2.1, K.2.2.1, K.2.2.2.1, nI X.length, K.2.2.2.2.2.1, K.2.2.2.2.2.2.1, K.2.2.2.2.2.2.2.1, nI a1) A0 e np B yb b lm hlm hyb hb9 a1 v b8 (by omega) hv8) iw4_132 iw4_134 sel_Md_number iw1_7 iw4_135 (by decide +kernel) rfl ⟨Nat.le_of_ble_eq_true rfl, Nat.le_of_ble_eq_true rfl⟩ ⟨Nat.le_of_ble_eq_true rfl, Nat.le_of_ble_eq_true rfl⟩ rfl (Nat.le_of_ble_eq_true rfl) d_Md_lookElement_31 hE hP hD hS hA [0, 1] [2, 3, 4] rfl rfl rfl rfl (by decide) (ci := 6) rfl rfl 0 rfl (fun _ h => h.elim) (fun v_31 u_31 H locs hp_31 hP hD hS => ?_)
      obtain rfl := hp_31
      have hP : va_P D cls [(m0, .inr (6, mF g (K.1, K.2.1, K.2.2.1, K.2.2.2.1, nI X.length, K.2.2.2.2.2.1, K.2.2.2.2.2.2.1, K.2.2.2.2.2.2.2.1, nI b8) A0 e np B)), ((g 30), .inl (cA 3, 2000, .inl yb)), ((g 38), .inl (cA 3, 2000, .inl ow)), ((g 39), .inl (cA 3, 2000, .inl fi)), ((g 40), .inl (cA 3, 2000, .inl be))] H := hP.sub [3, 4, 0, 1, 2] rfl
      have hD : va_D A [(m0, .inr (6, mF g (K.1, K.2.1, K.2.2.1, K.2.2.2.1, nI X.length, K.2.2.2.2.2.1, K.2.2.2.2.2.2.1, K.2.2.2.2.2.2.2.1, nI b8) A0 e np B)), ((g 30), .inl (cA 3, 2000, .inl yb)), ((g 38), .inl (cA 3, 2000, .inl ow)), ((g 39), .inl (cA 3, 2000, .inl fi)), ((g 40), .inl (cA 3, 2000, .inl be))] := hD.sub [3, 4, 0, 1, 2] (by decide) rfl
      refine W.cs (cells' := 0) (slots' := 0) rfl rfl ?_
      refine W.eq (g2 := F0 m 34 ls [.long (lN v)]) rfl ?_
      refine lv_goto (tgt := 38) hx hb d_Md_lookElement_34 (by decide) ?_
      refine lv_lstore (lv' := [(5, .long (lN v)), (4, .int 1), (3, .int 2), (0, .ref m0), (1, .int (nI t)), (2, .int 4)]) hx hb d_Md_lookElement_38 hl (by decide) rfl (fun ls hl => ?_)
      refine lv_iload_n hx hb d_Md_lookElement_40 rfl (lv_at hl 5 rfl) ?_
      refine lv_if_ne (tgt := 67) hx hb d_Md_lookElement_41 (by decide) (fun c_41 => ?_) (fun c_41 => absurd c_41 (by decide))
      refine lv_iload_n hx hb d_Md_lookElement_67 rfl (lv_at hl 5 rfl) ?_
      refine lv_iconst (v := 2) hx hb d_Md_lookElement_68 (by decide) ?_
      refine lv_icmp_ne (tgt := 75) hx hb d_Md_lookElement_69 (by decide) (fun c_69 => ?_) (fun c_69 => absurd c_69 (by decide))
      refine lv_iload_n hx hb d_Md_lookElement_75 rfl (lv_at hl 5 rfl) ?_
      refine lv_iconst (v := 4) hx hb d_Md_lookElement_76 (by decide) ?_
      refine lv_icmp_eq (tgt := 85) hx hb d_Md_lookElement_77 (by decide) (fun c_77 => ?_) (fun c_77 => absurd (by decide) c_77)
      refine lv_iload hx hb d_Md_lookElement_85 (lv_at hl 1 rfl) ?_
      refine lv_if_eq (tgt := 100) hx hb d_Md_lookElement_87 (by decide) (fun c_87 => absurd c_87 (by decide)) (fun c_87 => ?_)
      refine lv_aload_n hx hb d_Md_lookElement_90 rfl (lv_at hl 3 rfl) ?_
      refine lv_iload_n hx hb d_Md_lookElement_91 rfl (lv_at hl 4 rfl) ?_
      refine lv_iload_n hx hb d_Md_lookElement_92 rfl (lv_at hl 5 rfl) ?_
      refine cV (As := [.int (nI t), .int 4]) (rest := []) (n := 2) (wc := [(m0, .inr (6, mF g (K.1, K.2.1, K.2.2.1, K.2.2.2.1, nI X.length, K.2.2.2.2.2.1, K.2.2.2.2.2.2.1, K.2.2.2.2.2.2.2.1, nI b8) A0 e np B)), ((g 38), .inl (cA 3, 2000, .inl ow)), ((g 39), .inl (cA 3, 2000, .inl fi)), ((g 40), .inl (cA 3, 2000, .inl be))]) (wr := [((g 30), .inl (cA 3, 2000, .inl yb))]) ⟨hx, hb, hml, hown, hts⟩ hno hlocks hl.1 (c_Md_placeOf l hl9 D cA ad H.size m0 g (K.1, K.2.1, K.2.2.1, K.2.2.2.1, nI X.length, K.2.2.2.2.2.1, K.2.2.2.2.2.2.1, K.2.2.2.2.2.2.2.1, nI b8) A0 e np B ow fi be X hXH hXf hX t (by omega) x1 a2 exs hexx (4 : Int32)) iw4_152 iw4_154 sel_Md_placeOf iw1_7 iw4_155 (by decide +kernel) rfl ⟨Nat.le_of_ble_eq_true rfl, Nat.le_of_ble_eq_true rfl⟩ ⟨Nat.le_of_ble_eq_true rfl, Nat.le_of_ble_eq_true rfl⟩ rfl (Nat.le_of_ble_eq_true rfl) d_Md_lookElement_93 hE hP hD hS hA [0, 2, 3, 4] [1] rfl rfl rfl rfl (by decide) (ci := 6) rfl rfl 0 rfl (fun _ h => h.elim) (fun v_93 u_93 H locs hp_93 hP hD hS => ?_)
      obtain rfl := hp_93
      have hP : va_P D cls [(m0, .inr (6, mF g (K.1, K.2.1, K.2.2.1, K.2.2.2.1, nI X.length, K.2.2.2.2.2.1, K.2.2.2.2.2.2.1, K.2.2.2.2.2.2.2.1, nI b8) A0 e np B)), ((g 30), .inl (cA 3, 2000, .inl yb)), ((g 38), .inl (cA 3, 2000, .inl ow)), ((g 39), .inl (cA 3, 2000, .inl fi)), ((g 40), .inl (cA 3, 2000, .inl be))] H := hP.sub [1, 0, 2, 3, 4] rfl
      have hD : va_D A [(m0, .inr (6, mF g (K.1, K.2.1, K.2.2.1, K.2.2.2.1, nI X.length, K.2.2.2.2.2.1, K.2.2.2.2.2.2.1, K.2.2.2.2.2.2.2.1, nI b8) A0 e np B)), ((g 30), .inl (cA 3, 2000, .inl yb)), ((g 38), .inl (cA 3, 2000, .inl ow)), ((g 39), .inl (cA 3, 2000, .inl fi)), ((g 40), .inl (cA 3, 2000, .inl be))] := hD.sub [1, 0, 2, 3, 4] (by decide) rfl
      refine W.cs (cells' := 0) (slots' := 0) rfl rfl ?_
      refine W.eq (g2 := F0 m 96 ls [.int (if (4 : Int32) = 4 then nI x1 else nI a2)]) rfl ?_
      refine lv_i2l hx hb d_Md_lookElement_96 rfl ?_
      rw [if_pos rfl, nI_l (n := x1) (by omega)]
      refine lv_goto (tgt := 103) hx hb d_Md_lookElement_97 (by decide) ?_
      exact cRl (nI b8) hx hb hr hlocks d_Md_lookElement_103 hS hP hD (congrArg (fun z : Int64 => some (Value.long z)) h4.symm) (Nat.le_refl _) (Nat.le_refl _)
    · have hl : lv_has ls 13 [(0, .ref m0), (1, .int (nI t)), (2, .int 5)] := hl
      refine lv_aload_n hx hb d_Md_lookElement_0 rfl (lv_at hl 0 rfl) ?_
      refine cV (As := []) (rest := []) (n := 0) (wc := [(m0, .inr (6, mF g (K.1, K.2.1, K.2.2.1, K.2.2.2.1, nI X.length, K.2.2.2.2.2.1, K.2.2.2.2.2.2.1, K.2.2.2.2.2.2.2.1, nI a) A0 e np B)), ((g 30), .inl (cA 3, 2000, .inl yb))]) (wr := [((g 38), .inl (cA 3, 2000, .inl ow)), ((g 39), .inl (cA 3, 2000, .inl fi)), ((g 40), .inl (cA 3, 2000, .inl be))]) ⟨hx, hb, hml, hown, hts⟩ hno hlocks hl.1 (c_Md_number l hl9 D cA ad s.heap.size m0 g (K.1, K.2.1, K.2.2.1, K.2.2.2.1, nI X.length, K.2.2.2.2.2.1, K.2.2.2.2.2.2.1, K.2.2.2.2.2.2.2.1, nI a) A0 e np B yb b lm hlm hyb hb9 a 2 a1 (by omega) hmu) iw4_132 iw4_134 sel_Md_number iw1_7 iw4_135 (by decide +kernel) rfl ⟨Nat.le_of_ble_eq_true rfl, Nat.le_of_ble_eq_true rfl⟩ ⟨Nat.le_of_ble_eq_true rfl, Nat.le_of_ble_eq_true rfl⟩ rfl (Nat.le_of_ble_eq_true rfl) d_Md_lookElement_1 hE hP hD hS hA [0, 1] [2, 3, 4] rfl rfl rfl rfl (by decide) (ci := 6) rfl rfl 0 rfl (fun _ h => h.elim) (fun v_1 u_1 H locs hp_1 hP hD hS => ?_)
      obtain rfl := hp_1
      have hP : va_P D cls [(m0, .inr (6, mF g (K.1, K.2.1, K.2.2.1, K.2.2.2.1, nI X.length, K.2.2.2.2.2.1, K.2.2.2.2.2.2.1, K.2.2.2.2.2.2.2.1, nI a1) A0 e np B)), ((g 30), .inl (cA 3, 2000, .inl yb)), ((g 38), .inl (cA 3, 2000, .inl ow)), ((g 39), .inl (cA 3, 2000, .inl fi)), ((g 40), .inl (cA 3, 2000, .inl be))] H := hP.sub [3, 4, 0, 1, 2] rfl
      have hD : va_D A [(m0, .inr (6, mF g (K.1, K.2.1, K.2.2.1, K.2.2.2.1, nI X.length, K.2.2.2.2.2.1, K.2.2.2.2.2.2.1, K.2.2.2.2.2.2.2.1, nI a1) A0 e np B)), ((g 30), .inl (cA 3, 2000, .inl yb)), ((g 38), .inl (cA 3, 2000, .inl ow)), ((g 39), .inl (cA 3, 2000, .inl fi)), ((g 40), .inl (cA 3, 2000, .inl be))] := hD.sub [3, 4, 0, 1, 2] (by decide) rfl
      refine W.cs (cells' := 0) (slots' := 0) rfl rfl ?_
      refine W.eq (g2 := F0 m 4 ls [.long (lN 2)]) rfl ?_
      refine lv_l2i hx hb d_Md_lookElement_4 rfl ?_
      refine W.eq (g2 := F0 m 5 ls [.int 2]) (by rw [lN_i]; rfl) ?_
      refine lv_istore_n (lv' := [(3, .int 2), (0, .ref m0), (1, .int (nI t)), (2, .int 5)]) hx hb d_Md_lookElement_5 rfl hl (by decide) rfl (fun ls hl => ?_)
      refine lv_iload_n hx hb d_Md_lookElement_6 rfl (lv_at hl 0 rfl) ?_
      refine lv_iconst (v := 1) hx hb d_Md_lookElement_7 (by decide) ?_
      refine lv_iand hx hb d_Md_lookElement_8 ?_
      refine W.eq (g2 := F0 m 9 ls [.int 0]) (by rw [show (2 : Int32) &&& 1 = 0 from by decide +kernel]) ?_
      refine lv_if_ne (tgt := 16) hx hb d_Md_lookElement_9 (by decide) (fun c_9 => absurd (by decide) c_9) (fun c_9 => ?_)
      refine lv_iconst (v := 1) hx hb d_Md_lookElement_12 (by decide) ?_
      refine lv_goto (tgt := 17) hx hb d_Md_lookElement_13 (by decide) ?_
      refine lv_istore (lv' := [(4, .int 1), (3, .int 2), (0, .ref m0), (1, .int (nI t)), (2, .int 5)]) hx hb d_Md_lookElement_17 hl (by decide) rfl (fun ls hl => ?_)
      refine lv_iload hx hb d_Md_lookElement_19 (lv_at hl 0 rfl) ?_
      refine lv_if_eq (tgt := 37) hx hb d_Md_lookElement_21 (by decide) (fun c_21 => absurd c_21 (by decide)) (fun c_21 => ?_)
      refine lv_iload_n hx hb d_Md_lookElement_24 rfl (lv_at hl 1 rfl) ?_
      refine lv_iconst (v := 2) hx hb d_Md_lookElement_25 (by decide) ?_
      refine lv_iand hx hb d_Md_lookElement_26 ?_
      refine W.eq (g2 := F0 m 27 ls [.int 2]) (by rw [show (2 : Int32) &&& 2 = 2 from by decide +kernel]) ?_
      refine lv_if_eq (tgt := 37) hx hb d_Md_lookElement_27 (by decide) (fun c_27 => absurd c_27 (by decide)) (fun c_27 => ?_)
      refine lv_aload_n hx hb d_Md_lookElement_30 rfl (lv_at hl 2 rfl) ?_
      refine cV (As := []) (rest := []) (n := 0) (wc := [(m0, .inr (6, mF g (K.1, K.2.1, K.2.2.1, K.2.2.2.1, nI X.length, K.2.2.2.2.2.1, K.2.2.2.2.2.2.1, K.2.2.2.2.2.2.2.1, nI a1) A0 e np B)), ((g 30), .inl (cA 3, 2000, .inl yb))]) (wr := [((g 38), .inl (cA 3, 2000, .inl ow)), ((g 39), .inl (cA 3, 2000, .inl fi)), ((g 40), .inl (cA 3, 2000, .inl be))]) ⟨hx, hb, hml, hown, hts⟩ hno hlocks hl.1 (c_Md_number l hl9 D cA ad H.size m0 g (K.1, K.2.1, K.2.2.1, K.2.2.2.1, nI X.length, K.2.2.2.2.2.1, K.2.2.2.2.2.2.1, K.2.2.2.2.2.2.2.1, nI a1) A0 e np B yb b lm hlm hyb hb9 a1 v b8 (by omega) hv8) iw4_132 iw4_134 sel_Md_number iw1_7 iw4_135 (by decide +kernel) rfl ⟨Nat.le_of_ble_eq_true rfl, Nat.le_of_ble_eq_true rfl⟩ ⟨Nat.le_of_ble_eq_true rfl, Nat.le_of_ble_eq_true rfl⟩ rfl (Nat.le_of_ble_eq_true rfl) d_Md_lookElement_31 hE hP hD hS hA [0, 1] [2, 3, 4] rfl rfl rfl rfl (by decide) (ci := 6) rfl rfl 0 rfl (fun _ h => h.elim) (fun v_31 u_31 H locs hp_31 hP hD hS => ?_)
      obtain rfl := hp_31
      have hP : va_P D cls [(m0, .inr (6, mF g (K.1, K.2.1, K.2.2.1, K.2.2.2.1, nI X.length, K.2.2.2.2.2.1, K.2.2.2.2.2.2.1, K.2.2.2.2.2.2.2.1, nI b8) A0 e np B)), ((g 30), .inl (cA 3, 2000, .inl yb)), ((g 38), .inl (cA 3, 2000, .inl ow)), ((g 39), .inl (cA 3, 2000, .inl fi)), ((g 40), .inl (cA 3, 2000, .inl be))] H := hP.sub [3, 4, 0, 1, 2] rfl
      have hD : va_D A [(m0, .inr (6, mF g (K.1, K.2.1, K.2.2.1, K.2.2.2.1, nI X.length, K.2.2.2.2.2.1, K.2.2.2.2.2.2.1, K.2.2.2.2.2.2.2.1, nI b8) A0 e np B)), ((g 30), .inl (cA 3, 2000, .inl yb)), ((g 38), .inl (cA 3, 2000, .inl ow)), ((g 39), .inl (cA 3, 2000, .inl fi)), ((g 40), .inl (cA 3, 2000, .inl be))] := hD.sub [3, 4, 0, 1, 2] (by decide) rfl
      refine W.cs (cells' := 0) (slots' := 0) rfl rfl ?_
      refine W.eq (g2 := F0 m 34 ls [.long (lN v)]) rfl ?_
      refine lv_goto (tgt := 38) hx hb d_Md_lookElement_34 (by decide) ?_
      refine lv_lstore (lv' := [(5, .long (lN v)), (4, .int 1), (3, .int 2), (0, .ref m0), (1, .int (nI t)), (2, .int 5)]) hx hb d_Md_lookElement_38 hl (by decide) rfl (fun ls hl => ?_)
      refine lv_iload_n hx hb d_Md_lookElement_40 rfl (lv_at hl 5 rfl) ?_
      refine lv_if_ne (tgt := 67) hx hb d_Md_lookElement_41 (by decide) (fun c_41 => ?_) (fun c_41 => absurd c_41 (by decide))
      refine lv_iload_n hx hb d_Md_lookElement_67 rfl (lv_at hl 5 rfl) ?_
      refine lv_iconst (v := 2) hx hb d_Md_lookElement_68 (by decide) ?_
      refine lv_icmp_ne (tgt := 75) hx hb d_Md_lookElement_69 (by decide) (fun c_69 => ?_) (fun c_69 => absurd c_69 (by decide))
      refine lv_iload_n hx hb d_Md_lookElement_75 rfl (lv_at hl 5 rfl) ?_
      refine lv_iconst (v := 4) hx hb d_Md_lookElement_76 (by decide) ?_
      refine lv_icmp_eq (tgt := 85) hx hb d_Md_lookElement_77 (by decide) (fun c_77 => absurd c_77 (by decide)) (fun c_77 => ?_)
      refine lv_iload_n hx hb d_Md_lookElement_80 rfl (lv_at hl 5 rfl) ?_
      refine lv_iconst (v := 5) hx hb d_Md_lookElement_81 (by decide) ?_
      refine lv_icmp_ne (tgt := 104) hx hb d_Md_lookElement_82 (by decide) (fun c_82 => absurd (by decide) c_82) (fun c_82 => ?_)
      refine lv_iload hx hb d_Md_lookElement_85 (lv_at hl 1 rfl) ?_
      refine lv_if_eq (tgt := 100) hx hb d_Md_lookElement_87 (by decide) (fun c_87 => absurd c_87 (by decide)) (fun c_87 => ?_)
      refine lv_aload_n hx hb d_Md_lookElement_90 rfl (lv_at hl 3 rfl) ?_
      refine lv_iload_n hx hb d_Md_lookElement_91 rfl (lv_at hl 4 rfl) ?_
      refine lv_iload_n hx hb d_Md_lookElement_92 rfl (lv_at hl 5 rfl) ?_
      refine cV (As := [.int (nI t), .int 5]) (rest := []) (n := 2) (wc := [(m0, .inr (6, mF g (K.1, K.2.1, K.2.2.1, K.2.2.2.1, nI X.length, K.2.2.2.2.2.1, K.2.2.2.2.2.2.1, K.2.2.2.2.2.2.2.1, nI b8) A0 e np B)), ((g 38), .inl (cA 3, 2000, .inl ow)), ((g 39), .inl (cA 3, 2000, .inl fi)), ((g 40), .inl (cA 3, 2000, .inl be))]) (wr := [((g 30), .inl (cA 3, 2000, .inl yb))]) ⟨hx, hb, hml, hown, hts⟩ hno hlocks hl.1 (c_Md_placeOf l hl9 D cA ad H.size m0 g (K.1, K.2.1, K.2.2.1, K.2.2.2.1, nI X.length, K.2.2.2.2.2.1, K.2.2.2.2.2.2.1, K.2.2.2.2.2.2.2.1, nI b8) A0 e np B ow fi be X hXH hXf hX t (by omega) x1 a2 exs hexx (5 : Int32)) iw4_152 iw4_154 sel_Md_placeOf iw1_7 iw4_155 (by decide +kernel) rfl ⟨Nat.le_of_ble_eq_true rfl, Nat.le_of_ble_eq_true rfl⟩ ⟨Nat.le_of_ble_eq_true rfl, Nat.le_of_ble_eq_true rfl⟩ rfl (Nat.le_of_ble_eq_true rfl) d_Md_lookElement_93 hE hP hD hS hA [0, 2, 3, 4] [1] rfl rfl rfl rfl (by decide) (ci := 6) rfl rfl 0 rfl (fun _ h => h.elim) (fun v_93 u_93 H locs hp_93 hP hD hS => ?_)
      obtain rfl := hp_93
      have hP : va_P D cls [(m0, .inr (6, mF g (K.1, K.2.1, K.2.2.1, K.2.2.2.1, nI X.length, K.2.2.2.2.2.1, K.2.2.2.2.2.2.1, K.2.2.2.2.2.2.2.1, nI b8) A0 e np B)), ((g 30), .inl (cA 3, 2000, .inl yb)), ((g 38), .inl (cA 3, 2000, .inl ow)), ((g 39), .inl (cA 3, 2000, .inl fi)), ((g 40), .inl (cA 3, 2000, .inl be))] H := hP.sub [1, 0, 2, 3, 4] rfl
      have hD : va_D A [(m0, .inr (6, mF g (K.1, K.2.1, K.2.2.1, K.2.2.2.1, nI X.length, K.2.2.2.2.2.1, K.2.2.2.2.2.2.1, K.2.2.2.2.2.2.2.1, nI b8) A0 e np B)), ((g 30), .inl (cA 3, 2000, .inl yb)), ((g 38), .inl (cA 3, 2000, .inl ow)), ((g 39), .inl (cA 3, 2000, .inl fi)), ((g 40), .inl (cA 3, 2000, .inl be))] := hD.sub [1, 0, 2, 3, 4] (by decide) rfl
      refine W.cs (cells' := 0) (slots' := 0) rfl rfl ?_
      refine W.eq (g2 := F0 m 96 ls [.int (if (5 : Int32) = 4 then nI x1 else nI a2)]) rfl ?_
      refine lv_i2l hx hb d_Md_lookElement_96 rfl ?_
      rw [if_neg (by decide), nI_l (n := a2) (by omega)]
      refine lv_goto (tgt := 103) hx hb d_Md_lookElement_97 (by decide) ?_
      exact cRl (nI b8) hx hb hr hlocks d_Md_lookElement_103 hS hP hD (rfl) (Nat.le_refl _) (Nat.le_refl _)
    · have hl : lv_has ls 13 [(0, .ref m0), (1, .int (nI t)), (2, .int 6)] := hl
      refine lv_aload_n hx hb d_Md_lookElement_0 rfl (lv_at hl 0 rfl) ?_
      refine cV (As := []) (rest := []) (n := 0) (wc := [(m0, .inr (6, mF g (K.1, K.2.1, K.2.2.1, K.2.2.2.1, nI X.length, K.2.2.2.2.2.1, K.2.2.2.2.2.2.1, K.2.2.2.2.2.2.2.1, nI a) A0 e np B)), ((g 30), .inl (cA 3, 2000, .inl yb))]) (wr := [((g 38), .inl (cA 3, 2000, .inl ow)), ((g 39), .inl (cA 3, 2000, .inl fi)), ((g 40), .inl (cA 3, 2000, .inl be))]) ⟨hx, hb, hml, hown, hts⟩ hno hlocks hl.1 (c_Md_number l hl9 D cA ad s.heap.size m0 g (K.1, K.2.1, K.2.2.1, K.2.2.2.1, nI X.length, K.2.2.2.2.2.1, K.2.2.2.2.2.2.1, K.2.2.2.2.2.2.2.1, nI a) A0 e np B yb b lm hlm hyb hb9 a 2 a1 (by omega) hmu) iw4_132 iw4_134 sel_Md_number iw1_7 iw4_135 (by decide +kernel) rfl ⟨Nat.le_of_ble_eq_true rfl, Nat.le_of_ble_eq_true rfl⟩ ⟨Nat.le_of_ble_eq_true rfl, Nat.le_of_ble_eq_true rfl⟩ rfl (Nat.le_of_ble_eq_true rfl) d_Md_lookElement_1 hE hP hD hS hA [0, 1] [2, 3, 4] rfl rfl rfl rfl (by decide) (ci := 6) rfl rfl 0 rfl (fun _ h => h.elim) (fun v_1 u_1 H locs hp_1 hP hD hS => ?_)
      obtain rfl := hp_1
      have hP : va_P D cls [(m0, .inr (6, mF g (K.1, K.2.1, K.2.2.1, K.2.2.2.1, nI X.length, K.2.2.2.2.2.1, K.2.2.2.2.2.2.1, K.2.2.2.2.2.2.2.1, nI a1) A0 e np B)), ((g 30), .inl (cA 3, 2000, .inl yb)), ((g 38), .inl (cA 3, 2000, .inl ow)), ((g 39), .inl (cA 3, 2000, .inl fi)), ((g 40), .inl (cA 3, 2000, .inl be))] H := hP.sub [3, 4, 0, 1, 2] rfl
      have hD : va_D A [(m0, .inr (6, mF g (K.1, K.2.1, K.2.2.1, K.2.2.2.1, nI X.length, K.2.2.2.2.2.1, K.2.2.2.2.2.2.1, K.2.2.2.2.2.2.2.1, nI a1) A0 e np B)), ((g 30), .inl (cA 3, 2000, .inl yb)), ((g 38), .inl (cA 3, 2000, .inl ow)), ((g 39), .inl (cA 3, 2000, .inl fi)), ((g 40), .inl (cA 3, 2000, .inl be))] := hD.sub [3, 4, 0, 1, 2] (by decide) rfl
      refine W.cs (cells' := 0) (slots' := 0) rfl rfl ?_
      refine W.eq (g2 := F0 m 4 ls [.long (lN 2)]) rfl ?_
      refine lv_l2i hx hb d_Md_lookElement_4 rfl ?_
      refine W.eq (g2 := F0 m 5 ls [.int 2]) (by rw [lN_i]; rfl) ?_
      refine lv_istore_n (lv' := [(3, .int 2), (0, .ref m0), (1, .int (nI t)), (2, .int 6)]) hx hb d_Md_lookElement_5 rfl hl (by decide) rfl (fun ls hl => ?_)
      refine lv_iload_n hx hb d_Md_lookElement_6 rfl (lv_at hl 0 rfl) ?_
      refine lv_iconst (v := 1) hx hb d_Md_lookElement_7 (by decide) ?_
      refine lv_iand hx hb d_Md_lookElement_8 ?_
      refine W.eq (g2 := F0 m 9 ls [.int 0]) (by rw [show (2 : Int32) &&& 1 = 0 from by decide +kernel]) ?_
      refine lv_if_ne (tgt := 16) hx hb d_Md_lookElement_9 (by decide) (fun c_9 => absurd (by decide) c_9) (fun c_9 => ?_)
      refine lv_iconst (v := 1) hx hb d_Md_lookElement_12 (by decide) ?_
      refine lv_goto (tgt := 17) hx hb d_Md_lookElement_13 (by decide) ?_
      refine lv_istore (lv' := [(4, .int 1), (3, .int 2), (0, .ref m0), (1, .int (nI t)), (2, .int 6)]) hx hb d_Md_lookElement_17 hl (by decide) rfl (fun ls hl => ?_)
      refine lv_iload hx hb d_Md_lookElement_19 (lv_at hl 0 rfl) ?_
      refine lv_if_eq (tgt := 37) hx hb d_Md_lookElement_21 (by decide) (fun c_21 => absurd c_21 (by decide)) (fun c_21 => ?_)
      refine lv_iload_n hx hb d_Md_lookElement_24 rfl (lv_at hl 1 rfl) ?_
      refine lv_iconst (v := 2) hx hb d_Md_lookElement_25 (by decide) ?_
      refine lv_iand hx hb d_Md_lookElement_26 ?_
      refine W.eq (g2 := F0 m 27 ls [.int 2]) (by rw [show (2 : Int32) &&& 2 = 2 from by decide +kernel]) ?_
      refine lv_if_eq (tgt := 37) hx hb d_Md_lookElement_27 (by decide) (fun c_27 => absurd c_27 (by decide)) (fun c_27 => ?_)
      refine lv_aload_n hx hb d_Md_lookElement_30 rfl (lv_at hl 2 rfl) ?_
      refine cV (As := []) (rest := []) (n := 0) (wc := [(m0, .inr (6, mF g (K.1, K.2.1, K.2.2.1, K.2.2.2.1, nI X.length, K.2.2.2.2.2.1, K.2.2.2.2.2.2.1, K.2.2.2.2.2.2.2.1, nI a1) A0 e np B)), ((g 30), .inl (cA 3, 2000, .inl yb))]) (wr := [((g 38), .inl (cA 3, 2000, .inl ow)), ((g 39), .inl (cA 3, 2000, .inl fi)), ((g 40), .inl (cA 3, 2000, .inl be))]) ⟨hx, hb, hml, hown, hts⟩ hno hlocks hl.1 (c_Md_number l hl9 D cA ad H.size m0 g (K.1, K.2.1, K.2.2.1, K.2.2.2.1, nI X.length, K.2.2.2.2.2.1, K.2.2.2.2.2.2.1, K.2.2.2.2.2.2.2.1, nI a1) A0 e np B yb b lm hlm hyb hb9 a1 v b8 (by omega) hv8) iw4_132 iw4_134 sel_Md_number iw1_7 iw4_135 (by decide +kernel) rfl ⟨Nat.le_of_ble_eq_true rfl, Nat.le_of_ble_eq_true rfl⟩ ⟨Nat.le_of_ble_eq_true rfl, Nat.le_of_ble_eq_true rfl⟩ rfl (Nat.le_of_ble_eq_true rfl) d_Md_lookElement_31 hE hP hD hS hA [0, 1] [2, 3, 4] rfl rfl rfl rfl (by decide) (ci := 6) rfl rfl 0 rfl (fun _ h => h.elim) (fun v_31 u_31 H locs hp_31 hP hD hS => ?_)
      obtain rfl := hp_31
      have hP : va_P D cls [(m0, .inr (6, mF g (K.1, K.2.1, K.2.2.1, K.2.2.2.1, nI X.length, K.2.2.2.2.2.1, K.2.2.2.2.2.2.1, K.2.2.2.2.2.2.2.1, nI b8) A0 e np B)), ((g 30), .inl (cA 3, 2000, .inl yb)), ((g 38), .inl (cA 3, 2000, .inl ow)), ((g 39), .inl (cA 3, 2000, .inl fi)), ((g 40), .inl (cA 3, 2000, .inl be))] H := hP.sub [3, 4, 0, 1, 2] rfl
      have hD : va_D A [(m0, .inr (6, mF g (K.1, K.2.1, K.2.2.1, K.2.2.2.1, nI X.length, K.2.2.2.2.2.1, K.2.2.2.2.2.2.1, K.2.2.2.2.2.2.2.1, nI b8) A0 e np B)), ((g 30), .inl (cA 3, 2000, .inl yb)), ((g 38), .inl (cA 3, 2000, .inl ow)), ((g 39), .inl (cA 3, 2000, .inl fi)), ((g 40), .inl (cA 3, 2000, .inl be))] := hD.sub [3, 4, 0, 1, 2] (by decide) rfl
      refine W.cs (cells' := 0) (slots' := 0) rfl rfl ?_
      refine W.eq (g2 := F0 m 34 ls [.long (lN v)]) rfl ?_
      refine lv_goto (tgt := 38) hx hb d_Md_lookElement_34 (by decide) ?_
      refine lv_lstore (lv' := [(5, .long (lN v)), (4, .int 1), (3, .int 2), (0, .ref m0), (1, .int (nI t)), (2, .int 6)]) hx hb d_Md_lookElement_38 hl (by decide) rfl (fun ls hl => ?_)
      refine lv_iload_n hx hb d_Md_lookElement_40 rfl (lv_at hl 5 rfl) ?_
      refine lv_if_ne (tgt := 67) hx hb d_Md_lookElement_41 (by decide) (fun c_41 => ?_) (fun c_41 => absurd c_41 (by decide))
      refine lv_iload_n hx hb d_Md_lookElement_67 rfl (lv_at hl 5 rfl) ?_
      refine lv_iconst (v := 2) hx hb d_Md_lookElement_68 (by decide) ?_
      refine lv_icmp_ne (tgt := 75) hx hb d_Md_lookElement_69 (by decide) (fun c_69 => ?_) (fun c_69 => absurd c_69 (by decide))
      refine lv_iload_n hx hb d_Md_lookElement_75 rfl (lv_at hl 5 rfl) ?_
      refine lv_iconst (v := 4) hx hb d_Md_lookElement_76 (by decide) ?_
      refine lv_icmp_eq (tgt := 85) hx hb d_Md_lookElement_77 (by decide) (fun c_77 => absurd c_77 (by decide)) (fun c_77 => ?_)
      refine lv_iload_n hx hb d_Md_lookElement_80 rfl (lv_at hl 5 rfl) ?_
      refine lv_iconst (v := 5) hx hb d_Md_lookElement_81 (by decide) ?_
      refine lv_icmp_ne (tgt := 104) hx hb d_Md_lookElement_82 (by decide) (fun c_82 => ?_) (fun c_82 => absurd c_82 (by decide))
      refine lv_iload_n hx hb d_Md_lookElement_104 rfl (lv_at hl 5 rfl) ?_
      refine lv_bipush (v := 6) hx hb d_Md_lookElement_105 (by decide) ?_
      refine lv_icmp_ne (tgt := 122) hx hb d_Md_lookElement_107 (by decide) (fun c_107 => absurd (by decide) c_107) (fun c_107 => ?_)
      refine lv_iload_n hx hb d_Md_lookElement_110 rfl (lv_at hl 2 rfl) ?_
      refine lv_iconst (v := 4) hx hb d_Md_lookElement_111 (by decide) ?_
      refine lv_iand hx hb d_Md_lookElement_112 ?_
      refine W.eq (g2 := F0 m 113 ls [.int 0]) (by rw [show (2 : Int32) &&& 4 = 0 from by decide +kernel]) ?_
      refine lv_if_eq (tgt := 120) hx hb d_Md_lookElement_113 (by decide) (fun c_113 => ?_) (fun c_113 => absurd (by decide) c_113)
      refine lv_lconst (v := 0) hx hb d_Md_lookElement_120 (by decide) ?_
      exact cRl (nI b8) hx hb hr hlocks d_Md_lookElement_121 hS hP hD (rfl) (Nat.le_refl _) (Nat.le_refl _)
    · have hl : lv_has ls 13 [(0, .ref m0), (1, .int (nI t)), (2, .int 7)] := hl
      refine lv_aload_n hx hb d_Md_lookElement_0 rfl (lv_at hl 0 rfl) ?_
      refine cV (As := []) (rest := []) (n := 0) (wc := [(m0, .inr (6, mF g (K.1, K.2.1, K.2.2.1, K.2.2.2.1, nI X.length, K.2.2.2.2.2.1, K.2.2.2.2.2.2.1, K.2.2.2.2.2.2.2.1, nI a) A0 e np B)), ((g 30), .inl (cA 3, 2000, .inl yb))]) (wr := [((g 38), .inl (cA 3, 2000, .inl ow)), ((g 39), .inl (cA 3, 2000, .inl fi)), ((g 40), .inl (cA 3, 2000, .inl be))]) ⟨hx, hb, hml, hown, hts⟩ hno hlocks hl.1 (c_Md_number l hl9 D cA ad s.heap.size m0 g (K.1, K.2.1, K.2.2.1, K.2.2.2.1, nI X.length, K.2.2.2.2.2.1, K.2.2.2.2.2.2.1, K.2.2.2.2.2.2.2.1, nI a) A0 e np B yb b lm hlm hyb hb9 a 2 a1 (by omega) hmu) iw4_132 iw4_134 sel_Md_number iw1_7 iw4_135 (by decide +kernel) rfl ⟨Nat.le_of_ble_eq_true rfl, Nat.le_of_ble_eq_true rfl⟩ ⟨Nat.le_of_ble_eq_true rfl, Nat.le_of_ble_eq_true rfl⟩ rfl (Nat.le_of_ble_eq_true rfl) d_Md_lookElement_1 hE hP hD hS hA [0, 1] [2, 3, 4] rfl rfl rfl rfl (by decide) (ci := 6) rfl rfl 0 rfl (fun _ h => h.elim) (fun v_1 u_1 H locs hp_1 hP hD hS => ?_)
      obtain rfl := hp_1
      have hP : va_P D cls [(m0, .inr (6, mF g (K.1, K.2.1, K.2.2.1, K.2.2.2.1, nI X.length, K.2.2.2.2.2.1, K.2.2.2.2.2.2.1, K.2.2.2.2.2.2.2.1, nI a1) A0 e np B)), ((g 30), .inl (cA 3, 2000, .inl yb)), ((g 38), .inl (cA 3, 2000, .inl ow)), ((g 39), .inl (cA 3, 2000, .inl fi)), ((g 40), .inl (cA 3, 2000, .inl be))] H := hP.sub [3, 4, 0, 1, 2] rfl
      have hD : va_D A [(m0, .inr (6, mF g (K.1, K.2.1, K.2.2.1, K.2.2.2.1, nI X.length, K.2.2.2.2.2.1, K.2.2.2.2.2.2.1, K.2.2.2.2.2.2.2.1, nI a1) A0 e np B)), ((g 30), .inl (cA 3, 2000, .inl yb)), ((g 38), .inl (cA 3, 2000, .inl ow)), ((g 39), .inl (cA 3, 2000, .inl fi)), ((g 40), .inl (cA 3, 2000, .inl be))] := hD.sub [3, 4, 0, 1, 2] (by decide) rfl
      refine W.cs (cells' := 0) (slots' := 0) rfl rfl ?_
      refine W.eq (g2 := F0 m 4 ls [.long (lN 2)]) rfl ?_
      refine lv_l2i hx hb d_Md_lookElement_4 rfl ?_
      refine W.eq (g2 := F0 m 5 ls [.int 2]) (by rw [lN_i]; rfl) ?_
      refine lv_istore_n (lv' := [(3, .int 2), (0, .ref m0), (1, .int (nI t)), (2, .int 7)]) hx hb d_Md_lookElement_5 rfl hl (by decide) rfl (fun ls hl => ?_)
      refine lv_iload_n hx hb d_Md_lookElement_6 rfl (lv_at hl 0 rfl) ?_
      refine lv_iconst (v := 1) hx hb d_Md_lookElement_7 (by decide) ?_
      refine lv_iand hx hb d_Md_lookElement_8 ?_
      refine W.eq (g2 := F0 m 9 ls [.int 0]) (by rw [show (2 : Int32) &&& 1 = 0 from by decide +kernel]) ?_
      refine lv_if_ne (tgt := 16) hx hb d_Md_lookElement_9 (by decide) (fun c_9 => absurd (by decide) c_9) (fun c_9 => ?_)
      refine lv_iconst (v := 1) hx hb d_Md_lookElement_12 (by decide) ?_
      refine lv_goto (tgt := 17) hx hb d_Md_lookElement_13 (by decide) ?_
      refine lv_istore (lv' := [(4, .int 1), (3, .int 2), (0, .ref m0), (1, .int (nI t)), (2, .int 7)]) hx hb d_Md_lookElement_17 hl (by decide) rfl (fun ls hl => ?_)
      refine lv_iload hx hb d_Md_lookElement_19 (lv_at hl 0 rfl) ?_
      refine lv_if_eq (tgt := 37) hx hb d_Md_lookElement_21 (by decide) (fun c_21 => absurd c_21 (by decide)) (fun c_21 => ?_)
      refine lv_iload_n hx hb d_Md_lookElement_24 rfl (lv_at hl 1 rfl) ?_
      refine lv_iconst (v := 2) hx hb d_Md_lookElement_25 (by decide) ?_
      refine lv_iand hx hb d_Md_lookElement_26 ?_
      refine W.eq (g2 := F0 m 27 ls [.int 2]) (by rw [show (2 : Int32) &&& 2 = 2 from by decide +kernel]) ?_
      refine lv_if_eq (tgt := 37) hx hb d_Md_lookElement_27 (by decide) (fun c_27 => absurd c_27 (by decide)) (fun c_27 => ?_)
      refine lv_aload_n hx hb d_Md_lookElement_30 rfl (lv_at hl 2 rfl) ?_
      refine cV (As := []) (rest := []) (n := 0) (wc := [(m0, .inr (6, mF g (K.1, K.2.1, K.2.2.1, K.2.2.2.1, nI X.length, K.2.2.2.2.2.1, K.2.2.2.2.2.2.1, K.2.2.2.2.2.2.2.1, nI a1) A0 e np B)), ((g 30), .inl (cA 3, 2000, .inl yb))]) (wr := [((g 38), .inl (cA 3, 2000, .inl ow)), ((g 39), .inl (cA 3, 2000, .inl fi)), ((g 40), .inl (cA 3, 2000, .inl be))]) ⟨hx, hb, hml, hown, hts⟩ hno hlocks hl.1 (c_Md_number l hl9 D cA ad H.size m0 g (K.1, K.2.1, K.2.2.1, K.2.2.2.1, nI X.length, K.2.2.2.2.2.1, K.2.2.2.2.2.2.1, K.2.2.2.2.2.2.2.1, nI a1) A0 e np B yb b lm hlm hyb hb9 a1 v b8 (by omega) hv8) iw4_132 iw4_134 sel_Md_number iw1_7 iw4_135 (by decide +kernel) rfl ⟨Nat.le_of_ble_eq_true rfl, Nat.le_of_ble_eq_true rfl⟩ ⟨Nat.le_of_ble_eq_true rfl, Nat.le_of_ble_eq_true rfl⟩ rfl (Nat.le_of_ble_eq_true rfl) d_Md_lookElement_31 hE hP hD hS hA [0, 1] [2, 3, 4] rfl rfl rfl rfl (by decide) (ci := 6) rfl rfl 0 rfl (fun _ h => h.elim) (fun v_31 u_31 H locs hp_31 hP hD hS => ?_)
      obtain rfl := hp_31
      have hP : va_P D cls [(m0, .inr (6, mF g (K.1, K.2.1, K.2.2.1, K.2.2.2.1, nI X.length, K.2.2.2.2.2.1, K.2.2.2.2.2.2.1, K.2.2.2.2.2.2.2.1, nI b8) A0 e np B)), ((g 30), .inl (cA 3, 2000, .inl yb)), ((g 38), .inl (cA 3, 2000, .inl ow)), ((g 39), .inl (cA 3, 2000, .inl fi)), ((g 40), .inl (cA 3, 2000, .inl be))] H := hP.sub [3, 4, 0, 1, 2] rfl
      have hD : va_D A [(m0, .inr (6, mF g (K.1, K.2.1, K.2.2.1, K.2.2.2.1, nI X.length, K.2.2.2.2.2.1, K.2.2.2.2.2.2.1, K.2.2.2.2.2.2.2.1, nI b8) A0 e np B)), ((g 30), .inl (cA 3, 2000, .inl yb)), ((g 38), .inl (cA 3, 2000, .inl ow)), ((g 39), .inl (cA 3, 2000, .inl fi)), ((g 40), .inl (cA 3, 2000, .inl be))] := hD.sub [3, 4, 0, 1, 2] (by decide) rfl
      refine W.cs (cells' := 0) (slots' := 0) rfl rfl ?_
      refine W.eq (g2 := F0 m 34 ls [.long (lN v)]) rfl ?_
      refine lv_goto (tgt := 38) hx hb d_Md_lookElement_34 (by decide) ?_
      refine lv_lstore (lv' := [(5, .long (lN v)), (4, .int 1), (3, .int 2), (0, .ref m0), (1, .int (nI t)), (2, .int 7)]) hx hb d_Md_lookElement_38 hl (by decide) rfl (fun ls hl => ?_)
      refine lv_iload_n hx hb d_Md_lookElement_40 rfl (lv_at hl 5 rfl) ?_
      refine lv_if_ne (tgt := 67) hx hb d_Md_lookElement_41 (by decide) (fun c_41 => ?_) (fun c_41 => absurd c_41 (by decide))
      refine lv_iload_n hx hb d_Md_lookElement_67 rfl (lv_at hl 5 rfl) ?_
      refine lv_iconst (v := 2) hx hb d_Md_lookElement_68 (by decide) ?_
      refine lv_icmp_ne (tgt := 75) hx hb d_Md_lookElement_69 (by decide) (fun c_69 => ?_) (fun c_69 => absurd c_69 (by decide))
      refine lv_iload_n hx hb d_Md_lookElement_75 rfl (lv_at hl 5 rfl) ?_
      refine lv_iconst (v := 4) hx hb d_Md_lookElement_76 (by decide) ?_
      refine lv_icmp_eq (tgt := 85) hx hb d_Md_lookElement_77 (by decide) (fun c_77 => absurd c_77 (by decide)) (fun c_77 => ?_)
      refine lv_iload_n hx hb d_Md_lookElement_80 rfl (lv_at hl 5 rfl) ?_
      refine lv_iconst (v := 5) hx hb d_Md_lookElement_81 (by decide) ?_
      refine lv_icmp_ne (tgt := 104) hx hb d_Md_lookElement_82 (by decide) (fun c_82 => ?_) (fun c_82 => absurd c_82 (by decide))
      refine lv_iload_n hx hb d_Md_lookElement_104 rfl (lv_at hl 5 rfl) ?_
      refine lv_bipush (v := 6) hx hb d_Md_lookElement_105 (by decide) ?_
      refine lv_icmp_ne (tgt := 122) hx hb d_Md_lookElement_107 (by decide) (fun c_107 => ?_) (fun c_107 => absurd c_107 (by decide))
      refine lv_iload hx hb d_Md_lookElement_122 (lv_at hl 1 rfl) ?_
      refine lv_if_eq (tgt := 142) hx hb d_Md_lookElement_124 (by decide) (fun c_124 => absurd c_124 (by decide)) (fun c_124 => ?_)
      refine lv_aload_n hx hb d_Md_lookElement_127 rfl (lv_at hl 3 rfl) ?_
      refine lv_aload_n hx hb d_Md_lookElement_128 rfl (lv_at hl 3 rfl) ?_
      refine va_get (D := D) (ci := 6) (v := .ref (g 40)) (C := R_Md) (T := F_Md) (N := 44) hx hb hts (fun w h => List.mem_cons_of_mem _ (i_Md w h)) hown hE.1 hP 0 rfl rfl 40 (by decide) (hts _ (List.mem_cons_of_mem _ iw3_94)) (fun _ h9 => h9) rfl d_Md_lookElement_129 ?_
      refine lv_aload_n hx hb d_Md_lookElement_132 rfl (lv_at hl 3 rfl) ?_
      refine lv_iload_n hx hb d_Md_lookElement_133 rfl (lv_at hl 4 rfl) ?_
      refine lv_iconst (v := 0) hx hb d_Md_lookElement_134 (by decide) ?_
      refine cV (As := [.int (nI t), .int 0]) (rest := [.ref (g 40), .ref m0]) (n := 2) (wc := [(m0, .inr (6, mF g (K.1, K.2.1, K.2.2.1, K.2.2.2.1, nI X.length, K.2.2.2.2.2.1, K.2.2.2.2.2.2.1, K.2.2.2.2.2.2.2.1, nI b8) A0 e np B)), ((g 38), .inl (cA 3, 2000, .inl ow))]) (wr := [((g 30), .inl (cA 3, 2000, .inl yb)), ((g 39), .inl (cA 3, 2000, .inl fi)), ((g 40), .inl (cA 3, 2000, .inl be))]) ⟨hx, hb, hml, hown, hts⟩ hno hlocks hl.1 (c_Md_expressionOf l hl9 D cA ad H.size m0 g (K.1, K.2.1, K.2.2.1, K.2.2.2.1, nI X.length, K.2.2.2.2.2.1, K.2.2.2.2.2.2.1, K.2.2.2.2.2.2.2.1, nI b8) A0 e np B ow fi be X hXH hXf hX t (by omega) 0 (by omega)) iw4_156 iw4_158 sel_Md_expressionOf iw1_7 iw4_159 (by decide +kernel) rfl ⟨Nat.le_of_ble_eq_true rfl, Nat.le_of_ble_eq_true rfl⟩ ⟨Nat.le_of_ble_eq_true rfl, Nat.le_of_ble_eq_true rfl⟩ rfl (Nat.le_of_ble_eq_true rfl) d_Md_lookElement_135 hE hP hD hS hA [0, 2] [1, 3, 4] rfl rfl rfl rfl (by decide) (ci := 6) rfl rfl 0 rfl (fun _ h => h.elim) (fun v_135 u_135 H locs hp_135 hP hD hS => ?_)
      rcases hp_135 with ⟨rfl, hno255⟩ | ⟨e255_, f255_, z255_, he255, rfl, hg255, hfi255, hbe255, hfb255, hzb255⟩
      · exact absurd hno255 (by rw [hexx]; simp)
      have hP : va_P D cls [(m0, .inr (6, mF g (K.1, K.2.1, K.2.2.1, K.2.2.2.1, nI X.length, K.2.2.2.2.2.1, K.2.2.2.2.2.2.1, K.2.2.2.2.2.2.2.1, nI b8) A0 e np B)), ((g 30), .inl (cA 3, 2000, .inl yb)), ((g 38), .inl (cA 3, 2000, .inl ow)), ((g 39), .inl (cA 3, 2000, .inl fi)), ((g 40), .inl (cA 3, 2000, .inl be))] H := hP.sub [3, 0, 4, 1, 2] rfl
      have hD : va_D A [(m0, .inr (6, mF g (K.1, K.2.1, K.2.2.1, K.2.2.2.1, nI X.length, K.2.2.2.2.2.1, K.2.2.2.2.2.2.1, K.2.2.2.2.2.2.2.1, nI b8) A0 e np B)), ((g 30), .inl (cA 3, 2000, .inl yb)), ((g 38), .inl (cA 3, 2000, .inl ow)), ((g 39), .inl (cA 3, 2000, .inl fi)), ((g 40), .inl (cA 3, 2000, .inl be))] := hD.sub [3, 0, 4, 1, 2] (by decide) rfl
      refine W.cs (cells' := 0) (slots' := 0) rfl rfl ?_
      refine W.eq (g2 := F0 m 138 ls [.int (nI e255_), .ref (g 40), .ref m0]) rfl ?_
      refine va_iald hx hb hE.1 hP 4 3 rfl rfl (vp_in_nI (by omega) (by omega)) d_Md_lookElement_138 ?_
      rw [nI_clamp (n := e255_) (by omega), hbe255, show z255_ = a2 from by rw [hexx] at hg255; exact (congrArg Prod.snd (Option.some.inj hg255)).symm]
      refine va_put (D := D) (ci := 6) (v := .int (nI a2)) (ty := .int) (C := R_Md) (T := F_Md) (N := 44) hx hb hts (fun w h => List.mem_cons_of_mem _ (i_Md w h)) t_Md tk_Md n_Md hown hE.1 hP hD hS 0 rfl rfl 43 (by decide) (hts _ (List.mem_cons_of_mem _ iw3_97)) (fun _ h9 => h9) rfl (by decide +kernel) rfl rfl (Nat.le_of_ble_eq_true rfl) d_Md_lookElement_139 (fun H locs hP hD hS => ?_)
      have hP : va_P D cls [(m0, .inr (6, mF g (K.1, K.2.1, K.2.2.1, K.2.2.2.1, nI X.length, K.2.2.2.2.2.1, K.2.2.2.2.2.2.1, K.2.2.2.2.2.2.2.1, nI a2) A0 e np B)), ((g 30), .inl (cA 3, 2000, .inl yb)), ((g 38), .inl (cA 3, 2000, .inl ow)), ((g 39), .inl (cA 3, 2000, .inl fi)), ((g 40), .inl (cA 3, 2000, .inl be))] H := hP
      have hD : va_D A [(m0, .inr (6, mF g (K.1, K.2.1, K.2.2.1, K.2.2.2.1, nI X.length, K.2.2.2.2.2.1, K.2.2.2.2.2.2.1, K.2.2.2.2.2.2.2.1, nI a2) A0 e np B)), ((g 30), .inl (cA 3, 2000, .inl yb)), ((g 38), .inl (cA 3, 2000, .inl ow)), ((g 39), .inl (cA 3, 2000, .inl fi)), ((g 40), .inl (cA 3, 2000, .inl be))] := hD
      refine lv_iload_n hx hb d_Md_lookElement_142 rfl (lv_at hl 2 rfl) ?_
      refine lv_if_eq (tgt := 155) hx hb d_Md_lookElement_143 (by decide) (fun c_143 => absurd c_143 (by decide)) (fun c_143 => ?_)
      refine lv_iload_n hx hb d_Md_lookElement_146 rfl (lv_at hl 2 rfl) ?_
      refine lv_iconst (v := 4) hx hb d_Md_lookElement_147 (by decide) ?_
      refine lv_icmp_eq (tgt := 155) hx hb d_Md_lookElement_148 (by decide) (fun c_148 => absurd c_148 (by decide)) (fun c_148 => ?_)
      refine lv_iconst (v := 1) hx hb d_Md_lookElement_151 (by decide) ?_
      refine lv_goto (tgt := 156) hx hb d_Md_lookElement_152 (by decide) ?_
      refine lv_istore (lv' := [(7, .int 1), (5, .long (lN v)), (4, .int 1), (3, .int 2), (0, .ref m0), (1, .int (nI t)), (2, .int 7)]) hx hb d_Md_lookElement_156 hl (by decide) rfl (fun ls hl => ?_)
      refine lv_iload hx hb d_Md_lookElement_158 (lv_at hl 0 rfl) ?_
      refine lv_if_eq (tgt := 182) hx hb d_Md_lookElement_160 (by decide) (fun c_160 => absurd c_160 (by decide)) (fun c_160 => ?_)
      refine lv_iload_n hx hb d_Md_lookElement_163 rfl (lv_at hl 3 rfl) ?_
      refine lv_iconst (v := 4) hx hb d_Md_lookElement_164 (by decide) ?_
      refine lv_iand hx hb d_Md_lookElement_165 ?_
      refine W.eq (g2 := F0 m 166 ls [.int 0]) (by rw [show (2 : Int32) &&& 4 = 0 from by decide +kernel]) ?_
      refine lv_if_eq (tgt := 182) hx hb d_Md_lookElement_166 (by decide) (fun c_166 => ?_) (fun c_166 => absurd (by decide) c_166)
      refine lv_ldc2 hx hb hown (hts _ (List.mem_cons_of_mem _ iw4_168)) d_Md_lookElement_182 ?_
      refine lv_lstore (lv' := [(8, .long 112), (7, .int 1), (5, .long (lN v)), (4, .int 1), (3, .int 2), (0, .ref m0), (1, .int (nI t)), (2, .int 7)]) hx hb d_Md_lookElement_185 hl (by decide) rfl (fun ls hl => ?_)
      refine lv_aload_n hx hb d_Md_lookElement_187 rfl (lv_at hl 5 rfl) ?_
      refine lv_dup hx hb d_Md_lookElement_188 rfl ?_
      refine va_get (D := D) (ci := 6) (v := .int (nI a2)) (C := R_Md) (T := F_Md) (N := 44) hx hb hts (fun w h => List.mem_cons_of_mem _ (i_Md w h)) hown hE.1 hP 0 rfl rfl 43 (by decide) (hts _ (List.mem_cons_of_mem _ iw3_97)) (fun _ h9 => h9) rfl d_Md_lookElement_189 ?_
      refine lv_iload hx hb d_Md_lookElement_192 (lv_at hl 1 rfl) ?_
      refine lv_if_eq (tgt := 201) hx hb d_Md_lookElement_194 (by decide) (fun c_194 => absurd c_194 (by decide)) (fun c_194 => ?_)
      refine lv_iconst (v := 1) hx hb d_Md_lookElement_197 (by decide) ?_
      refine lv_goto (tgt := 202) hx hb d_Md_lookElement_198 (by decide) ?_
      refine lv_iadd hx hb d_Md_lookElement_202 ?_
      rw [nI_1]
      refine va_put (D := D) (ci := 6) (v := .int (nI (a2 + 1))) (ty := .int) (C := R_Md) (T := F_Md) (N := 44) hx hb hts (fun w h => List.mem_cons_of_mem _ (i_Md w h)) t_Md tk_Md n_Md hown hE.1 hP hD hS 0 rfl rfl 43 (by decide) (hts _ (List.mem_cons_of_mem _ iw3_97)) (fun _ h9 => h9) rfl (by decide +kernel) rfl rfl (Nat.le_of_ble_eq_true rfl) d_Md_lookElement_203 (fun H locs hP hD hS => ?_)
      have hP : va_P D cls [(m0, .inr (6, mF g (K.1, K.2.1, K.2.2.1, K.2.2.2.1, nI X.length, K.2.2.2.2.2.1, K.2.2.2.2.2.2.1, K.2.2.2.2.2.2.2.1, nI (a2 + 1)) A0 e np B)), ((g 30), .inl (cA 3, 2000, .inl yb)), ((g 38), .inl (cA 3, 2000, .inl ow)), ((g 39), .inl (cA 3, 2000, .inl fi)), ((g 40), .inl (cA 3, 2000, .inl be))] H := hP
      have hD : va_D A [(m0, .inr (6, mF g (K.1, K.2.1, K.2.2.1, K.2.2.2.1, nI X.length, K.2.2.2.2.2.1, K.2.2.2.2.2.2.1, K.2.2.2.2.2.2.2.1, nI (a2 + 1)) A0 e np B)), ((g 30), .inl (cA 3, 2000, .inl yb)), ((g 38), .inl (cA 3, 2000, .inl ow)), ((g 39), .inl (cA 3, 2000, .inl fi)), ((g 40), .inl (cA 3, 2000, .inl be))] := hD
      refine lv_iload_n hx hb d_Md_lookElement_206 rfl (lv_at hl 7 rfl) ?_
      refine lv_iconst (v := 1) hx hb d_Md_lookElement_207 (by decide) ?_
      refine lv_icmp_ne (tgt := 214) hx hb d_Md_lookElement_208 (by decide) (fun c_208 => ?_) (fun c_208 => absurd c_208 (by decide))
      refine lv_aload_n hx hb d_Md_lookElement_214 rfl (lv_at hl 5 rfl) ?_
      refine cV (As := []) (rest := []) (n := 0) (wc := [(m0, .inr (6, mF g (K.1, K.2.1, K.2.2.1, K.2.2.2.1, nI X.length, K.2.2.2.2.2.1, K.2.2.2.2.2.2.1, K.2.2.2.2.2.2.2.1, nI (a2 + 1)) A0 e np B)), ((g 30), .inl (cA 3, 2000, .inl yb))]) (wr := [((g 38), .inl (cA 3, 2000, .inl ow)), ((g 39), .inl (cA 3, 2000, .inl fi)), ((g 40), .inl (cA 3, 2000, .inl be))]) ⟨hx, hb, hml, hown, hts⟩ hno hlocks hl.1 (c_Md_number l hl9 D cA ad H.size m0 g (K.1, K.2.1, K.2.2.1, K.2.2.2.1, nI X.length, K.2.2.2.2.2.1, K.2.2.2.2.2.2.1, K.2.2.2.2.2.2.2.1, nI (a2 + 1)) A0 e np B yb b lm hlm hyb hb9 (a2 + 1) n a4 (by omega) he4) iw4_132 iw4_134 sel_Md_number iw1_7 iw4_135 (by decide +kernel) rfl ⟨Nat.le_of_ble_eq_true rfl, Nat.le_of_ble_eq_true rfl⟩ ⟨Nat.le_of_ble_eq_true rfl, Nat.le_of_ble_eq_true rfl⟩ rfl (Nat.le_of_ble_eq_true rfl) d_Md_lookElement_215 hE hP hD hS hA [0, 1] [2, 3, 4] rfl rfl rfl rfl (by decide) (ci := 6) rfl rfl 0 rfl (fun _ h => h.elim) (fun v_215 u_215 H locs hp_215 hP hD hS => ?_)
      obtain rfl := hp_215
      have hP : va_P D cls [(m0, .inr (6, mF g (K.1, K.2.1, K.2.2.1, K.2.2.2.1, nI X.length, K.2.2.2.2.2.1, K.2.2.2.2.2.2.1, K.2.2.2.2.2.2.2.1, nI a4) A0 e np B)), ((g 30), .inl (cA 3, 2000, .inl yb)), ((g 38), .inl (cA 3, 2000, .inl ow)), ((g 39), .inl (cA 3, 2000, .inl fi)), ((g 40), .inl (cA 3, 2000, .inl be))] H := hP.sub [3, 4, 0, 1, 2] rfl
      have hD : va_D A [(m0, .inr (6, mF g (K.1, K.2.1, K.2.2.1, K.2.2.2.1, nI X.length, K.2.2.2.2.2.1, K.2.2.2.2.2.2.1, K.2.2.2.2.2.2.2.1, nI a4) A0 e np B)), ((g 30), .inl (cA 3, 2000, .inl yb)), ((g 38), .inl (cA 3, 2000, .inl ow)), ((g 39), .inl (cA 3, 2000, .inl fi)), ((g 40), .inl (cA 3, 2000, .inl be))] := hD.sub [3, 4, 0, 1, 2] (by decide) rfl
      refine W.cs (cells' := 0) (slots' := 0) rfl rfl ?_
      refine W.eq (g2 := F0 m 218 ls [.long (lN n)]) rfl ?_
      refine lv_lstore (lv' := [(10, .long (lN n)), (8, .long 112), (7, .int 1), (5, .long (lN v)), (4, .int 1), (3, .int 2), (0, .ref m0), (1, .int (nI t)), (2, .int 7)]) hx hb d_Md_lookElement_218 hl (by decide) rfl (fun ls hl => ?_)
      refine lv_iload_n hx hb d_Md_lookElement_220 rfl (lv_at hl 8 rfl) ?_
      refine lv_iconst (v := 3) hx hb d_Md_lookElement_221 (by decide) ?_
      refine lv_icmp_ne (tgt := 228) hx hb d_Md_lookElement_222 (by decide) (fun c_222 => ?_) (fun c_222 => absurd c_222 (by decide))
      refine lv_iload_n hx hb d_Md_lookElement_228 rfl (lv_at hl 8 rfl) ?_
      refine lv_bipush (v := 8) hx hb d_Md_lookElement_229 (by decide) ?_
      refine lv_icmp_lt (tgt := 245) hx hb d_Md_lookElement_231 (by decide) (fun c_231 => ?_) (fun c_231 => absurd (by decide) c_231)
      refine lv_ldc2 hx hb hown (hts _ (List.mem_cons_of_mem _ iw3_204)) d_Md_lookElement_245 ?_
      exact cRl (nI a4) hx hb hr hlocks d_Md_lookElement_248 hS hP hD (rfl) (Nat.le_refl _) (Nat.le_refl _)
    · have hl := hl
      refine lv_aload_n hx hb d_Md_lookElement_0 rfl (lv_at hl 0 rfl) ?_
      refine cV (As := []) (rest := []) (n := 0) (wc := [(m0, .inr (6, mF g (K.1, K.2.1, K.2.2.1, K.2.2.2.1, nI X.length, K.2.2.2.2.2.1, K.2.2.2.2.2.2.1, K.2.2.2.2.2.2.2.1, nI a) A0 e np B)), ((g 30), .inl (cA 3, 2000, .inl yb))]) (wr := [((g 38), .inl (cA 3, 2000, .inl ow)), ((g 39), .inl (cA 3, 2000, .inl fi)), ((g 40), .inl (cA 3, 2000, .inl be))]) ⟨hx, hb, hml, hown, hts⟩ hno hlocks hl.1 (c_Md_number l hl9 D cA ad s.heap.size m0 g (K.1, K.2.1, K.2.2.1, K.2.2.2.1, nI X.length, K.2.2.2.2.2.1, K.2.2.2.2.2.2.1, K.2.2.2.2.2.2.2.1, nI a) A0 e np B yb b lm hlm hyb hb9 a 2 a1 (by omega) hmu) iw4_132 iw4_134 sel_Md_number iw1_7 iw4_135 (by decide +kernel) rfl ⟨Nat.le_of_ble_eq_true rfl, Nat.le_of_ble_eq_true rfl⟩ ⟨Nat.le_of_ble_eq_true rfl, Nat.le_of_ble_eq_true rfl⟩ rfl (Nat.le_of_ble_eq_true rfl) d_Md_lookElement_1 hE hP hD hS hA [0, 1] [2, 3, 4] rfl rfl rfl rfl (by decide) (ci := 6) rfl rfl 0 rfl (fun _ h => h.elim) (fun v_1 u_1 H locs hp_1 hP hD hS => ?_)
      obtain rfl := hp_1
      have hP : va_P D cls [(m0, .inr (6, mF g (K.1, K.2.1, K.2.2.1, K.2.2.2.1, nI X.length, K.2.2.2.2.2.1, K.2.2.2.2.2.2.1, K.2.2.2.2.2.2.2.1, nI a1) A0 e np B)), ((g 30), .inl (cA 3, 2000, .inl yb)), ((g 38), .inl (cA 3, 2000, .inl ow)), ((g 39), .inl (cA 3, 2000, .inl fi)), ((g 40), .inl (cA 3, 2000, .inl be))] H := hP.sub [3, 4, 0, 1, 2] rfl
      have hD : va_D A [(m0, .inr (6, mF g (K.1, K.2.1, K.2.2.1, K.2.2.2.1, nI X.length, K.2.2.2.2.2.1, K.2.2.2.2.2.2.1, K.2.2.2.2.2.2.2.1, nI a1) A0 e np B)), ((g 30), .inl (cA 3, 2000, .inl yb)), ((g 38), .inl (cA 3, 2000, .inl ow)), ((g 39), .inl (cA 3, 2000, .inl fi)), ((g 40), .inl (cA 3, 2000, .inl be))] := hD.sub [3, 4, 0, 1, 2] (by decide) rfl
      refine W.cs (cells' := 0) (slots' := 0) rfl rfl ?_
      refine W.eq (g2 := F0 m 4 ls [.long (lN 2)]) rfl ?_
      refine lv_l2i hx hb d_Md_lookElement_4 rfl ?_
      refine W.eq (g2 := F0 m 5 ls [.int 2]) (by rw [lN_i]; rfl) ?_
      refine lv_istore_n (lv' := [(3, .int 2), (0, .ref m0), (1, .int (nI t)), (2, .int (nI wh))]) hx hb d_Md_lookElement_5 rfl hl (by decide) rfl (fun ls hl => ?_)
      refine lv_iload_n hx hb d_Md_lookElement_6 rfl (lv_at hl 0 rfl) ?_
      refine lv_iconst (v := 1) hx hb d_Md_lookElement_7 (by decide) ?_
      refine lv_iand hx hb d_Md_lookElement_8 ?_
      refine W.eq (g2 := F0 m 9 ls [.int 0]) (by rw [show (2 : Int32) &&& 1 = 0 from by decide +kernel]) ?_
      refine lv_if_ne (tgt := 16) hx hb d_Md_lookElement_9 (by decide) (fun c_9 => absurd (by decide) c_9) (fun c_9 => ?_)
      refine lv_iconst (v := 1) hx hb d_Md_lookElement_12 (by decide) ?_
      refine lv_goto (tgt := 17) hx hb d_Md_lookElement_13 (by decide) ?_
      refine lv_istore (lv' := [(4, .int 1), (3, .int 2), (0, .ref m0), (1, .int (nI t)), (2, .int (nI wh))]) hx hb d_Md_lookElement_17 hl (by decide) rfl (fun ls hl => ?_)
      refine lv_iload hx hb d_Md_lookElement_19 (lv_at hl 0 rfl) ?_
      refine lv_if_eq (tgt := 37) hx hb d_Md_lookElement_21 (by decide) (fun c_21 => absurd c_21 (by decide)) (fun c_21 => ?_)
      refine lv_iload_n hx hb d_Md_lookElement_24 rfl (lv_at hl 1 rfl) ?_
      refine lv_iconst (v := 2) hx hb d_Md_lookElement_25 (by decide) ?_
      refine lv_iand hx hb d_Md_lookElement_26 ?_
      refine W.eq (g2 := F0 m 27 ls [.int 2]) (by rw [show (2 : Int32) &&& 2 = 2 from by decide +kernel]) ?_
      refine lv_if_eq (tgt := 37) hx hb d_Md_lookElement_27 (by decide) (fun c_27 => absurd c_27 (by decide)) (fun c_27 => ?_)
      refine lv_aload_n hx hb d_Md_lookElement_30 rfl (lv_at hl 2 rfl) ?_
      refine cV (As := []) (rest := []) (n := 0) (wc := [(m0, .inr (6, mF g (K.1, K.2.1, K.2.2.1, K.2.2.2.1, nI X.length, K.2.2.2.2.2.1, K.2.2.2.2.2.2.1, K.2.2.2.2.2.2.2.1, nI a1) A0 e np B)), ((g 30), .inl (cA 3, 2000, .inl yb))]) (wr := [((g 38), .inl (cA 3, 2000, .inl ow)), ((g 39), .inl (cA 3, 2000, .inl fi)), ((g 40), .inl (cA 3, 2000, .inl be))]) ⟨hx, hb, hml, hown, hts⟩ hno hlocks hl.1 (c_Md_number l hl9 D cA ad H.size m0 g (K.1, K.2.1, K.2.2.1, K.2.2.2.1, nI X.length, K.2.2.2.2.2.1, K.2.2.2.2.2.2.1, K.2.2.2.2.2.2.2.1, nI a1) A0 e np B yb b lm hlm hyb hb9 a1 v b8 (by omega) hv8) iw4_132 iw4_134 sel_Md_number iw1_7 iw4_135 (by decide +kernel) rfl ⟨Nat.le_of_ble_eq_true rfl, Nat.le_of_ble_eq_true rfl⟩ ⟨Nat.le_of_ble_eq_true rfl, Nat.le_of_ble_eq_true rfl⟩ rfl (Nat.le_of_ble_eq_true rfl) d_Md_lookElement_31 hE hP hD hS hA [0, 1] [2, 3, 4] rfl rfl rfl rfl (by decide) (ci := 6) rfl rfl 0 rfl (fun _ h => h.elim) (fun v_31 u_31 H locs hp_31 hP hD hS => ?_)
      obtain rfl := hp_31
      have hP : va_P D cls [(m0, .inr (6, mF g (K.1, K.2.1, K.2.2.1, K.2.2.2.1, nI X.length, K.2.2.2.2.2.1, K.2.2.2.2.2.2.1, K.2.2.2.2.2.2.2.1, nI b8) A0 e np B)), ((g 30), .inl (cA 3, 2000, .inl yb)), ((g 38), .inl (cA 3, 2000, .inl ow)), ((g 39), .inl (cA 3, 2000, .inl fi)), ((g 40), .inl (cA 3, 2000, .inl be))] H := hP.sub [3, 4, 0, 1, 2] rfl
      have hD : va_D A [(m0, .inr (6, mF g (K.1, K.2.1, K.2.2.1, K.2.2.2.1, nI X.length, K.2.2.2.2.2.1, K.2.2.2.2.2.2.1, K.2.2.2.2.2.2.2.1, nI b8) A0 e np B)), ((g 30), .inl (cA 3, 2000, .inl yb)), ((g 38), .inl (cA 3, 2000, .inl ow)), ((g 39), .inl (cA 3, 2000, .inl fi)), ((g 40), .inl (cA 3, 2000, .inl be))] := hD.sub [3, 4, 0, 1, 2] (by decide) rfl
      refine W.cs (cells' := 0) (slots' := 0) rfl rfl ?_
      refine W.eq (g2 := F0 m 34 ls [.long (lN v)]) rfl ?_
      refine lv_goto (tgt := 38) hx hb d_Md_lookElement_34 (by decide) ?_
      refine lv_lstore (lv' := [(5, .long (lN v)), (4, .int 1), (3, .int 2), (0, .ref m0), (1, .int (nI t)), (2, .int (nI wh))]) hx hb d_Md_lookElement_38 hl (by decide) rfl (fun ls hl => ?_)
      refine lv_iload_n hx hb d_Md_lookElement_40 rfl (lv_at hl 5 rfl) ?_
      refine lv_if_ne (tgt := 67) hx hb d_Md_lookElement_41 (by decide) (fun c_41 => ?_) (fun c_41 => absurd c_41 (fun q => absurd ((nI_eq (a := wh) (b := 0) (by omega) (by decide)).mp q) (by omega)))
      refine lv_iload_n hx hb d_Md_lookElement_67 rfl (lv_at hl 5 rfl) ?_
      refine lv_iconst (v := 2) hx hb d_Md_lookElement_68 (by decide) ?_
      refine lv_icmp_ne (tgt := 75) hx hb d_Md_lookElement_69 (by decide) (fun c_69 => ?_) (fun c_69 => absurd c_69 (fun q => absurd ((nI_eq (a := wh) (b := 2) (by omega) (by decide)).mp q) (by omega)))
      refine lv_iload_n hx hb d_Md_lookElement_75 rfl (lv_at hl 5 rfl) ?_
      refine lv_iconst (v := 4) hx hb d_Md_lookElement_76 (by decide) ?_
      refine lv_icmp_eq (tgt := 85) hx hb d_Md_lookElement_77 (by decide) (fun c_77 => absurd c_77 (fun q => absurd ((nI_eq (a := wh) (b := 4) (by omega) (by decide)).mp q) (by omega))) (fun c_77 => ?_)
      refine lv_iload_n hx hb d_Md_lookElement_80 rfl (lv_at hl 5 rfl) ?_
      refine lv_iconst (v := 5) hx hb d_Md_lookElement_81 (by decide) ?_
      refine lv_icmp_ne (tgt := 104) hx hb d_Md_lookElement_82 (by decide) (fun c_82 => ?_) (fun c_82 => absurd c_82 (fun q => absurd ((nI_eq (a := wh) (b := 5) (by omega) (by decide)).mp q) (by omega)))
      refine lv_iload_n hx hb d_Md_lookElement_104 rfl (lv_at hl 5 rfl) ?_
      refine lv_bipush (v := 6) hx hb d_Md_lookElement_105 (by decide) ?_
      refine lv_icmp_ne (tgt := 122) hx hb d_Md_lookElement_107 (by decide) (fun c_107 => ?_) (fun c_107 => absurd c_107 (fun q => absurd ((nI_eq (a := wh) (b := 6) (by omega) (by decide)).mp q) (by omega)))
      refine lv_iload hx hb d_Md_lookElement_122 (lv_at hl 1 rfl) ?_
      refine lv_if_eq (tgt := 142) hx hb d_Md_lookElement_124 (by decide) (fun c_124 => absurd c_124 (by decide)) (fun c_124 => ?_)
      refine lv_aload_n hx hb d_Md_lookElement_127 rfl (lv_at hl 3 rfl) ?_
      refine lv_aload_n hx hb d_Md_lookElement_128 rfl (lv_at hl 3 rfl) ?_
      refine va_get (D := D) (ci := 6) (v := .ref (g 40)) (C := R_Md) (T := F_Md) (N := 44) hx hb hts (fun w h => List.mem_cons_of_mem _ (i_Md w h)) hown hE.1 hP 0 rfl rfl 40 (by decide) (hts _ (List.mem_cons_of_mem _ iw3_94)) (fun _ h9 => h9) rfl d_Md_lookElement_129 ?_
      refine lv_aload_n hx hb d_Md_lookElement_132 rfl (lv_at hl 3 rfl) ?_
      refine lv_iload_n hx hb d_Md_lookElement_133 rfl (lv_at hl 4 rfl) ?_
      refine lv_iconst (v := 0) hx hb d_Md_lookElement_134 (by decide) ?_
      refine cV (As := [.int (nI t), .int 0]) (rest := [.ref (g 40), .ref m0]) (n := 2) (wc := [(m0, .inr (6, mF g (K.1, K.2.1, K.2.2.1, K.2.2.2.1, nI X.length, K.2.2.2.2.2.1, K.2.2.2.2.2.2.1, K.2.2.2.2.2.2.2.1, nI b8) A0 e np B)), ((g 38), .inl (cA 3, 2000, .inl ow))]) (wr := [((g 30), .inl (cA 3, 2000, .inl yb)), ((g 39), .inl (cA 3, 2000, .inl fi)), ((g 40), .inl (cA 3, 2000, .inl be))]) ⟨hx, hb, hml, hown, hts⟩ hno hlocks hl.1 (c_Md_expressionOf l hl9 D cA ad H.size m0 g (K.1, K.2.1, K.2.2.1, K.2.2.2.1, nI X.length, K.2.2.2.2.2.1, K.2.2.2.2.2.2.1, K.2.2.2.2.2.2.2.1, nI b8) A0 e np B ow fi be X hXH hXf hX t (by omega) 0 (by omega)) iw4_156 iw4_158 sel_Md_expressionOf iw1_7 iw4_159 (by decide +kernel) rfl ⟨Nat.le_of_ble_eq_true rfl, Nat.le_of_ble_eq_true rfl⟩ ⟨Nat.le_of_ble_eq_true rfl, Nat.le_of_ble_eq_true rfl⟩ rfl (Nat.le_of_ble_eq_true rfl) d_Md_lookElement_135 hE hP hD hS hA [0, 2] [1, 3, 4] rfl rfl rfl rfl (by decide) (ci := 6) rfl rfl 0 rfl (fun _ h => h.elim) (fun v_135 u_135 H locs hp_135 hP hD hS => ?_)
      rcases hp_135 with ⟨rfl, hno256⟩ | ⟨e256_, f256_, z256_, he256, rfl, hg256, hfi256, hbe256, hfb256, hzb256⟩
      · exact absurd hno256 (by rw [hexx]; simp)
      have hP : va_P D cls [(m0, .inr (6, mF g (K.1, K.2.1, K.2.2.1, K.2.2.2.1, nI X.length, K.2.2.2.2.2.1, K.2.2.2.2.2.2.1, K.2.2.2.2.2.2.2.1, nI b8) A0 e np B)), ((g 30), .inl (cA 3, 2000, .inl yb)), ((g 38), .inl (cA 3, 2000, .inl ow)), ((g 39), .inl (cA 3, 2000, .inl fi)), ((g 40), .inl (cA 3, 2000, .inl be))] H := hP.sub [3, 0, 4, 1, 2] rfl
      have hD : va_D A [(m0, .inr (6, mF g (K.1, K.2.1, K.2.2.1, K.2.2.2.1, nI X.length, K.2.2.2.2.2.1, K.2.2.2.2.2.2.1, K.2.2.2.2.2.2.2.1, nI b8) A0 e np B)), ((g 30), .inl (cA 3, 2000, .inl yb)), ((g 38), .inl (cA 3, 2000, .inl ow)), ((g 39), .inl (cA 3, 2000, .inl fi)), ((g 40), .inl (cA 3, 2000, .inl be))] := hD.sub [3, 0, 4, 1, 2] (by decide) rfl
      refine W.cs (cells' := 0) (slots' := 0) rfl rfl ?_
      refine W.eq (g2 := F0 m 138 ls [.int (nI e256_), .ref (g 40), .ref m0]) rfl ?_
      refine va_iald hx hb hE.1 hP 4 3 rfl rfl (vp_in_nI (by omega) (by omega)) d_Md_lookElement_138 ?_
      rw [nI_clamp (n := e256_) (by omega), hbe256, show z256_ = a2 from by rw [hexx] at hg256; exact (congrArg Prod.snd (Option.some.inj hg256)).symm]
      refine va_put (D := D) (ci := 6) (v := .int (nI a2)) (ty := .int) (C := R_Md) (T := F_Md) (N := 44) hx hb hts (fun w h => List.mem_cons_of_mem _ (i_Md w h)) t_Md tk_Md n_Md hown hE.1 hP hD hS 0 rfl rfl 43 (by decide) (hts _ (List.mem_cons_of_mem _ iw3_97)) (fun _ h9 => h9) rfl (by decide +kernel) rfl rfl (Nat.le_of_ble_eq_true rfl) d_Md_lookElement_139 (fun H locs hP hD hS => ?_)
      have hP : va_P D cls [(m0, .inr (6, mF g (K.1, K.2.1, K.2.2.1, K.2.2.2.1, nI X.length, K.2.2.2.2.2.1, K.2.2.2.2.2.2.1, K.2.2.2.2.2.2.2.1, nI a2) A0 e np B)), ((g 30), .inl (cA 3, 2000, .inl yb)), ((g 38), .inl (cA 3, 2000, .inl ow)), ((g 39), .inl (cA 3, 2000, .inl fi)), ((g 40), .inl (cA 3, 2000, .inl be))] H := hP
      have hD : va_D A [(m0, .inr (6, mF g (K.1, K.2.1, K.2.2.1, K.2.2.2.1, nI X.length, K.2.2.2.2.2.1, K.2.2.2.2.2.2.1, K.2.2.2.2.2.2.2.1, nI a2) A0 e np B)), ((g 30), .inl (cA 3, 2000, .inl yb)), ((g 38), .inl (cA 3, 2000, .inl ow)), ((g 39), .inl (cA 3, 2000, .inl fi)), ((g 40), .inl (cA 3, 2000, .inl be))] := hD
      refine lv_iload_n hx hb d_Md_lookElement_142 rfl (lv_at hl 2 rfl) ?_
      refine lv_if_eq (tgt := 155) hx hb d_Md_lookElement_143 (by decide) (fun c_143 => absurd c_143 (by decide)) (fun c_143 => ?_)
      refine lv_iload_n hx hb d_Md_lookElement_146 rfl (lv_at hl 2 rfl) ?_
      refine lv_iconst (v := 4) hx hb d_Md_lookElement_147 (by decide) ?_
      refine lv_icmp_eq (tgt := 155) hx hb d_Md_lookElement_148 (by decide) (fun c_148 => absurd c_148 (by decide)) (fun c_148 => ?_)
      refine lv_iconst (v := 1) hx hb d_Md_lookElement_151 (by decide) ?_
      refine lv_goto (tgt := 156) hx hb d_Md_lookElement_152 (by decide) ?_
      refine lv_istore (lv' := [(7, .int 1), (5, .long (lN v)), (4, .int 1), (3, .int 2), (0, .ref m0), (1, .int (nI t)), (2, .int (nI wh))]) hx hb d_Md_lookElement_156 hl (by decide) rfl (fun ls hl => ?_)
      refine lv_iload hx hb d_Md_lookElement_158 (lv_at hl 0 rfl) ?_
      refine lv_if_eq (tgt := 182) hx hb d_Md_lookElement_160 (by decide) (fun c_160 => absurd c_160 (by decide)) (fun c_160 => ?_)
      refine lv_iload_n hx hb d_Md_lookElement_163 rfl (lv_at hl 3 rfl) ?_
      refine lv_iconst (v := 4) hx hb d_Md_lookElement_164 (by decide) ?_
      refine lv_iand hx hb d_Md_lookElement_165 ?_
      refine W.eq (g2 := F0 m 166 ls [.int 0]) (by rw [show (2 : Int32) &&& 4 = 0 from by decide +kernel]) ?_
      refine lv_if_eq (tgt := 182) hx hb d_Md_lookElement_166 (by decide) (fun c_166 => ?_) (fun c_166 => absurd (by decide) c_166)
      refine lv_ldc2 hx hb hown (hts _ (List.mem_cons_of_mem _ iw4_168)) d_Md_lookElement_182 ?_
      refine lv_lstore (lv' := [(8, .long 112), (7, .int 1), (5, .long (lN v)), (4, .int 1), (3, .int 2), (0, .ref m0), (1, .int (nI t)), (2, .int (nI wh))]) hx hb d_Md_lookElement_185 hl (by decide) rfl (fun ls hl => ?_)
      refine lv_aload_n hx hb d_Md_lookElement_187 rfl (lv_at hl 5 rfl) ?_
      refine lv_dup hx hb d_Md_lookElement_188 rfl ?_
      refine va_get (D := D) (ci := 6) (v := .int (nI a2)) (C := R_Md) (T := F_Md) (N := 44) hx hb hts (fun w h => List.mem_cons_of_mem _ (i_Md w h)) hown hE.1 hP 0 rfl rfl 43 (by decide) (hts _ (List.mem_cons_of_mem _ iw3_97)) (fun _ h9 => h9) rfl d_Md_lookElement_189 ?_
      refine lv_iload hx hb d_Md_lookElement_192 (lv_at hl 1 rfl) ?_
      refine lv_if_eq (tgt := 201) hx hb d_Md_lookElement_194 (by decide) (fun c_194 => absurd c_194 (by decide)) (fun c_194 => ?_)
      refine lv_iconst (v := 1) hx hb d_Md_lookElement_197 (by decide) ?_
      refine lv_goto (tgt := 202) hx hb d_Md_lookElement_198 (by decide) ?_
      refine lv_iadd hx hb d_Md_lookElement_202 ?_
      rw [nI_1]
      refine va_put (D := D) (ci := 6) (v := .int (nI (a2 + 1))) (ty := .int) (C := R_Md) (T := F_Md) (N := 44) hx hb hts (fun w h => List.mem_cons_of_mem _ (i_Md w h)) t_Md tk_Md n_Md hown hE.1 hP hD hS 0 rfl rfl 43 (by decide) (hts _ (List.mem_cons_of_mem _ iw3_97)) (fun _ h9 => h9) rfl (by decide +kernel) rfl rfl (Nat.le_of_ble_eq_true rfl) d_Md_lookElement_203 (fun H locs hP hD hS => ?_)
      have hP : va_P D cls [(m0, .inr (6, mF g (K.1, K.2.1, K.2.2.1, K.2.2.2.1, nI X.length, K.2.2.2.2.2.1, K.2.2.2.2.2.2.1, K.2.2.2.2.2.2.2.1, nI (a2 + 1)) A0 e np B)), ((g 30), .inl (cA 3, 2000, .inl yb)), ((g 38), .inl (cA 3, 2000, .inl ow)), ((g 39), .inl (cA 3, 2000, .inl fi)), ((g 40), .inl (cA 3, 2000, .inl be))] H := hP
      have hD : va_D A [(m0, .inr (6, mF g (K.1, K.2.1, K.2.2.1, K.2.2.2.1, nI X.length, K.2.2.2.2.2.1, K.2.2.2.2.2.2.1, K.2.2.2.2.2.2.2.1, nI (a2 + 1)) A0 e np B)), ((g 30), .inl (cA 3, 2000, .inl yb)), ((g 38), .inl (cA 3, 2000, .inl ow)), ((g 39), .inl (cA 3, 2000, .inl fi)), ((g 40), .inl (cA 3, 2000, .inl be))] := hD
      refine lv_iload_n hx hb d_Md_lookElement_206 rfl (lv_at hl 7 rfl) ?_
      refine lv_iconst (v := 1) hx hb d_Md_lookElement_207 (by decide) ?_
      refine lv_icmp_ne (tgt := 214) hx hb d_Md_lookElement_208 (by decide) (fun c_208 => ?_) (fun c_208 => absurd c_208 (fun q => absurd ((nI_eq (a := wh) (b := 1) (by omega) (by decide)).mp q) (by omega)))
      refine lv_aload_n hx hb d_Md_lookElement_214 rfl (lv_at hl 5 rfl) ?_
      refine cV (As := []) (rest := []) (n := 0) (wc := [(m0, .inr (6, mF g (K.1, K.2.1, K.2.2.1, K.2.2.2.1, nI X.length, K.2.2.2.2.2.1, K.2.2.2.2.2.2.1, K.2.2.2.2.2.2.2.1, nI (a2 + 1)) A0 e np B)), ((g 30), .inl (cA 3, 2000, .inl yb))]) (wr := [((g 38), .inl (cA 3, 2000, .inl ow)), ((g 39), .inl (cA 3, 2000, .inl fi)), ((g 40), .inl (cA 3, 2000, .inl be))]) ⟨hx, hb, hml, hown, hts⟩ hno hlocks hl.1 (c_Md_number l hl9 D cA ad H.size m0 g (K.1, K.2.1, K.2.2.1, K.2.2.2.1, nI X.length, K.2.2.2.2.2.1, K.2.2.2.2.2.2.1, K.2.2.2.2.2.2.2.1, nI (a2 + 1)) A0 e np B yb b lm hlm hyb hb9 (a2 + 1) n a4 (by omega) he4) iw4_132 iw4_134 sel_Md_number iw1_7 iw4_135 (by decide +kernel) rfl ⟨Nat.le_of_ble_eq_true rfl, Nat.le_of_ble_eq_true rfl⟩ ⟨Nat.le_of_ble_eq_true rfl, Nat.le_of_ble_eq_true rfl⟩ rfl (Nat.le_of_ble_eq_true rfl) d_Md_lookElement_215 hE hP hD hS hA [0, 1] [2, 3, 4] rfl rfl rfl rfl (by decide) (ci := 6) rfl rfl 0 rfl (fun _ h => h.elim) (fun v_215 u_215 H locs hp_215 hP hD hS => ?_)
      obtain rfl := hp_215
      have hP : va_P D cls [(m0, .inr (6, mF g (K.1, K.2.1, K.2.2.1, K.2.2.2.1, nI X.length, K.2.2.2.2.2.1, K.2.2.2.2.2.2.1, K.2.2.2.2.2.2.2.1, nI a4) A0 e np B)), ((g 30), .inl (cA 3, 2000, .inl yb)), ((g 38), .inl (cA 3, 2000, .inl ow)), ((g 39), .inl (cA 3, 2000, .inl fi)), ((g 40), .inl (cA 3, 2000, .inl be))] H := hP.sub [3, 4, 0, 1, 2] rfl
      have hD : va_D A [(m0, .inr (6, mF g (K.1, K.2.1, K.2.2.1, K.2.2.2.1, nI X.length, K.2.2.2.2.2.1, K.2.2.2.2.2.2.1, K.2.2.2.2.2.2.2.1, nI a4) A0 e np B)), ((g 30), .inl (cA 3, 2000, .inl yb)), ((g 38), .inl (cA 3, 2000, .inl ow)), ((g 39), .inl (cA 3, 2000, .inl fi)), ((g 40), .inl (cA 3, 2000, .inl be))] := hD.sub [3, 4, 0, 1, 2] (by decide) rfl
      refine W.cs (cells' := 0) (slots' := 0) rfl rfl ?_
      refine W.eq (g2 := F0 m 218 ls [.long (lN n)]) rfl ?_
      refine lv_lstore (lv' := [(10, .long (lN n)), (8, .long 112), (7, .int 1), (5, .long (lN v)), (4, .int 1), (3, .int 2), (0, .ref m0), (1, .int (nI t)), (2, .int (nI wh))]) hx hb d_Md_lookElement_218 hl (by decide) rfl (fun ls hl => ?_)
      refine lv_iload_n hx hb d_Md_lookElement_220 rfl (lv_at hl 8 rfl) ?_
      refine lv_iconst (v := 3) hx hb d_Md_lookElement_221 (by decide) ?_
      refine lv_icmp_ne (tgt := 228) hx hb d_Md_lookElement_222 (by decide) (fun c_222 => ?_) (fun c_222 => absurd c_222 (fun q => absurd ((nI_eq (a := wh) (b := 3) (by omega) (by decide)).mp q) (by omega)))
      refine lv_iload_n hx hb d_Md_lookElement_228 rfl (lv_at hl 8 rfl) ?_
      refine lv_bipush (v := 8) hx hb d_Md_lookElement_229 (by decide) ?_
      refine lv_icmp_lt (tgt := 245) hx hb d_Md_lookElement_231 (by decide) (fun c_231 => absurd c_231 (nI_nlt (a := wh) (b := 8) (by omega) (by omega))) (fun c_231 => ?_)
      refine lv_iload_n hx hb d_Md_lookElement_234 rfl (lv_at hl 8 rfl) ?_
      refine lv_bipush (v := 8) hx hb d_Md_lookElement_235 (by decide) ?_
      refine lv_isub hx hb d_Md_lookElement_237 ?_
      refine lv_i2l hx hb d_Md_lookElement_238 rfl ?_
      refine lv_lload hx hb d_Md_lookElement_239 (lv_at hl 0 rfl) ?_
      rw [show (8 : Int32) = nI 8 from rfl, pk_sub hw8, nI_l (n := wh - 8) (by omega)]
      refine W.lcmp hx hb d_Md_lookElement_241 ?_
      refine lv_if_lt (tgt := 249) hx hb d_Md_lookElement_242 (by decide) (fun c_242 => ?_) (fun c_242 => ?_)
      · have hin : wh - 8 < n := (pk_lLT (by omega) (by omega)).mp ((lg_cmp_lt _ _).mp c_242)
        refine lv_iload_n hx hb d_Md_lookElement_249 rfl (lv_at hl 5 rfl) ?_
        refine lv_iconst (v := 4) hx hb d_Md_lookElement_250 (by decide) ?_
        refine lv_iand hx hb d_Md_lookElement_251 ?_
        refine W.eq (g2 := F0 m 252 ls [.int 0]) (by rw [show (2 : Int32) &&& 4 = 0 from by decide +kernel]) ?_
        refine lv_if_eq (tgt := 282) hx hb d_Md_lookElement_252 (by decide) (fun c_252 => ?_) (fun c_252 => absurd (by decide) c_252)
        refine lv_bipush (v := 8) hx hb d_Md_lookElement_282 (by decide) ?_
        refine lv_istore (lv' := [(12, .int 8), (10, .long (lN n)), (8, .long 112), (7, .int 1), (5, .long (lN v)), (4, .int 1), (3, .int 2), (0, .ref m0), (1, .int (nI t)), (2, .int (nI wh))]) hx hb d_Md_lookElement_284 hl (by decide) rfl (fun ls hl => ?_)
        have key : ∀ (d k ak : Nat) (acc : List Int64) (H : Heap) (locs : List Loc) (ls : Array Slot), k + d = wh → 8 ≤ k → ak ≤ lm → acc.length = k - 8 → repU b lm (n - (k - 8)) acc ak = .inr (it, a') → va_P D cls [(m0, .inr (6, mF g (K.1, K.2.1, K.2.2.1, K.2.2.2.1, nI X.length, K.2.2.2.2.2.1, K.2.2.2.2.2.2.1, K.2.2.2.2.2.2.2.1, nI ak) A0 e np B)), ((g 30), .inl (cA 3, 2000, .inl yb)), ((g 38), .inl (cA 3, 2000, .inl ow)), ((g 39), .inl (cA 3, 2000, .inl fi)), ((g 40), .inl (cA 3, 2000, .inl be))] H → va_D A [(m0, .inr (6, mF g (K.1, K.2.1, K.2.2.1, K.2.2.2.1, nI X.length, K.2.2.2.2.2.1, K.2.2.2.2.2.2.1, K.2.2.2.2.2.2.2.1, nI ak) A0 e np B)), ((g 30), .inl (cA 3, 2000, .inl yb)), ((g 38), .inl (cA 3, 2000, .inl ow)), ((g 39), .inl (cA 3, 2000, .inl fi)), ((g 40), .inl (cA 3, 2000, .inl be))] → va_S A s.heap H locs → lv_has ls 13 [(0, .ref m0), (2, .int (nI wh)), (12, .int (nI k))] → W pg l ev ({ frames := 2, cells := 0, slots := 0, locals := 48 }) s m ([.ref m0, .int (nI t), .int (nI wh)] : List Value).toArray bw meth cdx H locs 0 0 (tx_Q bw (cQ D (fun vv (_ : Int32) => vv = some (.long (lkS 7 (vp_updL (vp_updL (vp_updL (vp_updL (vp_updL (vp_updL (vp_updL (vp_updL (vp_updL c_1 0 (elM 2)) 2 (lN v)) 4 (lN b8)) 5 (lN a2)) 1 (lN 112)) 6 (elS 2)) 3 (lN n)) 7 (lN nl)) 8 (lN n)) LL wh))) (fun _ => False) (fun (q : Int32) => [(m0, .inr (6, mF g (K.1, K.2.1, K.2.2.1, K.2.2.2.1, nI X.length, K.2.2.2.2.2.1, K.2.2.2.2.2.2.1, K.2.2.2.2.2.2.2.1, q) A0 e np B)), ((g 30), .inl (cA 3, 2000, .inl yb)), ((g 38), .inl (cA 3, 2000, .inl ow)), ((g 39), .inl (cA 3, 2000, .inl fi)), ((g 40), .inl (cA 3, 2000, .inl be))]) (fun _ => (0, 0)) A) ([.ref m0, .int (nI t), .int (nI wh)] : List Value).toArray s A) (F0 m 286 ls []) := by
          intro d
          induction d with
          | zero =>
            intro k ak acc H locs ls hkd hk8 hak hacc hrep hP hD hS hl
            obtain ⟨r, hr9⟩ : ∃ r, n - (k - 8) = r + 1 := ⟨n - (k - 8) - 1, by omega⟩
            rw [hr9, repU] at hrep
            obtain ⟨vk, b1, hv1, hrep⟩ := bnd_ok hrep
            have hw1 := pU32_ok (by omega) hv1
            obtain ⟨⟨ly, hiy, hly⟩, -, -⟩ := repU_pref r _ _ it a' (by omega) hrep
            refine lv_iload hx hb d_Md_lookElement_286 (lv_at hl 2 rfl) ?_
            refine lv_iload_n hx hb d_Md_lookElement_288 rfl (lv_at hl 1 rfl) ?_
            refine lv_icmp_ge (tgt := 303) hx hb d_Md_lookElement_289 (by decide) (fun c_289 => ?_) (fun c_289 => absurd (nI_le (by omega) (by omega)) c_289)
            refine lv_aload_n hx hb d_Md_lookElement_303 rfl (lv_at hl 0 rfl) ?_
            refine cV (As := []) (rest := []) (n := 0) (wc := [(m0, .inr (6, mF g (K.1, K.2.1, K.2.2.1, K.2.2.2.1, nI X.length, K.2.2.2.2.2.1, K.2.2.2.2.2.2.1, K.2.2.2.2.2.2.2.1, nI ak) A0 e np B)), ((g 30), .inl (cA 3, 2000, .inl yb))]) (wr := [((g 38), .inl (cA 3, 2000, .inl ow)), ((g 39), .inl (cA 3, 2000, .inl fi)), ((g 40), .inl (cA 3, 2000, .inl be))]) ⟨hx, hb, hml, hown, hts⟩ hno hlocks hl.1 (c_Md_number l hl9 D cA ad H.size m0 g (K.1, K.2.1, K.2.2.1, K.2.2.2.1, nI X.length, K.2.2.2.2.2.1, K.2.2.2.2.2.2.1, K.2.2.2.2.2.2.2.1, nI ak) A0 e np B yb b lm hlm hyb hb9 ak vk b1 (by omega) hv1) iw4_132 iw4_134 sel_Md_number iw1_7 iw4_135 (by decide +kernel) rfl ⟨Nat.le_of_ble_eq_true rfl, Nat.le_of_ble_eq_true rfl⟩ ⟨Nat.le_of_ble_eq_true rfl, Nat.le_of_ble_eq_true rfl⟩ rfl (Nat.le_of_ble_eq_true rfl) d_Md_lookElement_304 hE hP hD hS hA [0, 1] [2, 3, 4] rfl rfl rfl rfl (by decide) (ci := 6) rfl rfl 0 rfl (fun _ h => h.elim) (fun v_304 u_304 H locs hp_304 hP hD hS => ?_)
            obtain rfl := hp_304
            have hP : va_P D cls [(m0, .inr (6, mF g (K.1, K.2.1, K.2.2.1, K.2.2.2.1, nI X.length, K.2.2.2.2.2.1, K.2.2.2.2.2.2.1, K.2.2.2.2.2.2.2.1, nI b1) A0 e np B)), ((g 30), .inl (cA 3, 2000, .inl yb)), ((g 38), .inl (cA 3, 2000, .inl ow)), ((g 39), .inl (cA 3, 2000, .inl fi)), ((g 40), .inl (cA 3, 2000, .inl be))] H := hP.sub [3, 4, 0, 1, 2] rfl
            have hD : va_D A [(m0, .inr (6, mF g (K.1, K.2.1, K.2.2.1, K.2.2.2.1, nI X.length, K.2.2.2.2.2.1, K.2.2.2.2.2.2.1, K.2.2.2.2.2.2.2.1, nI b1) A0 e np B)), ((g 30), .inl (cA 3, 2000, .inl yb)), ((g 38), .inl (cA 3, 2000, .inl ow)), ((g 39), .inl (cA 3, 2000, .inl fi)), ((g 40), .inl (cA 3, 2000, .inl be))] := hD.sub [3, 4, 0, 1, 2] (by decide) rfl
            refine W.cs (cells' := 0) (slots' := 0) rfl rfl ?_
            refine W.eq (g2 := F0 m 307 ls [.long (lN vk)]) rfl ?_
            exact cRl (nI b1) hx hb hr hlocks d_Md_lookElement_307 hS hP hD (by rw [lkS, if_pos (show 8 ≤ wh by omega), if_pos rfl, lst_in (z := vp_updL (vp_updL (vp_updL (vp_updL (vp_updL (vp_updL (vp_updL (vp_updL (vp_updL c_1 0 (elM 2)) 2 (lN v)) 4 (lN b8)) 5 (lN a2)) 1 (lN 112)) 6 (elS 2)) 3 (lN n)) 7 (lN nl)) 8 (lN n)) (cs := 7) (cn := 8) (M := n) (nl := nl) rfl rfl (by omega) hnl hitl.1 hseg (show wh - 8 < n by omega), hiy, List.append_assoc, List.singleton_append, getD_at (show acc.length = wh - 8 by omega)]) (Nat.le_refl _) (Nat.le_refl _)
          | succ d ih =>
            intro k ak acc H locs ls hkd hk8 hak hacc hrep hP hD hS hl
            obtain ⟨r, hr9⟩ : ∃ r, n - (k - 8) = r + 1 := ⟨n - (k - 8) - 1, by omega⟩
            rw [hr9, repU] at hrep
            obtain ⟨vk, b1, hv1, hrep⟩ := bnd_ok hrep
            have hw1 := pU32_ok (by omega) hv1
            obtain ⟨⟨ly, hiy, hly⟩, -, -⟩ := repU_pref r _ _ it a' (by omega) hrep
            refine lv_iload hx hb d_Md_lookElement_286 (lv_at hl 2 rfl) ?_
            refine lv_iload_n hx hb d_Md_lookElement_288 rfl (lv_at hl 1 rfl) ?_
            refine lv_icmp_ge (tgt := 303) hx hb d_Md_lookElement_289 (by decide) (fun c_289 => absurd c_289 (nI_ge (by omega) (by omega))) (fun c_289 => ?_)
            refine lv_aload_n hx hb d_Md_lookElement_292 rfl (lv_at hl 0 rfl) ?_
            refine cV (As := []) (rest := []) (n := 0) (wc := [(m0, .inr (6, mF g (K.1, K.2.1, K.2.2.1, K.2.2.2.1, nI X.length, K.2.2.2.2.2.1, K.2.2.2.2.2.2.1, K.2.2.2.2.2.2.2.1, nI ak) A0 e np B)), ((g 30), .inl (cA 3, 2000, .inl yb))]) (wr := [((g 38), .inl (cA 3, 2000, .inl ow)), ((g 39), .inl (cA 3, 2000, .inl fi)), ((g 40), .inl (cA 3, 2000, .inl be))]) ⟨hx, hb, hml, hown, hts⟩ hno hlocks hl.1 (c_Md_number l hl9 D cA ad H.size m0 g (K.1, K.2.1, K.2.2.1, K.2.2.2.1, nI X.length, K.2.2.2.2.2.1, K.2.2.2.2.2.2.1, K.2.2.2.2.2.2.2.1, nI ak) A0 e np B yb b lm hlm hyb hb9 ak vk b1 (by omega) hv1) iw4_132 iw4_134 sel_Md_number iw1_7 iw4_135 (by decide +kernel) rfl ⟨Nat.le_of_ble_eq_true rfl, Nat.le_of_ble_eq_true rfl⟩ ⟨Nat.le_of_ble_eq_true rfl, Nat.le_of_ble_eq_true rfl⟩ rfl (Nat.le_of_ble_eq_true rfl) d_Md_lookElement_293 hE hP hD hS hA [0, 1] [2, 3, 4] rfl rfl rfl rfl (by decide) (ci := 6) rfl rfl 0 rfl (fun _ h => h.elim) (fun v_293 u_293 H locs hp_293 hP hD hS => ?_)
            obtain rfl := hp_293
            have hP : va_P D cls [(m0, .inr (6, mF g (K.1, K.2.1, K.2.2.1, K.2.2.2.1, nI X.length, K.2.2.2.2.2.1, K.2.2.2.2.2.2.1, K.2.2.2.2.2.2.2.1, nI b1) A0 e np B)), ((g 30), .inl (cA 3, 2000, .inl yb)), ((g 38), .inl (cA 3, 2000, .inl ow)), ((g 39), .inl (cA 3, 2000, .inl fi)), ((g 40), .inl (cA 3, 2000, .inl be))] H := hP.sub [3, 4, 0, 1, 2] rfl
            have hD : va_D A [(m0, .inr (6, mF g (K.1, K.2.1, K.2.2.1, K.2.2.2.1, nI X.length, K.2.2.2.2.2.1, K.2.2.2.2.2.2.1, K.2.2.2.2.2.2.2.1, nI b1) A0 e np B)), ((g 30), .inl (cA 3, 2000, .inl yb)), ((g 38), .inl (cA 3, 2000, .inl ow)), ((g 39), .inl (cA 3, 2000, .inl fi)), ((g 40), .inl (cA 3, 2000, .inl be))] := hD.sub [3, 4, 0, 1, 2] (by decide) rfl
            refine W.cs (cells' := 0) (slots' := 0) rfl rfl ?_
            refine W.eq (g2 := F0 m 296 ls [.long (lN vk)]) rfl ?_
            refine lv_pop2_2 hx hb d_Md_lookElement_296 rfl ?_
            obtain ⟨x12_3, ex12_3⟩ : ∃ y : Int32, y = (nI k) + 1 := ⟨_, rfl⟩
            refine lv_iinc (v := x12_3) (lv' := [(12, .int x12_3), (0, .ref m0), (2, .int (nI wh))]) hx hb d_Md_lookElement_297 hl (k := 2) rfl (by rw [ex12_3]; rfl) (by decide) rfl (fun ls hl => ?_)
            refine lv_goto (tgt := 286) hx hb d_Md_lookElement_300 (by decide) ?_
            have e9 : x12_3 = nI (k + 1) := by rw [ex12_3]; exact nI_1 k
            subst e9
            exact ih (k + 1) b1 (acc ++ [lN vk]) H locs ls (by omega) (by omega) (by omega) (by simp; omega) (by rw [show n - (k + 1 - 8) = r by omega]; exact hrep) hP hD hS (lv_sub hl [1, 2, 0] rfl)
        exact key (wh - 8) 8 a4 [] H _ ls (by omega) (Nat.le_refl _) (by omega) rfl (by rw [Nat.sub_self, Nat.sub_zero]; exact he5) hP hD hS (lv_sub hl [7, 9, 0] rfl)
      · refine lv_ldc2 hx hb hown (hts _ (List.mem_cons_of_mem _ iw3_204)) d_Md_lookElement_245 ?_
        exact cRl (nI a4) hx hb hr hlocks d_Md_lookElement_248 hS hP hD (by rw [lkS, if_pos (show 8 ≤ wh by omega), if_pos rfl, lst_out (z := vp_updL (vp_updL (vp_updL (vp_updL (vp_updL (vp_updL (vp_updL (vp_updL (vp_updL c_1 0 (elM 2)) 2 (lN v)) 4 (lN b8)) 5 (lN a2)) 1 (lN 112)) 6 (elS 2)) 3 (lN n)) 7 (lN nl)) 8 (lN n)) (cs := 7) (cn := 8) (M := n) rfl (by omega) (by omega) (by have := (pk_lLE (a := n) (b := wh - 8) (by omega) (by omega)).mp (Int64.not_lt.mp (fun q => c_242 ((lg_cmp_lt _ _).mpr q))); omega)]) (Nat.le_refl _) (Nat.le_refl _)
  · obtain ⟨ec2, ea2⟩ : vp_updL (vp_updL c_1 0 (elM 3)) 2 0 = c2 ∧ a1 = a2 := by have q : (Sum.inr (vp_updL (vp_updL c_1 0 (elM 3)) 2 0, a1) : PR (Nat → Int64)) = .inr (c2, a2) := he2; cases q; exact ⟨rfl, rfl⟩
    subst ea2
    subst ec2
    have he3 : bnd (pChoice b lm 0 a1) (fun _ a5 => .inr (112, a5)) = .inr (tt, a3) := he3
    obtain ⟨g7, b7, q7, r7⟩ := bnd_ok he3
    obtain ⟨h71, h72, -, -⟩ := pChoice_inv q7
    obtain ⟨ett, ea3⟩ : 112 = tt ∧ a1 + 1 = a3 := by cases r7; exact ⟨rfl, h72.symm⟩
    subst ett
    subst ea3
    have hexx : exO t X = exs := hexx
    have he5 : repU b lm n [] a4 = .inr (it, a') := he5
    rcases (show wh = 0 ∨ wh = 1 ∨ wh = 2 ∨ wh = 3 ∨ wh = 4 ∨ wh = 5 ∨ wh = 6 ∨ wh = 7 ∨ 8 ≤ wh by omega) with rfl | rfl | rfl | rfl | rfl | rfl | rfl | rfl | hw8
    · have hl : lv_has ls 13 [(0, .ref m0), (1, .int (nI t)), (2, .int 0)] := hl
      refine lv_aload_n hx hb d_Md_lookElement_0 rfl (lv_at hl 0 rfl) ?_
      refine cV (As := []) (rest := []) (n := 0) (wc := [(m0, .inr (6, mF g (K.1, K.2.1, K.2.2.1, K.2.2.2.1, nI X.length, K.2.2.2.2.2.1, K.2.2.2.2.2.2.1, K.2.2.2.2.2.2.2.1, nI a) A0 e np B)), ((g 30), .inl (cA 3, 2000, .inl yb))]) (wr := [((g 38), .inl (cA 3, 2000, .inl ow)), ((g 39), .inl (cA 3, 2000, .inl fi)), ((g 40), .inl (cA 3, 2000, .inl be))]) ⟨hx, hb, hml, hown, hts⟩ hno hlocks hl.1 (c_Md_number l hl9 D cA ad s.heap.size m0 g (K.1, K.2.1, K.2.2.1, K.2.2.2.1, nI X.length, K.2.2.2.2.2.1, K.2.2.2.2.2.2.1, K.2.2.2.2.2.2.2.1, nI a) A0 e np B yb b lm hlm hyb hb9 a 3 a1 (by omega) hmu) iw4_132 iw4_134 sel_Md_number iw1_7 iw4_135 (by decide +kernel) rfl ⟨Nat.le_of_ble_eq_true rfl, Nat.le_of_ble_eq_true rfl⟩ ⟨Nat.le_of_ble_eq_true rfl, Nat.le_of_ble_eq_true rfl⟩ rfl (Nat.le_of_ble_eq_true rfl) d_Md_lookElement_1 hE hP hD hS hA [0, 1] [2, 3, 4] rfl rfl rfl rfl (by decide) (ci := 6) rfl rfl 0 rfl (fun _ h => h.elim) (fun v_1 u_1 H locs hp_1 hP hD hS => ?_)
      obtain rfl := hp_1
      have hP : va_P D cls [(m0, .inr (6, mF g (K.1, K.2.1, K.2.2.1, K.2.2.2.1, nI X.length, K.2.2.2.2.2.1, K.2.2.2.2.2.2.1, K.2.2.2.2.2.2.2.1, nI a1) A0 e np B)), ((g 30), .inl (cA 3, 2000, .inl yb)), ((g 38), .inl (cA 3, 2000, .inl ow)), ((g 39), .inl (cA 3, 2000, .inl fi)), ((g 40), .inl (cA 3, 2000, .inl be))] H := hP.sub [3, 4, 0, 1, 2] rfl
      have hD : va_D A [(m0, .inr (6, mF g (K.1, K.2.1, K.2.2.1, K.2.2.2.1, nI X.length, K.2.2.2.2.2.1, K.2.2.2.2.2.2.1, K.2.2.2.2.2.2.2.1, nI a1) A0 e np B)), ((g 30), .inl (cA 3, 2000, .inl yb)), ((g 38), .inl (cA 3, 2000, .inl ow)), ((g 39), .inl (cA 3, 2000, .inl fi)), ((g 40), .inl (cA 3, 2000, .inl be))] := hD.sub [3, 4, 0, 1, 2] (by decide) rfl
      refine W.cs (cells' := 0) (slots' := 0) rfl rfl ?_
      refine W.eq (g2 := F0 m 4 ls [.long (lN 3)]) rfl ?_
      refine lv_l2i hx hb d_Md_lookElement_4 rfl ?_
      refine W.eq (g2 := F0 m 5 ls [.int 3]) (by rw [lN_i]; rfl) ?_
      refine lv_istore_n (lv' := [(3, .int 3), (0, .ref m0), (1, .int (nI t)), (2, .int 0)]) hx hb d_Md_lookElement_5 rfl hl (by decide) rfl (fun ls hl => ?_)
      refine lv_iload_n hx hb d_Md_lookElement_6 rfl (lv_at hl 0 rfl) ?_
      refine lv_iconst (v := 1) hx hb d_Md_lookElement_7 (by decide) ?_
      refine lv_iand hx hb d_Md_lookElement_8 ?_
      refine W.eq (g2 := F0 m 9 ls [.int 1]) (by rw [show (3 : Int32) &&& 1 = 1 from by decide +kernel]) ?_
      refine lv_if_ne (tgt := 16) hx hb d_Md_lookElement_9 (by decide) (fun c_9 => ?_) (fun c_9 => absurd c_9 (by decide))
      refine lv_iconst (v := 0) hx hb d_Md_lookElement_16 (by decide) ?_
      refine lv_istore (lv' := [(4, .int 0), (3, .int 3), (0, .ref m0), (1, .int (nI t)), (2, .int 0)]) hx hb d_Md_lookElement_17 hl (by decide) rfl (fun ls hl => ?_)
      refine lv_iload hx hb d_Md_lookElement_19 (lv_at hl 0 rfl) ?_
      refine lv_if_eq (tgt := 37) hx hb d_Md_lookElement_21 (by decide) (fun c_21 => ?_) (fun c_21 => absurd (by decide) c_21)
      refine lv_lconst (v := 0) hx hb d_Md_lookElement_37 (by decide) ?_
      refine lv_lstore (lv' := [(5, .long 0), (4, .int 0), (3, .int 3), (0, .ref m0), (1, .int (nI t)), (2, .int 0)]) hx hb d_Md_lookElement_38 hl (by decide) rfl (fun ls hl => ?_)
      refine lv_iload_n hx hb d_Md_lookElement_40 rfl (lv_at hl 5 rfl) ?_
      refine lv_if_ne (tgt := 67) hx hb d_Md_lookElement_41 (by decide) (fun c_41 => absurd (by decide) c_41) (fun c_41 => ?_)
      refine lv_iload hx hb d_Md_lookElement_44 (lv_at hl 1 rfl) ?_
      refine lv_if_eq (tgt := 53) hx hb d_Md_lookElement_46 (by decide) (fun c_46 => ?_) (fun c_46 => absurd (by decide) c_46)
      refine lv_iload_n hx hb d_Md_lookElement_53 rfl (lv_at hl 2 rfl) ?_
      refine lv_iconst (v := 2) hx hb d_Md_lookElement_54 (by decide) ?_
      refine lv_iand hx hb d_Md_lookElement_55 ?_
      refine W.eq (g2 := F0 m 56 ls [.int 2]) (by rw [show (3 : Int32) &&& 2 = 2 from by decide +kernel]) ?_
      refine lv_if_eq (tgt := 65) hx hb d_Md_lookElement_56 (by decide) (fun c_56 => absurd c_56 (by decide)) (fun c_56 => ?_)
      refine lv_ldc2 hx hb hown (hts _ (List.mem_cons_of_mem _ iw4_51)) d_Md_lookElement_59 ?_
      refine lv_goto (tgt := 66) hx hb d_Md_lookElement_62 (by decide) ?_
      exact cRl (nI a1) hx hb hr hlocks d_Md_lookElement_66 hS hP hD (rfl) (Nat.le_refl _) (Nat.le_refl _)
    · have hl : lv_has ls 13 [(0, .ref m0), (1, .int (nI t)), (2, .int 1)] := hl
      refine lv_aload_n hx hb d_Md_lookElement_0 rfl (lv_at hl 0 rfl) ?_
      refine cV (As := []) (rest := []) (n := 0) (wc := [(m0, .inr (6, mF g (K.1, K.2.1, K.2.2.1, K.2.2.2.1, nI X.length, K.2.2.2.2.2.1, K.2.2.2.2.2.2.1, K.2.2.2.2.2.2.2.1, nI a) A0 e np B)), ((g 30), .inl (cA 3, 2000, .inl yb))]) (wr := [((g 38), .inl (cA 3, 2000, .inl ow)), ((g 39), .inl (cA 3, 2000, .inl fi)), ((g 40), .inl (cA 3, 2000, .inl be))]) ⟨hx, hb, hml, hown, hts⟩ hno hlocks hl.1 (c_Md_number l hl9 D cA ad s.heap.size m0 g (K.1, K.2.1, K.2.2.1, K.2.2.2.1, nI X.length, K.2.2.2.2.2.1, K.2.2.2.2.2.2.1, K.2.2.2.2.2.2.2.1, nI a) A0 e np B yb b lm hlm hyb hb9 a 3 a1 (by omega) hmu) iw4_132 iw4_134 sel_Md_number iw1_7 iw4_135 (by decide +kernel) rfl ⟨Nat.le_of_ble_eq_true rfl, Nat.le_of_ble_eq_true rfl⟩ ⟨Nat.le_of_ble_eq_true rfl, Nat.le_of_ble_eq_true rfl⟩ rfl (Nat.le_of_ble_eq_true rfl) d_Md_lookElement_1 hE hP hD hS hA [0, 1] [2, 3, 4] rfl rfl rfl rfl (by decide) (ci := 6) rfl rfl 0 rfl (fun _ h => h.elim) (fun v_1 u_1 H locs hp_1 hP hD hS => ?_)
      obtain rfl := hp_1
      have hP : va_P D cls [(m0, .inr (6, mF g (K.1, K.2.1, K.2.2.1, K.2.2.2.1, nI X.length, K.2.2.2.2.2.1, K.2.2.2.2.2.2.1, K.2.2.2.2.2.2.2.1, nI a1) A0 e np B)), ((g 30), .inl (cA 3, 2000, .inl yb)), ((g 38), .inl (cA 3, 2000, .inl ow)), ((g 39), .inl (cA 3, 2000, .inl fi)), ((g 40), .inl (cA 3, 2000, .inl be))] H := hP.sub [3, 4, 0, 1, 2] rfl
      have hD : va_D A [(m0, .inr (6, mF g (K.1, K.2.1, K.2.2.1, K.2.2.2.1, nI X.length, K.2.2.2.2.2.1, K.2.2.2.2.2.2.1, K.2.2.2.2.2.2.2.1, nI a1) A0 e np B)), ((g 30), .inl (cA 3, 2000, .inl yb)), ((g 38), .inl (cA 3, 2000, .inl ow)), ((g 39), .inl (cA 3, 2000, .inl fi)), ((g 40), .inl (cA 3, 2000, .inl be))] := hD.sub [3, 4, 0, 1, 2] (by decide) rfl
      refine W.cs (cells' := 0) (slots' := 0) rfl rfl ?_
      refine W.eq (g2 := F0 m 4 ls [.long (lN 3)]) rfl ?_
      refine lv_l2i hx hb d_Md_lookElement_4 rfl ?_
      refine W.eq (g2 := F0 m 5 ls [.int 3]) (by rw [lN_i]; rfl) ?_
      refine lv_istore_n (lv' := [(3, .int 3), (0, .ref m0), (1, .int (nI t)), (2, .int 1)]) hx hb d_Md_lookElement_5 rfl hl (by decide) rfl (fun ls hl => ?_)
      refine lv_iload_n hx hb d_Md_lookElement_6 rfl (lv_at hl 0 rfl) ?_
      refine lv_iconst (v := 1) hx hb d_Md_lookElement_7 (by decide) ?_
      refine lv_iand hx hb d_Md_lookElement_8 ?_
      refine W.eq (g2 := F0 m 9 ls [.int 1]) (by rw [show (3 : Int32) &&& 1 = 1 from by decide +kernel]) ?_
      refine lv_if_ne (tgt := 16) hx hb d_Md_lookElement_9 (by decide) (fun c_9 => ?_) (fun c_9 => absurd c_9 (by decide))
      refine lv_iconst (v := 0) hx hb d_Md_lookElement_16 (by decide) ?_
      refine lv_istore (lv' := [(4, .int 0), (3, .int 3), (0, .ref m0), (1, .int (nI t)), (2, .int 1)]) hx hb d_Md_lookElement_17 hl (by decide) rfl (fun ls hl => ?_)
      refine lv_iload hx hb d_Md_lookElement_19 (lv_at hl 0 rfl) ?_
      refine lv_if_eq (tgt := 37) hx hb d_Md_lookElement_21 (by decide) (fun c_21 => ?_) (fun c_21 => absurd (by decide) c_21)
      refine lv_lconst (v := 0) hx hb d_Md_lookElement_37 (by decide) ?_
      refine lv_lstore (lv' := [(5, .long 0), (4, .int 0), (3, .int 3), (0, .ref m0), (1, .int (nI t)), (2, .int 1)]) hx hb d_Md_lookElement_38 hl (by decide) rfl (fun ls hl => ?_)
      refine lv_iload_n hx hb d_Md_lookElement_40 rfl (lv_at hl 5 rfl) ?_
      refine lv_if_ne (tgt := 67) hx hb d_Md_lookElement_41 (by decide) (fun c_41 => ?_) (fun c_41 => absurd c_41 (by decide))
      refine lv_iload_n hx hb d_Md_lookElement_67 rfl (lv_at hl 5 rfl) ?_
      refine lv_iconst (v := 2) hx hb d_Md_lookElement_68 (by decide) ?_
      refine lv_icmp_ne (tgt := 75) hx hb d_Md_lookElement_69 (by decide) (fun c_69 => ?_) (fun c_69 => absurd c_69 (by decide))
      refine lv_iload_n hx hb d_Md_lookElement_75 rfl (lv_at hl 5 rfl) ?_
      refine lv_iconst (v := 4) hx hb d_Md_lookElement_76 (by decide) ?_
      refine lv_icmp_eq (tgt := 85) hx hb d_Md_lookElement_77 (by decide) (fun c_77 => absurd c_77 (by decide)) (fun c_77 => ?_)
      refine lv_iload_n hx hb d_Md_lookElement_80 rfl (lv_at hl 5 rfl) ?_
      refine lv_iconst (v := 5) hx hb d_Md_lookElement_81 (by decide) ?_
      refine lv_icmp_ne (tgt := 104) hx hb d_Md_lookElement_82 (by decide) (fun c_82 => ?_) (fun c_82 => absurd c_82 (by decide))
      refine lv_iload_n hx hb d_Md_lookElement_104 rfl (lv_at hl 5 rfl) ?_
      refine lv_bipush (v := 6) hx hb d_Md_lookElement_105 (by decide) ?_
      refine lv_icmp_ne (tgt := 122) hx hb d_Md_lookElement_107 (by decide) (fun c_107 => ?_) (fun c_107 => absurd c_107 (by decide))
      refine lv_iload hx hb d_Md_lookElement_122 (lv_at hl 1 rfl) ?_
      refine lv_if_eq (tgt := 142) hx hb d_Md_lookElement_124 (by decide) (fun c_124 => ?_) (fun c_124 => absurd (by decide) c_124)
      refine lv_iload_n hx hb d_Md_lookElement_142 rfl (lv_at hl 2 rfl) ?_
      refine lv_if_eq (tgt := 155) hx hb d_Md_lookElement_143 (by decide) (fun c_143 => absurd c_143 (by decide)) (fun c_143 => ?_)
      refine lv_iload_n hx hb d_Md_lookElement_146 rfl (lv_at hl 2 rfl) ?_
      refine lv_iconst (v := 4) hx hb d_Md_lookElement_147 (by decide) ?_
      refine lv_icmp_eq (tgt := 155) hx hb d_Md_lookElement_148 (by decide) (fun c_148 => absurd c_148 (by decide)) (fun c_148 => ?_)
      refine lv_iconst (v := 1) hx hb d_Md_lookElement_151 (by decide) ?_
      refine lv_goto (tgt := 156) hx hb d_Md_lookElement_152 (by decide) ?_
      refine lv_istore (lv' := [(7, .int 1), (5, .long 0), (4, .int 0), (3, .int 3), (0, .ref m0), (1, .int (nI t)), (2, .int 1)]) hx hb d_Md_lookElement_156 hl (by decide) rfl (fun ls hl => ?_)
      refine lv_iload hx hb d_Md_lookElement_158 (lv_at hl 0 rfl) ?_
      refine lv_if_eq (tgt := 182) hx hb d_Md_lookElement_160 (by decide) (fun c_160 => absurd c_160 (by decide)) (fun c_160 => ?_)
      refine lv_iload_n hx hb d_Md_lookElement_163 rfl (lv_at hl 3 rfl) ?_
      refine lv_iconst (v := 4) hx hb d_Md_lookElement_164 (by decide) ?_
      refine lv_iand hx hb d_Md_lookElement_165 ?_
      refine W.eq (g2 := F0 m 166 ls [.int 0]) (by rw [show (3 : Int32) &&& 4 = 0 from by decide +kernel]) ?_
      refine lv_if_eq (tgt := 182) hx hb d_Md_lookElement_166 (by decide) (fun c_166 => ?_) (fun c_166 => absurd (by decide) c_166)
      refine lv_ldc2 hx hb hown (hts _ (List.mem_cons_of_mem _ iw4_168)) d_Md_lookElement_182 ?_
      refine lv_lstore (lv' := [(8, .long 112), (7, .int 1), (5, .long 0), (4, .int 0), (3, .int 3), (0, .ref m0), (1, .int (nI t)), (2, .int 1)]) hx hb d_Md_lookElement_185 hl (by decide) rfl (fun ls hl => ?_)
      refine lv_aload_n hx hb d_Md_lookElement_187 rfl (lv_at hl 5 rfl) ?_
      refine lv_dup hx hb d_Md_lookElement_188 rfl ?_
      refine va_get (D := D) (ci := 6) (v := .int (nI a1)) (C := R_Md) (T := F_Md) (N := 44) hx hb hts (fun w h => List.mem_cons_of_mem _ (i_Md w h)) hown hE.1 hP 0 rfl rfl 43 (by decide) (hts _ (List.mem_cons_of_mem _ iw3_97)) (fun _ h9 => h9) rfl d_Md_lookElement_189 ?_
      refine lv_iload hx hb d_Md_lookElement_192 (lv_at hl 1 rfl) ?_
      refine lv_if_eq (tgt := 201) hx hb d_Md_lookElement_194 (by decide) (fun c_194 => absurd c_194 (by decide)) (fun c_194 => ?_)
      refine lv_iconst (v := 1) hx hb d_Md_lookElement_197 (by decide) ?_
      refine lv_goto (tgt := 202) hx hb d_Md_lookElement_198 (by decide) ?_
      refine lv_iadd hx hb d_Md_lookElement_202 ?_
      rw [nI_1]
      refine va_put (D := D) (ci := 6) (v := .int (nI (a1 + 1))) (ty := .int) (C := R_Md) (T := F_Md) (N := 44) hx hb hts (fun w h => List.mem_cons_of_mem _ (i_Md w h)) t_Md tk_Md n_Md hown hE.1 hP hD hS 0 rfl rfl 43 (by decide) (hts _ (List.mem_cons_of_mem _ iw3_97)) (fun _ h9 => h9) rfl (by decide +kernel) rfl rfl (Nat.le_of_ble_eq_true rfl) d_Md_lookElement_203 (fun H locs hP hD hS => ?_)
      have hP : va_P D cls [(m0, .inr (6, mF g (K.1, K.2.1, K.2.2.1, K.2.2.2.1, nI X.length, K.2.2.2.2.2.1, K.2.2.2.2.2.2.1, K.2.2.2.2.2.2.2.1, nI (a1 + 1)) A0 e np B)), ((g 30), .inl (cA 3, 2000, .inl yb)), ((g 38), .inl (cA 3, 2000, .inl ow)), ((g 39), .inl (cA 3, 2000, .inl fi)), ((g 40), .inl (cA 3, 2000, .inl be))] H := hP
      have hD : va_D A [(m0, .inr (6, mF g (K.1, K.2.1, K.2.2.1, K.2.2.2.1, nI X.length, K.2.2.2.2.2.1, K.2.2.2.2.2.2.1, K.2.2.2.2.2.2.2.1, nI (a1 + 1)) A0 e np B)), ((g 30), .inl (cA 3, 2000, .inl yb)), ((g 38), .inl (cA 3, 2000, .inl ow)), ((g 39), .inl (cA 3, 2000, .inl fi)), ((g 40), .inl (cA 3, 2000, .inl be))] := hD
      refine lv_iload_n hx hb d_Md_lookElement_206 rfl (lv_at hl 7 rfl) ?_
      refine lv_iconst (v := 1) hx hb d_Md_lookElement_207 (by decide) ?_
      refine lv_icmp_ne (tgt := 214) hx hb d_Md_lookElement_208 (by decide) (fun c_208 => absurd (by decide) c_208) (fun c_208 => ?_)
      refine lv_lload hx hb d_Md_lookElement_211 (lv_at hl 0 rfl) ?_
      exact cRl (nI (a1 + 1)) hx hb hr hlocks d_Md_lookElement_213 hS hP hD (rfl) (Nat.le_refl _) (Nat.le_refl _)
    · have hl : lv_has ls 13 [(0, .ref m0), (1, .int (nI t)), (2, .int 2)] := hl
      refine lv_aload_n hx hb d_Md_lookElement_0 rfl (lv_at hl 0 rfl) ?_
      refine cV (As := []) (rest := []) (n := 0) (wc := [(m0, .inr (6, mF g (K.1, K.2.1, K.2.2.1, K.2.2.2.1, nI X.length, K.2.2.2.2.2.1, K.2.2.2.2.2.2.1, K.2.2.2.2.2.2.2.1, nI a) A0 e np B)), ((g 30), .inl (cA 3, 2000, .inl yb))]) (wr := [((g 38), .inl (cA 3, 2000, .inl ow)), ((g 39), .inl (cA 3, 2000, .inl fi)), ((g 40), .inl (cA 3, 2000, .inl be))]) ⟨hx, hb, hml, hown, hts⟩ hno hlocks hl.1 (c_Md_number l hl9 D cA ad s.heap.size m0 g (K.1, K.2.1, K.2.2.1, K.2.2.2.1, nI X.length, K.2.2.2.2.2.1, K.2.2.2.2.2.2.1, K.2.2.2.2.2.2.2.1, nI a) A0 e np B yb b lm hlm hyb hb9 a 3 a1 (by omega) hmu) iw4_132 iw4_134 sel_Md_number iw1_7 iw4_135 (by decide +kernel) rfl ⟨Nat.le_of_ble_eq_true rfl, Nat.le_of_ble_eq_true rfl⟩ ⟨Nat.le_of_ble_eq_true rfl, Nat.le_of_ble_eq_true rfl⟩ rfl (Nat.le_of_ble_eq_true rfl) d_Md_lookElement_1 hE hP hD hS hA [0, 1] [2, 3, 4] rfl rfl rfl rfl (by decide) (ci := 6) rfl rfl 0 rfl (fun _ h => h.elim) (fun v_1 u_1 H locs hp_1 hP hD hS => ?_)
      obtain rfl := hp_1
      have hP : va_P D cls [(m0, .inr (6, mF g (K.1, K.2.1, K.2.2.1, K.2.2.2.1, nI X.length, K.2.2.2.2.2.1, K.2.2.2.2.2.2.1, K.2.2.2.2.2.2.2.1, nI a1) A0 e np B)), ((g 30), .inl (cA 3, 2000, .inl yb)), ((g 38), .inl (cA 3, 2000, .inl ow)), ((g 39), .inl (cA 3, 2000, .inl fi)), ((g 40), .inl (cA 3, 2000, .inl be))] H := hP.sub [3, 4, 0, 1, 2] rfl
      have hD : va_D A [(m0, .inr (6, mF g (K.1, K.2.1, K.2.2.1, K.2.2.2.1, nI X.length, K.2.2.2.2.2.1, K.2.2.2.2.2.2.1, K.2.2.2.2.2.2.2.1, nI a1) A0 e np B)), ((g 30), .inl (cA 3, 2000, .inl yb)), ((g 38), .inl (cA 3, 2000, .inl ow)), ((g 39), .inl (cA 3, 2000, .inl fi)), ((g 40), .inl (cA 3, 2000, .inl be))] := hD.sub [3, 4, 0, 1, 2] (by decide) rfl
      refine W.cs (cells' := 0) (slots' := 0) rfl rfl ?_
      refine W.eq (g2 := F0 m 4 ls [.long (lN 3)]) rfl ?_
      refine lv_l2i hx hb d_Md_lookElement_4 rfl ?_
      refine W.eq (g2 := F0 m 5 ls [.int 3]) (by rw [lN_i]; rfl) ?_
      refine lv_istore_n (lv' := [(3, .int 3), (0, .ref m0), (1, .int (nI t)), (2, .int 2)]) hx hb d_Md_lookElement_5 rfl hl (by decide) rfl (fun ls hl => ?_)
      refine lv_iload_n hx hb d_Md_lookElement_6 rfl (lv_at hl 0 rfl) ?_
      refine lv_iconst (v := 1) hx hb d_Md_lookElement_7 (by decide) ?_
      refine lv_iand hx hb d_Md_lookElement_8 ?_
      refine W.eq (g2 := F0 m 9 ls [.int 1]) (by rw [show (3 : Int32) &&& 1 = 1 from by decide +kernel]) ?_
      refine lv_if_ne (tgt := 16) hx hb d_Md_lookElement_9 (by decide) (fun c_9 => ?_) (fun c_9 => absurd c_9 (by decide))
      refine lv_iconst (v := 0) hx hb d_Md_lookElement_16 (by decide) ?_
      refine lv_istore (lv' := [(4, .int 0), (3, .int 3), (0, .ref m0), (1, .int (nI t)), (2, .int 2)]) hx hb d_Md_lookElement_17 hl (by decide) rfl (fun ls hl => ?_)
      refine lv_iload hx hb d_Md_lookElement_19 (lv_at hl 0 rfl) ?_
      refine lv_if_eq (tgt := 37) hx hb d_Md_lookElement_21 (by decide) (fun c_21 => ?_) (fun c_21 => absurd (by decide) c_21)
      refine lv_lconst (v := 0) hx hb d_Md_lookElement_37 (by decide) ?_
      refine lv_lstore (lv' := [(5, .long 0), (4, .int 0), (3, .int 3), (0, .ref m0), (1, .int (nI t)), (2, .int 2)]) hx hb d_Md_lookElement_38 hl (by decide) rfl (fun ls hl => ?_)
      refine lv_iload_n hx hb d_Md_lookElement_40 rfl (lv_at hl 5 rfl) ?_
      refine lv_if_ne (tgt := 67) hx hb d_Md_lookElement_41 (by decide) (fun c_41 => ?_) (fun c_41 => absurd c_41 (by decide))
      refine lv_iload_n hx hb d_Md_lookElement_67 rfl (lv_at hl 5 rfl) ?_
      refine lv_iconst (v := 2) hx hb d_Md_lookElement_68 (by decide) ?_
      refine lv_icmp_ne (tgt := 75) hx hb d_Md_lookElement_69 (by decide) (fun c_69 => absurd (by decide) c_69) (fun c_69 => ?_)
      refine lv_lload hx hb d_Md_lookElement_72 (lv_at hl 0 rfl) ?_
      exact cRl (nI a1) hx hb hr hlocks d_Md_lookElement_74 hS hP hD (rfl) (Nat.le_refl _) (Nat.le_refl _)
    · have hl : lv_has ls 13 [(0, .ref m0), (1, .int (nI t)), (2, .int 3)] := hl
      refine lv_aload_n hx hb d_Md_lookElement_0 rfl (lv_at hl 0 rfl) ?_
      refine cV (As := []) (rest := []) (n := 0) (wc := [(m0, .inr (6, mF g (K.1, K.2.1, K.2.2.1, K.2.2.2.1, nI X.length, K.2.2.2.2.2.1, K.2.2.2.2.2.2.1, K.2.2.2.2.2.2.2.1, nI a) A0 e np B)), ((g 30), .inl (cA 3, 2000, .inl yb))]) (wr := [((g 38), .inl (cA 3, 2000, .inl ow)), ((g 39), .inl (cA 3, 2000, .inl fi)), ((g 40), .inl (cA 3, 2000, .inl be))]) ⟨hx, hb, hml, hown, hts⟩ hno hlocks hl.1 (c_Md_number l hl9 D cA ad s.heap.size m0 g (K.1, K.2.1, K.2.2.1, K.2.2.2.1, nI X.length, K.2.2.2.2.2.1, K.2.2.2.2.2.2.1, K.2.2.2.2.2.2.2.1, nI a) A0 e np B yb b lm hlm hyb hb9 a 3 a1 (by omega) hmu) iw4_132 iw4_134 sel_Md_number iw1_7 iw4_135 (by decide +kernel) rfl ⟨Nat.le_of_ble_eq_true rfl, Nat.le_of_ble_eq_true rfl⟩ ⟨Nat.le_of_ble_eq_true rfl, Nat.le_of_ble_eq_true rfl⟩ rfl (Nat.le_of_ble_eq_true rfl) d_Md_lookElement_1 hE hP hD hS hA [0, 1] [2, 3, 4] rfl rfl rfl rfl (by decide) (ci := 6) rfl rfl 0 rfl (fun _ h => h.elim) (fun v_1 u_1 H locs hp_1 hP hD hS => ?_)
      obtain rfl := hp_1
      have hP : va_P D cls [(m0, .inr (6, mF g (K.1, K.2.1, K.2.2.1, K.2.2.2.1, nI X.length, K.2.2.2.2.2.1, K.2.2.2.2.2.2.1, K.2.2.2.2.2.2.2.1, nI a1) A0 e np B)), ((g 30), .inl (cA 3, 2000, .inl yb)), ((g 38), .inl (cA 3, 2000, .inl ow)), ((g 39), .inl (cA 3, 2000, .inl fi)), ((g 40), .inl (cA 3, 2000, .inl be))] H := hP.sub [3, 4, 0, 1, 2] rfl
      have hD : va_D A [(m0, .inr (6, mF g (K.1, K.2.1, K.2.2.1, K.2.2.2.1, nI X.length, K.2.2.2.2.2.1, K.2.2.2.2.2.2.1, K.2.2.2.2.2.2.2.1, nI a1) A0 e np B)), ((g 30), .inl (cA 3, 2000, .inl yb)), ((g 38), .inl (cA 3, 2000, .inl ow)), ((g 39), .inl (cA 3, 2000, .inl fi)), ((g 40), .inl (cA 3, 2000, .inl be))] := hD.sub [3, 4, 0, 1, 2] (by decide) rfl
      refine W.cs (cells' := 0) (slots' := 0) rfl rfl ?_
      refine W.eq (g2 := F0 m 4 ls [.long (lN 3)]) rfl ?_
      refine lv_l2i hx hb d_Md_lookElement_4 rfl ?_
      refine W.eq (g2 := F0 m 5 ls [.int 3]) (by rw [lN_i]; rfl) ?_
      refine lv_istore_n (lv' := [(3, .int 3), (0, .ref m0), (1, .int (nI t)), (2, .int 3)]) hx hb d_Md_lookElement_5 rfl hl (by decide) rfl (fun ls hl => ?_)
      refine lv_iload_n hx hb d_Md_lookElement_6 rfl (lv_at hl 0 rfl) ?_
      refine lv_iconst (v := 1) hx hb d_Md_lookElement_7 (by decide) ?_
      refine lv_iand hx hb d_Md_lookElement_8 ?_
      refine W.eq (g2 := F0 m 9 ls [.int 1]) (by rw [show (3 : Int32) &&& 1 = 1 from by decide +kernel]) ?_
      refine lv_if_ne (tgt := 16) hx hb d_Md_lookElement_9 (by decide) (fun c_9 => ?_) (fun c_9 => absurd c_9 (by decide))
      refine lv_iconst (v := 0) hx hb d_Md_lookElement_16 (by decide) ?_
      refine lv_istore (lv' := [(4, .int 0), (3, .int 3), (0, .ref m0), (1, .int (nI t)), (2, .int 3)]) hx hb d_Md_lookElement_17 hl (by decide) rfl (fun ls hl => ?_)
      refine lv_iload hx hb d_Md_lookElement_19 (lv_at hl 0 rfl) ?_
      refine lv_if_eq (tgt := 37) hx hb d_Md_lookElement_21 (by decide) (fun c_21 => ?_) (fun c_21 => absurd (by decide) c_21)
      refine lv_lconst (v := 0) hx hb d_Md_lookElement_37 (by decide) ?_
      refine lv_lstore (lv' := [(5, .long 0), (4, .int 0), (3, .int 3), (0, .ref m0), (1, .int (nI t)), (2, .int 3)]) hx hb d_Md_lookElement_38 hl (by decide) rfl (fun ls hl => ?_)
      refine lv_iload_n hx hb d_Md_lookElement_40 rfl (lv_at hl 5 rfl) ?_
      refine lv_if_ne (tgt := 67) hx hb d_Md_lookElement_41 (by decide) (fun c_41 => ?_) (fun c_41 => absurd c_41 (by decide))
      refine lv_iload_n hx hb d_Md_lookElement_67 rfl (lv_at hl 5 rfl) ?_
      refine lv_iconst (v := 2) hx hb d_Md_lookElement_68 (by decide) ?_
      refine lv_icmp_ne (tgt := 75) hx hb d_Md_lookElement_69 (by decide) (fun c_69 => ?_) (fun c_69 => absurd c_69 (by decide))
      refine lv_iload_n hx hb d_Md_lookElement_75 rfl (lv_at hl 5 rfl) ?_
      refine lv_iconst (v := 4) hx hb d_Md_lookElement_76 (by decide) ?_
      refine lv_icmp_eq (tgt := 85) hx hb d_Md_lookElement_77 (by decide) (fun c_77 => absurd c_77 (by decide)) (fun c_77 => ?_)
      refine lv_iload_n hx hb d_Md_lookElement_80 rfl (lv_at hl 5 rfl) ?_
      refine lv_iconst (v := 5) hx hb d_Md_lookElement_81 (by decide) ?_
      refine lv_icmp_ne (tgt := 104) hx hb d_Md_lookElement_82 (by decide) (fun c_82 => ?_) (fun c_82 => absurd c_82 (by decide))
      refine lv_iload_n hx hb d_Md_lookElement_104 rfl (lv_at hl 5 rfl) ?_
      refine lv_bipush (v := 6) hx hb d_Md_lookElement_105 (by decide) ?_
      refine lv_icmp_ne (tgt := 122) hx hb d_Md_lookElement_107 (by decide) (fun c_107 => ?_) (fun c_107 => absurd c_107 (by decide))
      refine lv_iload hx hb d_Md_lookElement_122 (lv_at hl 1 rfl) ?_
      refine lv_if_eq (tgt := 142) hx hb d_Md_lookElement_124 (by decide) (fun c_124 => ?_) (fun c_124 => absurd (by decide) c_124)
      refine lv_iload_n hx hb d_Md_lookElement_142 rfl (lv_at hl 2 rfl) ?_
      refine lv_if_eq (tgt := 155) hx hb d_Md_lookElement_143 (by decide) (fun c_143 => absurd c_143 (by decide)) (fun c_143 => ?_)
      refine lv_iload_n hx hb d_Md_lookElement_146 rfl (lv_at hl 2 rfl) ?_
      refine lv_iconst (v := 4) hx hb d_Md_lookElement_147 (by decide) ?_
      refine lv_icmp_eq (tgt := 155) hx hb d_Md_lookElement_148 (by decide) (fun c_148 => absurd c_148 (by decide)) (fun c_148 => ?_)
      refine lv_iconst (v := 1) hx hb d_Md_lookElement_151 (by decide) ?_
      refine lv_goto (tgt := 156) hx hb d_Md_lookElement_152 (by decide) ?_
      refine lv_istore (lv' := [(7, .int 1), (5, .long 0), (4, .int 0), (3, .int 3), (0, .ref m0), (1, .int (nI t)), (2, .int 3)]) hx hb d_Md_lookElement_156 hl (by decide) rfl (fun ls hl => ?_)
      refine lv_iload hx hb d_Md_lookElement_158 (lv_at hl 0 rfl) ?_
      refine lv_if_eq (tgt := 182) hx hb d_Md_lookElement_160 (by decide) (fun c_160 => absurd c_160 (by decide)) (fun c_160 => ?_)
      refine lv_iload_n hx hb d_Md_lookElement_163 rfl (lv_at hl 3 rfl) ?_
      refine lv_iconst (v := 4) hx hb d_Md_lookElement_164 (by decide) ?_
      refine lv_iand hx hb d_Md_lookElement_165 ?_
      refine W.eq (g2 := F0 m 166 ls [.int 0]) (by rw [show (3 : Int32) &&& 4 = 0 from by decide +kernel]) ?_
      refine lv_if_eq (tgt := 182) hx hb d_Md_lookElement_166 (by decide) (fun c_166 => ?_) (fun c_166 => absurd (by decide) c_166)
      refine lv_ldc2 hx hb hown (hts _ (List.mem_cons_of_mem _ iw4_168)) d_Md_lookElement_182 ?_
      refine lv_lstore (lv' := [(8, .long 112), (7, .int 1), (5, .long 0), (4, .int 0), (3, .int 3), (0, .ref m0), (1, .int (nI t)), (2, .int 3)]) hx hb d_Md_lookElement_185 hl (by decide) rfl (fun ls hl => ?_)
      refine lv_aload_n hx hb d_Md_lookElement_187 rfl (lv_at hl 5 rfl) ?_
      refine lv_dup hx hb d_Md_lookElement_188 rfl ?_
      refine va_get (D := D) (ci := 6) (v := .int (nI a1)) (C := R_Md) (T := F_Md) (N := 44) hx hb hts (fun w h => List.mem_cons_of_mem _ (i_Md w h)) hown hE.1 hP 0 rfl rfl 43 (by decide) (hts _ (List.mem_cons_of_mem _ iw3_97)) (fun _ h9 => h9) rfl d_Md_lookElement_189 ?_
      refine lv_iload hx hb d_Md_lookElement_192 (lv_at hl 1 rfl) ?_
      refine lv_if_eq (tgt := 201) hx hb d_Md_lookElement_194 (by decide) (fun c_194 => absurd c_194 (by decide)) (fun c_194 => ?_)
      refine lv_iconst (v := 1) hx hb d_Md_lookElement_197 (by decide) ?_
      refine lv_goto (tgt := 202) hx hb d_Md_lookElement_198 (by decide) ?_
      refine lv_iadd hx hb d_Md_lookElement_202 ?_
      rw [nI_1]
      refine va_put (D := D) (ci := 6) (v := .int (nI (a1 + 1))) (ty := .int) (C := R_Md) (T := F_Md) (N := 44) hx hb hts (fun w h => List.mem_cons_of_mem _ (i_Md w h)) t_Md tk_Md n_Md hown hE.1 hP hD hS 0 rfl rfl 43 (by decide) (hts _ (List.mem_cons_of_mem _ iw3_97)) (fun _ h9 => h9) rfl (by decide +kernel) rfl rfl (Nat.le_of_ble_eq_true rfl) d_Md_lookElement_203 (fun H locs hP hD hS => ?_)
      have hP : va_P D cls [(m0, .inr (6, mF g (K.1, K.2.1, K.2.2.1, K.2.2.2.1, nI X.length, K.2.2.2.2.2.1, K.2.2.2.2.2.2.1, K.2.2.2.2.2.2.2.1, nI (a1 + 1)) A0 e np B)), ((g 30), .inl (cA 3, 2000, .inl yb)), ((g 38), .inl (cA 3, 2000, .inl ow)), ((g 39), .inl (cA 3, 2000, .inl fi)), ((g 40), .inl (cA 3, 2000, .inl be))] H := hP
      have hD : va_D A [(m0, .inr (6, mF g (K.1, K.2.1, K.2.2.1, K.2.2.2.1, nI X.length, K.2.2.2.2.2.1, K.2.2.2.2.2.2.1, K.2.2.2.2.2.2.2.1, nI (a1 + 1)) A0 e np B)), ((g 30), .inl (cA 3, 2000, .inl yb)), ((g 38), .inl (cA 3, 2000, .inl ow)), ((g 39), .inl (cA 3, 2000, .inl fi)), ((g 40), .inl (cA 3, 2000, .inl be))] := hD
      refine lv_iload_n hx hb d_Md_lookElement_206 rfl (lv_at hl 7 rfl) ?_
      refine lv_iconst (v := 1) hx hb d_Md_lookElement_207 (by decide) ?_
      refine lv_icmp_ne (tgt := 214) hx hb d_Md_lookElement_208 (by decide) (fun c_208 => ?_) (fun c_208 => absurd c_208 (by decide))
      refine lv_aload_n hx hb d_Md_lookElement_214 rfl (lv_at hl 5 rfl) ?_
      refine cV (As := []) (rest := []) (n := 0) (wc := [(m0, .inr (6, mF g (K.1, K.2.1, K.2.2.1, K.2.2.2.1, nI X.length, K.2.2.2.2.2.1, K.2.2.2.2.2.2.1, K.2.2.2.2.2.2.2.1, nI (a1 + 1)) A0 e np B)), ((g 30), .inl (cA 3, 2000, .inl yb))]) (wr := [((g 38), .inl (cA 3, 2000, .inl ow)), ((g 39), .inl (cA 3, 2000, .inl fi)), ((g 40), .inl (cA 3, 2000, .inl be))]) ⟨hx, hb, hml, hown, hts⟩ hno hlocks hl.1 (c_Md_number l hl9 D cA ad H.size m0 g (K.1, K.2.1, K.2.2.1, K.2.2.2.1, nI X.length, K.2.2.2.2.2.1, K.2.2.2.2.2.2.1, K.2.2.2.2.2.2.2.1, nI (a1 + 1)) A0 e np B yb b lm hlm hyb hb9 (a1 + 1) n a4 (by omega) he4) iw4_132 iw4_134 sel_Md_number iw1_7 iw4_135 (by decide +kernel) rfl ⟨Nat.le_of_ble_eq_true rfl, Nat.le_of_ble_eq_true rfl⟩ ⟨Nat.le_of_ble_eq_true rfl, Nat.le_of_ble_eq_true rfl⟩ rfl (Nat.le_of_ble_eq_true rfl) d_Md_lookElement_215 hE hP hD hS hA [0, 1] [2, 3, 4] rfl rfl rfl rfl (by decide) (ci := 6) rfl rfl 0 rfl (fun _ h => h.elim) (fun v_215 u_215 H locs hp_215 hP hD hS => ?_)
      obtain rfl := hp_215
      have hP : va_P D cls [(m0, .inr (6, mF g (K.1, K.2.1, K.2.2.1, K.2.2.2.1, nI X.length, K.2.2.2.2.2.1, K.2.2.2.2.2.2.1, K.2.2.2.2.2.2.2.1, nI a4) A0 e np B)), ((g 30), .inl (cA 3, 2000, .inl yb)), ((g 38), .inl (cA 3, 2000, .inl ow)), ((g 39), .inl (cA 3, 2000, .inl fi)), ((g 40), .inl (cA 3, 2000, .inl be))] H := hP.sub [3, 4, 0, 1, 2] rfl
      have hD : va_D A [(m0, .inr (6, mF g (K.1, K.2.1, K.2.2.1, K.2.2.2.1, nI X.length, K.2.2.2.2.2.1, K.2.2.2.2.2.2.1, K.2.2.2.2.2.2.2.1, nI a4) A0 e np B)), ((g 30), .inl (cA 3, 2000, .inl yb)), ((g 38), .inl (cA 3, 2000, .inl ow)), ((g 39), .inl (cA 3, 2000, .inl fi)), ((g 40), .inl (cA 3, 2000, .inl be))] := hD.sub [3, 4, 0, 1, 2] (by decide) rfl
      refine W.cs (cells' := 0) (slots' := 0) rfl rfl ?_
      refine W.eq (g2 := F0 m 218 ls [.long (lN n)]) rfl ?_
      refine lv_lstore (lv' := [(10, .long (lN n)), (8, .long 112), (7, .int 1), (5, .long 0), (4, .int 0), (3, .int 3), (0, .ref m0), (1, .int (nI t)), (2, .int 3)]) hx hb d_Md_lookElement_218 hl (by decide) rfl (fun ls hl => ?_)
      refine lv_iload_n hx hb d_Md_lookElement_220 rfl (lv_at hl 8 rfl) ?_
      refine lv_iconst (v := 3) hx hb d_Md_lookElement_221 (by decide) ?_
      refine lv_icmp_ne (tgt := 228) hx hb d_Md_lookElement_222 (by decide) (fun c_222 => absurd (by decide) c_222) (fun c_222 => ?_)
      refine lv_lload hx hb d_Md_lookElement_225 (lv_at hl 0 rfl) ?_
      exact cRl (nI a4) hx hb hr hlocks d_Md_lookElement_227 hS hP hD (rfl) (Nat.le_refl _) (Nat.le_refl _)
    · have hl : lv_has ls 13 [(0, .ref m0), (1, .int (nI t)), (2, .int 4)] := hl
      refine lv_aload_n hx hb d_Md_lookElement_0 rfl (lv_at hl 0 rfl) ?_
      refine cV (As := []) (rest := []) (n := 0) (wc := [(m0, .inr (6, mF g (K.1, K.2.1, K.2.2.1, K.2.2.2.1, nI X.length, K.2.2.2.2.2.1, K.2.2.2.2.2.2.1, K.2.2.2.2.2.2.2.1, nI a) A0 e np B)), ((g 30), .inl (cA 3, 2000, .inl yb))]) (wr := [((g 38), .inl (cA 3, 2000, .inl ow)), ((g 39), .inl (cA 3, 2000, .inl fi)), ((g 40), .inl (cA 3, 2000, .inl be))]) ⟨hx, hb, hml, hown, hts⟩ hno hlocks hl.1 (c_Md_number l hl9 D cA ad s.heap.size m0 g (K.1, K.2.1, K.2.2.1, K.2.2.2.1, nI X.length, K.2.2.2.2.2.1, K.2.2.2.2.2.2.1, K.2.2.2.2.2.2.2.1, nI a) A0 e np B yb b lm hlm hyb hb9 a 3 a1 (by omega) hmu) iw4_132 iw4_134 sel_Md_number iw1_7 iw4_135 (by decide +kernel) rfl ⟨Nat.le_of_ble_eq_true rfl, Nat.le_of_ble_eq_true rfl⟩ ⟨Nat.le_of_ble_eq_true rfl, Nat.le_of_ble_eq_true rfl⟩ rfl (Nat.le_of_ble_eq_true rfl) d_Md_lookElement_1 hE hP hD hS hA [0, 1] [2, 3, 4] rfl rfl rfl rfl (by decide) (ci := 6) rfl rfl 0 rfl (fun _ h => h.elim) (fun v_1 u_1 H locs hp_1 hP hD hS => ?_)
      obtain rfl := hp_1
      have hP : va_P D cls [(m0, .inr (6, mF g (K.1, K.2.1, K.2.2.1, K.2.2.2.1, nI X.length, K.2.2.2.2.2.1, K.2.2.2.2.2.2.1, K.2.2.2.2.2.2.2.1, nI a1) A0 e np B)), ((g 30), .inl (cA 3, 2000, .inl yb)), ((g 38), .inl (cA 3, 2000, .inl ow)), ((g 39), .inl (cA 3, 2000, .inl fi)), ((g 40), .inl (cA 3, 2000, .inl be))] H := hP.sub [3, 4, 0, 1, 2] rfl
      have hD : va_D A [(m0, .inr (6, mF g (K.1, K.2.1, K.2.2.1, K.2.2.2.1, nI X.length, K.2.2.2.2.2.1, K.2.2.2.2.2.2.1, K.2.2.2.2.2.2.2.1, nI a1) A0 e np B)), ((g 30), .inl (cA 3, 2000, .inl yb)), ((g 38), .inl (cA 3, 2000, .inl ow)), ((g 39), .inl (cA 3, 2000, .inl fi)), ((g 40), .inl (cA 3, 2000, .inl be))] := hD.sub [3, 4, 0, 1, 2] (by decide) rfl
      refine W.cs (cells' := 0) (slots' := 0) rfl rfl ?_
      refine W.eq (g2 := F0 m 4 ls [.long (lN 3)]) rfl ?_
      refine lv_l2i hx hb d_Md_lookElement_4 rfl ?_
      refine W.eq (g2 := F0 m 5 ls [.int 3]) (by rw [lN_i]; rfl) ?_
      refine lv_istore_n (lv' := [(3, .int 3), (0, .ref m0), (1, .int (nI t)), (2, .int 4)]) hx hb d_Md_lookElement_5 rfl hl (by decide) rfl (fun ls hl => ?_)
      refine lv_iload_n hx hb d_Md_lookElement_6 rfl (lv_at hl 0 rfl) ?_
      refine lv_iconst (v := 1) hx hb d_Md_lookElement_7 (by decide) ?_
      refine lv_iand hx hb d_Md_lookElement_8 ?_
      refine W.eq (g2 := F0 m 9 ls [.int 1]) (by rw [show (3 : Int32) &&& 1 = 1 from by decide +kernel]) ?_
      refine lv_if_ne (tgt := 16) hx hb d_Md_lookElement_9 (by decide) (fun c_9 => ?_) (fun c_9 => absurd c_9 (by decide))
      refine lv_iconst (v := 0) hx hb d_Md_lookElement_16 (by decide) ?_
      refine lv_istore (lv' := [(4, .int 0), (3, .int 3), (0, .ref m0), (1, .int (nI t)), (2, .int 4)]) hx hb d_Md_lookElement_17 hl (by decide) rfl (fun ls hl => ?_)
      refine lv_iload hx hb d_Md_lookElement_19 (lv_at hl 0 rfl) ?_
      refine lv_if_eq (tgt := 37) hx hb d_Md_lookElement_21 (by decide) (fun c_21 => ?_) (fun c_21 => absurd (by decide) c_21)
      refine lv_lconst (v := 0) hx hb d_Md_lookElement_37 (by decide) ?_
      refine lv_lstore (lv' := [(5, .long 0), (4, .int 0), (3, .int 3), (0, .ref m0), (1, .int (nI t)), (2, .int 4)]) hx hb d_Md_lookElement_38 hl (by decide) rfl (fun ls hl => ?_)
      refine lv_iload_n hx hb d_Md_lookElement_40 rfl (lv_at hl 5 rfl) ?_
      refine lv_if_ne (tgt := 67) hx hb d_Md_lookElement_41 (by decide) (fun c_41 => ?_) (fun c_41 => absurd c_41 (by decide))
      refine lv_iload_n hx hb d_Md_lookElement_67 rfl (lv_at hl 5 rfl) ?_
      refine lv_iconst (v := 2) hx hb d_Md_lookElement_68 (by decide) ?_
      refine lv_icmp_ne (tgt := 75) hx hb d_Md_lookElement_69 (by decide) (fun c_69 => ?_) (fun c_69 => absurd c_69 (by decide))
      refine lv_iload_n hx hb d_Md_lookElement_75 rfl (lv_at hl 5 rfl) ?_
      refine lv_iconst (v := 4) hx hb d_Md_lookElement_76 (by decide) ?_
      refine lv_icmp_eq (tgt := 85) hx hb d_Md_lookElement_77 (by decide) (fun c_77 => ?_) (fun c_77 => absurd (by decide) c_77)
      refine lv_iload hx hb d_Md_lookElement_85 (lv_at hl 1 rfl) ?_
      refine lv_if_eq (tgt := 100) hx hb d_Md_lookElement_87 (by decide) (fun c_87 => ?_) (fun c_87 => absurd (by decide) c_87)
      refine lv_ldc2 hx hb hown (hts _ (List.mem_cons_of_mem _ iw3_204)) d_Md_lookElement_100 ?_
      exact cRl (nI a1) hx hb hr hlocks d_Md_lookElement_103 hS hP hD (rfl) (Nat.le_refl _) (Nat.le_refl _)
    · have hl : lv_has ls 13 [(0, .ref m0), (1, .int (nI t)), (2, .int 5)] := hl
      refine lv_aload_n hx hb d_Md_lookElement_0 rfl (lv_at hl 0 rfl) ?_
      refine cV (As := []) (rest := []) (n := 0) (wc := [(m0, .inr (6, mF g (K.1, K.2.1, K.2.2.1, K.2.2.2.1, nI X.length, K.2.2.2.2.2.1, K.2.2.2.2.2.2.1, K.2.2.2.2.2.2.2.1, nI a) A0 e np B)), ((g 30), .inl (cA 3, 2000, .inl yb))]) (wr := [((g 38), .inl (cA 3, 2000, .inl ow)), ((g 39), .inl (cA 3, 2000, .inl fi)), ((g 40), .inl (cA 3, 2000, .inl be))]) ⟨hx, hb, hml, hown, hts⟩ hno hlocks hl.1 (c_Md_number l hl9 D cA ad s.heap.size m0 g (K.1, K.2.1, K.2.2.1, K.2.2.2.1, nI X.length, K.2.2.2.2.2.1, K.2.2.2.2.2.2.1, K.2.2.2.2.2.2.2.1, nI a) A0 e np B yb b lm hlm hyb hb9 a 3 a1 (by omega) hmu) iw4_132 iw4_134 sel_Md_number iw1_7 iw4_135 (by decide +kernel) rfl ⟨Nat.le_of_ble_eq_true rfl, Nat.le_of_ble_eq_true rfl⟩ ⟨Nat.le_of_ble_eq_true rfl, Nat.le_of_ble_eq_true rfl⟩ rfl (Nat.le_of_ble_eq_true rfl) d_Md_lookElement_1 hE hP hD hS hA [0, 1] [2, 3, 4] rfl rfl rfl rfl (by decide) (ci := 6) rfl rfl 0 rfl (fun _ h => h.elim) (fun v_1 u_1 H locs hp_1 hP hD hS => ?_)
      obtain rfl := hp_1
      have hP : va_P D cls [(m0, .inr (6, mF g (K.1, K.2.1, K.2.2.1, K.2.2.2.1, nI X.length, K.2.2.2.2.2.1, K.2.2.2.2.2.2.1, K.2.2.2.2.2.2.2.1, nI a1) A0 e np B)), ((g 30), .inl (cA 3, 2000, .inl yb)), ((g 38), .inl (cA 3, 2000, .inl ow)), ((g 39), .inl (cA 3, 2000, .inl fi)), ((g 40), .inl (cA 3, 2000, .inl be))] H := hP.sub [3, 4, 0, 1, 2] rfl
      have hD : va_D A [(m0, .inr (6, mF g (K.1, K.2.1, K.2.2.1, K.2.2.2.1, nI X.length, K.2.2.2.2.2.1, K.2.2.2.2.2.2.1, K.2.2.2.2.2.2.2.1, nI a1) A0 e np B)), ((g 30), .inl (cA 3, 2000, .inl yb)), ((g 38), .inl (cA 3, 2000, .inl ow)), ((g 39), .inl (cA 3, 2000, .inl fi)), ((g 40), .inl (cA 3, 2000, .inl be))] := hD.sub [3, 4, 0, 1, 2] (by decide) rfl
      refine W.cs (cells' := 0) (slots' := 0) rfl rfl ?_
      refine W.eq (g2 := F0 m 4 ls [.long (lN 3)]) rfl ?_
      refine lv_l2i hx hb d_Md_lookElement_4 rfl ?_
      refine W.eq (g2 := F0 m 5 ls [.int 3]) (by rw [lN_i]; rfl) ?_
      refine lv_istore_n (lv' := [(3, .int 3), (0, .ref m0), (1, .int (nI t)), (2, .int 5)]) hx hb d_Md_lookElement_5 rfl hl (by decide) rfl (fun ls hl => ?_)
      refine lv_iload_n hx hb d_Md_lookElement_6 rfl (lv_at hl 0 rfl) ?_
      refine lv_iconst (v := 1) hx hb d_Md_lookElement_7 (by decide) ?_
      refine lv_iand hx hb d_Md_lookElement_8 ?_
      refine W.eq (g2 := F0 m 9 ls [.int 1]) (by rw [show (3 : Int32) &&& 1 = 1 from by decide +kernel]) ?_
      refine lv_if_ne (tgt := 16) hx hb d_Md_lookElement_9 (by decide) (fun c_9 => ?_) (fun c_9 => absurd c_9 (by decide))
      refine lv_iconst (v := 0) hx hb d_Md_lookElement_16 (by decide) ?_
      refine lv_istore (lv' := [(4, .int 0), (3, .int 3), (0, .ref m0), (1, .int (nI t)), (2, .int 5)]) hx hb d_Md_lookElement_17 hl (by decide) rfl (fun ls hl => ?_)
      refine lv_iload hx hb d_Md_lookElement_19 (lv_at hl 0 rfl) ?_
      refine lv_if_eq (tgt := 37) hx hb d_Md_lookElement_21 (by decide) (fun c_21 => ?_) (fun c_21 => absurd (by decide) c_21)
      refine lv_lconst (v := 0) hx hb d_Md_lookElement_37 (by decide) ?_
      refine lv_lstore (lv' := [(5, .long 0), (4, .int 0), (3, .int 3), (0, .ref m0), (1, .int (nI t)), (2, .int 5)]) hx hb d_Md_lookElement_38 hl (by decide) rfl (fun ls hl => ?_)
      refine lv_iload_n hx hb d_Md_lookElement_40 rfl (lv_at hl 5 rfl) ?_
      refine lv_if_ne (tgt := 67) hx hb d_Md_lookElement_41 (by decide) (fun c_41 => ?_) (fun c_41 => absurd c_41 (by decide))
      refine lv_iload_n hx hb d_Md_lookElement_67 rfl (lv_at hl 5 rfl) ?_
      refine lv_iconst (v := 2) hx hb d_Md_lookElement_68 (by decide) ?_
      refine lv_icmp_ne (tgt := 75) hx hb d_Md_lookElement_69 (by decide) (fun c_69 => ?_) (fun c_69 => absurd c_69 (by decide))
      refine lv_iload_n hx hb d_Md_lookElement_75 rfl (lv_at hl 5 rfl) ?_
      refine lv_iconst (v := 4) hx hb d_Md_lookElement_76 (by decide) ?_
      refine lv_icmp_eq (tgt := 85) hx hb d_Md_lookElement_77 (by decide) (fun c_77 => absurd c_77 (by decide)) (fun c_77 => ?_)
      refine lv_iload_n hx hb d_Md_lookElement_80 rfl (lv_at hl 5 rfl) ?_
      refine lv_iconst (v := 5) hx hb d_Md_lookElement_81 (by decide) ?_
      refine lv_icmp_ne (tgt := 104) hx hb d_Md_lookElement_82 (by decide) (fun c_82 => absurd (by decide) c_82) (fun c_82 => ?_)
      refine lv_iload hx hb d_Md_lookElement_85 (lv_at hl 1 rfl) ?_
      refine lv_if_eq (tgt := 100) hx hb d_Md_lookElement_87 (by decide) (fun c_87 => ?_) (fun c_87 => absurd (by decide) c_87)
      refine lv_ldc2 hx hb hown (hts _ (List.mem_cons_of_mem _ iw3_204)) d_Md_lookElement_100 ?_
      exact cRl (nI a1) hx hb hr hlocks d_Md_lookElement_103 hS hP hD (rfl) (Nat.le_refl _) (Nat.le_refl _)
    · have hl : lv_has ls 13 [(0, .ref m0), (1, .int (nI t)), (2, .int 6)] := hl
      refine lv_aload_n hx hb d_Md_lookElement_0 rfl (lv_at hl 0 rfl) ?_
      refine cV (As := []) (rest := []) (n := 0) (wc := [(m0, .inr (6, mF g (K.1, K.2.1, K.2.2.1, K.2.2.2.1, nI X.length, K.2.2.2.2.2.1, K.2.2.2.2.2.2.1, K.2.2.2.2.2.2.2.1, nI a) A0 e np B)), ((g 30), .inl (cA 3, 2000, .inl yb))]) (wr := [((g 38), .inl (cA 3, 2000, .inl ow)), ((g 39), .inl (cA 3, 2000, .inl fi)), ((g 40), .inl (cA 3, 2000, .inl be))]) ⟨hx, hb, hml, hown, hts⟩ hno hlocks hl.1 (c_Md_number l hl9 D cA ad s.heap.size m0 g (K.1, K.2.1, K.2.2.1, K.2.2.2.1, nI X.length, K.2.2.2.2.2.1, K.2.2.2.2.2.2.1, K.2.2.2.2.2.2.2.1, nI a) A0 e np B yb b lm hlm hyb hb9 a 3 a1 (by omega) hmu) iw4_132 iw4_134 sel_Md_number iw1_7 iw4_135 (by decide +kernel) rfl ⟨Nat.le_of_ble_eq_true rfl, Nat.le_of_ble_eq_true rfl⟩ ⟨Nat.le_of_ble_eq_true rfl, Nat.le_of_ble_eq_true rfl⟩ rfl (Nat.le_of_ble_eq_true rfl) d_Md_lookElement_1 hE hP hD hS hA [0, 1] [2, 3, 4] rfl rfl rfl rfl (by decide) (ci := 6) rfl rfl 0 rfl (fun _ h => h.elim) (fun v_1 u_1 H locs hp_1 hP hD hS => ?_)
      obtain rfl := hp_1
      have hP : va_P D cls [(m0, .inr (6, mF g (K.1, K.2.1, K.2.2.1, K.2.2.2.1, nI X.length, K.2.2.2.2.2.1, K.2.2.2.2.2.2.1, K.2.2.2.2.2.2.2.1, nI a1) A0 e np B)), ((g 30), .inl (cA 3, 2000, .inl yb)), ((g 38), .inl (cA 3, 2000, .inl ow)), ((g 39), .inl (cA 3, 2000, .inl fi)), ((g 40), .inl (cA 3, 2000, .inl be))] H := hP.sub [3, 4, 0, 1, 2] rfl
      have hD : va_D A [(m0, .inr (6, mF g (K.1, K.2.1, K.2.2.1, K.2.2.2.1, nI X.length, K.2.2.2.2.2.1, K.2.2.2.2.2.2.1, K.2.2.2.2.2.2.2.1, nI a1) A0 e np B)), ((g 30), .inl (cA 3, 2000, .inl yb)), ((g 38), .inl (cA 3, 2000, .inl ow)), ((g 39), .inl (cA 3, 2000, .inl fi)), ((g 40), .inl (cA 3, 2000, .inl be))] := hD.sub [3, 4, 0, 1, 2] (by decide) rfl
      refine W.cs (cells' := 0) (slots' := 0) rfl rfl ?_
      refine W.eq (g2 := F0 m 4 ls [.long (lN 3)]) rfl ?_
      refine lv_l2i hx hb d_Md_lookElement_4 rfl ?_
      refine W.eq (g2 := F0 m 5 ls [.int 3]) (by rw [lN_i]; rfl) ?_
      refine lv_istore_n (lv' := [(3, .int 3), (0, .ref m0), (1, .int (nI t)), (2, .int 6)]) hx hb d_Md_lookElement_5 rfl hl (by decide) rfl (fun ls hl => ?_)
      refine lv_iload_n hx hb d_Md_lookElement_6 rfl (lv_at hl 0 rfl) ?_
      refine lv_iconst (v := 1) hx hb d_Md_lookElement_7 (by decide) ?_
      refine lv_iand hx hb d_Md_lookElement_8 ?_
      refine W.eq (g2 := F0 m 9 ls [.int 1]) (by rw [show (3 : Int32) &&& 1 = 1 from by decide +kernel]) ?_
      refine lv_if_ne (tgt := 16) hx hb d_Md_lookElement_9 (by decide) (fun c_9 => ?_) (fun c_9 => absurd c_9 (by decide))
      refine lv_iconst (v := 0) hx hb d_Md_lookElement_16 (by decide) ?_
      refine lv_istore (lv' := [(4, .int 0), (3, .int 3), (0, .ref m0), (1, .int (nI t)), (2, .int 6)]) hx hb d_Md_lookElement_17 hl (by decide) rfl (fun ls hl => ?_)
      refine lv_iload hx hb d_Md_lookElement_19 (lv_at hl 0 rfl) ?_
      refine lv_if_eq (tgt := 37) hx hb d_Md_lookElement_21 (by decide) (fun c_21 => ?_) (fun c_21 => absurd (by decide) c_21)
      refine lv_lconst (v := 0) hx hb d_Md_lookElement_37 (by decide) ?_
      refine lv_lstore (lv' := [(5, .long 0), (4, .int 0), (3, .int 3), (0, .ref m0), (1, .int (nI t)), (2, .int 6)]) hx hb d_Md_lookElement_38 hl (by decide) rfl (fun ls hl => ?_)
      refine lv_iload_n hx hb d_Md_lookElement_40 rfl (lv_at hl 5 rfl) ?_
      refine lv_if_ne (tgt := 67) hx hb d_Md_lookElement_41 (by decide) (fun c_41 => ?_) (fun c_41 => absurd c_41 (by decide))
      refine lv_iload_n hx hb d_Md_lookElement_67 rfl (lv_at hl 5 rfl) ?_
      refine lv_iconst (v := 2) hx hb d_Md_lookElement_68 (by decide) ?_
      refine lv_icmp_ne (tgt := 75) hx hb d_Md_lookElement_69 (by decide) (fun c_69 => ?_) (fun c_69 => absurd c_69 (by decide))
      refine lv_iload_n hx hb d_Md_lookElement_75 rfl (lv_at hl 5 rfl) ?_
      refine lv_iconst (v := 4) hx hb d_Md_lookElement_76 (by decide) ?_
      refine lv_icmp_eq (tgt := 85) hx hb d_Md_lookElement_77 (by decide) (fun c_77 => absurd c_77 (by decide)) (fun c_77 => ?_)
      refine lv_iload_n hx hb d_Md_lookElement_80 rfl (lv_at hl 5 rfl) ?_
      refine lv_iconst (v := 5) hx hb d_Md_lookElement_81 (by decide) ?_
      refine lv_icmp_ne (tgt := 104) hx hb d_Md_lookElement_82 (by decide) (fun c_82 => ?_) (fun c_82 => absurd c_82 (by decide))
      refine lv_iload_n hx hb d_Md_lookElement_104 rfl (lv_at hl 5 rfl) ?_
      refine lv_bipush (v := 6) hx hb d_Md_lookElement_105 (by decide) ?_
      refine lv_icmp_ne (tgt := 122) hx hb d_Md_lookElement_107 (by decide) (fun c_107 => absurd (by decide) c_107) (fun c_107 => ?_)
      refine lv_iload_n hx hb d_Md_lookElement_110 rfl (lv_at hl 2 rfl) ?_
      refine lv_iconst (v := 4) hx hb d_Md_lookElement_111 (by decide) ?_
      refine lv_iand hx hb d_Md_lookElement_112 ?_
      refine W.eq (g2 := F0 m 113 ls [.int 0]) (by rw [show (3 : Int32) &&& 4 = 0 from by decide +kernel]) ?_
      refine lv_if_eq (tgt := 120) hx hb d_Md_lookElement_113 (by decide) (fun c_113 => ?_) (fun c_113 => absurd (by decide) c_113)
      refine lv_lconst (v := 0) hx hb d_Md_lookElement_120 (by decide) ?_
      exact cRl (nI a1) hx hb hr hlocks d_Md_lookElement_121 hS hP hD (rfl) (Nat.le_refl _) (Nat.le_refl _)
    · have hl : lv_has ls 13 [(0, .ref m0), (1, .int (nI t)), (2, .int 7)] := hl
      refine lv_aload_n hx hb d_Md_lookElement_0 rfl (lv_at hl 0 rfl) ?_
      refine cV (As := []) (rest := []) (n := 0) (wc := [(m0, .inr (6, mF g (K.1, K.2.1, K.2.2.1, K.2.2.2.1, nI X.length, K.2.2.2.2.2.1, K.2.2.2.2.2.2.1, K.2.2.2.2.2.2.2.1, nI a) A0 e np B)), ((g 30), .inl (cA 3, 2000, .inl yb))]) (wr := [((g 38), .inl (cA 3, 2000, .inl ow)), ((g 39), .inl (cA 3, 2000, .inl fi)), ((g 40), .inl (cA 3, 2000, .inl be))]) ⟨hx, hb, hml, hown, hts⟩ hno hlocks hl.1 (c_Md_number l hl9 D cA ad s.heap.size m0 g (K.1, K.2.1, K.2.2.1, K.2.2.2.1, nI X.length, K.2.2.2.2.2.1, K.2.2.2.2.2.2.1, K.2.2.2.2.2.2.2.1, nI a) A0 e np B yb b lm hlm hyb hb9 a 3 a1 (by omega) hmu) iw4_132 iw4_134 sel_Md_number iw1_7 iw4_135 (by decide +kernel) rfl ⟨Nat.le_of_ble_eq_true rfl, Nat.le_of_ble_eq_true rfl⟩ ⟨Nat.le_of_ble_eq_true rfl, Nat.le_of_ble_eq_true rfl⟩ rfl (Nat.le_of_ble_eq_true rfl) d_Md_lookElement_1 hE hP hD hS hA [0, 1] [2, 3, 4] rfl rfl rfl rfl (by decide) (ci := 6) rfl rfl 0 rfl (fun _ h => h.elim) (fun v_1 u_1 H locs hp_1 hP hD hS => ?_)
      obtain rfl := hp_1
      have hP : va_P D cls [(m0, .inr (6, mF g (K.1, K.2.1, K.2.2.1, K.2.2.2.1, nI X.length, K.2.2.2.2.2.1, K.2.2.2.2.2.2.1, K.2.2.2.2.2.2.2.1, nI a1) A0 e np B)), ((g 30), .inl (cA 3, 2000, .inl yb)), ((g 38), .inl (cA 3, 2000, .inl ow)), ((g 39), .inl (cA 3, 2000, .inl fi)), ((g 40), .inl (cA 3, 2000, .inl be))] H := hP.sub [3, 4, 0, 1, 2] rfl
      have hD : va_D A [(m0, .inr (6, mF g (K.1, K.2.1, K.2.2.1, K.2.2.2.1, nI X.length, K.2.2.2.2.2.1, K.2.2.2.2.2.2.1, K.2.2.2.2.2.2.2.1, nI a1) A0 e np B)), ((g 30), .inl (cA 3, 2000, .inl yb)), ((g 38), .inl (cA 3, 2000, .inl ow)), ((g 39), .inl (cA 3, 2000, .inl fi)), ((g 40), .inl (cA 3, 2000, .inl be))] := hD.sub [3, 4, 0, 1, 2] (by decide) rfl
      refine W.cs (cells' := 0) (slots' := 0) rfl rfl ?_
      refine W.eq (g2 := F0 m 4 ls [.long (lN 3)]) rfl ?_
      refine lv_l2i hx hb d_Md_lookElement_4 rfl ?_
      refine W.eq (g2 := F0 m 5 ls [.int 3]) (by rw [lN_i]; rfl) ?_
      refine lv_istore_n (lv' := [(3, .int 3), (0, .ref m0), (1, .int (nI t)), (2, .int 7)]) hx hb d_Md_lookElement_5 rfl hl (by decide) rfl (fun ls hl => ?_)
      refine lv_iload_n hx hb d_Md_lookElement_6 rfl (lv_at hl 0 rfl) ?_
      refine lv_iconst (v := 1) hx hb d_Md_lookElement_7 (by decide) ?_
      refine lv_iand hx hb d_Md_lookElement_8 ?_
      refine W.eq (g2 := F0 m 9 ls [.int 1]) (by rw [show (3 : Int32) &&& 1 = 1 from by decide +kernel]) ?_
      refine lv_if_ne (tgt := 16) hx hb d_Md_lookElement_9 (by decide) (fun c_9 => ?_) (fun c_9 => absurd c_9 (by decide))
      refine lv_iconst (v := 0) hx hb d_Md_lookElement_16 (by decide) ?_
      refine lv_istore (lv' := [(4, .int 0), (3, .int 3), (0, .ref m0), (1, .int (nI t)), (2, .int 7)]) hx hb d_Md_lookElement_17 hl (by decide) rfl (fun ls hl => ?_)
      refine lv_iload hx hb d_Md_lookElement_19 (lv_at hl 0 rfl) ?_
      refine lv_if_eq (tgt := 37) hx hb d_Md_lookElement_21 (by decide) (fun c_21 => ?_) (fun c_21 => absurd (by decide) c_21)
      refine lv_lconst (v := 0) hx hb d_Md_lookElement_37 (by decide) ?_
      refine lv_lstore (lv' := [(5, .long 0), (4, .int 0), (3, .int 3), (0, .ref m0), (1, .int (nI t)), (2, .int 7)]) hx hb d_Md_lookElement_38 hl (by decide) rfl (fun ls hl => ?_)
      refine lv_iload_n hx hb d_Md_lookElement_40 rfl (lv_at hl 5 rfl) ?_
      refine lv_if_ne (tgt := 67) hx hb d_Md_lookElement_41 (by decide) (fun c_41 => ?_) (fun c_41 => absurd c_41 (by decide))
      refine lv_iload_n hx hb d_Md_lookElement_67 rfl (lv_at hl 5 rfl) ?_
      refine lv_iconst (v := 2) hx hb d_Md_lookElement_68 (by decide) ?_
      refine lv_icmp_ne (tgt := 75) hx hb d_Md_lookElement_69 (by decide) (fun c_69 => ?_) (fun c_69 => absurd c_69 (by decide))
      refine lv_iload_n hx hb d_Md_lookElement_75 rfl (lv_at hl 5 rfl) ?_
      refine lv_iconst (v := 4) hx hb d_Md_lookElement_76 (by decide) ?_
      refine lv_icmp_eq (tgt := 85) hx hb d_Md_lookElement_77 (by decide) (fun c_77 => absurd c_77 (by decide)) (fun c_77 => ?_)
      refine lv_iload_n hx hb d_Md_lookElement_80 rfl (lv_at hl 5 rfl) ?_
      refine lv_iconst (v := 5) hx hb d_Md_lookElement_81 (by decide) ?_
      refine lv_icmp_ne (tgt := 104) hx hb d_Md_lookElement_82 (by decide) (fun c_82 => ?_) (fun c_82 => absurd c_82 (by decide))
      refine lv_iload_n hx hb d_Md_lookElement_104 rfl (lv_at hl 5 rfl) ?_
      refine lv_bipush (v := 6) hx hb d_Md_lookElement_105 (by decide) ?_
      refine lv_icmp_ne (tgt := 122) hx hb d_Md_lookElement_107 (by decide) (fun c_107 => ?_) (fun c_107 => absurd c_107 (by decide))
      refine lv_iload hx hb d_Md_lookElement_122 (lv_at hl 1 rfl) ?_
      refine lv_if_eq (tgt := 142) hx hb d_Md_lookElement_124 (by decide) (fun c_124 => ?_) (fun c_124 => absurd (by decide) c_124)
      refine lv_iload_n hx hb d_Md_lookElement_142 rfl (lv_at hl 2 rfl) ?_
      refine lv_if_eq (tgt := 155) hx hb d_Md_lookElement_143 (by decide) (fun c_143 => absurd c_143 (by decide)) (fun c_143 => ?_)
      refine lv_iload_n hx hb d_Md_lookElement_146 rfl (lv_at hl 2 rfl) ?_
      refine lv_iconst (v := 4) hx hb d_Md_lookElement_147 (by decide) ?_
      refine lv_icmp_eq (tgt := 155) hx hb d_Md_lookElement_148 (by decide) (fun c_148 => absurd c_148 (by decide)) (fun c_148 => ?_)
      refine lv_iconst (v := 1) hx hb d_Md_lookElement_151 (by decide) ?_
      refine lv_goto (tgt := 156) hx hb d_Md_lookElement_152 (by decide) ?_
      refine lv_istore (lv' := [(7, .int 1), (5, .long 0), (4, .int 0), (3, .int 3), (0, .ref m0), (1, .int (nI t)), (2, .int 7)]) hx hb d_Md_lookElement_156 hl (by decide) rfl (fun ls hl => ?_)
      refine lv_iload hx hb d_Md_lookElement_158 (lv_at hl 0 rfl) ?_
      refine lv_if_eq (tgt := 182) hx hb d_Md_lookElement_160 (by decide) (fun c_160 => absurd c_160 (by decide)) (fun c_160 => ?_)
      refine lv_iload_n hx hb d_Md_lookElement_163 rfl (lv_at hl 3 rfl) ?_
      refine lv_iconst (v := 4) hx hb d_Md_lookElement_164 (by decide) ?_
      refine lv_iand hx hb d_Md_lookElement_165 ?_
      refine W.eq (g2 := F0 m 166 ls [.int 0]) (by rw [show (3 : Int32) &&& 4 = 0 from by decide +kernel]) ?_
      refine lv_if_eq (tgt := 182) hx hb d_Md_lookElement_166 (by decide) (fun c_166 => ?_) (fun c_166 => absurd (by decide) c_166)
      refine lv_ldc2 hx hb hown (hts _ (List.mem_cons_of_mem _ iw4_168)) d_Md_lookElement_182 ?_
      refine lv_lstore (lv' := [(8, .long 112), (7, .int 1), (5, .long 0), (4, .int 0), (3, .int 3), (0, .ref m0), (1, .int (nI t)), (2, .int 7)]) hx hb d_Md_lookElement_185 hl (by decide) rfl (fun ls hl => ?_)
      refine lv_aload_n hx hb d_Md_lookElement_187 rfl (lv_at hl 5 rfl) ?_
      refine lv_dup hx hb d_Md_lookElement_188 rfl ?_
      refine va_get (D := D) (ci := 6) (v := .int (nI a1)) (C := R_Md) (T := F_Md) (N := 44) hx hb hts (fun w h => List.mem_cons_of_mem _ (i_Md w h)) hown hE.1 hP 0 rfl rfl 43 (by decide) (hts _ (List.mem_cons_of_mem _ iw3_97)) (fun _ h9 => h9) rfl d_Md_lookElement_189 ?_
      refine lv_iload hx hb d_Md_lookElement_192 (lv_at hl 1 rfl) ?_
      refine lv_if_eq (tgt := 201) hx hb d_Md_lookElement_194 (by decide) (fun c_194 => absurd c_194 (by decide)) (fun c_194 => ?_)
      refine lv_iconst (v := 1) hx hb d_Md_lookElement_197 (by decide) ?_
      refine lv_goto (tgt := 202) hx hb d_Md_lookElement_198 (by decide) ?_
      refine lv_iadd hx hb d_Md_lookElement_202 ?_
      rw [nI_1]
      refine va_put (D := D) (ci := 6) (v := .int (nI (a1 + 1))) (ty := .int) (C := R_Md) (T := F_Md) (N := 44) hx hb hts (fun w h => List.mem_cons_of_mem _ (i_Md w h)) t_Md tk_Md n_Md hown hE.1 hP hD hS 0 rfl rfl 43 (by decide) (hts _ (List.mem_cons_of_mem _ iw3_97)) (fun _ h9 => h9) rfl (by decide +kernel) rfl rfl (Nat.le_of_ble_eq_true rfl) d_Md_lookElement_203 (fun H locs hP hD hS => ?_)
      have hP : va_P D cls [(m0, .inr (6, mF g (K.1, K.2.1, K.2.2.1, K.2.2.2.1, nI X.length, K.2.2.2.2.2.1, K.2.2.2.2.2.2.1, K.2.2.2.2.2.2.2.1, nI (a1 + 1)) A0 e np B)), ((g 30), .inl (cA 3, 2000, .inl yb)), ((g 38), .inl (cA 3, 2000, .inl ow)), ((g 39), .inl (cA 3, 2000, .inl fi)), ((g 40), .inl (cA 3, 2000, .inl be))] H := hP
      have hD : va_D A [(m0, .inr (6, mF g (K.1, K.2.1, K.2.2.1, K.2.2.2.1, nI X.length, K.2.2.2.2.2.1, K.2.2.2.2.2.2.1, K.2.2.2.2.2.2.2.1, nI (a1 + 1)) A0 e np B)), ((g 30), .inl (cA 3, 2000, .inl yb)), ((g 38), .inl (cA 3, 2000, .inl ow)), ((g 39), .inl (cA 3, 2000, .inl fi)), ((g 40), .inl (cA 3, 2000, .inl be))] := hD
      refine lv_iload_n hx hb d_Md_lookElement_206 rfl (lv_at hl 7 rfl) ?_
      refine lv_iconst (v := 1) hx hb d_Md_lookElement_207 (by decide) ?_
      refine lv_icmp_ne (tgt := 214) hx hb d_Md_lookElement_208 (by decide) (fun c_208 => ?_) (fun c_208 => absurd c_208 (by decide))
      refine lv_aload_n hx hb d_Md_lookElement_214 rfl (lv_at hl 5 rfl) ?_
      refine cV (As := []) (rest := []) (n := 0) (wc := [(m0, .inr (6, mF g (K.1, K.2.1, K.2.2.1, K.2.2.2.1, nI X.length, K.2.2.2.2.2.1, K.2.2.2.2.2.2.1, K.2.2.2.2.2.2.2.1, nI (a1 + 1)) A0 e np B)), ((g 30), .inl (cA 3, 2000, .inl yb))]) (wr := [((g 38), .inl (cA 3, 2000, .inl ow)), ((g 39), .inl (cA 3, 2000, .inl fi)), ((g 40), .inl (cA 3, 2000, .inl be))]) ⟨hx, hb, hml, hown, hts⟩ hno hlocks hl.1 (c_Md_number l hl9 D cA ad H.size m0 g (K.1, K.2.1, K.2.2.1, K.2.2.2.1, nI X.length, K.2.2.2.2.2.1, K.2.2.2.2.2.2.1, K.2.2.2.2.2.2.2.1, nI (a1 + 1)) A0 e np B yb b lm hlm hyb hb9 (a1 + 1) n a4 (by omega) he4) iw4_132 iw4_134 sel_Md_number iw1_7 iw4_135 (by decide +kernel) rfl ⟨Nat.le_of_ble_eq_true rfl, Nat.le_of_ble_eq_true rfl⟩ ⟨Nat.le_of_ble_eq_true rfl, Nat.le_of_ble_eq_true rfl⟩ rfl (Nat.le_of_ble_eq_true rfl) d_Md_lookElement_215 hE hP hD hS hA [0, 1] [2, 3, 4] rfl rfl rfl rfl (by decide) (ci := 6) rfl rfl 0 rfl (fun _ h => h.elim) (fun v_215 u_215 H locs hp_215 hP hD hS => ?_)
      obtain rfl := hp_215
      have hP : va_P D cls [(m0, .inr (6, mF g (K.1, K.2.1, K.2.2.1, K.2.2.2.1, nI X.length, K.2.2.2.2.2.1, K.2.2.2.2.2.2.1, K.2.2.2.2.2.2.2.1, nI a4) A0 e np B)), ((g 30), .inl (cA 3, 2000, .inl yb)), ((g 38), .inl (cA 3, 2000, .inl ow)), ((g 39), .inl (cA 3, 2000, .inl fi)), ((g 40), .inl (cA 3, 2000, .inl be))] H := hP.sub [3, 4, 0, 1, 2] rfl
      have hD : va_D A [(m0, .inr (6, mF g (K.1, K.2.1, K.2.2.1, K.2.2.2.1, nI X.length, K.2.2.2.2.2.1, K.2.2.2.2.2.2.1, K.2.2.2.2.2.2.2.1, nI a4) A0 e np B)), ((g 30), .inl (cA 3, 2000, .inl yb)), ((g 38), .inl (cA 3, 2000, .inl ow)), ((g 39), .inl (cA 3, 2000, .inl fi)), ((g 40), .inl (cA 3, 2000, .inl be))] := hD.sub [3, 4, 0, 1, 2] (by decide) rfl
      refine W.cs (cells' := 0) (slots' := 0) rfl rfl ?_
      refine W.eq (g2 := F0 m 218 ls [.long (lN n)]) rfl ?_
      refine lv_lstore (lv' := [(10, .long (lN n)), (8, .long 112), (7, .int 1), (5, .long 0), (4, .int 0), (3, .int 3), (0, .ref m0), (1, .int (nI t)), (2, .int 7)]) hx hb d_Md_lookElement_218 hl (by decide) rfl (fun ls hl => ?_)
      refine lv_iload_n hx hb d_Md_lookElement_220 rfl (lv_at hl 8 rfl) ?_
      refine lv_iconst (v := 3) hx hb d_Md_lookElement_221 (by decide) ?_
      refine lv_icmp_ne (tgt := 228) hx hb d_Md_lookElement_222 (by decide) (fun c_222 => ?_) (fun c_222 => absurd c_222 (by decide))
      refine lv_iload_n hx hb d_Md_lookElement_228 rfl (lv_at hl 8 rfl) ?_
      refine lv_bipush (v := 8) hx hb d_Md_lookElement_229 (by decide) ?_
      refine lv_icmp_lt (tgt := 245) hx hb d_Md_lookElement_231 (by decide) (fun c_231 => ?_) (fun c_231 => absurd (by decide) c_231)
      refine lv_ldc2 hx hb hown (hts _ (List.mem_cons_of_mem _ iw3_204)) d_Md_lookElement_245 ?_
      exact cRl (nI a4) hx hb hr hlocks d_Md_lookElement_248 hS hP hD (rfl) (Nat.le_refl _) (Nat.le_refl _)
    · have hl := hl
      refine lv_aload_n hx hb d_Md_lookElement_0 rfl (lv_at hl 0 rfl) ?_
      refine cV (As := []) (rest := []) (n := 0) (wc := [(m0, .inr (6, mF g (K.1, K.2.1, K.2.2.1, K.2.2.2.1, nI X.length, K.2.2.2.2.2.1, K.2.2.2.2.2.2.1, K.2.2.2.2.2.2.2.1, nI a) A0 e np B)), ((g 30), .inl (cA 3, 2000, .inl yb))]) (wr := [((g 38), .inl (cA 3, 2000, .inl ow)), ((g 39), .inl (cA 3, 2000, .inl fi)), ((g 40), .inl (cA 3, 2000, .inl be))]) ⟨hx, hb, hml, hown, hts⟩ hno hlocks hl.1 (c_Md_number l hl9 D cA ad s.heap.size m0 g (K.1, K.2.1, K.2.2.1, K.2.2.2.1, nI X.length, K.2.2.2.2.2.1, K.2.2.2.2.2.2.1, K.2.2.2.2.2.2.2.1, nI a) A0 e np B yb b lm hlm hyb hb9 a 3 a1 (by omega) hmu) iw4_132 iw4_134 sel_Md_number iw1_7 iw4_135 (by decide +kernel) rfl ⟨Nat.le_of_ble_eq_true rfl, Nat.le_of_ble_eq_true rfl⟩ ⟨Nat.le_of_ble_eq_true rfl, Nat.le_of_ble_eq_true rfl⟩ rfl (Nat.le_of_ble_eq_true rfl) d_Md_lookElement_1 hE hP hD hS hA [0, 1] [2, 3, 4] rfl rfl rfl rfl (by decide) (ci := 6) rfl rfl 0 rfl (fun _ h => h.elim) (fun v_1 u_1 H locs hp_1 hP hD hS => ?_)
      obtain rfl := hp_1
      have hP : va_P D cls [(m0, .inr (6, mF g (K.1, K.2.1, K.2.2.1, K.2.2.2.1, nI X.length, K.2.2.2.2.2.1, K.2.2.2.2.2.2.1, K.2.2.2.2.2.2.2.1, nI a1) A0 e np B)), ((g 30), .inl (cA 3, 2000, .inl yb)), ((g 38), .inl (cA 3, 2000, .inl ow)), ((g 39), .inl (cA 3, 2000, .inl fi)), ((g 40), .inl (cA 3, 2000, .inl be))] H := hP.sub [3, 4, 0, 1, 2] rfl
      have hD : va_D A [(m0, .inr (6, mF g (K.1, K.2.1, K.2.2.1, K.2.2.2.1, nI X.length, K.2.2.2.2.2.1, K.2.2.2.2.2.2.1, K.2.2.2.2.2.2.2.1, nI a1) A0 e np B)), ((g 30), .inl (cA 3, 2000, .inl yb)), ((g 38), .inl (cA 3, 2000, .inl ow)), ((g 39), .inl (cA 3, 2000, .inl fi)), ((g 40), .inl (cA 3, 2000, .inl be))] := hD.sub [3, 4, 0, 1, 2] (by decide) rfl
      refine W.cs (cells' := 0) (slots' := 0) rfl rfl ?_
      refine W.eq (g2 := F0 m 4 ls [.long (lN 3)]) rfl ?_
      refine lv_l2i hx hb d_Md_lookElement_4 rfl ?_
      refine W.eq (g2 := F0 m 5 ls [.int 3]) (by rw [lN_i]; rfl) ?_
      refine lv_istore_n (lv' := [(3, .int 3), (0, .ref m0), (1, .int (nI t)), (2, .int (nI wh))]) hx hb d_Md_lookElement_5 rfl hl (by decide) rfl (fun ls hl => ?_)
      refine lv_iload_n hx hb d_Md_lookElement_6 rfl (lv_at hl 0 rfl) ?_
      refine lv_iconst (v := 1) hx hb d_Md_lookElement_7 (by decide) ?_
      refine lv_iand hx hb d_Md_lookElement_8 ?_
      refine W.eq (g2 := F0 m 9 ls [.int 1]) (by rw [show (3 : Int32) &&& 1 = 1 from by decide +kernel]) ?_
      refine lv_if_ne (tgt := 16) hx hb d_Md_lookElement_9 (by decide) (fun c_9 => ?_) (fun c_9 => absurd c_9 (by decide))
      refine lv_iconst (v := 0) hx hb d_Md_lookElement_16 (by decide) ?_
      refine lv_istore (lv' := [(4, .int 0), (3, .int 3), (0, .ref m0), (1, .int (nI t)), (2, .int (nI wh))]) hx hb d_Md_lookElement_17 hl (by decide) rfl (fun ls hl => ?_)
      refine lv_iload hx hb d_Md_lookElement_19 (lv_at hl 0 rfl) ?_
      refine lv_if_eq (tgt := 37) hx hb d_Md_lookElement_21 (by decide) (fun c_21 => ?_) (fun c_21 => absurd (by decide) c_21)
      refine lv_lconst (v := 0) hx hb d_Md_lookElement_37 (by decide) ?_
      refine lv_lstore (lv' := [(5, .long 0), (4, .int 0), (3, .int 3), (0, .ref m0), (1, .int (nI t)), (2, .int (nI wh))]) hx hb d_Md_lookElement_38 hl (by decide) rfl (fun ls hl => ?_)
      refine lv_iload_n hx hb d_Md_lookElement_40 rfl (lv_at hl 5 rfl) ?_
      refine lv_if_ne (tgt := 67) hx hb d_Md_lookElement_41 (by decide) (fun c_41 => ?_) (fun c_41 => absurd c_41 (fun q => absurd ((nI_eq (a := wh) (b := 0) (by omega) (by decide)).mp q) (by omega)))
      refine lv_iload_n hx hb d_Md_lookElement_67 rfl (lv_at hl 5 rfl) ?_
      refine lv_iconst (v := 2) hx hb d_Md_lookElement_68 (by decide) ?_
      refine lv_icmp_ne (tgt := 75) hx hb d_Md_lookElement_69 (by decide) (fun c_69 => ?_) (fun c_69 => absurd c_69 (fun q => absurd ((nI_eq (a := wh) (b := 2) (by omega) (by decide)).mp q) (by omega)))
      refine lv_iload_n hx hb d_Md_lookElement_75 rfl (lv_at hl 5 rfl) ?_
      refine lv_iconst (v := 4) hx hb d_Md_lookElement_76 (by decide) ?_
      refine lv_icmp_eq (tgt := 85) hx hb d_Md_lookElement_77 (by decide) (fun c_77 => absurd c_77 (fun q => absurd ((nI_eq (a := wh) (b := 4) (by omega) (by decide)).mp q) (by omega))) (fun c_77 => ?_)
      refine lv_iload_n hx hb d_Md_lookElement_80 rfl (lv_at hl 5 rfl) ?_
      refine lv_iconst (v := 5) hx hb d_Md_lookElement_81 (by decide) ?_
      refine lv_icmp_ne (tgt := 104) hx hb d_Md_lookElement_82 (by decide) (fun c_82 => ?_) (fun c_82 => absurd c_82 (fun q => absurd ((nI_eq (a := wh) (b := 5) (by omega) (by decide)).mp q) (by omega)))
      refine lv_iload_n hx hb d_Md_lookElement_104 rfl (lv_at hl 5 rfl) ?_
      refine lv_bipush (v := 6) hx hb d_Md_lookElement_105 (by decide) ?_
      refine lv_icmp_ne (tgt := 122) hx hb d_Md_lookElement_107 (by decide) (fun c_107 => ?_) (fun c_107 => absurd c_107 (fun q => absurd ((nI_eq (a := wh) (b := 6) (by omega) (by decide)).mp q) (by omega)))
      refine lv_iload hx hb d_Md_lookElement_122 (lv_at hl 1 rfl) ?_
      refine lv_if_eq (tgt := 142) hx hb d_Md_lookElement_124 (by decide) (fun c_124 => ?_) (fun c_124 => absurd (by decide) c_124)
      refine lv_iload_n hx hb d_Md_lookElement_142 rfl (lv_at hl 2 rfl) ?_
      refine lv_if_eq (tgt := 155) hx hb d_Md_lookElement_143 (by decide) (fun c_143 => absurd c_143 (by decide)) (fun c_143 => ?_)
      refine lv_iload_n hx hb d_Md_lookElement_146 rfl (lv_at hl 2 rfl) ?_
      refine lv_iconst (v := 4) hx hb d_Md_lookElement_147 (by decide) ?_
      refine lv_icmp_eq (tgt := 155) hx hb d_Md_lookElement_148 (by decide) (fun c_148 => absurd c_148 (by decide)) (fun c_148 => ?_)
      refine lv_iconst (v := 1) hx hb d_Md_lookElement_151 (by decide) ?_
      refine lv_goto (tgt := 156) hx hb d_Md_lookElement_152 (by decide) ?_
      refine lv_istore (lv' := [(7, .int 1), (5, .long 0), (4, .int 0), (3, .int 3), (0, .ref m0), (1, .int (nI t)), (2, .int (nI wh))]) hx hb d_Md_lookElement_156 hl (by decide) rfl (fun ls hl => ?_)
      refine lv_iload hx hb d_Md_lookElement_158 (lv_at hl 0 rfl) ?_
      refine lv_if_eq (tgt := 182) hx hb d_Md_lookElement_160 (by decide) (fun c_160 => absurd c_160 (by decide)) (fun c_160 => ?_)
      refine lv_iload_n hx hb d_Md_lookElement_163 rfl (lv_at hl 3 rfl) ?_
      refine lv_iconst (v := 4) hx hb d_Md_lookElement_164 (by decide) ?_
      refine lv_iand hx hb d_Md_lookElement_165 ?_
      refine W.eq (g2 := F0 m 166 ls [.int 0]) (by rw [show (3 : Int32) &&& 4 = 0 from by decide +kernel]) ?_
      refine lv_if_eq (tgt := 182) hx hb d_Md_lookElement_166 (by decide) (fun c_166 => ?_) (fun c_166 => absurd (by decide) c_166)
      refine lv_ldc2 hx hb hown (hts _ (List.mem_cons_of_mem _ iw4_168)) d_Md_lookElement_182 ?_
      refine lv_lstore (lv' := [(8, .long 112), (7, .int 1), (5, .long 0), (4, .int 0), (3, .int 3), (0, .ref m0), (1, .int (nI t)), (2, .int (nI wh))]) hx hb d_Md_lookElement_185 hl (by decide) rfl (fun ls hl => ?_)
      refine lv_aload_n hx hb d_Md_lookElement_187 rfl (lv_at hl 5 rfl) ?_
      refine lv_dup hx hb d_Md_lookElement_188 rfl ?_
      refine va_get (D := D) (ci := 6) (v := .int (nI a1)) (C := R_Md) (T := F_Md) (N := 44) hx hb hts (fun w h => List.mem_cons_of_mem _ (i_Md w h)) hown hE.1 hP 0 rfl rfl 43 (by decide) (hts _ (List.mem_cons_of_mem _ iw3_97)) (fun _ h9 => h9) rfl d_Md_lookElement_189 ?_
      refine lv_iload hx hb d_Md_lookElement_192 (lv_at hl 1 rfl) ?_
      refine lv_if_eq (tgt := 201) hx hb d_Md_lookElement_194 (by decide) (fun c_194 => absurd c_194 (by decide)) (fun c_194 => ?_)
      refine lv_iconst (v := 1) hx hb d_Md_lookElement_197 (by decide) ?_
      refine lv_goto (tgt := 202) hx hb d_Md_lookElement_198 (by decide) ?_
      refine lv_iadd hx hb d_Md_lookElement_202 ?_
      rw [nI_1]
      refine va_put (D := D) (ci := 6) (v := .int (nI (a1 + 1))) (ty := .int) (C := R_Md) (T := F_Md) (N := 44) hx hb hts (fun w h => List.mem_cons_of_mem _ (i_Md w h)) t_Md tk_Md n_Md hown hE.1 hP hD hS 0 rfl rfl 43 (by decide) (hts _ (List.mem_cons_of_mem _ iw3_97)) (fun _ h9 => h9) rfl (by decide +kernel) rfl rfl (Nat.le_of_ble_eq_true rfl) d_Md_lookElement_203 (fun H locs hP hD hS => ?_)
      have hP : va_P D cls [(m0, .inr (6, mF g (K.1, K.2.1, K.2.2.1, K.2.2.2.1, nI X.length, K.2.2.2.2.2.1, K.2.2.2.2.2.2.1, K.2.2.2.2.2.2.2.1, nI (a1 + 1)) A0 e np B)), ((g 30), .inl (cA 3, 2000, .inl yb)), ((g 38), .inl (cA 3, 2000, .inl ow)), ((g 39), .inl (cA 3, 2000, .inl fi)), ((g 40), .inl (cA 3, 2000, .inl be))] H := hP
      have hD : va_D A [(m0, .inr (6, mF g (K.1, K.2.1, K.2.2.1, K.2.2.2.1, nI X.length, K.2.2.2.2.2.1, K.2.2.2.2.2.2.1, K.2.2.2.2.2.2.2.1, nI (a1 + 1)) A0 e np B)), ((g 30), .inl (cA 3, 2000, .inl yb)), ((g 38), .inl (cA 3, 2000, .inl ow)), ((g 39), .inl (cA 3, 2000, .inl fi)), ((g 40), .inl (cA 3, 2000, .inl be))] := hD
      refine lv_iload_n hx hb d_Md_lookElement_206 rfl (lv_at hl 7 rfl) ?_
      refine lv_iconst (v := 1) hx hb d_Md_lookElement_207 (by decide) ?_
      refine lv_icmp_ne (tgt := 214) hx hb d_Md_lookElement_208 (by decide) (fun c_208 => ?_) (fun c_208 => absurd c_208 (fun q => absurd ((nI_eq (a := wh) (b := 1) (by omega) (by decide)).mp q) (by omega)))
      refine lv_aload_n hx hb d_Md_lookElement_214 rfl (lv_at hl 5 rfl) ?_
      refine cV (As := []) (rest := []) (n := 0) (wc := [(m0, .inr (6, mF g (K.1, K.2.1, K.2.2.1, K.2.2.2.1, nI X.length, K.2.2.2.2.2.1, K.2.2.2.2.2.2.1, K.2.2.2.2.2.2.2.1, nI (a1 + 1)) A0 e np B)), ((g 30), .inl (cA 3, 2000, .inl yb))]) (wr := [((g 38), .inl (cA 3, 2000, .inl ow)), ((g 39), .inl (cA 3, 2000, .inl fi)), ((g 40), .inl (cA 3, 2000, .inl be))]) ⟨hx, hb, hml, hown, hts⟩ hno hlocks hl.1 (c_Md_number l hl9 D cA ad H.size m0 g (K.1, K.2.1, K.2.2.1, K.2.2.2.1, nI X.length, K.2.2.2.2.2.1, K.2.2.2.2.2.2.1, K.2.2.2.2.2.2.2.1, nI (a1 + 1)) A0 e np B yb b lm hlm hyb hb9 (a1 + 1) n a4 (by omega) he4) iw4_132 iw4_134 sel_Md_number iw1_7 iw4_135 (by decide +kernel) rfl ⟨Nat.le_of_ble_eq_true rfl, Nat.le_of_ble_eq_true rfl⟩ ⟨Nat.le_of_ble_eq_true rfl, Nat.le_of_ble_eq_true rfl⟩ rfl (Nat.le_of_ble_eq_true rfl) d_Md_lookElement_215 hE hP hD hS hA [0, 1] [2, 3, 4] rfl rfl rfl rfl (by decide) (ci := 6) rfl rfl 0 rfl (fun _ h => h.elim) (fun v_215 u_215 H locs hp_215 hP hD hS => ?_)
      obtain rfl := hp_215
      have hP : va_P D cls [(m0, .inr (6, mF g (K.1, K.2.1, K.2.2.1, K.2.2.2.1, nI X.length, K.2.2.2.2.2.1, K.2.2.2.2.2.2.1, K.2.2.2.2.2.2.2.1, nI a4) A0 e np B)), ((g 30), .inl (cA 3, 2000, .inl yb)), ((g 38), .inl (cA 3, 2000, .inl ow)), ((g 39), .inl (cA 3, 2000, .inl fi)), ((g 40), .inl (cA 3, 2000, .inl be))] H := hP.sub [3, 4, 0, 1, 2] rfl
      have hD : va_D A [(m0, .inr (6, mF g (K.1, K.2.1, K.2.2.1, K.2.2.2.1, nI X.length, K.2.2.2.2.2.1, K.2.2.2.2.2.2.1, K.2.2.2.2.2.2.2.1, nI a4) A0 e np B)), ((g 30), .inl (cA 3, 2000, .inl yb)), ((g 38), .inl (cA 3, 2000, .inl ow)), ((g 39), .inl (cA 3, 2000, .inl fi)), ((g 40), .inl (cA 3, 2000, .inl be))] := hD.sub [3, 4, 0, 1, 2] (by decide) rfl
      refine W.cs (cells' := 0) (slots' := 0) rfl rfl ?_
      refine W.eq (g2 := F0 m 218 ls [.long (lN n)]) rfl ?_
      refine lv_lstore (lv' := [(10, .long (lN n)), (8, .long 112), (7, .int 1), (5, .long 0), (4, .int 0), (3, .int 3), (0, .ref m0), (1, .int (nI t)), (2, .int (nI wh))]) hx hb d_Md_lookElement_218 hl (by decide) rfl (fun ls hl => ?_)
      refine lv_iload_n hx hb d_Md_lookElement_220 rfl (lv_at hl 8 rfl) ?_
      refine lv_iconst (v := 3) hx hb d_Md_lookElement_221 (by decide) ?_
      refine lv_icmp_ne (tgt := 228) hx hb d_Md_lookElement_222 (by decide) (fun c_222 => ?_) (fun c_222 => absurd c_222 (fun q => absurd ((nI_eq (a := wh) (b := 3) (by omega) (by decide)).mp q) (by omega)))
      refine lv_iload_n hx hb d_Md_lookElement_228 rfl (lv_at hl 8 rfl) ?_
      refine lv_bipush (v := 8) hx hb d_Md_lookElement_229 (by decide) ?_
      refine lv_icmp_lt (tgt := 245) hx hb d_Md_lookElement_231 (by decide) (fun c_231 => absurd c_231 (nI_nlt (a := wh) (b := 8) (by omega) (by omega))) (fun c_231 => ?_)
      refine lv_iload_n hx hb d_Md_lookElement_234 rfl (lv_at hl 8 rfl) ?_
      refine lv_bipush (v := 8) hx hb d_Md_lookElement_235 (by decide) ?_
      refine lv_isub hx hb d_Md_lookElement_237 ?_
      refine lv_i2l hx hb d_Md_lookElement_238 rfl ?_
      refine lv_lload hx hb d_Md_lookElement_239 (lv_at hl 0 rfl) ?_
      rw [show (8 : Int32) = nI 8 from rfl, pk_sub hw8, nI_l (n := wh - 8) (by omega)]
      refine W.lcmp hx hb d_Md_lookElement_241 ?_
      refine lv_if_lt (tgt := 249) hx hb d_Md_lookElement_242 (by decide) (fun c_242 => ?_) (fun c_242 => ?_)
      · have hin : wh - 8 < n := (pk_lLT (by omega) (by omega)).mp ((lg_cmp_lt _ _).mp c_242)
        refine lv_iload_n hx hb d_Md_lookElement_249 rfl (lv_at hl 5 rfl) ?_
        refine lv_iconst (v := 4) hx hb d_Md_lookElement_250 (by decide) ?_
        refine lv_iand hx hb d_Md_lookElement_251 ?_
        refine W.eq (g2 := F0 m 252 ls [.int 0]) (by rw [show (3 : Int32) &&& 4 = 0 from by decide +kernel]) ?_
        refine lv_if_eq (tgt := 282) hx hb d_Md_lookElement_252 (by decide) (fun c_252 => ?_) (fun c_252 => absurd (by decide) c_252)
        refine lv_bipush (v := 8) hx hb d_Md_lookElement_282 (by decide) ?_
        refine lv_istore (lv' := [(12, .int 8), (10, .long (lN n)), (8, .long 112), (7, .int 1), (5, .long 0), (4, .int 0), (3, .int 3), (0, .ref m0), (1, .int (nI t)), (2, .int (nI wh))]) hx hb d_Md_lookElement_284 hl (by decide) rfl (fun ls hl => ?_)
        have key : ∀ (d k ak : Nat) (acc : List Int64) (H : Heap) (locs : List Loc) (ls : Array Slot), k + d = wh → 8 ≤ k → ak ≤ lm → acc.length = k - 8 → repU b lm (n - (k - 8)) acc ak = .inr (it, a') → va_P D cls [(m0, .inr (6, mF g (K.1, K.2.1, K.2.2.1, K.2.2.2.1, nI X.length, K.2.2.2.2.2.1, K.2.2.2.2.2.2.1, K.2.2.2.2.2.2.2.1, nI ak) A0 e np B)), ((g 30), .inl (cA 3, 2000, .inl yb)), ((g 38), .inl (cA 3, 2000, .inl ow)), ((g 39), .inl (cA 3, 2000, .inl fi)), ((g 40), .inl (cA 3, 2000, .inl be))] H → va_D A [(m0, .inr (6, mF g (K.1, K.2.1, K.2.2.1, K.2.2.2.1, nI X.length, K.2.2.2.2.2.1, K.2.2.2.2.2.2.1, K.2.2.2.2.2.2.2.1, nI ak) A0 e np B)), ((g 30), .inl (cA 3, 2000, .inl yb)), ((g 38), .inl (cA 3, 2000, .inl ow)), ((g 39), .inl (cA 3, 2000, .inl fi)), ((g 40), .inl (cA 3, 2000, .inl be))] → va_S A s.heap H locs → lv_has ls 13 [(0, .ref m0), (2, .int (nI wh)), (12, .int (nI k))] → W pg l ev ({ frames := 2, cells := 0, slots := 0, locals := 48 }) s m ([.ref m0, .int (nI t), .int (nI wh)] : List Value).toArray bw meth cdx H locs 0 0 (tx_Q bw (cQ D (fun vv (_ : Int32) => vv = some (.long (lkS 7 (vp_updL (vp_updL (vp_updL (vp_updL (vp_updL (vp_updL (vp_updL c_1 0 (elM 3)) 2 0) 1 (lN 112)) 6 (elS 3)) 3 (lN n)) 7 (lN nl)) 8 (lN n)) LL wh))) (fun _ => False) (fun (q : Int32) => [(m0, .inr (6, mF g (K.1, K.2.1, K.2.2.1, K.2.2.2.1, nI X.length, K.2.2.2.2.2.1, K.2.2.2.2.2.2.1, K.2.2.2.2.2.2.2.1, q) A0 e np B)), ((g 30), .inl (cA 3, 2000, .inl yb)), ((g 38), .inl (cA 3, 2000, .inl ow)), ((g 39), .inl (cA 3, 2000, .inl fi)), ((g 40), .inl (cA 3, 2000, .inl be))]) (fun _ => (0, 0)) A) ([.ref m0, .int (nI t), .int (nI wh)] : List Value).toArray s A) (F0 m 286 ls []) := by
          intro d
          induction d with
          | zero =>
            intro k ak acc H locs ls hkd hk8 hak hacc hrep hP hD hS hl
            obtain ⟨r, hr9⟩ : ∃ r, n - (k - 8) = r + 1 := ⟨n - (k - 8) - 1, by omega⟩
            rw [hr9, repU] at hrep
            obtain ⟨vk, b1, hv1, hrep⟩ := bnd_ok hrep
            have hw1 := pU32_ok (by omega) hv1
            obtain ⟨⟨ly, hiy, hly⟩, -, -⟩ := repU_pref r _ _ it a' (by omega) hrep
            refine lv_iload hx hb d_Md_lookElement_286 (lv_at hl 2 rfl) ?_
            refine lv_iload_n hx hb d_Md_lookElement_288 rfl (lv_at hl 1 rfl) ?_
            refine lv_icmp_ge (tgt := 303) hx hb d_Md_lookElement_289 (by decide) (fun c_289 => ?_) (fun c_289 => absurd (nI_le (by omega) (by omega)) c_289)
            refine lv_aload_n hx hb d_Md_lookElement_303 rfl (lv_at hl 0 rfl) ?_
            refine cV (As := []) (rest := []) (n := 0) (wc := [(m0, .inr (6, mF g (K.1, K.2.1, K.2.2.1, K.2.2.2.1, nI X.length, K.2.2.2.2.2.1, K.2.2.2.2.2.2.1, K.2.2.2.2.2.2.2.1, nI ak) A0 e np B)), ((g 30), .inl (cA 3, 2000, .inl yb))]) (wr := [((g 38), .inl (cA 3, 2000, .inl ow)), ((g 39), .inl (cA 3, 2000, .inl fi)), ((g 40), .inl (cA 3, 2000, .inl be))]) ⟨hx, hb, hml, hown, hts⟩ hno hlocks hl.1 (c_Md_number l hl9 D cA ad H.size m0 g (K.1, K.2.1, K.2.2.1, K.2.2.2.1, nI X.length, K.2.2.2.2.2.1, K.2.2.2.2.2.2.1, K.2.2.2.2.2.2.2.1, nI ak) A0 e np B yb b lm hlm hyb hb9 ak vk b1 (by omega) hv1) iw4_132 iw4_134 sel_Md_number iw1_7 iw4_135 (by decide +kernel) rfl ⟨Nat.le_of_ble_eq_true rfl, Nat.le_of_ble_eq_true rfl⟩ ⟨Nat.le_of_ble_eq_true rfl, Nat.le_of_ble_eq_true rfl⟩ rfl (Nat.le_of_ble_eq_true rfl) d_Md_lookElement_304 hE hP hD hS hA [0, 1] [2, 3, 4] rfl rfl rfl rfl (by decide) (ci := 6) rfl rfl 0 rfl (fun _ h => h.elim) (fun v_304 u_304 H locs hp_304 hP hD hS => ?_)
            obtain rfl := hp_304
            have hP : va_P D cls [(m0, .inr (6, mF g (K.1, K.2.1, K.2.2.1, K.2.2.2.1, nI X.length, K.2.2.2.2.2.1, K.2.2.2.2.2.2.1, K.2.2.2.2.2.2.2.1, nI b1) A0 e np B)), ((g 30), .inl (cA 3, 2000, .inl yb)), ((g 38), .inl (cA 3, 2000, .inl ow)), ((g 39), .inl (cA 3, 2000, .inl fi)), ((g 40), .inl (cA 3, 2000, .inl be))] H := hP.sub [3, 4, 0, 1, 2] rfl
            have hD : va_D A [(m0, .inr (6, mF g (K.1, K.2.1, K.2.2.1, K.2.2.2.1, nI X.length, K.2.2.2.2.2.1, K.2.2.2.2.2.2.1, K.2.2.2.2.2.2.2.1, nI b1) A0 e np B)), ((g 30), .inl (cA 3, 2000, .inl yb)), ((g 38), .inl (cA 3, 2000, .inl ow)), ((g 39), .inl (cA 3, 2000, .inl fi)), ((g 40), .inl (cA 3, 2000, .inl be))] := hD.sub [3, 4, 0, 1, 2] (by decide) rfl
            refine W.cs (cells' := 0) (slots' := 0) rfl rfl ?_
            refine W.eq (g2 := F0 m 307 ls [.long (lN vk)]) rfl ?_
            exact cRl (nI b1) hx hb hr hlocks d_Md_lookElement_307 hS hP hD (by rw [lkS, if_pos (show 8 ≤ wh by omega), if_pos rfl, lst_in (z := vp_updL (vp_updL (vp_updL (vp_updL (vp_updL (vp_updL (vp_updL c_1 0 (elM 3)) 2 0) 1 (lN 112)) 6 (elS 3)) 3 (lN n)) 7 (lN nl)) 8 (lN n)) (cs := 7) (cn := 8) (M := n) (nl := nl) rfl rfl (by omega) hnl hitl.1 hseg (show wh - 8 < n by omega), hiy, List.append_assoc, List.singleton_append, getD_at (show acc.length = wh - 8 by omega)]) (Nat.le_refl _) (Nat.le_refl _)
          | succ d ih =>
            intro k ak acc H locs ls hkd hk8 hak hacc hrep hP hD hS hl
            obtain ⟨r, hr9⟩ : ∃ r, n - (k - 8) = r + 1 := ⟨n - (k - 8) - 1, by omega⟩
            rw [hr9, repU] at hrep
            obtain ⟨vk, b1, hv1, hrep⟩ := bnd_ok hrep
            have hw1 := pU32_ok (by omega) hv1
            obtain ⟨⟨ly, hiy, hly⟩, -, -⟩ := repU_pref r _ _ it a' (by omega) hrep
            refine lv_iload hx hb d_Md_lookElement_286 (lv_at hl 2 rfl) ?_
            refine lv_iload_n hx hb d_Md_lookElement_288 rfl (lv_at hl 1 rfl) ?_
            refine lv_icmp_ge (tgt := 303) hx hb d_Md_lookElement_289 (by decide) (fun c_289 => absurd c_289 (nI_ge (by omega) (by omega))) (fun c_289 => ?_)
            refine lv_aload_n hx hb d_Md_lookElement_292 rfl (lv_at hl 0 rfl) ?_
            refine cV (As := []) (rest := []) (n := 0) (wc := [(m0, .inr (6, mF g (K.1, K.2.1, K.2.2.1, K.2.2.2.1, nI X.length, K.2.2.2.2.2.1, K.2.2.2.2.2.2.1, K.2.2.2.2.2.2.2.1, nI ak) A0 e np B)), ((g 30), .inl (cA 3, 2000, .inl yb))]) (wr := [((g 38), .inl (cA 3, 2000, .inl ow)), ((g 39), .inl (cA 3, 2000, .inl fi)), ((g 40), .inl (cA 3, 2000, .inl be))]) ⟨hx, hb, hml, hown, hts⟩ hno hlocks hl.1 (c_Md_number l hl9 D cA ad H.size m0 g (K.1, K.2.1, K.2.2.1, K.2.2.2.1, nI X.length, K.2.2.2.2.2.1, K.2.2.2.2.2.2.1, K.2.2.2.2.2.2.2.1, nI ak) A0 e np B yb b lm hlm hyb hb9 ak vk b1 (by omega) hv1) iw4_132 iw4_134 sel_Md_number iw1_7 iw4_135 (by decide +kernel) rfl ⟨Nat.le_of_ble_eq_true rfl, Nat.le_of_ble_eq_true rfl⟩ ⟨Nat.le_of_ble_eq_true rfl, Nat.le_of_ble_eq_true rfl⟩ rfl (Nat.le_of_ble_eq_true rfl) d_Md_lookElement_293 hE hP hD hS hA [0, 1] [2, 3, 4] rfl rfl rfl rfl (by decide) (ci := 6) rfl rfl 0 rfl (fun _ h => h.elim) (fun v_293 u_293 H locs hp_293 hP hD hS => ?_)
            obtain rfl := hp_293
            have hP : va_P D cls [(m0, .inr (6, mF g (K.1, K.2.1, K.2.2.1, K.2.2.2.1, nI X.length, K.2.2.2.2.2.1, K.2.2.2.2.2.2.1, K.2.2.2.2.2.2.2.1, nI b1) A0 e np B)), ((g 30), .inl (cA 3, 2000, .inl yb)), ((g 38), .inl (cA 3, 2000, .inl ow)), ((g 39), .inl (cA 3, 2000, .inl fi)), ((g 40), .inl (cA 3, 2000, .inl be))] H := hP.sub [3, 4, 0, 1, 2] rfl
            have hD : va_D A [(m0, .inr (6, mF g (K.1, K.2.1, K.2.2.1, K.2.2.2.1, nI X.length, K.2.2.2.2.2.1, K.2.2.2.2.2.2.1, K.2.2.2.2.2.2.2.1, nI b1) A0 e np B)), ((g 30), .inl (cA 3, 2000, .inl yb)), ((g 38), .inl (cA 3, 2000, .inl ow)), ((g 39), .inl (cA 3, 2000, .inl fi)), ((g 40), .inl (cA 3, 2000, .inl be))] := hD.sub [3, 4, 0, 1, 2] (by decide) rfl
            refine W.cs (cells' := 0) (slots' := 0) rfl rfl ?_
            refine W.eq (g2 := F0 m 296 ls [.long (lN vk)]) rfl ?_
            refine lv_pop2_2 hx hb d_Md_lookElement_296 rfl ?_
            obtain ⟨x12_4, ex12_4⟩ : ∃ y : Int32, y = (nI k) + 1 := ⟨_, rfl⟩
            refine lv_iinc (v := x12_4) (lv' := [(12, .int x12_4), (0, .ref m0), (2, .int (nI wh))]) hx hb d_Md_lookElement_297 hl (k := 2) rfl (by rw [ex12_4]; rfl) (by decide) rfl (fun ls hl => ?_)
            refine lv_goto (tgt := 286) hx hb d_Md_lookElement_300 (by decide) ?_
            have e9 : x12_4 = nI (k + 1) := by rw [ex12_4]; exact nI_1 k
            subst e9
            exact ih (k + 1) b1 (acc ++ [lN vk]) H locs ls (by omega) (by omega) (by omega) (by simp; omega) (by rw [show n - (k + 1 - 8) = r by omega]; exact hrep) hP hD hS (lv_sub hl [1, 2, 0] rfl)
        exact key (wh - 8) 8 a4 [] H _ ls (by omega) (Nat.le_refl _) (by omega) rfl (by rw [Nat.sub_self, Nat.sub_zero]; exact he5) hP hD hS (lv_sub hl [7, 9, 0] rfl)
      · refine lv_ldc2 hx hb hown (hts _ (List.mem_cons_of_mem _ iw3_204)) d_Md_lookElement_245 ?_
        exact cRl (nI a4) hx hb hr hlocks d_Md_lookElement_248 hS hP hD (by rw [lkS, if_pos (show 8 ≤ wh by omega), if_pos rfl, lst_out (z := vp_updL (vp_updL (vp_updL (vp_updL (vp_updL (vp_updL (vp_updL c_1 0 (elM 3)) 2 0) 1 (lN 112)) 6 (elS 3)) 3 (lN n)) 7 (lN nl)) 8 (lN n)) (cs := 7) (cn := 8) (M := n) rfl (by omega) (by omega) (by have := (pk_lLE (a := n) (b := wh - 8) (by omega) (by omega)).mp (Int64.not_lt.mp (fun q => c_242 ((lg_cmp_lt _ _).mpr q))); omega)]) (Nat.le_refl _) (Nat.le_refl _)
  · have he2 : bnd (pExpr b lm dc a1) (fun _ a5 => .inr (vp_updL (vp_updL (vp_updL (vp_updL c_1 0 (elM 4)) 2 0) 4 (lN a1)) 5 (lN a5), a5)) = .inr (c2, a2) := he2
    obtain ⟨_, b9, q9, r9⟩ := bnd_ok he2
    obtain ⟨ec2, eb9⟩ : vp_updL (vp_updL (vp_updL (vp_updL c_1 0 (elM 4)) 2 0) 4 (lN a1)) 5 (lN a2) = c2 ∧ b9 = a2 := by cases r9; exact ⟨rfl, rfl⟩
    subst ec2
    have h4 : lN a1 = lN x1 := (hc45 rfl).1
    obtain ⟨ett, ea3⟩ : 112 = tt ∧ a2 = a3 := by have q : (Sum.inr (112, a2) : PR Nat) = .inr (tt, a3) := he3; cases q; exact ⟨rfl, rfl⟩
    subst ett
    subst ea3
    have hexx : exO t X = (x1, a2) :: exs := hexx
    have hitx := hitx (by decide)
    have hexl : exs.length = n := by have q := hitl.1; rw [hitx, List.length_map] at q; exact q
    rcases (show wh = 0 ∨ wh = 1 ∨ wh = 2 ∨ wh = 3 ∨ wh = 4 ∨ wh = 5 ∨ wh = 6 ∨ wh = 7 ∨ 8 ≤ wh by omega) with rfl | rfl | rfl | rfl | rfl | rfl | rfl | rfl | hw8
    · have hl : lv_has ls 13 [(0, .ref m0), (1, .int (nI t)), (2, .int 0)] := hl
      refine lv_aload_n hx hb d_Md_lookElement_0 rfl (lv_at hl 0 rfl) ?_
      refine cV (As := []) (rest := []) (n := 0) (wc := [(m0, .inr (6, mF g (K.1, K.2.1, K.2.2.1, K.2.2.2.1, nI X.length, K.2.2.2.2.2.1, K.2.2.2.2.2.2.1, K.2.2.2.2.2.2.2.1, nI a) A0 e np B)), ((g 30), .inl (cA 3, 2000, .inl yb))]) (wr := [((g 38), .inl (cA 3, 2000, .inl ow)), ((g 39), .inl (cA 3, 2000, .inl fi)), ((g 40), .inl (cA 3, 2000, .inl be))]) ⟨hx, hb, hml, hown, hts⟩ hno hlocks hl.1 (c_Md_number l hl9 D cA ad s.heap.size m0 g (K.1, K.2.1, K.2.2.1, K.2.2.2.1, nI X.length, K.2.2.2.2.2.1, K.2.2.2.2.2.2.1, K.2.2.2.2.2.2.2.1, nI a) A0 e np B yb b lm hlm hyb hb9 a 4 a1 (by omega) hmu) iw4_132 iw4_134 sel_Md_number iw1_7 iw4_135 (by decide +kernel) rfl ⟨Nat.le_of_ble_eq_true rfl, Nat.le_of_ble_eq_true rfl⟩ ⟨Nat.le_of_ble_eq_true rfl, Nat.le_of_ble_eq_true rfl⟩ rfl (Nat.le_of_ble_eq_true rfl) d_Md_lookElement_1 hE hP hD hS hA [0, 1] [2, 3, 4] rfl rfl rfl rfl (by decide) (ci := 6) rfl rfl 0 rfl (fun _ h => h.elim) (fun v_1 u_1 H locs hp_1 hP hD hS => ?_)
      obtain rfl := hp_1
      have hP : va_P D cls [(m0, .inr (6, mF g (K.1, K.2.1, K.2.2.1, K.2.2.2.1, nI X.length, K.2.2.2.2.2.1, K.2.2.2.2.2.2.1, K.2.2.2.2.2.2.2.1, nI a1) A0 e np B)), ((g 30), .inl (cA 3, 2000, .inl yb)), ((g 38), .inl (cA 3, 2000, .inl ow)), ((g 39), .inl (cA 3, 2000, .inl fi)), ((g 40), .inl (cA 3, 2000, .inl be))] H := hP.sub [3, 4, 0, 1, 2] rfl
      have hD : va_D A [(m0, .inr (6, mF g (K.1, K.2.1, K.2.2.1, K.2.2.2.1, nI X.length, K.2.2.2.2.2.1, K.2.2.2.2.2.2.1, K.2.2.2.2.2.2.2.1, nI a1) A0 e np B)), ((g 30), .inl (cA 3, 2000, .inl yb)), ((g 38), .inl (cA 3, 2000, .inl ow)), ((g 39), .inl (cA 3, 2000, .inl fi)), ((g 40), .inl (cA 3, 2000, .inl be))] := hD.sub [3, 4, 0, 1, 2] (by decide) rfl
      refine W.cs (cells' := 0) (slots' := 0) rfl rfl ?_
      refine W.eq (g2 := F0 m 4 ls [.long (lN 4)]) rfl ?_
      refine lv_l2i hx hb d_Md_lookElement_4 rfl ?_
      refine W.eq (g2 := F0 m 5 ls [.int 4]) (by rw [lN_i]; rfl) ?_
      refine lv_istore_n (lv' := [(3, .int 4), (0, .ref m0), (1, .int (nI t)), (2, .int 0)]) hx hb d_Md_lookElement_5 rfl hl (by decide) rfl (fun ls hl => ?_)
      refine lv_iload_n hx hb d_Md_lookElement_6 rfl (lv_at hl 0 rfl) ?_
      refine lv_iconst (v := 1) hx hb d_Md_lookElement_7 (by decide) ?_
      refine lv_iand hx hb d_Md_lookElement_8 ?_
      refine W.eq (g2 := F0 m 9 ls [.int 0]) (by rw [show (4 : Int32) &&& 1 = 0 from by decide +kernel]) ?_
      refine lv_if_ne (tgt := 16) hx hb d_Md_lookElement_9 (by decide) (fun c_9 => absurd (by decide) c_9) (fun c_9 => ?_)
      refine lv_iconst (v := 1) hx hb d_Md_lookElement_12 (by decide) ?_
      refine lv_goto (tgt := 17) hx hb d_Md_lookElement_13 (by decide) ?_
      refine lv_istore (lv' := [(4, .int 1), (3, .int 4), (0, .ref m0), (1, .int (nI t)), (2, .int 0)]) hx hb d_Md_lookElement_17 hl (by decide) rfl (fun ls hl => ?_)
      refine lv_iload hx hb d_Md_lookElement_19 (lv_at hl 0 rfl) ?_
      refine lv_if_eq (tgt := 37) hx hb d_Md_lookElement_21 (by decide) (fun c_21 => absurd c_21 (by decide)) (fun c_21 => ?_)
      refine lv_iload_n hx hb d_Md_lookElement_24 rfl (lv_at hl 1 rfl) ?_
      refine lv_iconst (v := 2) hx hb d_Md_lookElement_25 (by decide) ?_
      refine lv_iand hx hb d_Md_lookElement_26 ?_
      refine W.eq (g2 := F0 m 27 ls [.int 0]) (by rw [show (4 : Int32) &&& 2 = 0 from by decide +kernel]) ?_
      refine lv_if_eq (tgt := 37) hx hb d_Md_lookElement_27 (by decide) (fun c_27 => ?_) (fun c_27 => absurd (by decide) c_27)
      refine lv_lconst (v := 0) hx hb d_Md_lookElement_37 (by decide) ?_
      refine lv_lstore (lv' := [(5, .long 0), (4, .int 1), (3, .int 4), (0, .ref m0), (1, .int (nI t)), (2, .int 0)]) hx hb d_Md_lookElement_38 hl (by decide) rfl (fun ls hl => ?_)
      refine lv_iload_n hx hb d_Md_lookElement_40 rfl (lv_at hl 5 rfl) ?_
      refine lv_if_ne (tgt := 67) hx hb d_Md_lookElement_41 (by decide) (fun c_41 => absurd (by decide) c_41) (fun c_41 => ?_)
      refine lv_iload hx hb d_Md_lookElement_44 (lv_at hl 1 rfl) ?_
      refine lv_if_eq (tgt := 53) hx hb d_Md_lookElement_46 (by decide) (fun c_46 => absurd c_46 (by decide)) (fun c_46 => ?_)
      refine lv_lconst (v := 1) hx hb d_Md_lookElement_49 (by decide) ?_
      refine lv_goto (tgt := 66) hx hb d_Md_lookElement_50 (by decide) ?_
      exact cRl (nI a1) hx hb hr hlocks d_Md_lookElement_66 hS hP hD (rfl) (Nat.le_refl _) (Nat.le_refl _)
    · have hl : lv_has ls 13 [(0, .ref m0), (1, .int (nI t)), (2, .int 1)] := hl
      refine lv_aload_n hx hb d_Md_lookElement_0 rfl (lv_at hl 0 rfl) ?_
      refine cV (As := []) (rest := []) (n := 0) (wc := [(m0, .inr (6, mF g (K.1, K.2.1, K.2.2.1, K.2.2.2.1, nI X.length, K.2.2.2.2.2.1, K.2.2.2.2.2.2.1, K.2.2.2.2.2.2.2.1, nI a) A0 e np B)), ((g 30), .inl (cA 3, 2000, .inl yb))]) (wr := [((g 38), .inl (cA 3, 2000, .inl ow)), ((g 39), .inl (cA 3, 2000, .inl fi)), ((g 40), .inl (cA 3, 2000, .inl be))]) ⟨hx, hb, hml, hown, hts⟩ hno hlocks hl.1 (c_Md_number l hl9 D cA ad s.heap.size m0 g (K.1, K.2.1, K.2.2.1, K.2.2.2.1, nI X.length, K.2.2.2.2.2.1, K.2.2.2.2.2.2.1, K.2.2.2.2.2.2.2.1, nI a) A0 e np B yb b lm hlm hyb hb9 a 4 a1 (by omega) hmu) iw4_132 iw4_134 sel_Md_number iw1_7 iw4_135 (by decide +kernel) rfl ⟨Nat.le_of_ble_eq_true rfl, Nat.le_of_ble_eq_true rfl⟩ ⟨Nat.le_of_ble_eq_true rfl, Nat.le_of_ble_eq_true rfl⟩ rfl (Nat.le_of_ble_eq_true rfl) d_Md_lookElement_1 hE hP hD hS hA [0, 1] [2, 3, 4] rfl rfl rfl rfl (by decide) (ci := 6) rfl rfl 0 rfl (fun _ h => h.elim) (fun v_1 u_1 H locs hp_1 hP hD hS => ?_)
      obtain rfl := hp_1
      have hP : va_P D cls [(m0, .inr (6, mF g (K.1, K.2.1, K.2.2.1, K.2.2.2.1, nI X.length, K.2.2.2.2.2.1, K.2.2.2.2.2.2.1, K.2.2.2.2.2.2.2.1, nI a1) A0 e np B)), ((g 30), .inl (cA 3, 2000, .inl yb)), ((g 38), .inl (cA 3, 2000, .inl ow)), ((g 39), .inl (cA 3, 2000, .inl fi)), ((g 40), .inl (cA 3, 2000, .inl be))] H := hP.sub [3, 4, 0, 1, 2] rfl
      have hD : va_D A [(m0, .inr (6, mF g (K.1, K.2.1, K.2.2.1, K.2.2.2.1, nI X.length, K.2.2.2.2.2.1, K.2.2.2.2.2.2.1, K.2.2.2.2.2.2.2.1, nI a1) A0 e np B)), ((g 30), .inl (cA 3, 2000, .inl yb)), ((g 38), .inl (cA 3, 2000, .inl ow)), ((g 39), .inl (cA 3, 2000, .inl fi)), ((g 40), .inl (cA 3, 2000, .inl be))] := hD.sub [3, 4, 0, 1, 2] (by decide) rfl
      refine W.cs (cells' := 0) (slots' := 0) rfl rfl ?_
      refine W.eq (g2 := F0 m 4 ls [.long (lN 4)]) rfl ?_
      refine lv_l2i hx hb d_Md_lookElement_4 rfl ?_
      refine W.eq (g2 := F0 m 5 ls [.int 4]) (by rw [lN_i]; rfl) ?_
      refine lv_istore_n (lv' := [(3, .int 4), (0, .ref m0), (1, .int (nI t)), (2, .int 1)]) hx hb d_Md_lookElement_5 rfl hl (by decide) rfl (fun ls hl => ?_)
      refine lv_iload_n hx hb d_Md_lookElement_6 rfl (lv_at hl 0 rfl) ?_
      refine lv_iconst (v := 1) hx hb d_Md_lookElement_7 (by decide) ?_
      refine lv_iand hx hb d_Md_lookElement_8 ?_
      refine W.eq (g2 := F0 m 9 ls [.int 0]) (by rw [show (4 : Int32) &&& 1 = 0 from by decide +kernel]) ?_
      refine lv_if_ne (tgt := 16) hx hb d_Md_lookElement_9 (by decide) (fun c_9 => absurd (by decide) c_9) (fun c_9 => ?_)
      refine lv_iconst (v := 1) hx hb d_Md_lookElement_12 (by decide) ?_
      refine lv_goto (tgt := 17) hx hb d_Md_lookElement_13 (by decide) ?_
      refine lv_istore (lv' := [(4, .int 1), (3, .int 4), (0, .ref m0), (1, .int (nI t)), (2, .int 1)]) hx hb d_Md_lookElement_17 hl (by decide) rfl (fun ls hl => ?_)
      refine lv_iload hx hb d_Md_lookElement_19 (lv_at hl 0 rfl) ?_
      refine lv_if_eq (tgt := 37) hx hb d_Md_lookElement_21 (by decide) (fun c_21 => absurd c_21 (by decide)) (fun c_21 => ?_)
      refine lv_iload_n hx hb d_Md_lookElement_24 rfl (lv_at hl 1 rfl) ?_
      refine lv_iconst (v := 2) hx hb d_Md_lookElement_25 (by decide) ?_
      refine lv_iand hx hb d_Md_lookElement_26 ?_
      refine W.eq (g2 := F0 m 27 ls [.int 0]) (by rw [show (4 : Int32) &&& 2 = 0 from by decide +kernel]) ?_
      refine lv_if_eq (tgt := 37) hx hb d_Md_lookElement_27 (by decide) (fun c_27 => ?_) (fun c_27 => absurd (by decide) c_27)
      refine lv_lconst (v := 0) hx hb d_Md_lookElement_37 (by decide) ?_
      refine lv_lstore (lv' := [(5, .long 0), (4, .int 1), (3, .int 4), (0, .ref m0), (1, .int (nI t)), (2, .int 1)]) hx hb d_Md_lookElement_38 hl (by decide) rfl (fun ls hl => ?_)
      refine lv_iload_n hx hb d_Md_lookElement_40 rfl (lv_at hl 5 rfl) ?_
      refine lv_if_ne (tgt := 67) hx hb d_Md_lookElement_41 (by decide) (fun c_41 => ?_) (fun c_41 => absurd c_41 (by decide))
      refine lv_iload_n hx hb d_Md_lookElement_67 rfl (lv_at hl 5 rfl) ?_
      refine lv_iconst (v := 2) hx hb d_Md_lookElement_68 (by decide) ?_
      refine lv_icmp_ne (tgt := 75) hx hb d_Md_lookElement_69 (by decide) (fun c_69 => ?_) (fun c_69 => absurd c_69 (by decide))
      refine lv_iload_n hx hb d_Md_lookElement_75 rfl (lv_at hl 5 rfl) ?_
      refine lv_iconst (v := 4) hx hb d_Md_lookElement_76 (by decide) ?_
      refine lv_icmp_eq (tgt := 85) hx hb d_Md_lookElement_77 (by decide) (fun c_77 => absurd c_77 (by decide)) (fun c_77 => ?_)
      refine lv_iload_n hx hb d_Md_lookElement_80 rfl (lv_at hl 5 rfl) ?_
      refine lv_iconst (v := 5) hx hb d_Md_lookElement_81 (by decide) ?_
      refine lv_icmp_ne (tgt := 104) hx hb d_Md_lookElement_82 (by decide) (fun c_82 => ?_) (fun c_82 => absurd c_82 (by decide))
      refine lv_iload_n hx hb d_Md_lookElement_104 rfl (lv_at hl 5 rfl) ?_
      refine lv_bipush (v := 6) hx hb d_Md_lookElement_105 (by decide) ?_
      refine lv_icmp_ne (tgt := 122) hx hb d_Md_lookElement_107 (by decide) (fun c_107 => ?_) (fun c_107 => absurd c_107 (by decide))
      refine lv_iload hx hb d_Md_lookElement_122 (lv_at hl 1 rfl) ?_
      refine lv_if_eq (tgt := 142) hx hb d_Md_lookElement_124 (by decide) (fun c_124 => absurd c_124 (by decide)) (fun c_124 => ?_)
      refine lv_aload_n hx hb d_Md_lookElement_127 rfl (lv_at hl 3 rfl) ?_
      refine lv_aload_n hx hb d_Md_lookElement_128 rfl (lv_at hl 3 rfl) ?_
      refine va_get (D := D) (ci := 6) (v := .ref (g 40)) (C := R_Md) (T := F_Md) (N := 44) hx hb hts (fun w h => List.mem_cons_of_mem _ (i_Md w h)) hown hE.1 hP 0 rfl rfl 40 (by decide) (hts _ (List.mem_cons_of_mem _ iw3_94)) (fun _ h9 => h9) rfl d_Md_lookElement_129 ?_
      refine lv_aload_n hx hb d_Md_lookElement_132 rfl (lv_at hl 3 rfl) ?_
      refine lv_iload_n hx hb d_Md_lookElement_133 rfl (lv_at hl 4 rfl) ?_
      refine lv_iconst (v := 0) hx hb d_Md_lookElement_134 (by decide) ?_
      refine cV (As := [.int (nI t), .int 0]) (rest := [.ref (g 40), .ref m0]) (n := 2) (wc := [(m0, .inr (6, mF g (K.1, K.2.1, K.2.2.1, K.2.2.2.1, nI X.length, K.2.2.2.2.2.1, K.2.2.2.2.2.2.1, K.2.2.2.2.2.2.2.1, nI a1) A0 e np B)), ((g 38), .inl (cA 3, 2000, .inl ow))]) (wr := [((g 30), .inl (cA 3, 2000, .inl yb)), ((g 39), .inl (cA 3, 2000, .inl fi)), ((g 40), .inl (cA 3, 2000, .inl be))]) ⟨hx, hb, hml, hown, hts⟩ hno hlocks hl.1 (c_Md_expressionOf l hl9 D cA ad H.size m0 g (K.1, K.2.1, K.2.2.1, K.2.2.2.1, nI X.length, K.2.2.2.2.2.1, K.2.2.2.2.2.2.1, K.2.2.2.2.2.2.2.1, nI a1) A0 e np B ow fi be X hXH hXf hX t (by omega) 0 (by omega)) iw4_156 iw4_158 sel_Md_expressionOf iw1_7 iw4_159 (by decide +kernel) rfl ⟨Nat.le_of_ble_eq_true rfl, Nat.le_of_ble_eq_true rfl⟩ ⟨Nat.le_of_ble_eq_true rfl, Nat.le_of_ble_eq_true rfl⟩ rfl (Nat.le_of_ble_eq_true rfl) d_Md_lookElement_135 hE hP hD hS hA [0, 2] [1, 3, 4] rfl rfl rfl rfl (by decide) (ci := 6) rfl rfl 0 rfl (fun _ h => h.elim) (fun v_135 u_135 H locs hp_135 hP hD hS => ?_)
      rcases hp_135 with ⟨rfl, hno257⟩ | ⟨e257_, f257_, z257_, he257, rfl, hg257, hfi257, hbe257, hfb257, hzb257⟩
      · exact absurd hno257 (by rw [hexx]; simp)
      have hP : va_P D cls [(m0, .inr (6, mF g (K.1, K.2.1, K.2.2.1, K.2.2.2.1, nI X.length, K.2.2.2.2.2.1, K.2.2.2.2.2.2.1, K.2.2.2.2.2.2.2.1, nI a1) A0 e np B)), ((g 30), .inl (cA 3, 2000, .inl yb)), ((g 38), .inl (cA 3, 2000, .inl ow)), ((g 39), .inl (cA 3, 2000, .inl fi)), ((g 40), .inl (cA 3, 2000, .inl be))] H := hP.sub [3, 0, 4, 1, 2] rfl
      have hD : va_D A [(m0, .inr (6, mF g (K.1, K.2.1, K.2.2.1, K.2.2.2.1, nI X.length, K.2.2.2.2.2.1, K.2.2.2.2.2.2.1, K.2.2.2.2.2.2.2.1, nI a1) A0 e np B)), ((g 30), .inl (cA 3, 2000, .inl yb)), ((g 38), .inl (cA 3, 2000, .inl ow)), ((g 39), .inl (cA 3, 2000, .inl fi)), ((g 40), .inl (cA 3, 2000, .inl be))] := hD.sub [3, 0, 4, 1, 2] (by decide) rfl
      refine W.cs (cells' := 0) (slots' := 0) rfl rfl ?_
      refine W.eq (g2 := F0 m 138 ls [.int (nI e257_), .ref (g 40), .ref m0]) rfl ?_
      refine va_iald hx hb hE.1 hP 4 3 rfl rfl (vp_in_nI (by omega) (by omega)) d_Md_lookElement_138 ?_
      rw [nI_clamp (n := e257_) (by omega), hbe257, show z257_ = a2 from by rw [hexx] at hg257; exact (congrArg Prod.snd (Option.some.inj hg257)).symm]
      refine va_put (D := D) (ci := 6) (v := .int (nI a2)) (ty := .int) (C := R_Md) (T := F_Md) (N := 44) hx hb hts (fun w h => List.mem_cons_of_mem _ (i_Md w h)) t_Md tk_Md n_Md hown hE.1 hP hD hS 0 rfl rfl 43 (by decide) (hts _ (List.mem_cons_of_mem _ iw3_97)) (fun _ h9 => h9) rfl (by decide +kernel) rfl rfl (Nat.le_of_ble_eq_true rfl) d_Md_lookElement_139 (fun H locs hP hD hS => ?_)
      have hP : va_P D cls [(m0, .inr (6, mF g (K.1, K.2.1, K.2.2.1, K.2.2.2.1, nI X.length, K.2.2.2.2.2.1, K.2.2.2.2.2.2.1, K.2.2.2.2.2.2.2.1, nI a2) A0 e np B)), ((g 30), .inl (cA 3, 2000, .inl yb)), ((g 38), .inl (cA 3, 2000, .inl ow)), ((g 39), .inl (cA 3, 2000, .inl fi)), ((g 40), .inl (cA 3, 2000, .inl be))] H := hP
      have hD : va_D A [(m0, .inr (6, mF g (K.1, K.2.1, K.2.2.1, K.2.2.2.1, nI X.length, K.2.2.2.2.2.1, K.2.2.2.2.2.2.1, K.2.2.2.2.2.2.2.1, nI a2) A0 e np B)), ((g 30), .inl (cA 3, 2000, .inl yb)), ((g 38), .inl (cA 3, 2000, .inl ow)), ((g 39), .inl (cA 3, 2000, .inl fi)), ((g 40), .inl (cA 3, 2000, .inl be))] := hD
      refine lv_iload_n hx hb d_Md_lookElement_142 rfl (lv_at hl 2 rfl) ?_
      refine lv_if_eq (tgt := 155) hx hb d_Md_lookElement_143 (by decide) (fun c_143 => absurd c_143 (by decide)) (fun c_143 => ?_)
      refine lv_iload_n hx hb d_Md_lookElement_146 rfl (lv_at hl 2 rfl) ?_
      refine lv_iconst (v := 4) hx hb d_Md_lookElement_147 (by decide) ?_
      refine lv_icmp_eq (tgt := 155) hx hb d_Md_lookElement_148 (by decide) (fun c_148 => ?_) (fun c_148 => absurd (by decide) c_148)
      refine lv_iconst (v := 0) hx hb d_Md_lookElement_155 (by decide) ?_
      refine lv_istore (lv' := [(7, .int 0), (5, .long 0), (4, .int 1), (3, .int 4), (0, .ref m0), (1, .int (nI t)), (2, .int 1)]) hx hb d_Md_lookElement_156 hl (by decide) rfl (fun ls hl => ?_)
      refine lv_iload hx hb d_Md_lookElement_158 (lv_at hl 0 rfl) ?_
      refine lv_if_eq (tgt := 182) hx hb d_Md_lookElement_160 (by decide) (fun c_160 => ?_) (fun c_160 => absurd (by decide) c_160)
      refine lv_ldc2 hx hb hown (hts _ (List.mem_cons_of_mem _ iw4_168)) d_Md_lookElement_182 ?_
      refine lv_lstore (lv' := [(8, .long 112), (7, .int 0), (5, .long 0), (4, .int 1), (3, .int 4), (0, .ref m0), (1, .int (nI t)), (2, .int 1)]) hx hb d_Md_lookElement_185 hl (by decide) rfl (fun ls hl => ?_)
      refine lv_aload_n hx hb d_Md_lookElement_187 rfl (lv_at hl 5 rfl) ?_
      refine lv_dup hx hb d_Md_lookElement_188 rfl ?_
      refine va_get (D := D) (ci := 6) (v := .int (nI a2)) (C := R_Md) (T := F_Md) (N := 44) hx hb hts (fun w h => List.mem_cons_of_mem _ (i_Md w h)) hown hE.1 hP 0 rfl rfl 43 (by decide) (hts _ (List.mem_cons_of_mem _ iw3_97)) (fun _ h9 => h9) rfl d_Md_lookElement_189 ?_
      refine lv_iload hx hb d_Md_lookElement_192 (lv_at hl 1 rfl) ?_
      refine lv_if_eq (tgt := 201) hx hb d_Md_lookElement_194 (by decide) (fun c_194 => ?_) (fun c_194 => absurd (by decide) c_194)
      refine lv_iconst (v := 0) hx hb d_Md_lookElement_201 (by decide) ?_
      refine lv_iadd hx hb d_Md_lookElement_202 ?_
      rw [Int32.add_zero]
      refine va_put (D := D) (ci := 6) (v := .int (nI a2)) (ty := .int) (C := R_Md) (T := F_Md) (N := 44) hx hb hts (fun w h => List.mem_cons_of_mem _ (i_Md w h)) t_Md tk_Md n_Md hown hE.1 hP hD hS 0 rfl rfl 43 (by decide) (hts _ (List.mem_cons_of_mem _ iw3_97)) (fun _ h9 => h9) rfl (by decide +kernel) rfl rfl (Nat.le_of_ble_eq_true rfl) d_Md_lookElement_203 (fun H locs hP hD hS => ?_)
      have hP : va_P D cls [(m0, .inr (6, mF g (K.1, K.2.1, K.2.2.1, K.2.2.2.1, nI X.length, K.2.2.2.2.2.1, K.2.2.2.2.2.2.1, K.2.2.2.2.2.2.2.1, nI a2) A0 e np B)), ((g 30), .inl (cA 3, 2000, .inl yb)), ((g 38), .inl (cA 3, 2000, .inl ow)), ((g 39), .inl (cA 3, 2000, .inl fi)), ((g 40), .inl (cA 3, 2000, .inl be))] H := hP
      have hD : va_D A [(m0, .inr (6, mF g (K.1, K.2.1, K.2.2.1, K.2.2.2.1, nI X.length, K.2.2.2.2.2.1, K.2.2.2.2.2.2.1, K.2.2.2.2.2.2.2.1, nI a2) A0 e np B)), ((g 30), .inl (cA 3, 2000, .inl yb)), ((g 38), .inl (cA 3, 2000, .inl ow)), ((g 39), .inl (cA 3, 2000, .inl fi)), ((g 40), .inl (cA 3, 2000, .inl be))] := hD
      refine lv_iload_n hx hb d_Md_lookElement_206 rfl (lv_at hl 7 rfl) ?_
      refine lv_iconst (v := 1) hx hb d_Md_lookElement_207 (by decide) ?_
      refine lv_icmp_ne (tgt := 214) hx hb d_Md_lookElement_208 (by decide) (fun c_208 => absurd (by decide) c_208) (fun c_208 => ?_)
      refine lv_lload hx hb d_Md_lookElement_211 (lv_at hl 0 rfl) ?_
      exact cRl (nI a2) hx hb hr hlocks d_Md_lookElement_213 hS hP hD (rfl) (Nat.le_refl _) (Nat.le_refl _)
    · have hl : lv_has ls 13 [(0, .ref m0), (1, .int (nI t)), (2, .int 2)] := hl
      refine lv_aload_n hx hb d_Md_lookElement_0 rfl (lv_at hl 0 rfl) ?_
      refine cV (As := []) (rest := []) (n := 0) (wc := [(m0, .inr (6, mF g (K.1, K.2.1, K.2.2.1, K.2.2.2.1, nI X.length, K.2.2.2.2.2.1, K.2.2.2.2.2.2.1, K.2.2.2.2.2.2.2.1, nI a) A0 e np B)), ((g 30), .inl (cA 3, 2000, .inl yb))]) (wr := [((g 38), .inl (cA 3, 2000, .inl ow)), ((g 39), .inl (cA 3, 2000, .inl fi)), ((g 40), .inl (cA 3, 2000, .inl be))]) ⟨hx, hb, hml, hown, hts⟩ hno hlocks hl.1 (c_Md_number l hl9 D cA ad s.heap.size m0 g (K.1, K.2.1, K.2.2.1, K.2.2.2.1, nI X.length, K.2.2.2.2.2.1, K.2.2.2.2.2.2.1, K.2.2.2.2.2.2.2.1, nI a) A0 e np B yb b lm hlm hyb hb9 a 4 a1 (by omega) hmu) iw4_132 iw4_134 sel_Md_number iw1_7 iw4_135 (by decide +kernel) rfl ⟨Nat.le_of_ble_eq_true rfl, Nat.le_of_ble_eq_true rfl⟩ ⟨Nat.le_of_ble_eq_true rfl, Nat.le_of_ble_eq_true rfl⟩ rfl (Nat.le_of_ble_eq_true rfl) d_Md_lookElement_1 hE hP hD hS hA [0, 1] [2, 3, 4] rfl rfl rfl rfl (by decide) (ci := 6) rfl rfl 0 rfl (fun _ h => h.elim) (fun v_1 u_1 H locs hp_1 hP hD hS => ?_)
      obtain rfl := hp_1
      have hP : va_P D cls [(m0, .inr (6, mF g (K.1, K.2.1, K.2.2.1, K.2.2.2.1, nI X.length, K.2.2.2.2.2.1, K.2.2.2.2.2.2.1, K.2.2.2.2.2.2.2.1, nI a1) A0 e np B)), ((g 30), .inl (cA 3, 2000, .inl yb)), ((g 38), .inl (cA 3, 2000, .inl ow)), ((g 39), .inl (cA 3, 2000, .inl fi)), ((g 40), .inl (cA 3, 2000, .inl be))] H := hP.sub [3, 4, 0, 1, 2] rfl
      have hD : va_D A [(m0, .inr (6, mF g (K.1, K.2.1, K.2.2.1, K.2.2.2.1, nI X.length, K.2.2.2.2.2.1, K.2.2.2.2.2.2.1, K.2.2.2.2.2.2.2.1, nI a1) A0 e np B)), ((g 30), .inl (cA 3, 2000, .inl yb)), ((g 38), .inl (cA 3, 2000, .inl ow)), ((g 39), .inl (cA 3, 2000, .inl fi)), ((g 40), .inl (cA 3, 2000, .inl be))] := hD.sub [3, 4, 0, 1, 2] (by decide) rfl
      refine W.cs (cells' := 0) (slots' := 0) rfl rfl ?_
      refine W.eq (g2 := F0 m 4 ls [.long (lN 4)]) rfl ?_
      refine lv_l2i hx hb d_Md_lookElement_4 rfl ?_
      refine W.eq (g2 := F0 m 5 ls [.int 4]) (by rw [lN_i]; rfl) ?_
      refine lv_istore_n (lv' := [(3, .int 4), (0, .ref m0), (1, .int (nI t)), (2, .int 2)]) hx hb d_Md_lookElement_5 rfl hl (by decide) rfl (fun ls hl => ?_)
      refine lv_iload_n hx hb d_Md_lookElement_6 rfl (lv_at hl 0 rfl) ?_
      refine lv_iconst (v := 1) hx hb d_Md_lookElement_7 (by decide) ?_
      refine lv_iand hx hb d_Md_lookElement_8 ?_
      refine W.eq (g2 := F0 m 9 ls [.int 0]) (by rw [show (4 : Int32) &&& 1 = 0 from by decide +kernel]) ?_
      refine lv_if_ne (tgt := 16) hx hb d_Md_lookElement_9 (by decide) (fun c_9 => absurd (by decide) c_9) (fun c_9 => ?_)
      refine lv_iconst (v := 1) hx hb d_Md_lookElement_12 (by decide) ?_
      refine lv_goto (tgt := 17) hx hb d_Md_lookElement_13 (by decide) ?_
      refine lv_istore (lv' := [(4, .int 1), (3, .int 4), (0, .ref m0), (1, .int (nI t)), (2, .int 2)]) hx hb d_Md_lookElement_17 hl (by decide) rfl (fun ls hl => ?_)
      refine lv_iload hx hb d_Md_lookElement_19 (lv_at hl 0 rfl) ?_
      refine lv_if_eq (tgt := 37) hx hb d_Md_lookElement_21 (by decide) (fun c_21 => absurd c_21 (by decide)) (fun c_21 => ?_)
      refine lv_iload_n hx hb d_Md_lookElement_24 rfl (lv_at hl 1 rfl) ?_
      refine lv_iconst (v := 2) hx hb d_Md_lookElement_25 (by decide) ?_
      refine lv_iand hx hb d_Md_lookElement_26 ?_
      refine W.eq (g2 := F0 m 27 ls [.int 0]) (by rw [show (4 : Int32) &&& 2 = 0 from by decide +kernel]) ?_
      refine lv_if_eq (tgt := 37) hx hb d_Md_lookElement_27 (by decide) (fun c_27 => ?_) (fun c_27 => absurd (by decide) c_27)
      refine lv_lconst (v := 0) hx hb d_Md_lookElement_37 (by decide) ?_
      refine lv_lstore (lv' := [(5, .long 0), (4, .int 1), (3, .int 4), (0, .ref m0), (1, .int (nI t)), (2, .int 2)]) hx hb d_Md_lookElement_38 hl (by decide) rfl (fun ls hl => ?_)
      refine lv_iload_n hx hb d_Md_lookElement_40 rfl (lv_at hl 5 rfl) ?_
      refine lv_if_ne (tgt := 67) hx hb d_Md_lookElement_41 (by decide) (fun c_41 => ?_) (fun c_41 => absurd c_41 (by decide))
      refine lv_iload_n hx hb d_Md_lookElement_67 rfl (lv_at hl 5 rfl) ?_
      refine lv_iconst (v := 2) hx hb d_Md_lookElement_68 (by decide) ?_
      refine lv_icmp_ne (tgt := 75) hx hb d_Md_lookElement_69 (by decide) (fun c_69 => absurd (by decide) c_69) (fun c_69 => ?_)
      refine lv_lload hx hb d_Md_lookElement_72 (lv_at hl 0 rfl) ?_
      exact cRl (nI a1) hx hb hr hlocks d_Md_lookElement_74 hS hP hD (rfl) (Nat.le_refl _) (Nat.le_refl _)
    · have hl : lv_has ls 13 [(0, .ref m0), (1, .int (nI t)), (2, .int 3)] := hl
      refine lv_aload_n hx hb d_Md_lookElement_0 rfl (lv_at hl 0 rfl) ?_
      refine cV (As := []) (rest := []) (n := 0) (wc := [(m0, .inr (6, mF g (K.1, K.2.1, K.2.2.1, K.2.2.2.1, nI X.length, K.2.2.2.2.2.1, K.2.2.2.2.2.2.1, K.2.2.2.2.2.2.2.1, nI a) A0 e np B)), ((g 30), .inl (cA 3, 2000, .inl yb))]) (wr := [((g 38), .inl (cA 3, 2000, .inl ow)), ((g 39), .inl (cA 3, 2000, .inl fi)), ((g 40), .inl (cA 3, 2000, .inl be))]) ⟨hx, hb, hml, hown, hts⟩ hno hlocks hl.1 (c_Md_number l hl9 D cA ad s.heap.size m0 g (K.1, K.2.1, K.2.2.1, K.2.2.2.1, nI X.length, K.2.2.2.2.2.1, K.2.2.2.2.2.2.1, K.2.2.2.2.2.2.2.1, nI a) A0 e np B yb b lm hlm hyb hb9 a 4 a1 (by omega) hmu) iw4_132 iw4_134 sel_Md_number iw1_7 iw4_135 (by decide +kernel) rfl ⟨Nat.le_of_ble_eq_true rfl, Nat.le_of_ble_eq_true rfl⟩ ⟨Nat.le_of_ble_eq_true rfl, Nat.le_of_ble_eq_true rfl⟩ rfl (Nat.le_of_ble_eq_true rfl) d_Md_lookElement_1 hE hP hD hS hA [0, 1] [2, 3, 4] rfl rfl rfl rfl (by decide) (ci := 6) rfl rfl 0 rfl (fun _ h => h.elim) (fun v_1 u_1 H locs hp_1 hP hD hS => ?_)
      obtain rfl := hp_1
      have hP : va_P D cls [(m0, .inr (6, mF g (K.1, K.2.1, K.2.2.1, K.2.2.2.1, nI X.length, K.2.2.2.2.2.1, K.2.2.2.2.2.2.1, K.2.2.2.2.2.2.2.1, nI a1) A0 e np B)), ((g 30), .inl (cA 3, 2000, .inl yb)), ((g 38), .inl (cA 3, 2000, .inl ow)), ((g 39), .inl (cA 3, 2000, .inl fi)), ((g 40), .inl (cA 3, 2000, .inl be))] H := hP.sub [3, 4, 0, 1, 2] rfl
      have hD : va_D A [(m0, .inr (6, mF g (K.1, K.2.1, K.2.2.1, K.2.2.2.1, nI X.length, K.2.2.2.2.2.1, K.2.2.2.2.2.2.1, K.2.2.2.2.2.2.2.1, nI a1) A0 e np B)), ((g 30), .inl (cA 3, 2000, .inl yb)), ((g 38), .inl (cA 3, 2000, .inl ow)), ((g 39), .inl (cA 3, 2000, .inl fi)), ((g 40), .inl (cA 3, 2000, .inl be))] := hD.sub [3, 4, 0, 1, 2] (by decide) rfl
      refine W.cs (cells' := 0) (slots' := 0) rfl rfl ?_
      refine W.eq (g2 := F0 m 4 ls [.long (lN 4)]) rfl ?_
      refine lv_l2i hx hb d_Md_lookElement_4 rfl ?_
      refine W.eq (g2 := F0 m 5 ls [.int 4]) (by rw [lN_i]; rfl) ?_
      refine lv_istore_n (lv' := [(3, .int 4), (0, .ref m0), (1, .int (nI t)), (2, .int 3)]) hx hb d_Md_lookElement_5 rfl hl (by decide) rfl (fun ls hl => ?_)
      refine lv_iload_n hx hb d_Md_lookElement_6 rfl (lv_at hl 0 rfl) ?_
      refine lv_iconst (v := 1) hx hb d_Md_lookElement_7 (by decide) ?_
      refine lv_iand hx hb d_Md_lookElement_8 ?_
      refine W.eq (g2 := F0 m 9 ls [.int 0]) (by rw [show (4 : Int32) &&& 1 = 0 from by decide +kernel]) ?_
      refine lv_if_ne (tgt := 16) hx hb d_Md_lookElement_9 (by decide) (fun c_9 => absurd (by decide) c_9) (fun c_9 => ?_)
      refine lv_iconst (v := 1) hx hb d_Md_lookElement_12 (by decide) ?_
      refine lv_goto (tgt := 17) hx hb d_Md_lookElement_13 (by decide) ?_
      refine lv_istore (lv' := [(4, .int 1), (3, .int 4), (0, .ref m0), (1, .int (nI t)), (2, .int 3)]) hx hb d_Md_lookElement_17 hl (by decide) rfl (fun ls hl => ?_)
      refine lv_iload hx hb d_Md_lookElement_19 (lv_at hl 0 rfl) ?_
      refine lv_if_eq (tgt := 37) hx hb d_Md_lookElement_21 (by decide) (fun c_21 => absurd c_21 (by decide)) (fun c_21 => ?_)
      refine lv_iload_n hx hb d_Md_lookElement_24 rfl (lv_at hl 1 rfl) ?_
      refine lv_iconst (v := 2) hx hb d_Md_lookElement_25 (by decide) ?_
      refine lv_iand hx hb d_Md_lookElement_26 ?_
      refine W.eq (g2 := F0 m 27 ls [.int 0]) (by rw [show (4 : Int32) &&& 2 = 0 from by decide +kernel]) ?_
      refine lv_if_eq (tgt := 37) hx hb d_Md_lookElement_27 (by decide) (fun c_27 => ?_) (fun c_27 => absurd (by decide) c_27)
      refine lv_lconst (v := 0) hx hb d_Md_lookElement_37 (by decide) ?_
      refine lv_lstore (lv' := [(5, .long 0), (4, .int 1), (3, .int 4), (0, .ref m0), (1, .int (nI t)), (2, .int 3)]) hx hb d_Md_lookElement_38 hl (by decide) rfl (fun ls hl => ?_)
      refine lv_iload_n hx hb d_Md_lookElement_40 rfl (lv_at hl 5 rfl) ?_
      refine lv_if_ne (tgt := 67) hx hb d_Md_lookElement_41 (by decide) (fun c_41 => ?_) (fun c_41 => absurd c_41 (by decide))
      refine lv_iload_n hx hb d_Md_lookElement_67 rfl (lv_at hl 5 rfl) ?_
      refine lv_iconst (v := 2) hx hb d_Md_lookElement_68 (by decide) ?_
      refine lv_icmp_ne (tgt := 75) hx hb d_Md_lookElement_69 (by decide) (fun c_69 => ?_) (fun c_69 => absurd c_69 (by decide))
      refine lv_iload_n hx hb d_Md_lookElement_75 rfl (lv_at hl 5 rfl) ?_
      refine lv_iconst (v := 4) hx hb d_Md_lookElement_76 (by decide) ?_
      refine lv_icmp_eq (tgt := 85) hx hb d_Md_lookElement_77 (by decide) (fun c_77 => absurd c_77 (by decide)) (fun c_77 => ?_)
      refine lv_iload_n hx hb d_Md_lookElement_80 rfl (lv_at hl 5 rfl) ?_
      refine lv_iconst (v := 5) hx hb d_Md_lookElement_81 (by decide) ?_
      refine lv_icmp_ne (tgt := 104) hx hb d_Md_lookElement_82 (by decide) (fun c_82 => ?_) (fun c_82 => absurd c_82 (by decide))
      refine lv_iload_n hx hb d_Md_lookElement_104 rfl (lv_at hl 5 rfl) ?_
      refine lv_bipush (v := 6) hx hb d_Md_lookElement_105 (by decide) ?_
      refine lv_icmp_ne (tgt := 122) hx hb d_Md_lookElement_107 (by decide) (fun c_107 => ?_) (fun c_107 => absurd c_107 (by decide))
      refine lv_iload hx hb d_Md_lookElement_122 (lv_at hl 1 rfl) ?_
      refine lv_if_eq (tgt := 142) hx hb d_Md_lookElement_124 (by decide) (fun c_124 => absurd c_124 (by decide)) (fun c_124 => ?_)
      refine lv_aload_n hx hb d_Md_lookElement_127 rfl (lv_at hl 3 rfl) ?_
      refine lv_aload_n hx hb d_Md_lookElement_128 rfl (lv_at hl 3 rfl) ?_
      refine va_get (D := D) (ci := 6) (v := .ref (g 40)) (C := R_Md) (T := F_Md) (N := 44) hx hb hts (fun w h => List.mem_cons_of_mem _ (i_Md w h)) hown hE.1 hP 0 rfl rfl 40 (by decide) (hts _ (List.mem_cons_of_mem _ iw3_94)) (fun _ h9 => h9) rfl d_Md_lookElement_129 ?_
      refine lv_aload_n hx hb d_Md_lookElement_132 rfl (lv_at hl 3 rfl) ?_
      refine lv_iload_n hx hb d_Md_lookElement_133 rfl (lv_at hl 4 rfl) ?_
      refine lv_iconst (v := 0) hx hb d_Md_lookElement_134 (by decide) ?_
      refine cV (As := [.int (nI t), .int 0]) (rest := [.ref (g 40), .ref m0]) (n := 2) (wc := [(m0, .inr (6, mF g (K.1, K.2.1, K.2.2.1, K.2.2.2.1, nI X.length, K.2.2.2.2.2.1, K.2.2.2.2.2.2.1, K.2.2.2.2.2.2.2.1, nI a1) A0 e np B)), ((g 38), .inl (cA 3, 2000, .inl ow))]) (wr := [((g 30), .inl (cA 3, 2000, .inl yb)), ((g 39), .inl (cA 3, 2000, .inl fi)), ((g 40), .inl (cA 3, 2000, .inl be))]) ⟨hx, hb, hml, hown, hts⟩ hno hlocks hl.1 (c_Md_expressionOf l hl9 D cA ad H.size m0 g (K.1, K.2.1, K.2.2.1, K.2.2.2.1, nI X.length, K.2.2.2.2.2.1, K.2.2.2.2.2.2.1, K.2.2.2.2.2.2.2.1, nI a1) A0 e np B ow fi be X hXH hXf hX t (by omega) 0 (by omega)) iw4_156 iw4_158 sel_Md_expressionOf iw1_7 iw4_159 (by decide +kernel) rfl ⟨Nat.le_of_ble_eq_true rfl, Nat.le_of_ble_eq_true rfl⟩ ⟨Nat.le_of_ble_eq_true rfl, Nat.le_of_ble_eq_true rfl⟩ rfl (Nat.le_of_ble_eq_true rfl) d_Md_lookElement_135 hE hP hD hS hA [0, 2] [1, 3, 4] rfl rfl rfl rfl (by decide) (ci := 6) rfl rfl 0 rfl (fun _ h => h.elim) (fun v_135 u_135 H locs hp_135 hP hD hS => ?_)
      rcases hp_135 with ⟨rfl, hno258⟩ | ⟨e258_, f258_, z258_, he258, rfl, hg258, hfi258, hbe258, hfb258, hzb258⟩
      · exact absurd hno258 (by rw [hexx]; simp)
      have hP : va_P D cls [(m0, .inr (6, mF g (K.1, K.2.1, K.2.2.1, K.2.2.2.1, nI X.length, K.2.2.2.2.2.1, K.2.2.2.2.2.2.1, K.2.2.2.2.2.2.2.1, nI a1) A0 e np B)), ((g 30), .inl (cA 3, 2000, .inl yb)), ((g 38), .inl (cA 3, 2000, .inl ow)), ((g 39), .inl (cA 3, 2000, .inl fi)), ((g 40), .inl (cA 3, 2000, .inl be))] H := hP.sub [3, 0, 4, 1, 2] rfl
      have hD : va_D A [(m0, .inr (6, mF g (K.1, K.2.1, K.2.2.1, K.2.2.2.1, nI X.length, K.2.2.2.2.2.1, K.2.2.2.2.2.2.1, K.2.2.2.2.2.2.2.1, nI a1) A0 e np B)), ((g 30), .inl (cA 3, 2000, .inl yb)), ((g 38), .inl (cA 3, 2000, .inl ow)), ((g 39), .inl (cA 3, 2000, .inl fi)), ((g 40), .inl (cA 3, 2000, .inl be))] := hD.sub [3, 0, 4, 1, 2] (by decide) rfl
      refine W.cs (cells' := 0) (slots' := 0) rfl rfl ?_
      refine W.eq (g2 := F0 m 138 ls [.int (nI e258_), .ref (g 40), .ref m0]) rfl ?_
      refine va_iald hx hb hE.1 hP 4 3 rfl rfl (vp_in_nI (by omega) (by omega)) d_Md_lookElement_138 ?_
      rw [nI_clamp (n := e258_) (by omega), hbe258, show z258_ = a2 from by rw [hexx] at hg258; exact (congrArg Prod.snd (Option.some.inj hg258)).symm]
      refine va_put (D := D) (ci := 6) (v := .int (nI a2)) (ty := .int) (C := R_Md) (T := F_Md) (N := 44) hx hb hts (fun w h => List.mem_cons_of_mem _ (i_Md w h)) t_Md tk_Md n_Md hown hE.1 hP hD hS 0 rfl rfl 43 (by decide) (hts _ (List.mem_cons_of_mem _ iw3_97)) (fun _ h9 => h9) rfl (by decide +kernel) rfl rfl (Nat.le_of_ble_eq_true rfl) d_Md_lookElement_139 (fun H locs hP hD hS => ?_)
      have hP : va_P D cls [(m0, .inr (6, mF g (K.1, K.2.1, K.2.2.1, K.2.2.2.1, nI X.length, K.2.2.2.2.2.1, K.2.2.2.2.2.2.1, K.2.2.2.2.2.2.2.1, nI a2) A0 e np B)), ((g 30), .inl (cA 3, 2000, .inl yb)), ((g 38), .inl (cA 3, 2000, .inl ow)), ((g 39), .inl (cA 3, 2000, .inl fi)), ((g 40), .inl (cA 3, 2000, .inl be))] H := hP
      have hD : va_D A [(m0, .inr (6, mF g (K.1, K.2.1, K.2.2.1, K.2.2.2.1, nI X.length, K.2.2.2.2.2.1, K.2.2.2.2.2.2.1, K.2.2.2.2.2.2.2.1, nI a2) A0 e np B)), ((g 30), .inl (cA 3, 2000, .inl yb)), ((g 38), .inl (cA 3, 2000, .inl ow)), ((g 39), .inl (cA 3, 2000, .inl fi)), ((g 40), .inl (cA 3, 2000, .inl be))] := hD
      refine lv_iload_n hx hb d_Md_lookElement_142 rfl (lv_at hl 2 rfl) ?_
      refine lv_if_eq (tgt := 155) hx hb d_Md_lookElement_143 (by decide) (fun c_143 => absurd c_143 (by decide)) (fun c_143 => ?_)
      refine lv_iload_n hx hb d_Md_lookElement_146 rfl (lv_at hl 2 rfl) ?_
      refine lv_iconst (v := 4) hx hb d_Md_lookElement_147 (by decide) ?_
      refine lv_icmp_eq (tgt := 155) hx hb d_Md_lookElement_148 (by decide) (fun c_148 => ?_) (fun c_148 => absurd (by decide) c_148)
      refine lv_iconst (v := 0) hx hb d_Md_lookElement_155 (by decide) ?_
      refine lv_istore (lv' := [(7, .int 0), (5, .long 0), (4, .int 1), (3, .int 4), (0, .ref m0), (1, .int (nI t)), (2, .int 3)]) hx hb d_Md_lookElement_156 hl (by decide) rfl (fun ls hl => ?_)
      refine lv_iload hx hb d_Md_lookElement_158 (lv_at hl 0 rfl) ?_
      refine lv_if_eq (tgt := 182) hx hb d_Md_lookElement_160 (by decide) (fun c_160 => ?_) (fun c_160 => absurd (by decide) c_160)
      refine lv_ldc2 hx hb hown (hts _ (List.mem_cons_of_mem _ iw4_168)) d_Md_lookElement_182 ?_
      refine lv_lstore (lv' := [(8, .long 112), (7, .int 0), (5, .long 0), (4, .int 1), (3, .int 4), (0, .ref m0), (1, .int (nI t)), (2, .int 3)]) hx hb d_Md_lookElement_185 hl (by decide) rfl (fun ls hl => ?_)
      refine lv_aload_n hx hb d_Md_lookElement_187 rfl (lv_at hl 5 rfl) ?_
      refine lv_dup hx hb d_Md_lookElement_188 rfl ?_
      refine va_get (D := D) (ci := 6) (v := .int (nI a2)) (C := R_Md) (T := F_Md) (N := 44) hx hb hts (fun w h => List.mem_cons_of_mem _ (i_Md w h)) hown hE.1 hP 0 rfl rfl 43 (by decide) (hts _ (List.mem_cons_of_mem _ iw3_97)) (fun _ h9 => h9) rfl d_Md_lookElement_189 ?_
      refine lv_iload hx hb d_Md_lookElement_192 (lv_at hl 1 rfl) ?_
      refine lv_if_eq (tgt := 201) hx hb d_Md_lookElement_194 (by decide) (fun c_194 => ?_) (fun c_194 => absurd (by decide) c_194)
      refine lv_iconst (v := 0) hx hb d_Md_lookElement_201 (by decide) ?_
      refine lv_iadd hx hb d_Md_lookElement_202 ?_
      rw [Int32.add_zero]
      refine va_put (D := D) (ci := 6) (v := .int (nI a2)) (ty := .int) (C := R_Md) (T := F_Md) (N := 44) hx hb hts (fun w h => List.mem_cons_of_mem _ (i_Md w h)) t_Md tk_Md n_Md hown hE.1 hP hD hS 0 rfl rfl 43 (by decide) (hts _ (List.mem_cons_of_mem _ iw3_97)) (fun _ h9 => h9) rfl (by decide +kernel) rfl rfl (Nat.le_of_ble_eq_true rfl) d_Md_lookElement_203 (fun H locs hP hD hS => ?_)
      have hP : va_P D cls [(m0, .inr (6, mF g (K.1, K.2.1, K.2.2.1, K.2.2.2.1, nI X.length, K.2.2.2.2.2.1, K.2.2.2.2.2.2.1, K.2.2.2.2.2.2.2.1, nI a2) A0 e np B)), ((g 30), .inl (cA 3, 2000, .inl yb)), ((g 38), .inl (cA 3, 2000, .inl ow)), ((g 39), .inl (cA 3, 2000, .inl fi)), ((g 40), .inl (cA 3, 2000, .inl be))] H := hP
      have hD : va_D A [(m0, .inr (6, mF g (K.1, K.2.1, K.2.2.1, K.2.2.2.1, nI X.length, K.2.2.2.2.2.1, K.2.2.2.2.2.2.1, K.2.2.2.2.2.2.2.1, nI a2) A0 e np B)), ((g 30), .inl (cA 3, 2000, .inl yb)), ((g 38), .inl (cA 3, 2000, .inl ow)), ((g 39), .inl (cA 3, 2000, .inl fi)), ((g 40), .inl (cA 3, 2000, .inl be))] := hD
      refine lv_iload_n hx hb d_Md_lookElement_206 rfl (lv_at hl 7 rfl) ?_
      refine lv_iconst (v := 1) hx hb d_Md_lookElement_207 (by decide) ?_
      refine lv_icmp_ne (tgt := 214) hx hb d_Md_lookElement_208 (by decide) (fun c_208 => ?_) (fun c_208 => absurd c_208 (by decide))
      refine lv_aload_n hx hb d_Md_lookElement_214 rfl (lv_at hl 5 rfl) ?_
      refine cV (As := []) (rest := []) (n := 0) (wc := [(m0, .inr (6, mF g (K.1, K.2.1, K.2.2.1, K.2.2.2.1, nI X.length, K.2.2.2.2.2.1, K.2.2.2.2.2.2.1, K.2.2.2.2.2.2.2.1, nI a2) A0 e np B)), ((g 30), .inl (cA 3, 2000, .inl yb))]) (wr := [((g 38), .inl (cA 3, 2000, .inl ow)), ((g 39), .inl (cA 3, 2000, .inl fi)), ((g 40), .inl (cA 3, 2000, .inl be))]) ⟨hx, hb, hml, hown, hts⟩ hno hlocks hl.1 (c_Md_number l hl9 D cA ad H.size m0 g (K.1, K.2.1, K.2.2.1, K.2.2.2.1, nI X.length, K.2.2.2.2.2.1, K.2.2.2.2.2.2.1, K.2.2.2.2.2.2.2.1, nI a2) A0 e np B yb b lm hlm hyb hb9 a2 n a4 (by omega) he4) iw4_132 iw4_134 sel_Md_number iw1_7 iw4_135 (by decide +kernel) rfl ⟨Nat.le_of_ble_eq_true rfl, Nat.le_of_ble_eq_true rfl⟩ ⟨Nat.le_of_ble_eq_true rfl, Nat.le_of_ble_eq_true rfl⟩ rfl (Nat.le_of_ble_eq_true rfl) d_Md_lookElement_215 hE hP hD hS hA [0, 1] [2, 3, 4] rfl rfl rfl rfl (by decide) (ci := 6) rfl rfl 0 rfl (fun _ h => h.elim) (fun v_215 u_215 H locs hp_215 hP hD hS => ?_)
      obtain rfl := hp_215
      have hP : va_P D cls [(m0, .inr (6, mF g (K.1, K.2.1, K.2.2.1, K.2.2.2.1, nI X.length, K.2.2.2.2.2.1, K.2.2.2.2.2.2.1, K.2.2.2.2.2.2.2.1, nI a4) A0 e np B)), ((g 30), .inl (cA 3, 2000, .inl yb)), ((g 38), .inl (cA 3, 2000, .inl ow)), ((g 39), .inl (cA 3, 2000, .inl fi)), ((g 40), .inl (cA 3, 2000, .inl be))] H := hP.sub [3, 4, 0, 1, 2] rfl
      have hD : va_D A [(m0, .inr (6, mF g (K.1, K.2.1, K.2.2.1, K.2.2.2.1, nI X.length, K.2.2.2.2.2.1, K.2.2.2.2.2.2.1, K.2.2.2.2.2.2.2.1, nI a4) A0 e np B)), ((g 30), .inl (cA 3, 2000, .inl yb)), ((g 38), .inl (cA 3, 2000, .inl ow)), ((g 39), .inl (cA 3, 2000, .inl fi)), ((g 40), .inl (cA 3, 2000, .inl be))] := hD.sub [3, 4, 0, 1, 2] (by decide) rfl
      refine W.cs (cells' := 0) (slots' := 0) rfl rfl ?_
      refine W.eq (g2 := F0 m 218 ls [.long (lN n)]) rfl ?_
      refine lv_lstore (lv' := [(10, .long (lN n)), (8, .long 112), (7, .int 0), (5, .long 0), (4, .int 1), (3, .int 4), (0, .ref m0), (1, .int (nI t)), (2, .int 3)]) hx hb d_Md_lookElement_218 hl (by decide) rfl (fun ls hl => ?_)
      refine lv_iload_n hx hb d_Md_lookElement_220 rfl (lv_at hl 8 rfl) ?_
      refine lv_iconst (v := 3) hx hb d_Md_lookElement_221 (by decide) ?_
      refine lv_icmp_ne (tgt := 228) hx hb d_Md_lookElement_222 (by decide) (fun c_222 => absurd (by decide) c_222) (fun c_222 => ?_)
      refine lv_lload hx hb d_Md_lookElement_225 (lv_at hl 0 rfl) ?_
      exact cRl (nI a4) hx hb hr hlocks d_Md_lookElement_227 hS hP hD (rfl) (Nat.le_refl _) (Nat.le_refl _)
    · have hl : lv_has ls 13 [(0, .ref m0), (1, .int (nI t)), (2, .int 4)] := hl
      refine lv_aload_n hx hb d_Md_lookElement_0 rfl (lv_at hl 0 rfl) ?_
      refine cV (As := []) (rest := []) (n := 0) (wc := [(m0, .inr (6, mF g (K.1, K.2.1, K.2.2.1, K.2.2.2.1, nI X.length, K.2.2.2.2.2.1, K.2.2.2.2.2.2.1, K.2.2.2.2.2.2.2.1, nI a) A0 e np B)), ((g 30), .inl (cA 3, 2000, .inl yb))]) (wr := [((g 38), .inl (cA 3, 2000, .inl ow)), ((g 39), .inl (cA 3, 2000, .inl fi)), ((g 40), .inl (cA 3, 2000, .inl be))]) ⟨hx, hb, hml, hown, hts⟩ hno hlocks hl.1 (c_Md_number l hl9 D cA ad s.heap.size m0 g (K.1, K.2.1, K.2.2.1, K.2.2.2.1, nI X.length, K.2.2.2.2.2.1, K.2.2.2.2.2.2.1, K.2.2.2.2.2.2.2.1, nI a) A0 e np B yb b lm hlm hyb hb9 a 4 a1 (by omega) hmu) iw4_132 iw4_134 sel_Md_number iw1_7 iw4_135 (by decide +kernel) rfl ⟨Nat.le_of_ble_eq_true rfl, Nat.le_of_ble_eq_true rfl⟩ ⟨Nat.le_of_ble_eq_true rfl, Nat.le_of_ble_eq_true rfl⟩ rfl (Nat.le_of_ble_eq_true rfl) d_Md_lookElement_1 hE hP hD hS hA [0, 1] [2, 3, 4] rfl rfl rfl rfl (by decide) (ci := 6) rfl rfl 0 rfl (fun _ h => h.elim) (fun v_1 u_1 H locs hp_1 hP hD hS => ?_)
      obtain rfl := hp_1
      have hP : va_P D cls [(m0, .inr (6, mF g (K.1, K.2.1, K.2.2.1, K.2.2.2.1, nI X.length, K.2.2.2.2.2.1, K.2.2.2.2.2.2.1, K.2.2.2.2.2.2.2.1, nI a1) A0 e np B)), ((g 30), .inl (cA 3, 2000, .inl yb)), ((g 38), .inl (cA 3, 2000, .inl ow)), ((g 39), .inl (cA 3, 2000, .inl fi)), ((g 40), .inl (cA 3, 2000, .inl be))] H := hP.sub [3, 4, 0, 1, 2] rfl
      have hD : va_D A [(m0, .inr (6, mF g (K.1, K.2.1, K.2.2.1, K.2.2.2.1, nI X.length, K.2.2.2.2.2.1, K.2.2.2.2.2.2.1, K.2.2.2.2.2.2.2.1, nI a1) A0 e np B)), ((g 30), .inl (cA 3, 2000, .inl yb)), ((g 38), .inl (cA 3, 2000, .inl ow)), ((g 39), .inl (cA 3, 2000, .inl fi)), ((g 40), .inl (cA 3, 2000, .inl be))] := hD.sub [3, 4, 0, 1, 2] (by decide) rfl
      refine W.cs (cells' := 0) (slots' := 0) rfl rfl ?_
      refine W.eq (g2 := F0 m 4 ls [.long (lN 4)]) rfl ?_
      refine lv_l2i hx hb d_Md_lookElement_4 rfl ?_
      refine W.eq (g2 := F0 m 5 ls [.int 4]) (by rw [lN_i]; rfl) ?_
      refine lv_istore_n (lv' := [(3, .int 4), (0, .ref m0), (1, .int (nI t)), (2, .int 4)]) hx hb d_Md_lookElement_5 rfl hl (by decide) rfl (fun ls hl => ?_)
      refine lv_iload_n hx hb d_Md_lookElement_6 rfl (lv_at hl 0 rfl) ?_
      refine lv_iconst (v := 1) hx hb d_Md_lookElement_7 (by decide) ?_
      refine lv_iand hx hb d_Md_lookElement_8 ?_
      refine W.eq (g2 := F0 m 9 ls [.int 0]) (by rw [show (4 : Int32) &&& 1 = 0 from by decide +kernel]) ?_
      refine lv_if_ne (tgt := 16) hx hb d_Md_lookElement_9 (by decide) (fun c_9 => absurd (by decide) c_9) (fun c_9 => ?_)
      refine lv_iconst (v := 1) hx hb d_Md_lookElement_12 (by decide) ?_
      refine lv_goto (tgt := 17) hx hb d_Md_lookElement_13 (by decide) ?_
      refine lv_istore (lv' := [(4, .int 1), (3, .int 4), (0, .ref m0), (1, .int (nI t)), (2, .int 4)]) hx hb d_Md_lookElement_17 hl (by decide) rfl (fun ls hl => ?_)
      refine lv_iload hx hb d_Md_lookElement_19 (lv_at hl 0 rfl) ?_
      refine lv_if_eq (tgt := 37) hx hb d_Md_lookElement_21 (by decide) (fun c_21 => absurd c_21 (by decide)) (fun c_21 => ?_)
      refine lv_iload_n hx hb d_Md_lookElement_24 rfl (lv_at hl 1 rfl) ?_
      refine lv_iconst (v := 2) hx hb d_Md_lookElement_25 (by decide) ?_
      refine lv_iand hx hb d_Md_lookElement_26 ?_
      refine W.eq (g2 := F0 m 27 ls [.int 0]) (by rw [show (4 : Int32) &&& 2 = 0 from by decide +kernel]) ?_
      refine lv_if_eq (tgt := 37) hx hb d_Md_lookElement_27 (by decide) (fun c_27 => ?_) (fun c_27 => absurd (by decide) c_27)
      refine lv_lconst (v := 0) hx hb d_Md_lookElement_37 (by decide) ?_
      refine lv_lstore (lv' := [(5, .long 0), (4, .int 1), (3, .int 4), (0, .ref m0), (1, .int (nI t)), (2, .int 4)]) hx hb d_Md_lookElement_38 hl (by decide) rfl (fun ls hl => ?_)
      refine lv_iload_n hx hb d_Md_lookElement_40 rfl (lv_at hl 5 rfl) ?_
      refine lv_if_ne (tgt := 67) hx hb d_Md_lookElement_41 (by decide) (fun c_41 => ?_) (fun c_41 => absurd c_41 (by decide))
      refine lv_iload_n hx hb d_Md_lookElement_67 rfl (lv_at hl 5 rfl) ?_
      refine lv_iconst (v := 2) hx hb d_Md_lookElement_68 (by decide) ?_
      refine lv_icmp_ne (tgt := 75) hx hb d_Md_lookElement_69 (by decide) (fun c_69 => ?_) (fun c_69 => absurd c_69 (by decide))
      refine lv_iload_n hx hb d_Md_lookElement_75 rfl (lv_at hl 5 rfl) ?_
      refine lv_iconst (v := 4) hx hb d_Md_lookElement_76 (by decide) ?_
      refine lv_icmp_eq (tgt := 85) hx hb d_Md_lookElement_77 (by decide) (fun c_77 => ?_) (fun c_77 => absurd (by decide) c_77)
      refine lv_iload hx hb d_Md_lookElement_85 (lv_at hl 1 rfl) ?_
      refine lv_if_eq (tgt := 100) hx hb d_Md_lookElement_87 (by decide) (fun c_87 => absurd c_87 (by decide)) (fun c_87 => ?_)
      refine lv_aload_n hx hb d_Md_lookElement_90 rfl (lv_at hl 3 rfl) ?_
      refine lv_iload_n hx hb d_Md_lookElement_91 rfl (lv_at hl 4 rfl) ?_
      refine lv_iload_n hx hb d_Md_lookElement_92 rfl (lv_at hl 5 rfl) ?_
      refine cV (As := [.int (nI t), .int 4]) (rest := []) (n := 2) (wc := [(m0, .inr (6, mF g (K.1, K.2.1, K.2.2.1, K.2.2.2.1, nI X.length, K.2.2.2.2.2.1, K.2.2.2.2.2.2.1, K.2.2.2.2.2.2.2.1, nI a1) A0 e np B)), ((g 38), .inl (cA 3, 2000, .inl ow)), ((g 39), .inl (cA 3, 2000, .inl fi)), ((g 40), .inl (cA 3, 2000, .inl be))]) (wr := [((g 30), .inl (cA 3, 2000, .inl yb))]) ⟨hx, hb, hml, hown, hts⟩ hno hlocks hl.1 (c_Md_placeOf l hl9 D cA ad H.size m0 g (K.1, K.2.1, K.2.2.1, K.2.2.2.1, nI X.length, K.2.2.2.2.2.1, K.2.2.2.2.2.2.1, K.2.2.2.2.2.2.2.1, nI a1) A0 e np B ow fi be X hXH hXf hX t (by omega) x1 a2 exs hexx (4 : Int32)) iw4_152 iw4_154 sel_Md_placeOf iw1_7 iw4_155 (by decide +kernel) rfl ⟨Nat.le_of_ble_eq_true rfl, Nat.le_of_ble_eq_true rfl⟩ ⟨Nat.le_of_ble_eq_true rfl, Nat.le_of_ble_eq_true rfl⟩ rfl (Nat.le_of_ble_eq_true rfl) d_Md_lookElement_93 hE hP hD hS hA [0, 2, 3, 4] [1] rfl rfl rfl rfl (by decide) (ci := 6) rfl rfl 0 rfl (fun _ h => h.elim) (fun v_93 u_93 H locs hp_93 hP hD hS => ?_)
      obtain rfl := hp_93
      have hP : va_P D cls [(m0, .inr (6, mF g (K.1, K.2.1, K.2.2.1, K.2.2.2.1, nI X.length, K.2.2.2.2.2.1, K.2.2.2.2.2.2.1, K.2.2.2.2.2.2.2.1, nI a1) A0 e np B)), ((g 30), .inl (cA 3, 2000, .inl yb)), ((g 38), .inl (cA 3, 2000, .inl ow)), ((g 39), .inl (cA 3, 2000, .inl fi)), ((g 40), .inl (cA 3, 2000, .inl be))] H := hP.sub [1, 0, 2, 3, 4] rfl
      have hD : va_D A [(m0, .inr (6, mF g (K.1, K.2.1, K.2.2.1, K.2.2.2.1, nI X.length, K.2.2.2.2.2.1, K.2.2.2.2.2.2.1, K.2.2.2.2.2.2.2.1, nI a1) A0 e np B)), ((g 30), .inl (cA 3, 2000, .inl yb)), ((g 38), .inl (cA 3, 2000, .inl ow)), ((g 39), .inl (cA 3, 2000, .inl fi)), ((g 40), .inl (cA 3, 2000, .inl be))] := hD.sub [1, 0, 2, 3, 4] (by decide) rfl
      refine W.cs (cells' := 0) (slots' := 0) rfl rfl ?_
      refine W.eq (g2 := F0 m 96 ls [.int (if (4 : Int32) = 4 then nI x1 else nI a2)]) rfl ?_
      refine lv_i2l hx hb d_Md_lookElement_96 rfl ?_
      rw [if_pos rfl, nI_l (n := x1) (by omega)]
      refine lv_goto (tgt := 103) hx hb d_Md_lookElement_97 (by decide) ?_
      exact cRl (nI a1) hx hb hr hlocks d_Md_lookElement_103 hS hP hD (congrArg (fun z : Int64 => some (Value.long z)) h4.symm) (Nat.le_refl _) (Nat.le_refl _)
    · have hl : lv_has ls 13 [(0, .ref m0), (1, .int (nI t)), (2, .int 5)] := hl
      refine lv_aload_n hx hb d_Md_lookElement_0 rfl (lv_at hl 0 rfl) ?_
      refine cV (As := []) (rest := []) (n := 0) (wc := [(m0, .inr (6, mF g (K.1, K.2.1, K.2.2.1, K.2.2.2.1, nI X.length, K.2.2.2.2.2.1, K.2.2.2.2.2.2.1, K.2.2.2.2.2.2.2.1, nI a) A0 e np B)), ((g 30), .inl (cA 3, 2000, .inl yb))]) (wr := [((g 38), .inl (cA 3, 2000, .inl ow)), ((g 39), .inl (cA 3, 2000, .inl fi)), ((g 40), .inl (cA 3, 2000, .inl be))]) ⟨hx, hb, hml, hown, hts⟩ hno hlocks hl.1 (c_Md_number l hl9 D cA ad s.heap.size m0 g (K.1, K.2.1, K.2.2.1, K.2.2.2.1, nI X.length, K.2.2.2.2.2.1, K.2.2.2.2.2.2.1, K.2.2.2.2.2.2.2.1, nI a) A0 e np B yb b lm hlm hyb hb9 a 4 a1 (by omega) hmu) iw4_132 iw4_134 sel_Md_number iw1_7 iw4_135 (by decide +kernel) rfl ⟨Nat.le_of_ble_eq_true rfl, Nat.le_of_ble_eq_true rfl⟩ ⟨Nat.le_of_ble_eq_true rfl, Nat.le_of_ble_eq_true rfl⟩ rfl (Nat.le_of_ble_eq_true rfl) d_Md_lookElement_1 hE hP hD hS hA [0, 1] [2, 3, 4] rfl rfl rfl rfl (by decide) (ci := 6) rfl rfl 0 rfl (fun _ h => h.elim) (fun v_1 u_1 H locs hp_1 hP hD hS => ?_)
      obtain rfl := hp_1
      have hP : va_P D cls [(m0, .inr (6, mF g (K.1, K.2.1, K.2.2.1, K.2.2.2.1, nI X.length, K.2.2.2.2.2.1, K.2.2.2.2.2.2.1, K.2.2.2.2.2.2.2.1, nI a1) A0 e np B)), ((g 30), .inl (cA 3, 2000, .inl yb)), ((g 38), .inl (cA 3, 2000, .inl ow)), ((g 39), .inl (cA 3, 2000, .inl fi)), ((g 40), .inl (cA 3, 2000, .inl be))] H := hP.sub [3, 4, 0, 1, 2] rfl
      have hD : va_D A [(m0, .inr (6, mF g (K.1, K.2.1, K.2.2.1, K.2.2.2.1, nI X.length, K.2.2.2.2.2.1, K.2.2.2.2.2.2.1, K.2.2.2.2.2.2.2.1, nI a1) A0 e np B)), ((g 30), .inl (cA 3, 2000, .inl yb)), ((g 38), .inl (cA 3, 2000, .inl ow)), ((g 39), .inl (cA 3, 2000, .inl fi)), ((g 40), .inl (cA 3, 2000, .inl be))] := hD.sub [3, 4, 0, 1, 2] (by decide) rfl
      refine W.cs (cells' := 0) (slots' := 0) rfl rfl ?_
      refine W.eq (g2 := F0 m 4 ls [.long (lN 4)]) rfl ?_
      refine lv_l2i hx hb d_Md_lookElement_4 rfl ?_
      refine W.eq (g2 := F0 m 5 ls [.int 4]) (by rw [lN_i]; rfl) ?_
      refine lv_istore_n (lv' := [(3, .int 4), (0, .ref m0), (1, .int (nI t)), (2, .int 5)]) hx hb d_Md_lookElement_5 rfl hl (by decide) rfl (fun ls hl => ?_)
      refine lv_iload_n hx hb d_Md_lookElement_6 rfl (lv_at hl 0 rfl) ?_
      refine lv_iconst (v := 1) hx hb d_Md_lookElement_7 (by decide) ?_
      refine lv_iand hx hb d_Md_lookElement_8 ?_
      refine W.eq (g2 := F0 m 9 ls [.int 0]) (by rw [show (4 : Int32) &&& 1 = 0 from by decide +kernel]) ?_
      refine lv_if_ne (tgt := 16) hx hb d_Md_lookElement_9 (by decide) (fun c_9 => absurd (by decide) c_9) (fun c_9 => ?_)
      refine lv_iconst (v := 1) hx hb d_Md_lookElement_12 (by decide) ?_
      refine lv_goto (tgt := 17) hx hb d_Md_lookElement_13 (by decide) ?_
      refine lv_istore (lv' := [(4, .int 1), (3, .int 4), (0, .ref m0), (1, .int (nI t)), (2, .int 5)]) hx hb d_Md_lookElement_17 hl (by decide) rfl (fun ls hl => ?_)
      refine lv_iload hx hb d_Md_lookElement_19 (lv_at hl 0 rfl) ?_
      refine lv_if_eq (tgt := 37) hx hb d_Md_lookElement_21 (by decide) (fun c_21 => absurd c_21 (by decide)) (fun c_21 => ?_)
      refine lv_iload_n hx hb d_Md_lookElement_24 rfl (lv_at hl 1 rfl) ?_
      refine lv_iconst (v := 2) hx hb d_Md_lookElement_25 (by decide) ?_
      refine lv_iand hx hb d_Md_lookElement_26 ?_
      refine W.eq (g2 := F0 m 27 ls [.int 0]) (by rw [show (4 : Int32) &&& 2 = 0 from by decide +kernel]) ?_
      refine lv_if_eq (tgt := 37) hx hb d_Md_lookElement_27 (by decide) (fun c_27 => ?_) (fun c_27 => absurd (by decide) c_27)
      refine lv_lconst (v := 0) hx hb d_Md_lookElement_37 (by decide) ?_
      refine lv_lstore (lv' := [(5, .long 0), (4, .int 1), (3, .int 4), (0, .ref m0), (1, .int (nI t)), (2, .int 5)]) hx hb d_Md_lookElement_38 hl (by decide) rfl (fun ls hl => ?_)
      refine lv_iload_n hx hb d_Md_lookElement_40 rfl (lv_at hl 5 rfl) ?_
      refine lv_if_ne (tgt := 67) hx hb d_Md_lookElement_41 (by decide) (fun c_41 => ?_) (fun c_41 => absurd c_41 (by decide))
      refine lv_iload_n hx hb d_Md_lookElement_67 rfl (lv_at hl 5 rfl) ?_
      refine lv_iconst (v := 2) hx hb d_Md_lookElement_68 (by decide) ?_
      refine lv_icmp_ne (tgt := 75) hx hb d_Md_lookElement_69 (by decide) (fun c_69 => ?_) (fun c_69 => absurd c_69 (by decide))
      refine lv_iload_n hx hb d_Md_lookElement_75 rfl (lv_at hl 5 rfl) ?_
      refine lv_iconst (v := 4) hx hb d_Md_lookElement_76 (by decide) ?_
      refine lv_icmp_eq (tgt := 85) hx hb d_Md_lookElement_77 (by decide) (fun c_77 => absurd c_77 (by decide)) (fun c_77 => ?_)
      refine lv_iload_n hx hb d_Md_lookElement_80 rfl (lv_at hl 5 rfl) ?_
      refine lv_iconst (v := 5) hx hb d_Md_lookElement_81 (by decide) ?_
      refine lv_icmp_ne (tgt := 104) hx hb d_Md_lookElement_82 (by decide) (fun c_82 => absurd (by decide) c_82) (fun c_82 => ?_)
      refine lv_iload hx hb d_Md_lookElement_85 (lv_at hl 1 rfl) ?_
      refine lv_if_eq (tgt := 100) hx hb d_Md_lookElement_87 (by decide) (fun c_87 => absurd c_87 (by decide)) (fun c_87 => ?_)
      refine lv_aload_n hx hb d_Md_lookElement_90 rfl (lv_at hl 3 rfl) ?_
      refine lv_iload_n hx hb d_Md_lookElement_91 rfl (lv_at hl 4 rfl) ?_
      refine lv_iload_n hx hb d_Md_lookElement_92 rfl (lv_at hl 5 rfl) ?_
      refine cV (As := [.int (nI t), .int 5]) (rest := []) (n := 2) (wc := [(m0, .inr (6, mF g (K.1, K.2.1, K.2.2.1, K.2.2.2.1, nI X.length, K.2.2.2.2.2.1, K.2.2.2.2.2.2.1, K.2.2.2.2.2.2.2.1, nI a1) A0 e np B)), ((g 38), .inl (cA 3, 2000, .inl ow)), ((g 39), .inl (cA 3, 2000, .inl fi)), ((g 40), .inl (cA 3, 2000, .inl be))]) (wr := [((g 30), .inl (cA 3, 2000, .inl yb))]) ⟨hx, hb, hml, hown, hts⟩ hno hlocks hl.1 (c_Md_placeOf l hl9 D cA ad H.size m0 g (K.1, K.2.1, K.2.2.1, K.2.2.2.1, nI X.length, K.2.2.2.2.2.1, K.2.2.2.2.2.2.1, K.2.2.2.2.2.2.2.1, nI a1) A0 e np B ow fi be X hXH hXf hX t (by omega) x1 a2 exs hexx (5 : Int32)) iw4_152 iw4_154 sel_Md_placeOf iw1_7 iw4_155 (by decide +kernel) rfl ⟨Nat.le_of_ble_eq_true rfl, Nat.le_of_ble_eq_true rfl⟩ ⟨Nat.le_of_ble_eq_true rfl, Nat.le_of_ble_eq_true rfl⟩ rfl (Nat.le_of_ble_eq_true rfl) d_Md_lookElement_93 hE hP hD hS hA [0, 2, 3, 4] [1] rfl rfl rfl rfl (by decide) (ci := 6) rfl rfl 0 rfl (fun _ h => h.elim) (fun v_93 u_93 H locs hp_93 hP hD hS => ?_)
      obtain rfl := hp_93
      have hP : va_P D cls [(m0, .inr (6, mF g (K.1, K.2.1, K.2.2.1, K.2.2.2.1, nI X.length, K.2.2.2.2.2.1, K.2.2.2.2.2.2.1, K.2.2.2.2.2.2.2.1, nI a1) A0 e np B)), ((g 30), .inl (cA 3, 2000, .inl yb)), ((g 38), .inl (cA 3, 2000, .inl ow)), ((g 39), .inl (cA 3, 2000, .inl fi)), ((g 40), .inl (cA 3, 2000, .inl be))] H := hP.sub [1, 0, 2, 3, 4] rfl
      have hD : va_D A [(m0, .inr (6, mF g (K.1, K.2.1, K.2.2.1, K.2.2.2.1, nI X.length, K.2.2.2.2.2.1, K.2.2.2.2.2.2.1, K.2.2.2.2.2.2.2.1, nI a1) A0 e np B)), ((g 30), .inl (cA 3, 2000, .inl yb)), ((g 38), .inl (cA 3, 2000, .inl ow)), ((g 39), .inl (cA 3, 2000, .inl fi)), ((g 40), .inl (cA 3, 2000, .inl be))] := hD.sub [1, 0, 2, 3, 4] (by decide) rfl
      refine W.cs (cells' := 0) (slots' := 0) rfl rfl ?_
      refine W.eq (g2 := F0 m 96 ls [.int (if (5 : Int32) = 4 then nI x1 else nI a2)]) rfl ?_
      refine lv_i2l hx hb d_Md_lookElement_96 rfl ?_
      rw [if_neg (by decide), nI_l (n := a2) (by omega)]
      refine lv_goto (tgt := 103) hx hb d_Md_lookElement_97 (by decide) ?_
      exact cRl (nI a1) hx hb hr hlocks d_Md_lookElement_103 hS hP hD (rfl) (Nat.le_refl _) (Nat.le_refl _)
    · have hl : lv_has ls 13 [(0, .ref m0), (1, .int (nI t)), (2, .int 6)] := hl
      refine lv_aload_n hx hb d_Md_lookElement_0 rfl (lv_at hl 0 rfl) ?_
      refine cV (As := []) (rest := []) (n := 0) (wc := [(m0, .inr (6, mF g (K.1, K.2.1, K.2.2.1, K.2.2.2.1, nI X.length, K.2.2.2.2.2.1, K.2.2.2.2.2.2.1, K.2.2.2.2.2.2.2.1, nI a) A0 e np B)), ((g 30), .inl (cA 3, 2000, .inl yb))]) (wr := [((g 38), .inl (cA 3, 2000, .inl ow)), ((g 39), .inl (cA 3, 2000, .inl fi)), ((g 40), .inl (cA 3, 2000, .inl be))]) ⟨hx, hb, hml, hown, hts⟩ hno hlocks hl.1 (c_Md_number l hl9 D cA ad s.heap.size m0 g (K.1, K.2.1, K.2.2.1, K.2.2.2.1, nI X.length, K.2.2.2.2.2.1, K.2.2.2.2.2.2.1, K.2.2.2.2.2.2.2.1, nI a) A0 e np B yb b lm hlm hyb hb9 a 4 a1 (by omega) hmu) iw4_132 iw4_134 sel_Md_number iw1_7 iw4_135 (by decide +kernel) rfl ⟨Nat.le_of_ble_eq_true rfl, Nat.le_of_ble_eq_true rfl⟩ ⟨Nat.le_of_ble_eq_true rfl, Nat.le_of_ble_eq_true rfl⟩ rfl (Nat.le_of_ble_eq_true rfl) d_Md_lookElement_1 hE hP hD hS hA [0, 1] [2, 3, 4] rfl rfl rfl rfl (by decide) (ci := 6) rfl rfl 0 rfl (fun _ h => h.elim) (fun v_1 u_1 H locs hp_1 hP hD hS => ?_)
      obtain rfl := hp_1
      have hP : va_P D cls [(m0, .inr (6, mF g (K.1, K.2.1, K.2.2.1, K.2.2.2.1, nI X.length, K.2.2.2.2.2.1, K.2.2.2.2.2.2.1, K.2.2.2.2.2.2.2.1, nI a1) A0 e np B)), ((g 30), .inl (cA 3, 2000, .inl yb)), ((g 38), .inl (cA 3, 2000, .inl ow)), ((g 39), .inl (cA 3, 2000, .inl fi)), ((g 40), .inl (cA 3, 2000, .inl be))] H := hP.sub [3, 4, 0, 1, 2] rfl
      have hD : va_D A [(m0, .inr (6, mF g (K.1, K.2.1, K.2.2.1, K.2.2.2.1, nI X.length, K.2.2.2.2.2.1, K.2.2.2.2.2.2.1, K.2.2.2.2.2.2.2.1, nI a1) A0 e np B)), ((g 30), .inl (cA 3, 2000, .inl yb)), ((g 38), .inl (cA 3, 2000, .inl ow)), ((g 39), .inl (cA 3, 2000, .inl fi)), ((g 40), .inl (cA 3, 2000, .inl be))] := hD.sub [3, 4, 0, 1, 2] (by decide) rfl
      refine W.cs (cells' := 0) (slots' := 0) rfl rfl ?_
      refine W.eq (g2 := F0 m 4 ls [.long (lN 4)]) rfl ?_
      refine lv_l2i hx hb d_Md_lookElement_4 rfl ?_
      refine W.eq (g2 := F0 m 5 ls [.int 4]) (by rw [lN_i]; rfl) ?_
      refine lv_istore_n (lv' := [(3, .int 4), (0, .ref m0), (1, .int (nI t)), (2, .int 6)]) hx hb d_Md_lookElement_5 rfl hl (by decide) rfl (fun ls hl => ?_)
      refine lv_iload_n hx hb d_Md_lookElement_6 rfl (lv_at hl 0 rfl) ?_
      refine lv_iconst (v := 1) hx hb d_Md_lookElement_7 (by decide) ?_
      refine lv_iand hx hb d_Md_lookElement_8 ?_
      refine W.eq (g2 := F0 m 9 ls [.int 0]) (by rw [show (4 : Int32) &&& 1 = 0 from by decide +kernel]) ?_
      refine lv_if_ne (tgt := 16) hx hb d_Md_lookElement_9 (by decide) (fun c_9 => absurd (by decide) c_9) (fun c_9 => ?_)
      refine lv_iconst (v := 1) hx hb d_Md_lookElement_12 (by decide) ?_
      refine lv_goto (tgt := 17) hx hb d_Md_lookElement_13 (by decide) ?_
      refine lv_istore (lv' := [(4, .int 1), (3, .int 4), (0, .ref m0), (1, .int (nI t)), (2, .int 6)]) hx hb d_Md_lookElement_17 hl (by decide) rfl (fun ls hl => ?_)
      refine lv_iload hx hb d_Md_lookElement_19 (lv_at hl 0 rfl) ?_
      refine lv_if_eq (tgt := 37) hx hb d_Md_lookElement_21 (by decide) (fun c_21 => absurd c_21 (by decide)) (fun c_21 => ?_)
      refine lv_iload_n hx hb d_Md_lookElement_24 rfl (lv_at hl 1 rfl) ?_
      refine lv_iconst (v := 2) hx hb d_Md_lookElement_25 (by decide) ?_
      refine lv_iand hx hb d_Md_lookElement_26 ?_
      refine W.eq (g2 := F0 m 27 ls [.int 0]) (by rw [show (4 : Int32) &&& 2 = 0 from by decide +kernel]) ?_
      refine lv_if_eq (tgt := 37) hx hb d_Md_lookElement_27 (by decide) (fun c_27 => ?_) (fun c_27 => absurd (by decide) c_27)
      refine lv_lconst (v := 0) hx hb d_Md_lookElement_37 (by decide) ?_
      refine lv_lstore (lv' := [(5, .long 0), (4, .int 1), (3, .int 4), (0, .ref m0), (1, .int (nI t)), (2, .int 6)]) hx hb d_Md_lookElement_38 hl (by decide) rfl (fun ls hl => ?_)
      refine lv_iload_n hx hb d_Md_lookElement_40 rfl (lv_at hl 5 rfl) ?_
      refine lv_if_ne (tgt := 67) hx hb d_Md_lookElement_41 (by decide) (fun c_41 => ?_) (fun c_41 => absurd c_41 (by decide))
      refine lv_iload_n hx hb d_Md_lookElement_67 rfl (lv_at hl 5 rfl) ?_
      refine lv_iconst (v := 2) hx hb d_Md_lookElement_68 (by decide) ?_
      refine lv_icmp_ne (tgt := 75) hx hb d_Md_lookElement_69 (by decide) (fun c_69 => ?_) (fun c_69 => absurd c_69 (by decide))
      refine lv_iload_n hx hb d_Md_lookElement_75 rfl (lv_at hl 5 rfl) ?_
      refine lv_iconst (v := 4) hx hb d_Md_lookElement_76 (by decide) ?_
      refine lv_icmp_eq (tgt := 85) hx hb d_Md_lookElement_77 (by decide) (fun c_77 => absurd c_77 (by decide)) (fun c_77 => ?_)
      refine lv_iload_n hx hb d_Md_lookElement_80 rfl (lv_at hl 5 rfl) ?_
      refine lv_iconst (v := 5) hx hb d_Md_lookElement_81 (by decide) ?_
      refine lv_icmp_ne (tgt := 104) hx hb d_Md_lookElement_82 (by decide) (fun c_82 => ?_) (fun c_82 => absurd c_82 (by decide))
      refine lv_iload_n hx hb d_Md_lookElement_104 rfl (lv_at hl 5 rfl) ?_
      refine lv_bipush (v := 6) hx hb d_Md_lookElement_105 (by decide) ?_
      refine lv_icmp_ne (tgt := 122) hx hb d_Md_lookElement_107 (by decide) (fun c_107 => absurd (by decide) c_107) (fun c_107 => ?_)
      refine lv_iload_n hx hb d_Md_lookElement_110 rfl (lv_at hl 2 rfl) ?_
      refine lv_iconst (v := 4) hx hb d_Md_lookElement_111 (by decide) ?_
      refine lv_iand hx hb d_Md_lookElement_112 ?_
      refine W.eq (g2 := F0 m 113 ls [.int 4]) (by rw [show (4 : Int32) &&& 4 = 4 from by decide +kernel]) ?_
      refine lv_if_eq (tgt := 120) hx hb d_Md_lookElement_113 (by decide) (fun c_113 => absurd c_113 (by decide)) (fun c_113 => ?_)
      refine lv_lconst (v := 1) hx hb d_Md_lookElement_116 (by decide) ?_
      refine lv_goto (tgt := 121) hx hb d_Md_lookElement_117 (by decide) ?_
      exact cRl (nI a1) hx hb hr hlocks d_Md_lookElement_121 hS hP hD (rfl) (Nat.le_refl _) (Nat.le_refl _)
    · have hl : lv_has ls 13 [(0, .ref m0), (1, .int (nI t)), (2, .int 7)] := hl
      refine lv_aload_n hx hb d_Md_lookElement_0 rfl (lv_at hl 0 rfl) ?_
      refine cV (As := []) (rest := []) (n := 0) (wc := [(m0, .inr (6, mF g (K.1, K.2.1, K.2.2.1, K.2.2.2.1, nI X.length, K.2.2.2.2.2.1, K.2.2.2.2.2.2.1, K.2.2.2.2.2.2.2.1, nI a) A0 e np B)), ((g 30), .inl (cA 3, 2000, .inl yb))]) (wr := [((g 38), .inl (cA 3, 2000, .inl ow)), ((g 39), .inl (cA 3, 2000, .inl fi)), ((g 40), .inl (cA 3, 2000, .inl be))]) ⟨hx, hb, hml, hown, hts⟩ hno hlocks hl.1 (c_Md_number l hl9 D cA ad s.heap.size m0 g (K.1, K.2.1, K.2.2.1, K.2.2.2.1, nI X.length, K.2.2.2.2.2.1, K.2.2.2.2.2.2.1, K.2.2.2.2.2.2.2.1, nI a) A0 e np B yb b lm hlm hyb hb9 a 4 a1 (by omega) hmu) iw4_132 iw4_134 sel_Md_number iw1_7 iw4_135 (by decide +kernel) rfl ⟨Nat.le_of_ble_eq_true rfl, Nat.le_of_ble_eq_true rfl⟩ ⟨Nat.le_of_ble_eq_true rfl, Nat.le_of_ble_eq_true rfl⟩ rfl (Nat.le_of_ble_eq_true rfl) d_Md_lookElement_1 hE hP hD hS hA [0, 1] [2, 3, 4] rfl rfl rfl rfl (by decide) (ci := 6) rfl rfl 0 rfl (fun _ h => h.elim) (fun v_1 u_1 H locs hp_1 hP hD hS => ?_)
      obtain rfl := hp_1
      have hP : va_P D cls [(m0, .inr (6, mF g (K.1, K.2.1, K.2.2.1, K.2.2.2.1, nI X.length, K.2.2.2.2.2.1, K.2.2.2.2.2.2.1, K.2.2.2.2.2.2.2.1, nI a1) A0 e np B)), ((g 30), .inl (cA 3, 2000, .inl yb)), ((g 38), .inl (cA 3, 2000, .inl ow)), ((g 39), .inl (cA 3, 2000, .inl fi)), ((g 40), .inl (cA 3, 2000, .inl be))] H := hP.sub [3, 4, 0, 1, 2] rfl
      have hD : va_D A [(m0, .inr (6, mF g (K.1, K.2.1, K.2.2.1, K.2.2.2.1, nI X.length, K.2.2.2.2.2.1, K.2.2.2.2.2.2.1, K.2.2.2.2.2.2.2.1, nI a1) A0 e np B)), ((g 30), .inl (cA 3, 2000, .inl yb)), ((g 38), .inl (cA 3, 2000, .inl ow)), ((g 39), .inl (cA 3, 2000, .inl fi)), ((g 40), .inl (cA 3, 2000, .inl be))] := hD.sub [3, 4, 0, 1, 2] (by decide) rfl
      refine W.cs (cells' := 0) (slots' := 0) rfl rfl ?_
      refine W.eq (g2 := F0 m 4 ls [.long (lN 4)]) rfl ?_
      refine lv_l2i hx hb d_Md_lookElement_4 rfl ?_
      refine W.eq (g2 := F0 m 5 ls [.int 4]) (by rw [lN_i]; rfl) ?_
      refine lv_istore_n (lv' := [(3, .int 4), (0, .ref m0), (1, .int (nI t)), (2, .int 7)]) hx hb d_Md_lookElement_5 rfl hl (by decide) rfl (fun ls hl => ?_)
      refine lv_iload_n hx hb d_Md_lookElement_6 rfl (lv_at hl 0 rfl) ?_
      refine lv_iconst (v := 1) hx hb d_Md_lookElement_7 (by decide) ?_
      refine lv_iand hx hb d_Md_lookElement_8 ?_
      refine W.eq (g2 := F0 m 9 ls [.int 0]) (by rw [show (4 : Int32) &&& 1 = 0 from by decide +kernel]) ?_
      refine lv_if_ne (tgt := 16) hx hb d_Md_lookElement_9 (by decide) (fun c_9 => absurd (by decide) c_9) (fun c_9 => ?_)
      refine lv_iconst (v := 1) hx hb d_Md_lookElement_12 (by decide) ?_
      refine lv_goto (tgt := 17) hx hb d_Md_lookElement_13 (by decide) ?_
      refine lv_istore (lv' := [(4, .int 1), (3, .int 4), (0, .ref m0), (1, .int (nI t)), (2, .int 7)]) hx hb d_Md_lookElement_17 hl (by decide) rfl (fun ls hl => ?_)
      refine lv_iload hx hb d_Md_lookElement_19 (lv_at hl 0 rfl) ?_
      refine lv_if_eq (tgt := 37) hx hb d_Md_lookElement_21 (by decide) (fun c_21 => absurd c_21 (by decide)) (fun c_21 => ?_)
      refine lv_iload_n hx hb d_Md_lookElement_24 rfl (lv_at hl 1 rfl) ?_
      refine lv_iconst (v := 2) hx hb d_Md_lookElement_25 (by decide) ?_
      refine lv_iand hx hb d_Md_lookElement_26 ?_
      refine W.eq (g2 := F0 m 27 ls [.int 0]) (by rw [show (4 : Int32) &&& 2 = 0 from by decide +kernel]) ?_
      refine lv_if_eq (tgt := 37) hx hb d_Md_lookElement_27 (by decide) (fun c_27 => ?_) (fun c_27 => absurd (by decide) c_27)
      refine lv_lconst (v := 0) hx hb d_Md_lookElement_37 (by decide) ?_
      refine lv_lstore (lv' := [(5, .long 0), (4, .int 1), (3, .int 4), (0, .ref m0), (1, .int (nI t)), (2, .int 7)]) hx hb d_Md_lookElement_38 hl (by decide) rfl (fun ls hl => ?_)
      refine lv_iload_n hx hb d_Md_lookElement_40 rfl (lv_at hl 5 rfl) ?_
      refine lv_if_ne (tgt := 67) hx hb d_Md_lookElement_41 (by decide) (fun c_41 => ?_) (fun c_41 => absurd c_41 (by decide))
      refine lv_iload_n hx hb d_Md_lookElement_67 rfl (lv_at hl 5 rfl) ?_
      refine lv_iconst (v := 2) hx hb d_Md_lookElement_68 (by decide) ?_
      refine lv_icmp_ne (tgt := 75) hx hb d_Md_lookElement_69 (by decide) (fun c_69 => ?_) (fun c_69 => absurd c_69 (by decide))
      refine lv_iload_n hx hb d_Md_lookElement_75 rfl (lv_at hl 5 rfl) ?_
      refine lv_iconst (v := 4) hx hb d_Md_lookElement_76 (by decide) ?_
      refine lv_icmp_eq (tgt := 85) hx hb d_Md_lookElement_77 (by decide) (fun c_77 => absurd c_77 (by decide)) (fun c_77 => ?_)
      refine lv_iload_n hx hb d_Md_lookElement_80 rfl (lv_at hl 5 rfl) ?_
      refine lv_iconst (v := 5) hx hb d_Md_lookElement_81 (by decide) ?_
      refine lv_icmp_ne (tgt := 104) hx hb d_Md_lookElement_82 (by decide) (fun c_82 => ?_) (fun c_82 => absurd c_82 (by decide))
      refine lv_iload_n hx hb d_Md_lookElement_104 rfl (lv_at hl 5 rfl) ?_
      refine lv_bipush (v := 6) hx hb d_Md_lookElement_105 (by decide) ?_
      refine lv_icmp_ne (tgt := 122) hx hb d_Md_lookElement_107 (by decide) (fun c_107 => ?_) (fun c_107 => absurd c_107 (by decide))
      refine lv_iload hx hb d_Md_lookElement_122 (lv_at hl 1 rfl) ?_
      refine lv_if_eq (tgt := 142) hx hb d_Md_lookElement_124 (by decide) (fun c_124 => absurd c_124 (by decide)) (fun c_124 => ?_)
      refine lv_aload_n hx hb d_Md_lookElement_127 rfl (lv_at hl 3 rfl) ?_
      refine lv_aload_n hx hb d_Md_lookElement_128 rfl (lv_at hl 3 rfl) ?_
      refine va_get (D := D) (ci := 6) (v := .ref (g 40)) (C := R_Md) (T := F_Md) (N := 44) hx hb hts (fun w h => List.mem_cons_of_mem _ (i_Md w h)) hown hE.1 hP 0 rfl rfl 40 (by decide) (hts _ (List.mem_cons_of_mem _ iw3_94)) (fun _ h9 => h9) rfl d_Md_lookElement_129 ?_
      refine lv_aload_n hx hb d_Md_lookElement_132 rfl (lv_at hl 3 rfl) ?_
      refine lv_iload_n hx hb d_Md_lookElement_133 rfl (lv_at hl 4 rfl) ?_
      refine lv_iconst (v := 0) hx hb d_Md_lookElement_134 (by decide) ?_
      refine cV (As := [.int (nI t), .int 0]) (rest := [.ref (g 40), .ref m0]) (n := 2) (wc := [(m0, .inr (6, mF g (K.1, K.2.1, K.2.2.1, K.2.2.2.1, nI X.length, K.2.2.2.2.2.1, K.2.2.2.2.2.2.1, K.2.2.2.2.2.2.2.1, nI a1) A0 e np B)), ((g 38), .inl (cA 3, 2000, .inl ow))]) (wr := [((g 30), .inl (cA 3, 2000, .inl yb)), ((g 39), .inl (cA 3, 2000, .inl fi)), ((g 40), .inl (cA 3, 2000, .inl be))]) ⟨hx, hb, hml, hown, hts⟩ hno hlocks hl.1 (c_Md_expressionOf l hl9 D cA ad H.size m0 g (K.1, K.2.1, K.2.2.1, K.2.2.2.1, nI X.length, K.2.2.2.2.2.1, K.2.2.2.2.2.2.1, K.2.2.2.2.2.2.2.1, nI a1) A0 e np B ow fi be X hXH hXf hX t (by omega) 0 (by omega)) iw4_156 iw4_158 sel_Md_expressionOf iw1_7 iw4_159 (by decide +kernel) rfl ⟨Nat.le_of_ble_eq_true rfl, Nat.le_of_ble_eq_true rfl⟩ ⟨Nat.le_of_ble_eq_true rfl, Nat.le_of_ble_eq_true rfl⟩ rfl (Nat.le_of_ble_eq_true rfl) d_Md_lookElement_135 hE hP hD hS hA [0, 2] [1, 3, 4] rfl rfl rfl rfl (by decide) (ci := 6) rfl rfl 0 rfl (fun _ h => h.elim) (fun v_135 u_135 H locs hp_135 hP hD hS => ?_)
      rcases hp_135 with ⟨rfl, hno259⟩ | ⟨e259_, f259_, z259_, he259, rfl, hg259, hfi259, hbe259, hfb259, hzb259⟩
      · exact absurd hno259 (by rw [hexx]; simp)
      have hP : va_P D cls [(m0, .inr (6, mF g (K.1, K.2.1, K.2.2.1, K.2.2.2.1, nI X.length, K.2.2.2.2.2.1, K.2.2.2.2.2.2.1, K.2.2.2.2.2.2.2.1, nI a1) A0 e np B)), ((g 30), .inl (cA 3, 2000, .inl yb)), ((g 38), .inl (cA 3, 2000, .inl ow)), ((g 39), .inl (cA 3, 2000, .inl fi)), ((g 40), .inl (cA 3, 2000, .inl be))] H := hP.sub [3, 0, 4, 1, 2] rfl
      have hD : va_D A [(m0, .inr (6, mF g (K.1, K.2.1, K.2.2.1, K.2.2.2.1, nI X.length, K.2.2.2.2.2.1, K.2.2.2.2.2.2.1, K.2.2.2.2.2.2.2.1, nI a1) A0 e np B)), ((g 30), .inl (cA 3, 2000, .inl yb)), ((g 38), .inl (cA 3, 2000, .inl ow)), ((g 39), .inl (cA 3, 2000, .inl fi)), ((g 40), .inl (cA 3, 2000, .inl be))] := hD.sub [3, 0, 4, 1, 2] (by decide) rfl
      refine W.cs (cells' := 0) (slots' := 0) rfl rfl ?_
      refine W.eq (g2 := F0 m 138 ls [.int (nI e259_), .ref (g 40), .ref m0]) rfl ?_
      refine va_iald hx hb hE.1 hP 4 3 rfl rfl (vp_in_nI (by omega) (by omega)) d_Md_lookElement_138 ?_
      rw [nI_clamp (n := e259_) (by omega), hbe259, show z259_ = a2 from by rw [hexx] at hg259; exact (congrArg Prod.snd (Option.some.inj hg259)).symm]
      refine va_put (D := D) (ci := 6) (v := .int (nI a2)) (ty := .int) (C := R_Md) (T := F_Md) (N := 44) hx hb hts (fun w h => List.mem_cons_of_mem _ (i_Md w h)) t_Md tk_Md n_Md hown hE.1 hP hD hS 0 rfl rfl 43 (by decide) (hts _ (List.mem_cons_of_mem _ iw3_97)) (fun _ h9 => h9) rfl (by decide +kernel) rfl rfl (Nat.le_of_ble_eq_true rfl) d_Md_lookElement_139 (fun H locs hP hD hS => ?_)
      have hP : va_P D cls [(m0, .inr (6, mF g (K.1, K.2.1, K.2.2.1, K.2.2.2.1, nI X.length, K.2.2.2.2.2.1, K.2.2.2.2.2.2.1, K.2.2.2.2.2.2.2.1, nI a2) A0 e np B)), ((g 30), .inl (cA 3, 2000, .inl yb)), ((g 38), .inl (cA 3, 2000, .inl ow)), ((g 39), .inl (cA 3, 2000, .inl fi)), ((g 40), .inl (cA 3, 2000, .inl be))] H := hP
      have hD : va_D A [(m0, .inr (6, mF g (K.1, K.2.1, K.2.2.1, K.2.2.2.1, nI X.length, K.2.2.2.2.2.1, K.2.2.2.2.2.2.1, K.2.2.2.2.2.2.2.1, nI a2) A0 e np B)), ((g 30), .inl (cA 3, 2000, .inl yb)), ((g 38), .inl (cA 3, 2000, .inl ow)), ((g 39), .inl (cA 3, 2000, .inl fi)), ((g 40), .inl (cA 3, 2000, .inl be))] := hD
      refine lv_iload_n hx hb d_Md_lookElement_142 rfl (lv_at hl 2 rfl) ?_
      refine lv_if_eq (tgt := 155) hx hb d_Md_lookElement_143 (by decide) (fun c_143 => absurd c_143 (by decide)) (fun c_143 => ?_)
      refine lv_iload_n hx hb d_Md_lookElement_146 rfl (lv_at hl 2 rfl) ?_
      refine lv_iconst (v := 4) hx hb d_Md_lookElement_147 (by decide) ?_
      refine lv_icmp_eq (tgt := 155) hx hb d_Md_lookElement_148 (by decide) (fun c_148 => ?_) (fun c_148 => absurd (by decide) c_148)
      refine lv_iconst (v := 0) hx hb d_Md_lookElement_155 (by decide) ?_
      refine lv_istore (lv' := [(7, .int 0), (5, .long 0), (4, .int 1), (3, .int 4), (0, .ref m0), (1, .int (nI t)), (2, .int 7)]) hx hb d_Md_lookElement_156 hl (by decide) rfl (fun ls hl => ?_)
      refine lv_iload hx hb d_Md_lookElement_158 (lv_at hl 0 rfl) ?_
      refine lv_if_eq (tgt := 182) hx hb d_Md_lookElement_160 (by decide) (fun c_160 => ?_) (fun c_160 => absurd (by decide) c_160)
      refine lv_ldc2 hx hb hown (hts _ (List.mem_cons_of_mem _ iw4_168)) d_Md_lookElement_182 ?_
      refine lv_lstore (lv' := [(8, .long 112), (7, .int 0), (5, .long 0), (4, .int 1), (3, .int 4), (0, .ref m0), (1, .int (nI t)), (2, .int 7)]) hx hb d_Md_lookElement_185 hl (by decide) rfl (fun ls hl => ?_)
      refine lv_aload_n hx hb d_Md_lookElement_187 rfl (lv_at hl 5 rfl) ?_
      refine lv_dup hx hb d_Md_lookElement_188 rfl ?_
      refine va_get (D := D) (ci := 6) (v := .int (nI a2)) (C := R_Md) (T := F_Md) (N := 44) hx hb hts (fun w h => List.mem_cons_of_mem _ (i_Md w h)) hown hE.1 hP 0 rfl rfl 43 (by decide) (hts _ (List.mem_cons_of_mem _ iw3_97)) (fun _ h9 => h9) rfl d_Md_lookElement_189 ?_
      refine lv_iload hx hb d_Md_lookElement_192 (lv_at hl 1 rfl) ?_
      refine lv_if_eq (tgt := 201) hx hb d_Md_lookElement_194 (by decide) (fun c_194 => ?_) (fun c_194 => absurd (by decide) c_194)
      refine lv_iconst (v := 0) hx hb d_Md_lookElement_201 (by decide) ?_
      refine lv_iadd hx hb d_Md_lookElement_202 ?_
      rw [Int32.add_zero]
      refine va_put (D := D) (ci := 6) (v := .int (nI a2)) (ty := .int) (C := R_Md) (T := F_Md) (N := 44) hx hb hts (fun w h => List.mem_cons_of_mem _ (i_Md w h)) t_Md tk_Md n_Md hown hE.1 hP hD hS 0 rfl rfl 43 (by decide) (hts _ (List.mem_cons_of_mem _ iw3_97)) (fun _ h9 => h9) rfl (by decide +kernel) rfl rfl (Nat.le_of_ble_eq_true rfl) d_Md_lookElement_203 (fun H locs hP hD hS => ?_)
      have hP : va_P D cls [(m0, .inr (6, mF g (K.1, K.2.1, K.2.2.1, K.2.2.2.1, nI X.length, K.2.2.2.2.2.1, K.2.2.2.2.2.2.1, K.2.2.2.2.2.2.2.1, nI a2) A0 e np B)), ((g 30), .inl (cA 3, 2000, .inl yb)), ((g 38), .inl (cA 3, 2000, .inl ow)), ((g 39), .inl (cA 3, 2000, .inl fi)), ((g 40), .inl (cA 3, 2000, .inl be))] H := hP
      have hD : va_D A [(m0, .inr (6, mF g (K.1, K.2.1, K.2.2.1, K.2.2.2.1, nI X.length, K.2.2.2.2.2.1, K.2.2.2.2.2.2.1, K.2.2.2.2.2.2.2.1, nI a2) A0 e np B)), ((g 30), .inl (cA 3, 2000, .inl yb)), ((g 38), .inl (cA 3, 2000, .inl ow)), ((g 39), .inl (cA 3, 2000, .inl fi)), ((g 40), .inl (cA 3, 2000, .inl be))] := hD
      refine lv_iload_n hx hb d_Md_lookElement_206 rfl (lv_at hl 7 rfl) ?_
      refine lv_iconst (v := 1) hx hb d_Md_lookElement_207 (by decide) ?_
      refine lv_icmp_ne (tgt := 214) hx hb d_Md_lookElement_208 (by decide) (fun c_208 => ?_) (fun c_208 => absurd c_208 (by decide))
      refine lv_aload_n hx hb d_Md_lookElement_214 rfl (lv_at hl 5 rfl) ?_
      refine cV (As := []) (rest := []) (n := 0) (wc := [(m0, .inr (6, mF g (K.1, K.2.1, K.2.2.1, K.2.2.2.1, nI X.length, K.2.2.2.2.2.1, K.2.2.2.2.2.2.1, K.2.2.2.2.2.2.2.1, nI a2) A0 e np B)), ((g 30), .inl (cA 3, 2000, .inl yb))]) (wr := [((g 38), .inl (cA 3, 2000, .inl ow)), ((g 39), .inl (cA 3, 2000, .inl fi)), ((g 40), .inl (cA 3, 2000, .inl be))]) ⟨hx, hb, hml, hown, hts⟩ hno hlocks hl.1 (c_Md_number l hl9 D cA ad H.size m0 g (K.1, K.2.1, K.2.2.1, K.2.2.2.1, nI X.length, K.2.2.2.2.2.1, K.2.2.2.2.2.2.1, K.2.2.2.2.2.2.2.1, nI a2) A0 e np B yb b lm hlm hyb hb9 a2 n a4 (by omega) he4) iw4_132 iw4_134 sel_Md_number iw1_7 iw4_135 (by decide +kernel) rfl ⟨Nat.le_of_ble_eq_true rfl, Nat.le_of_ble_eq_true rfl⟩ ⟨Nat.le_of_ble_eq_true rfl, Nat.le_of_ble_eq_true rfl⟩ rfl (Nat.le_of_ble_eq_true rfl) d_Md_lookElement_215 hE hP hD hS hA [0, 1] [2, 3, 4] rfl rfl rfl rfl (by decide) (ci := 6) rfl rfl 0 rfl (fun _ h => h.elim) (fun v_215 u_215 H locs hp_215 hP hD hS => ?_)
      obtain rfl := hp_215
      have hP : va_P D cls [(m0, .inr (6, mF g (K.1, K.2.1, K.2.2.1, K.2.2.2.1, nI X.length, K.2.2.2.2.2.1, K.2.2.2.2.2.2.1, K.2.2.2.2.2.2.2.1, nI a4) A0 e np B)), ((g 30), .inl (cA 3, 2000, .inl yb)), ((g 38), .inl (cA 3, 2000, .inl ow)), ((g 39), .inl (cA 3, 2000, .inl fi)), ((g 40), .inl (cA 3, 2000, .inl be))] H := hP.sub [3, 4, 0, 1, 2] rfl
      have hD : va_D A [(m0, .inr (6, mF g (K.1, K.2.1, K.2.2.1, K.2.2.2.1, nI X.length, K.2.2.2.2.2.1, K.2.2.2.2.2.2.1, K.2.2.2.2.2.2.2.1, nI a4) A0 e np B)), ((g 30), .inl (cA 3, 2000, .inl yb)), ((g 38), .inl (cA 3, 2000, .inl ow)), ((g 39), .inl (cA 3, 2000, .inl fi)), ((g 40), .inl (cA 3, 2000, .inl be))] := hD.sub [3, 4, 0, 1, 2] (by decide) rfl
      refine W.cs (cells' := 0) (slots' := 0) rfl rfl ?_
      refine W.eq (g2 := F0 m 218 ls [.long (lN n)]) rfl ?_
      refine lv_lstore (lv' := [(10, .long (lN n)), (8, .long 112), (7, .int 0), (5, .long 0), (4, .int 1), (3, .int 4), (0, .ref m0), (1, .int (nI t)), (2, .int 7)]) hx hb d_Md_lookElement_218 hl (by decide) rfl (fun ls hl => ?_)
      refine lv_iload_n hx hb d_Md_lookElement_220 rfl (lv_at hl 8 rfl) ?_
      refine lv_iconst (v := 3) hx hb d_Md_lookElement_221 (by decide) ?_
      refine lv_icmp_ne (tgt := 228) hx hb d_Md_lookElement_222 (by decide) (fun c_222 => ?_) (fun c_222 => absurd c_222 (by decide))
      refine lv_iload_n hx hb d_Md_lookElement_228 rfl (lv_at hl 8 rfl) ?_
      refine lv_bipush (v := 8) hx hb d_Md_lookElement_229 (by decide) ?_
      refine lv_icmp_lt (tgt := 245) hx hb d_Md_lookElement_231 (by decide) (fun c_231 => ?_) (fun c_231 => absurd (by decide) c_231)
      refine lv_ldc2 hx hb hown (hts _ (List.mem_cons_of_mem _ iw3_204)) d_Md_lookElement_245 ?_
      exact cRl (nI a4) hx hb hr hlocks d_Md_lookElement_248 hS hP hD (rfl) (Nat.le_refl _) (Nat.le_refl _)
    · have hl := hl
      refine lv_aload_n hx hb d_Md_lookElement_0 rfl (lv_at hl 0 rfl) ?_
      refine cV (As := []) (rest := []) (n := 0) (wc := [(m0, .inr (6, mF g (K.1, K.2.1, K.2.2.1, K.2.2.2.1, nI X.length, K.2.2.2.2.2.1, K.2.2.2.2.2.2.1, K.2.2.2.2.2.2.2.1, nI a) A0 e np B)), ((g 30), .inl (cA 3, 2000, .inl yb))]) (wr := [((g 38), .inl (cA 3, 2000, .inl ow)), ((g 39), .inl (cA 3, 2000, .inl fi)), ((g 40), .inl (cA 3, 2000, .inl be))]) ⟨hx, hb, hml, hown, hts⟩ hno hlocks hl.1 (c_Md_number l hl9 D cA ad s.heap.size m0 g (K.1, K.2.1, K.2.2.1, K.2.2.2.1, nI X.length, K.2.2.2.2.2.1, K.2.2.2.2.2.2.1, K.2.2.2.2.2.2.2.1, nI a) A0 e np B yb b lm hlm hyb hb9 a 4 a1 (by omega) hmu) iw4_132 iw4_134 sel_Md_number iw1_7 iw4_135 (by decide +kernel) rfl ⟨Nat.le_of_ble_eq_true rfl, Nat.le_of_ble_eq_true rfl⟩ ⟨Nat.le_of_ble_eq_true rfl, Nat.le_of_ble_eq_true rfl⟩ rfl (Nat.le_of_ble_eq_true rfl) d_Md_lookElement_1 hE hP hD hS hA [0, 1] [2, 3, 4] rfl rfl rfl rfl (by decide) (ci := 6) rfl rfl 0 rfl (fun _ h => h.elim) (fun v_1 u_1 H locs hp_1 hP hD hS => ?_)
      obtain rfl := hp_1
      have hP : va_P D cls [(m0, .inr (6, mF g (K.1, K.2.1, K.2.2.1, K.2.2.2.1, nI X.length, K.2.2.2.2.2.1, K.2.2.2.2.2.2.1, K.2.2.2.2.2.2.2.1, nI a1) A0 e np B)), ((g 30), .inl (cA 3, 2000, .inl yb)), ((g 38), .inl (cA 3, 2000, .inl ow)), ((g 39), .inl (cA 3, 2000, .inl fi)), ((g 40), .inl (cA 3, 2000, .inl be))] H := hP.sub [3, 4, 0, 1, 2] rfl
      have hD : va_D A [(m0, .inr (6, mF g (K.1, K.2.1, K.2.2.1, K.2.2.2.1, nI X.length, K.2.2.2.2.2.1, K.2.2.2.2.2.2.1, K.2.2.2.2.2.2.2.1, nI a1) A0 e np B)), ((g 30), .inl (cA 3, 2000, .inl yb)), ((g 38), .inl (cA 3, 2000, .inl ow)), ((g 39), .inl (cA 3, 2000, .inl fi)), ((g 40), .inl (cA 3, 2000, .inl be))] := hD.sub [3, 4, 0, 1, 2] (by decide) rfl
      refine W.cs (cells' := 0) (slots' := 0) rfl rfl ?_
      refine W.eq (g2 := F0 m 4 ls [.long (lN 4)]) rfl ?_
      refine lv_l2i hx hb d_Md_lookElement_4 rfl ?_
      refine W.eq (g2 := F0 m 5 ls [.int 4]) (by rw [lN_i]; rfl) ?_
      refine lv_istore_n (lv' := [(3, .int 4), (0, .ref m0), (1, .int (nI t)), (2, .int (nI wh))]) hx hb d_Md_lookElement_5 rfl hl (by decide) rfl (fun ls hl => ?_)
      refine lv_iload_n hx hb d_Md_lookElement_6 rfl (lv_at hl 0 rfl) ?_
      refine lv_iconst (v := 1) hx hb d_Md_lookElement_7 (by decide) ?_
      refine lv_iand hx hb d_Md_lookElement_8 ?_
      refine W.eq (g2 := F0 m 9 ls [.int 0]) (by rw [show (4 : Int32) &&& 1 = 0 from by decide +kernel]) ?_
      refine lv_if_ne (tgt := 16) hx hb d_Md_lookElement_9 (by decide) (fun c_9 => absurd (by decide) c_9) (fun c_9 => ?_)
      refine lv_iconst (v := 1) hx hb d_Md_lookElement_12 (by decide) ?_
      refine lv_goto (tgt := 17) hx hb d_Md_lookElement_13 (by decide) ?_
      refine lv_istore (lv' := [(4, .int 1), (3, .int 4), (0, .ref m0), (1, .int (nI t)), (2, .int (nI wh))]) hx hb d_Md_lookElement_17 hl (by decide) rfl (fun ls hl => ?_)
      refine lv_iload hx hb d_Md_lookElement_19 (lv_at hl 0 rfl) ?_
      refine lv_if_eq (tgt := 37) hx hb d_Md_lookElement_21 (by decide) (fun c_21 => absurd c_21 (by decide)) (fun c_21 => ?_)
      refine lv_iload_n hx hb d_Md_lookElement_24 rfl (lv_at hl 1 rfl) ?_
      refine lv_iconst (v := 2) hx hb d_Md_lookElement_25 (by decide) ?_
      refine lv_iand hx hb d_Md_lookElement_26 ?_
      refine W.eq (g2 := F0 m 27 ls [.int 0]) (by rw [show (4 : Int32) &&& 2 = 0 from by decide +kernel]) ?_
      refine lv_if_eq (tgt := 37) hx hb d_Md_lookElement_27 (by decide) (fun c_27 => ?_) (fun c_27 => absurd (by decide) c_27)
      refine lv_lconst (v := 0) hx hb d_Md_lookElement_37 (by decide) ?_
      refine lv_lstore (lv' := [(5, .long 0), (4, .int 1), (3, .int 4), (0, .ref m0), (1, .int (nI t)), (2, .int (nI wh))]) hx hb d_Md_lookElement_38 hl (by decide) rfl (fun ls hl => ?_)
      refine lv_iload_n hx hb d_Md_lookElement_40 rfl (lv_at hl 5 rfl) ?_
      refine lv_if_ne (tgt := 67) hx hb d_Md_lookElement_41 (by decide) (fun c_41 => ?_) (fun c_41 => absurd c_41 (fun q => absurd ((nI_eq (a := wh) (b := 0) (by omega) (by decide)).mp q) (by omega)))
      refine lv_iload_n hx hb d_Md_lookElement_67 rfl (lv_at hl 5 rfl) ?_
      refine lv_iconst (v := 2) hx hb d_Md_lookElement_68 (by decide) ?_
      refine lv_icmp_ne (tgt := 75) hx hb d_Md_lookElement_69 (by decide) (fun c_69 => ?_) (fun c_69 => absurd c_69 (fun q => absurd ((nI_eq (a := wh) (b := 2) (by omega) (by decide)).mp q) (by omega)))
      refine lv_iload_n hx hb d_Md_lookElement_75 rfl (lv_at hl 5 rfl) ?_
      refine lv_iconst (v := 4) hx hb d_Md_lookElement_76 (by decide) ?_
      refine lv_icmp_eq (tgt := 85) hx hb d_Md_lookElement_77 (by decide) (fun c_77 => absurd c_77 (fun q => absurd ((nI_eq (a := wh) (b := 4) (by omega) (by decide)).mp q) (by omega))) (fun c_77 => ?_)
      refine lv_iload_n hx hb d_Md_lookElement_80 rfl (lv_at hl 5 rfl) ?_
      refine lv_iconst (v := 5) hx hb d_Md_lookElement_81 (by decide) ?_
      refine lv_icmp_ne (tgt := 104) hx hb d_Md_lookElement_82 (by decide) (fun c_82 => ?_) (fun c_82 => absurd c_82 (fun q => absurd ((nI_eq (a := wh) (b := 5) (by omega) (by decide)).mp q) (by omega)))
      refine lv_iload_n hx hb d_Md_lookElement_104 rfl (lv_at hl 5 rfl) ?_
      refine lv_bipush (v := 6) hx hb d_Md_lookElement_105 (by decide) ?_
      refine lv_icmp_ne (tgt := 122) hx hb d_Md_lookElement_107 (by decide) (fun c_107 => ?_) (fun c_107 => absurd c_107 (fun q => absurd ((nI_eq (a := wh) (b := 6) (by omega) (by decide)).mp q) (by omega)))
      refine lv_iload hx hb d_Md_lookElement_122 (lv_at hl 1 rfl) ?_
      refine lv_if_eq (tgt := 142) hx hb d_Md_lookElement_124 (by decide) (fun c_124 => absurd c_124 (by decide)) (fun c_124 => ?_)
      refine lv_aload_n hx hb d_Md_lookElement_127 rfl (lv_at hl 3 rfl) ?_
      refine lv_aload_n hx hb d_Md_lookElement_128 rfl (lv_at hl 3 rfl) ?_
      refine va_get (D := D) (ci := 6) (v := .ref (g 40)) (C := R_Md) (T := F_Md) (N := 44) hx hb hts (fun w h => List.mem_cons_of_mem _ (i_Md w h)) hown hE.1 hP 0 rfl rfl 40 (by decide) (hts _ (List.mem_cons_of_mem _ iw3_94)) (fun _ h9 => h9) rfl d_Md_lookElement_129 ?_
      refine lv_aload_n hx hb d_Md_lookElement_132 rfl (lv_at hl 3 rfl) ?_
      refine lv_iload_n hx hb d_Md_lookElement_133 rfl (lv_at hl 4 rfl) ?_
      refine lv_iconst (v := 0) hx hb d_Md_lookElement_134 (by decide) ?_
      refine cV (As := [.int (nI t), .int 0]) (rest := [.ref (g 40), .ref m0]) (n := 2) (wc := [(m0, .inr (6, mF g (K.1, K.2.1, K.2.2.1, K.2.2.2.1, nI X.length, K.2.2.2.2.2.1, K.2.2.2.2.2.2.1, K.2.2.2.2.2.2.2.1, nI a1) A0 e np B)), ((g 38), .inl (cA 3, 2000, .inl ow))]) (wr := [((g 30), .inl (cA 3, 2000, .inl yb)), ((g 39), .inl (cA 3, 2000, .inl fi)), ((g 40), .inl (cA 3, 2000, .inl be))]) ⟨hx, hb, hml, hown, hts⟩ hno hlocks hl.1 (c_Md_expressionOf l hl9 D cA ad H.size m0 g (K.1, K.2.1, K.2.2.1, K.2.2.2.1, nI X.length, K.2.2.2.2.2.1, K.2.2.2.2.2.2.1, K.2.2.2.2.2.2.2.1, nI a1) A0 e np B ow fi be X hXH hXf hX t (by omega) 0 (by omega)) iw4_156 iw4_158 sel_Md_expressionOf iw1_7 iw4_159 (by decide +kernel) rfl ⟨Nat.le_of_ble_eq_true rfl, Nat.le_of_ble_eq_true rfl⟩ ⟨Nat.le_of_ble_eq_true rfl, Nat.le_of_ble_eq_true rfl⟩ rfl (Nat.le_of_ble_eq_true rfl) d_Md_lookElement_135 hE hP hD hS hA [0, 2] [1, 3, 4] rfl rfl rfl rfl (by decide) (ci := 6) rfl rfl 0 rfl (fun _ h => h.elim) (fun v_135 u_135 H locs hp_135 hP hD hS => ?_)
      rcases hp_135 with ⟨rfl, hno260⟩ | ⟨e260_, f260_, z260_, he260, rfl, hg260, hfi260, hbe260, hfb260, hzb260⟩
      · exact absurd hno260 (by rw [hexx]; simp)
      have hP : va_P D cls [(m0, .inr (6, mF g (K.1, K.2.1, K.2.2.1, K.2.2.2.1, nI X.length, K.2.2.2.2.2.1, K.2.2.2.2.2.2.1, K.2.2.2.2.2.2.2.1, nI a1) A0 e np B)), ((g 30), .inl (cA 3, 2000, .inl yb)), ((g 38), .inl (cA 3, 2000, .inl ow)), ((g 39), .inl (cA 3, 2000, .inl fi)), ((g 40), .inl (cA 3, 2000, .inl be))] H := hP.sub [3, 0, 4, 1, 2] rfl
      have hD : va_D A [(m0, .inr (6, mF g (K.1, K.2.1, K.2.2.1, K.2.2.2.1, nI X.length, K.2.2.2.2.2.1, K.2.2.2.2.2.2.1, K.2.2.2.2.2.2.2.1, nI a1) A0 e np B)), ((g 30), .inl (cA 3, 2000, .inl yb)), ((g 38), .inl (cA 3, 2000, .inl ow)), ((g 39), .inl (cA 3, 2000, .inl fi)), ((g 40), .inl (cA 3, 2000, .inl be))] := hD.sub [3, 0, 4, 1, 2] (by decide) rfl
      refine W.cs (cells' := 0) (slots' := 0) rfl rfl ?_
      refine W.eq (g2 := F0 m 138 ls [.int (nI e260_), .ref (g 40), .ref m0]) rfl ?_
      refine va_iald hx hb hE.1 hP 4 3 rfl rfl (vp_in_nI (by omega) (by omega)) d_Md_lookElement_138 ?_
      rw [nI_clamp (n := e260_) (by omega), hbe260, show z260_ = a2 from by rw [hexx] at hg260; exact (congrArg Prod.snd (Option.some.inj hg260)).symm]
      refine va_put (D := D) (ci := 6) (v := .int (nI a2)) (ty := .int) (C := R_Md) (T := F_Md) (N := 44) hx hb hts (fun w h => List.mem_cons_of_mem _ (i_Md w h)) t_Md tk_Md n_Md hown hE.1 hP hD hS 0 rfl rfl 43 (by decide) (hts _ (List.mem_cons_of_mem _ iw3_97)) (fun _ h9 => h9) rfl (by decide +kernel) rfl rfl (Nat.le_of_ble_eq_true rfl) d_Md_lookElement_139 (fun H locs hP hD hS => ?_)
      have hP : va_P D cls [(m0, .inr (6, mF g (K.1, K.2.1, K.2.2.1, K.2.2.2.1, nI X.length, K.2.2.2.2.2.1, K.2.2.2.2.2.2.1, K.2.2.2.2.2.2.2.1, nI a2) A0 e np B)), ((g 30), .inl (cA 3, 2000, .inl yb)), ((g 38), .inl (cA 3, 2000, .inl ow)), ((g 39), .inl (cA 3, 2000, .inl fi)), ((g 40), .inl (cA 3, 2000, .inl be))] H := hP
      have hD : va_D A [(m0, .inr (6, mF g (K.1, K.2.1, K.2.2.1, K.2.2.2.1, nI X.length, K.2.2.2.2.2.1, K.2.2.2.2.2.2.1, K.2.2.2.2.2.2.2.1, nI a2) A0 e np B)), ((g 30), .inl (cA 3, 2000, .inl yb)), ((g 38), .inl (cA 3, 2000, .inl ow)), ((g 39), .inl (cA 3, 2000, .inl fi)), ((g 40), .inl (cA 3, 2000, .inl be))] := hD
      refine lv_iload_n hx hb d_Md_lookElement_142 rfl (lv_at hl 2 rfl) ?_
      refine lv_if_eq (tgt := 155) hx hb d_Md_lookElement_143 (by decide) (fun c_143 => absurd c_143 (by decide)) (fun c_143 => ?_)
      refine lv_iload_n hx hb d_Md_lookElement_146 rfl (lv_at hl 2 rfl) ?_
      refine lv_iconst (v := 4) hx hb d_Md_lookElement_147 (by decide) ?_
      refine lv_icmp_eq (tgt := 155) hx hb d_Md_lookElement_148 (by decide) (fun c_148 => ?_) (fun c_148 => absurd (by decide) c_148)
      refine lv_iconst (v := 0) hx hb d_Md_lookElement_155 (by decide) ?_
      refine lv_istore (lv' := [(7, .int 0), (5, .long 0), (4, .int 1), (3, .int 4), (0, .ref m0), (1, .int (nI t)), (2, .int (nI wh))]) hx hb d_Md_lookElement_156 hl (by decide) rfl (fun ls hl => ?_)
      refine lv_iload hx hb d_Md_lookElement_158 (lv_at hl 0 rfl) ?_
      refine lv_if_eq (tgt := 182) hx hb d_Md_lookElement_160 (by decide) (fun c_160 => ?_) (fun c_160 => absurd (by decide) c_160)
      refine lv_ldc2 hx hb hown (hts _ (List.mem_cons_of_mem _ iw4_168)) d_Md_lookElement_182 ?_
      refine lv_lstore (lv' := [(8, .long 112), (7, .int 0), (5, .long 0), (4, .int 1), (3, .int 4), (0, .ref m0), (1, .int (nI t)), (2, .int (nI wh))]) hx hb d_Md_lookElement_185 hl (by decide) rfl (fun ls hl => ?_)
      refine lv_aload_n hx hb d_Md_lookElement_187 rfl (lv_at hl 5 rfl) ?_
      refine lv_dup hx hb d_Md_lookElement_188 rfl ?_
      refine va_get (D := D) (ci := 6) (v := .int (nI a2)) (C := R_Md) (T := F_Md) (N := 44) hx hb hts (fun w h => List.mem_cons_of_mem _ (i_Md w h)) hown hE.1 hP 0 rfl rfl 43 (by decide) (hts _ (List.mem_cons_of_mem _ iw3_97)) (fun _ h9 => h9) rfl d_Md_lookElement_189 ?_
      refine lv_iload hx hb d_Md_lookElement_192 (lv_at hl 1 rfl) ?_
      refine lv_if_eq (tgt := 201) hx hb d_Md_lookElement_194 (by decide) (fun c_194 => ?_) (fun c_194 => absurd (by decide) c_194)
      refine lv_iconst (v := 0) hx hb d_Md_lookElement_201 (by decide) ?_
      refine lv_iadd hx hb d_Md_lookElement_202 ?_
      rw [Int32.add_zero]
      refine va_put (D := D) (ci := 6) (v := .int (nI a2)) (ty := .int) (C := R_Md) (T := F_Md) (N := 44) hx hb hts (fun w h => List.mem_cons_of_mem _ (i_Md w h)) t_Md tk_Md n_Md hown hE.1 hP hD hS 0 rfl rfl 43 (by decide) (hts _ (List.mem_cons_of_mem _ iw3_97)) (fun _ h9 => h9) rfl (by decide +kernel) rfl rfl (Nat.le_of_ble_eq_true rfl) d_Md_lookElement_203 (fun H locs hP hD hS => ?_)
      have hP : va_P D cls [(m0, .inr (6, mF g (K.1, K.2.1, K.2.2.1, K.2.2.2.1, nI X.length, K.2.2.2.2.2.1, K.2.2.2.2.2.2.1, K.2.2.2.2.2.2.2.1, nI a2) A0 e np B)), ((g 30), .inl (cA 3, 2000, .inl yb)), ((g 38), .inl (cA 3, 2000, .inl ow)), ((g 39), .inl (cA 3, 2000, .inl fi)), ((g 40), .inl (cA 3, 2000, .inl be))] H := hP
      have hD : va_D A [(m0, .inr (6, mF g (K.1, K.2.1, K.2.2.1, K.2.2.2.1, nI X.length, K.2.2.2.2.2.1, K.2.2.2.2.2.2.1, K.2.2.2.2.2.2.2.1, nI a2) A0 e np B)), ((g 30), .inl (cA 3, 2000, .inl yb)), ((g 38), .inl (cA 3, 2000, .inl ow)), ((g 39), .inl (cA 3, 2000, .inl fi)), ((g 40), .inl (cA 3, 2000, .inl be))] := hD
      refine lv_iload_n hx hb d_Md_lookElement_206 rfl (lv_at hl 7 rfl) ?_
      refine lv_iconst (v := 1) hx hb d_Md_lookElement_207 (by decide) ?_
      refine lv_icmp_ne (tgt := 214) hx hb d_Md_lookElement_208 (by decide) (fun c_208 => ?_) (fun c_208 => absurd c_208 (fun q => absurd ((nI_eq (a := wh) (b := 1) (by omega) (by decide)).mp q) (by omega)))
      refine lv_aload_n hx hb d_Md_lookElement_214 rfl (lv_at hl 5 rfl) ?_
      refine cV (As := []) (rest := []) (n := 0) (wc := [(m0, .inr (6, mF g (K.1, K.2.1, K.2.2.1, K.2.2.2.1, nI X.length, K.2.2.2.2.2.1, K.2.2.2.2.2.2.1, K.2.2.2.2.2.2.2.1, nI a2) A0 e np B)), ((g 30), .inl (cA 3, 2000, .inl yb))]) (wr := [((g 38), .inl (cA 3, 2000, .inl ow)), ((g 39), .inl (cA 3, 2000, .inl fi)), ((g 40), .inl (cA 3, 2000, .inl be))]) ⟨hx, hb, hml, hown, hts⟩ hno hlocks hl.1 (c_Md_number l hl9 D cA ad H.size m0 g (K.1, K.2.1, K.2.2.1, K.2.2.2.1, nI X.length, K.2.2.2.2.2.1, K.2.2.2.2.2.2.1, K.2.2.2.2.2.2.2.1, nI a2) A0 e np B yb b lm hlm hyb hb9 a2 n a4 (by omega) he4) iw4_132 iw4_134 sel_Md_number iw1_7 iw4_135 (by decide +kernel) rfl ⟨Nat.le_of_ble_eq_true rfl, Nat.le_of_ble_eq_true rfl⟩ ⟨Nat.le_of_ble_eq_true rfl, Nat.le_of_ble_eq_true rfl⟩ rfl (Nat.le_of_ble_eq_true rfl) d_Md_lookElement_215 hE hP hD hS hA [0, 1] [2, 3, 4] rfl rfl rfl rfl (by decide) (ci := 6) rfl rfl 0 rfl (fun _ h => h.elim) (fun v_215 u_215 H locs hp_215 hP hD hS => ?_)
      obtain rfl := hp_215
      have hP : va_P D cls [(m0, .inr (6, mF g (K.1, K.2.1, K.2.2.1, K.2.2.2.1, nI X.length, K.2.2.2.2.2.1, K.2.2.2.2.2.2.1, K.2.2.2.2.2.2.2.1, nI a4) A0 e np B)), ((g 30), .inl (cA 3, 2000, .inl yb)), ((g 38), .inl (cA 3, 2000, .inl ow)), ((g 39), .inl (cA 3, 2000, .inl fi)), ((g 40), .inl (cA 3, 2000, .inl be))] H := hP.sub [3, 4, 0, 1, 2] rfl
      have hD : va_D A [(m0, .inr (6, mF g (K.1, K.2.1, K.2.2.1, K.2.2.2.1, nI X.length, K.2.2.2.2.2.1, K.2.2.2.2.2.2.1, K.2.2.2.2.2.2.2.1, nI a4) A0 e np B)), ((g 30), .inl (cA 3, 2000, .inl yb)), ((g 38), .inl (cA 3, 2000, .inl ow)), ((g 39), .inl (cA 3, 2000, .inl fi)), ((g 40), .inl (cA 3, 2000, .inl be))] := hD.sub [3, 4, 0, 1, 2] (by decide) rfl
      refine W.cs (cells' := 0) (slots' := 0) rfl rfl ?_
      refine W.eq (g2 := F0 m 218 ls [.long (lN n)]) rfl ?_
      refine lv_lstore (lv' := [(10, .long (lN n)), (8, .long 112), (7, .int 0), (5, .long 0), (4, .int 1), (3, .int 4), (0, .ref m0), (1, .int (nI t)), (2, .int (nI wh))]) hx hb d_Md_lookElement_218 hl (by decide) rfl (fun ls hl => ?_)
      refine lv_iload_n hx hb d_Md_lookElement_220 rfl (lv_at hl 8 rfl) ?_
      refine lv_iconst (v := 3) hx hb d_Md_lookElement_221 (by decide) ?_
      refine lv_icmp_ne (tgt := 228) hx hb d_Md_lookElement_222 (by decide) (fun c_222 => ?_) (fun c_222 => absurd c_222 (fun q => absurd ((nI_eq (a := wh) (b := 3) (by omega) (by decide)).mp q) (by omega)))
      refine lv_iload_n hx hb d_Md_lookElement_228 rfl (lv_at hl 8 rfl) ?_
      refine lv_bipush (v := 8) hx hb d_Md_lookElement_229 (by decide) ?_
      refine lv_icmp_lt (tgt := 245) hx hb d_Md_lookElement_231 (by decide) (fun c_231 => absurd c_231 (nI_nlt (a := wh) (b := 8) (by omega) (by omega))) (fun c_231 => ?_)
      refine lv_iload_n hx hb d_Md_lookElement_234 rfl (lv_at hl 8 rfl) ?_
      refine lv_bipush (v := 8) hx hb d_Md_lookElement_235 (by decide) ?_
      refine lv_isub hx hb d_Md_lookElement_237 ?_
      refine lv_i2l hx hb d_Md_lookElement_238 rfl ?_
      refine lv_lload hx hb d_Md_lookElement_239 (lv_at hl 0 rfl) ?_
      rw [show (8 : Int32) = nI 8 from rfl, pk_sub hw8, nI_l (n := wh - 8) (by omega)]
      refine W.lcmp hx hb d_Md_lookElement_241 ?_
      refine lv_if_lt (tgt := 249) hx hb d_Md_lookElement_242 (by decide) (fun c_242 => ?_) (fun c_242 => ?_)
      · have hin : wh - 8 < n := (pk_lLT (by omega) (by omega)).mp ((lg_cmp_lt _ _).mp c_242)
        refine lv_iload_n hx hb d_Md_lookElement_249 rfl (lv_at hl 5 rfl) ?_
        refine lv_iconst (v := 4) hx hb d_Md_lookElement_250 (by decide) ?_
        refine lv_iand hx hb d_Md_lookElement_251 ?_
        refine W.eq (g2 := F0 m 252 ls [.int 4]) (by rw [show (4 : Int32) &&& 4 = 4 from by decide +kernel]) ?_
        refine lv_if_eq (tgt := 282) hx hb d_Md_lookElement_252 (by decide) (fun c_252 => absurd c_252 (by decide)) (fun c_252 => ?_)
        refine lv_aload_n hx hb d_Md_lookElement_255 rfl (lv_at hl 6 rfl) ?_
        refine va_get (D := D) (ci := 6) (v := .ref (g 39)) (C := R_Md) (T := F_Md) (N := 44) hx hb hts (fun w h => List.mem_cons_of_mem _ (i_Md w h)) hown hE.1 hP 0 rfl rfl 39 (by decide) (hts _ (List.mem_cons_of_mem _ iw3_93)) (fun _ h9 => h9) rfl d_Md_lookElement_256 ?_
        refine lv_aload_n hx hb d_Md_lookElement_259 rfl (lv_at hl 6 rfl) ?_
        refine lv_iload_n hx hb d_Md_lookElement_260 rfl (lv_at hl 7 rfl) ?_
        refine lv_iload_n hx hb d_Md_lookElement_261 rfl (lv_at hl 8 rfl) ?_
        refine lv_bipush (v := 8) hx hb d_Md_lookElement_262 (by decide) ?_
        refine lv_isub hx hb d_Md_lookElement_264 ?_
        refine lv_iload hx hb d_Md_lookElement_265 (lv_at hl 4 rfl) ?_
        refine lv_if_eq (tgt := 274) hx hb d_Md_lookElement_267 (by decide) (fun c_267 => absurd c_267 (by decide)) (fun c_267 => ?_)
        refine lv_iconst (v := 1) hx hb d_Md_lookElement_270 (by decide) ?_
        refine lv_goto (tgt := 275) hx hb d_Md_lookElement_271 (by decide) ?_
        refine lv_iadd hx hb d_Md_lookElement_275 ?_
        rw [show nI wh - 8 + 1 = nI (wh - 8 + 1) from by rw [show (8 : Int32) = nI 8 from rfl, pk_sub hw8]; exact nI_add (wh - 8) 1]
        refine cV (As := [.int (nI t), .int (nI (wh - 8 + 1))]) (rest := [.ref (g 39)]) (n := 2) (wc := [(m0, .inr (6, mF g (K.1, K.2.1, K.2.2.1, K.2.2.2.1, nI X.length, K.2.2.2.2.2.1, K.2.2.2.2.2.2.1, K.2.2.2.2.2.2.2.1, nI a4) A0 e np B)), ((g 38), .inl (cA 3, 2000, .inl ow))]) (wr := [((g 30), .inl (cA 3, 2000, .inl yb)), ((g 39), .inl (cA 3, 2000, .inl fi)), ((g 40), .inl (cA 3, 2000, .inl be))]) ⟨hx, hb, hml, hown, hts⟩ hno hlocks hl.1 (c_Md_expressionOf l hl9 D cA ad H.size m0 g (K.1, K.2.1, K.2.2.1, K.2.2.2.1, nI X.length, K.2.2.2.2.2.1, K.2.2.2.2.2.2.1, K.2.2.2.2.2.2.2.1, nI a4) A0 e np B ow fi be X hXH hXf hX t (by omega) (wh - 8 + 1) (by omega)) iw4_156 iw4_158 sel_Md_expressionOf iw1_7 iw4_159 (by decide +kernel) rfl ⟨Nat.le_of_ble_eq_true rfl, Nat.le_of_ble_eq_true rfl⟩ ⟨Nat.le_of_ble_eq_true rfl, Nat.le_of_ble_eq_true rfl⟩ rfl (Nat.le_of_ble_eq_true rfl) d_Md_lookElement_276 hE hP hD hS hA [0, 2] [1, 3, 4] rfl rfl rfl rfl (by decide) (ci := 6) rfl rfl 0 rfl (fun _ h => h.elim) (fun v_276 u_276 H locs hp_276 hP hD hS => ?_)
        rcases hp_276 with ⟨rfl, hno261⟩ | ⟨e261_, f261_, z261_, he261, rfl, hg261, hfi261, hbe261, hfb261, hzb261⟩
        · exact absurd hno261 (by rw [hexx, List.length_cons]; omega)
        have hP : va_P D cls [(m0, .inr (6, mF g (K.1, K.2.1, K.2.2.1, K.2.2.2.1, nI X.length, K.2.2.2.2.2.1, K.2.2.2.2.2.2.1, K.2.2.2.2.2.2.2.1, nI a4) A0 e np B)), ((g 30), .inl (cA 3, 2000, .inl yb)), ((g 38), .inl (cA 3, 2000, .inl ow)), ((g 39), .inl (cA 3, 2000, .inl fi)), ((g 40), .inl (cA 3, 2000, .inl be))] H := hP.sub [3, 0, 4, 1, 2] rfl
        have hD : va_D A [(m0, .inr (6, mF g (K.1, K.2.1, K.2.2.1, K.2.2.2.1, nI X.length, K.2.2.2.2.2.1, K.2.2.2.2.2.2.1, K.2.2.2.2.2.2.2.1, nI a4) A0 e np B)), ((g 30), .inl (cA 3, 2000, .inl yb)), ((g 38), .inl (cA 3, 2000, .inl ow)), ((g 39), .inl (cA 3, 2000, .inl fi)), ((g 40), .inl (cA 3, 2000, .inl be))] := hD.sub [3, 0, 4, 1, 2] (by decide) rfl
        refine W.cs (cells' := 0) (slots' := 0) rfl rfl ?_
        refine W.eq (g2 := F0 m 279 ls [.int (nI e261_), .ref (g 39)]) rfl ?_
        refine va_iald hx hb hE.1 hP 3 3 rfl rfl (vp_in_nI (by omega) (by omega)) d_Md_lookElement_279 ?_
        rw [nI_clamp (n := e261_) (by omega), hfi261]
        refine lv_i2l hx hb d_Md_lookElement_280 rfl ?_
        rw [nI_l (n := f261_) (by omega)]
        have hgx : exs[wh - 8]? = some (f261_, z261_) := by rw [hexx, List.getElem?_cons_succ] at hg261; exact hg261
        exact cRl (nI a4) hx hb hr hlocks d_Md_lookElement_281 hS hP hD (by rw [lkS, if_pos (show 8 ≤ wh by omega), if_pos rfl, lst_in (z := vp_updL (vp_updL (vp_updL (vp_updL (vp_updL (vp_updL (vp_updL (vp_updL (vp_updL c_1 0 (elM 4)) 2 0) 4 (lN a1)) 5 (lN a2)) 1 (lN 112)) 6 (elS 4)) 3 (lN n)) 7 (lN nl)) 8 (lN n)) (cs := 7) (cn := 8) (M := n) (nl := nl) rfl rfl (by omega) hnl hitl.1 hseg (show wh - 8 < n by omega), hitx, List.getD_eq_getElem?_getD, List.getElem?_map, hgx]; rfl) (Nat.le_refl _) (Nat.le_refl _)
      · refine lv_ldc2 hx hb hown (hts _ (List.mem_cons_of_mem _ iw3_204)) d_Md_lookElement_245 ?_
        exact cRl (nI a4) hx hb hr hlocks d_Md_lookElement_248 hS hP hD (by rw [lkS, if_pos (show 8 ≤ wh by omega), if_pos rfl, lst_out (z := vp_updL (vp_updL (vp_updL (vp_updL (vp_updL (vp_updL (vp_updL (vp_updL (vp_updL c_1 0 (elM 4)) 2 0) 4 (lN a1)) 5 (lN a2)) 1 (lN 112)) 6 (elS 4)) 3 (lN n)) 7 (lN nl)) 8 (lN n)) (cs := 7) (cn := 8) (M := n) rfl (by omega) (by omega) (by have := (pk_lLE (a := n) (b := wh - 8) (by omega) (by omega)).mp (Int64.not_lt.mp (fun q => c_242 ((lg_cmp_lt _ _).mpr q))); omega)]) (Nat.le_refl _) (Nat.le_refl _)
  · obtain ⟨ec2, ea2⟩ : vp_updL (vp_updL c_1 0 (elM 5)) 2 0 = c2 ∧ a1 = a2 := by have q : (Sum.inr (vp_updL (vp_updL c_1 0 (elM 5)) 2 0, a1) : PR (Nat → Int64)) = .inr (c2, a2) := he2; cases q; exact ⟨rfl, rfl⟩
    subst ea2
    subst ec2
    have he3 : pType tRef b lm a1 = .inr (tt, a3) := he3
    obtain ⟨h71, h72, h73⟩ := pType_inv he3
    subst h72
    subst h73
    have hexx : exO t X = exs := hexx
    have hitx := hitx (by decide)
    have hexl : exs.length = n := by have q := hitl.1; rw [hitx, List.length_map] at q; exact q
    rcases (show wh = 0 ∨ wh = 1 ∨ wh = 2 ∨ wh = 3 ∨ wh = 4 ∨ wh = 5 ∨ wh = 6 ∨ wh = 7 ∨ 8 ≤ wh by omega) with rfl | rfl | rfl | rfl | rfl | rfl | rfl | rfl | hw8
    · have hl : lv_has ls 13 [(0, .ref m0), (1, .int (nI t)), (2, .int 0)] := hl
      refine lv_aload_n hx hb d_Md_lookElement_0 rfl (lv_at hl 0 rfl) ?_
      refine cV (As := []) (rest := []) (n := 0) (wc := [(m0, .inr (6, mF g (K.1, K.2.1, K.2.2.1, K.2.2.2.1, nI X.length, K.2.2.2.2.2.1, K.2.2.2.2.2.2.1, K.2.2.2.2.2.2.2.1, nI a) A0 e np B)), ((g 30), .inl (cA 3, 2000, .inl yb))]) (wr := [((g 38), .inl (cA 3, 2000, .inl ow)), ((g 39), .inl (cA 3, 2000, .inl fi)), ((g 40), .inl (cA 3, 2000, .inl be))]) ⟨hx, hb, hml, hown, hts⟩ hno hlocks hl.1 (c_Md_number l hl9 D cA ad s.heap.size m0 g (K.1, K.2.1, K.2.2.1, K.2.2.2.1, nI X.length, K.2.2.2.2.2.1, K.2.2.2.2.2.2.1, K.2.2.2.2.2.2.2.1, nI a) A0 e np B yb b lm hlm hyb hb9 a 5 a1 (by omega) hmu) iw4_132 iw4_134 sel_Md_number iw1_7 iw4_135 (by decide +kernel) rfl ⟨Nat.le_of_ble_eq_true rfl, Nat.le_of_ble_eq_true rfl⟩ ⟨Nat.le_of_ble_eq_true rfl, Nat.le_of_ble_eq_true rfl⟩ rfl (Nat.le_of_ble_eq_true rfl) d_Md_lookElement_1 hE hP hD hS hA [0, 1] [2, 3, 4] rfl rfl rfl rfl (by decide) (ci := 6) rfl rfl 0 rfl (fun _ h => h.elim) (fun v_1 u_1 H locs hp_1 hP hD hS => ?_)
      obtain rfl := hp_1
      have hP : va_P D cls [(m0, .inr (6, mF g (K.1, K.2.1, K.2.2.1, K.2.2.2.1, nI X.length, K.2.2.2.2.2.1, K.2.2.2.2.2.2.1, K.2.2.2.2.2.2.2.1, nI a1) A0 e np B)), ((g 30), .inl (cA 3, 2000, .inl yb)), ((g 38), .inl (cA 3, 2000, .inl ow)), ((g 39), .inl (cA 3, 2000, .inl fi)), ((g 40), .inl (cA 3, 2000, .inl be))] H := hP.sub [3, 4, 0, 1, 2] rfl
      have hD : va_D A [(m0, .inr (6, mF g (K.1, K.2.1, K.2.2.1, K.2.2.2.1, nI X.length, K.2.2.2.2.2.1, K.2.2.2.2.2.2.1, K.2.2.2.2.2.2.2.1, nI a1) A0 e np B)), ((g 30), .inl (cA 3, 2000, .inl yb)), ((g 38), .inl (cA 3, 2000, .inl ow)), ((g 39), .inl (cA 3, 2000, .inl fi)), ((g 40), .inl (cA 3, 2000, .inl be))] := hD.sub [3, 4, 0, 1, 2] (by decide) rfl
      refine W.cs (cells' := 0) (slots' := 0) rfl rfl ?_
      refine W.eq (g2 := F0 m 4 ls [.long (lN 5)]) rfl ?_
      refine lv_l2i hx hb d_Md_lookElement_4 rfl ?_
      refine W.eq (g2 := F0 m 5 ls [.int 5]) (by rw [lN_i]; rfl) ?_
      refine lv_istore_n (lv' := [(3, .int 5), (0, .ref m0), (1, .int (nI t)), (2, .int 0)]) hx hb d_Md_lookElement_5 rfl hl (by decide) rfl (fun ls hl => ?_)
      refine lv_iload_n hx hb d_Md_lookElement_6 rfl (lv_at hl 0 rfl) ?_
      refine lv_iconst (v := 1) hx hb d_Md_lookElement_7 (by decide) ?_
      refine lv_iand hx hb d_Md_lookElement_8 ?_
      refine W.eq (g2 := F0 m 9 ls [.int 1]) (by rw [show (5 : Int32) &&& 1 = 1 from by decide +kernel]) ?_
      refine lv_if_ne (tgt := 16) hx hb d_Md_lookElement_9 (by decide) (fun c_9 => ?_) (fun c_9 => absurd c_9 (by decide))
      refine lv_iconst (v := 0) hx hb d_Md_lookElement_16 (by decide) ?_
      refine lv_istore (lv' := [(4, .int 0), (3, .int 5), (0, .ref m0), (1, .int (nI t)), (2, .int 0)]) hx hb d_Md_lookElement_17 hl (by decide) rfl (fun ls hl => ?_)
      refine lv_iload hx hb d_Md_lookElement_19 (lv_at hl 0 rfl) ?_
      refine lv_if_eq (tgt := 37) hx hb d_Md_lookElement_21 (by decide) (fun c_21 => ?_) (fun c_21 => absurd (by decide) c_21)
      refine lv_lconst (v := 0) hx hb d_Md_lookElement_37 (by decide) ?_
      refine lv_lstore (lv' := [(5, .long 0), (4, .int 0), (3, .int 5), (0, .ref m0), (1, .int (nI t)), (2, .int 0)]) hx hb d_Md_lookElement_38 hl (by decide) rfl (fun ls hl => ?_)
      refine lv_iload_n hx hb d_Md_lookElement_40 rfl (lv_at hl 5 rfl) ?_
      refine lv_if_ne (tgt := 67) hx hb d_Md_lookElement_41 (by decide) (fun c_41 => absurd (by decide) c_41) (fun c_41 => ?_)
      refine lv_iload hx hb d_Md_lookElement_44 (lv_at hl 1 rfl) ?_
      refine lv_if_eq (tgt := 53) hx hb d_Md_lookElement_46 (by decide) (fun c_46 => ?_) (fun c_46 => absurd (by decide) c_46)
      refine lv_iload_n hx hb d_Md_lookElement_53 rfl (lv_at hl 2 rfl) ?_
      refine lv_iconst (v := 2) hx hb d_Md_lookElement_54 (by decide) ?_
      refine lv_iand hx hb d_Md_lookElement_55 ?_
      refine W.eq (g2 := F0 m 56 ls [.int 0]) (by rw [show (5 : Int32) &&& 2 = 0 from by decide +kernel]) ?_
      refine lv_if_eq (tgt := 65) hx hb d_Md_lookElement_56 (by decide) (fun c_56 => ?_) (fun c_56 => absurd (by decide) c_56)
      refine lv_lconst (v := 0) hx hb d_Md_lookElement_65 (by decide) ?_
      exact cRl (nI a1) hx hb hr hlocks d_Md_lookElement_66 hS hP hD (rfl) (Nat.le_refl _) (Nat.le_refl _)
    · have hl : lv_has ls 13 [(0, .ref m0), (1, .int (nI t)), (2, .int 1)] := hl
      refine lv_aload_n hx hb d_Md_lookElement_0 rfl (lv_at hl 0 rfl) ?_
      refine cV (As := []) (rest := []) (n := 0) (wc := [(m0, .inr (6, mF g (K.1, K.2.1, K.2.2.1, K.2.2.2.1, nI X.length, K.2.2.2.2.2.1, K.2.2.2.2.2.2.1, K.2.2.2.2.2.2.2.1, nI a) A0 e np B)), ((g 30), .inl (cA 3, 2000, .inl yb))]) (wr := [((g 38), .inl (cA 3, 2000, .inl ow)), ((g 39), .inl (cA 3, 2000, .inl fi)), ((g 40), .inl (cA 3, 2000, .inl be))]) ⟨hx, hb, hml, hown, hts⟩ hno hlocks hl.1 (c_Md_number l hl9 D cA ad s.heap.size m0 g (K.1, K.2.1, K.2.2.1, K.2.2.2.1, nI X.length, K.2.2.2.2.2.1, K.2.2.2.2.2.2.1, K.2.2.2.2.2.2.2.1, nI a) A0 e np B yb b lm hlm hyb hb9 a 5 a1 (by omega) hmu) iw4_132 iw4_134 sel_Md_number iw1_7 iw4_135 (by decide +kernel) rfl ⟨Nat.le_of_ble_eq_true rfl, Nat.le_of_ble_eq_true rfl⟩ ⟨Nat.le_of_ble_eq_true rfl, Nat.le_of_ble_eq_true rfl⟩ rfl (Nat.le_of_ble_eq_true rfl) d_Md_lookElement_1 hE hP hD hS hA [0, 1] [2, 3, 4] rfl rfl rfl rfl (by decide) (ci := 6) rfl rfl 0 rfl (fun _ h => h.elim) (fun v_1 u_1 H locs hp_1 hP hD hS => ?_)
      obtain rfl := hp_1
      have hP : va_P D cls [(m0, .inr (6, mF g (K.1, K.2.1, K.2.2.1, K.2.2.2.1, nI X.length, K.2.2.2.2.2.1, K.2.2.2.2.2.2.1, K.2.2.2.2.2.2.2.1, nI a1) A0 e np B)), ((g 30), .inl (cA 3, 2000, .inl yb)), ((g 38), .inl (cA 3, 2000, .inl ow)), ((g 39), .inl (cA 3, 2000, .inl fi)), ((g 40), .inl (cA 3, 2000, .inl be))] H := hP.sub [3, 4, 0, 1, 2] rfl
      have hD : va_D A [(m0, .inr (6, mF g (K.1, K.2.1, K.2.2.1, K.2.2.2.1, nI X.length, K.2.2.2.2.2.1, K.2.2.2.2.2.2.1, K.2.2.2.2.2.2.2.1, nI a1) A0 e np B)), ((g 30), .inl (cA 3, 2000, .inl yb)), ((g 38), .inl (cA 3, 2000, .inl ow)), ((g 39), .inl (cA 3, 2000, .inl fi)), ((g 40), .inl (cA 3, 2000, .inl be))] := hD.sub [3, 4, 0, 1, 2] (by decide) rfl
      refine W.cs (cells' := 0) (slots' := 0) rfl rfl ?_
      refine W.eq (g2 := F0 m 4 ls [.long (lN 5)]) rfl ?_
      refine lv_l2i hx hb d_Md_lookElement_4 rfl ?_
      refine W.eq (g2 := F0 m 5 ls [.int 5]) (by rw [lN_i]; rfl) ?_
      refine lv_istore_n (lv' := [(3, .int 5), (0, .ref m0), (1, .int (nI t)), (2, .int 1)]) hx hb d_Md_lookElement_5 rfl hl (by decide) rfl (fun ls hl => ?_)
      refine lv_iload_n hx hb d_Md_lookElement_6 rfl (lv_at hl 0 rfl) ?_
      refine lv_iconst (v := 1) hx hb d_Md_lookElement_7 (by decide) ?_
      refine lv_iand hx hb d_Md_lookElement_8 ?_
      refine W.eq (g2 := F0 m 9 ls [.int 1]) (by rw [show (5 : Int32) &&& 1 = 1 from by decide +kernel]) ?_
      refine lv_if_ne (tgt := 16) hx hb d_Md_lookElement_9 (by decide) (fun c_9 => ?_) (fun c_9 => absurd c_9 (by decide))
      refine lv_iconst (v := 0) hx hb d_Md_lookElement_16 (by decide) ?_
      refine lv_istore (lv' := [(4, .int 0), (3, .int 5), (0, .ref m0), (1, .int (nI t)), (2, .int 1)]) hx hb d_Md_lookElement_17 hl (by decide) rfl (fun ls hl => ?_)
      refine lv_iload hx hb d_Md_lookElement_19 (lv_at hl 0 rfl) ?_
      refine lv_if_eq (tgt := 37) hx hb d_Md_lookElement_21 (by decide) (fun c_21 => ?_) (fun c_21 => absurd (by decide) c_21)
      refine lv_lconst (v := 0) hx hb d_Md_lookElement_37 (by decide) ?_
      refine lv_lstore (lv' := [(5, .long 0), (4, .int 0), (3, .int 5), (0, .ref m0), (1, .int (nI t)), (2, .int 1)]) hx hb d_Md_lookElement_38 hl (by decide) rfl (fun ls hl => ?_)
      refine lv_iload_n hx hb d_Md_lookElement_40 rfl (lv_at hl 5 rfl) ?_
      refine lv_if_ne (tgt := 67) hx hb d_Md_lookElement_41 (by decide) (fun c_41 => ?_) (fun c_41 => absurd c_41 (by decide))
      refine lv_iload_n hx hb d_Md_lookElement_67 rfl (lv_at hl 5 rfl) ?_
      refine lv_iconst (v := 2) hx hb d_Md_lookElement_68 (by decide) ?_
      refine lv_icmp_ne (tgt := 75) hx hb d_Md_lookElement_69 (by decide) (fun c_69 => ?_) (fun c_69 => absurd c_69 (by decide))
      refine lv_iload_n hx hb d_Md_lookElement_75 rfl (lv_at hl 5 rfl) ?_
      refine lv_iconst (v := 4) hx hb d_Md_lookElement_76 (by decide) ?_
      refine lv_icmp_eq (tgt := 85) hx hb d_Md_lookElement_77 (by decide) (fun c_77 => absurd c_77 (by decide)) (fun c_77 => ?_)
      refine lv_iload_n hx hb d_Md_lookElement_80 rfl (lv_at hl 5 rfl) ?_
      refine lv_iconst (v := 5) hx hb d_Md_lookElement_81 (by decide) ?_
      refine lv_icmp_ne (tgt := 104) hx hb d_Md_lookElement_82 (by decide) (fun c_82 => ?_) (fun c_82 => absurd c_82 (by decide))
      refine lv_iload_n hx hb d_Md_lookElement_104 rfl (lv_at hl 5 rfl) ?_
      refine lv_bipush (v := 6) hx hb d_Md_lookElement_105 (by decide) ?_
      refine lv_icmp_ne (tgt := 122) hx hb d_Md_lookElement_107 (by decide) (fun c_107 => ?_) (fun c_107 => absurd c_107 (by decide))
      refine lv_iload hx hb d_Md_lookElement_122 (lv_at hl 1 rfl) ?_
      refine lv_if_eq (tgt := 142) hx hb d_Md_lookElement_124 (by decide) (fun c_124 => ?_) (fun c_124 => absurd (by decide) c_124)
      refine lv_iload_n hx hb d_Md_lookElement_142 rfl (lv_at hl 2 rfl) ?_
      refine lv_if_eq (tgt := 155) hx hb d_Md_lookElement_143 (by decide) (fun c_143 => absurd c_143 (by decide)) (fun c_143 => ?_)
      refine lv_iload_n hx hb d_Md_lookElement_146 rfl (lv_at hl 2 rfl) ?_
      refine lv_iconst (v := 4) hx hb d_Md_lookElement_147 (by decide) ?_
      refine lv_icmp_eq (tgt := 155) hx hb d_Md_lookElement_148 (by decide) (fun c_148 => absurd c_148 (by decide)) (fun c_148 => ?_)
      refine lv_iconst (v := 1) hx hb d_Md_lookElement_151 (by decide) ?_
      refine lv_goto (tgt := 156) hx hb d_Md_lookElement_152 (by decide) ?_
      refine lv_istore (lv' := [(7, .int 1), (5, .long 0), (4, .int 0), (3, .int 5), (0, .ref m0), (1, .int (nI t)), (2, .int 1)]) hx hb d_Md_lookElement_156 hl (by decide) rfl (fun ls hl => ?_)
      refine lv_iload hx hb d_Md_lookElement_158 (lv_at hl 0 rfl) ?_
      refine lv_if_eq (tgt := 182) hx hb d_Md_lookElement_160 (by decide) (fun c_160 => absurd c_160 (by decide)) (fun c_160 => ?_)
      refine lv_iload_n hx hb d_Md_lookElement_163 rfl (lv_at hl 3 rfl) ?_
      refine lv_iconst (v := 4) hx hb d_Md_lookElement_164 (by decide) ?_
      refine lv_iand hx hb d_Md_lookElement_165 ?_
      refine W.eq (g2 := F0 m 166 ls [.int 4]) (by rw [show (5 : Int32) &&& 4 = 4 from by decide +kernel]) ?_
      refine lv_if_eq (tgt := 182) hx hb d_Md_lookElement_166 (by decide) (fun c_166 => absurd c_166 (by decide)) (fun c_166 => ?_)
      refine lv_aload_n hx hb d_Md_lookElement_169 rfl (lv_at hl 4 rfl) ?_
      refine va_get (D := D) (ci := 6) (v := .ref (g 30)) (C := R_Md) (T := F_Md) (N := 44) hx hb hts (fun w h => List.mem_cons_of_mem _ (i_Md w h)) hown hE.1 hP 0 rfl rfl 30 (by decide) (hts _ (List.mem_cons_of_mem _ iw3_84)) (fun _ h9 => h9) rfl d_Md_lookElement_170 ?_
      refine lv_aload_n hx hb d_Md_lookElement_173 rfl (lv_at hl 4 rfl) ?_
      refine va_get (D := D) (ci := 6) (v := .int (nI a1)) (C := R_Md) (T := F_Md) (N := 44) hx hb hts (fun w h => List.mem_cons_of_mem _ (i_Md w h)) hown hE.1 hP 0 rfl rfl 43 (by decide) (hts _ (List.mem_cons_of_mem _ iw3_97)) (fun _ h9 => h9) rfl d_Md_lookElement_174 ?_
      refine va_iald hx hb hE.1 hP 1 3 rfl rfl (vp_in_nI (by omega) (by omega)) d_Md_lookElement_177 ?_
      rw [nI_clamp (n := a1) (by omega), hyb a1 (by omega)]
      refine lv_i2l hx hb d_Md_lookElement_178 rfl ?_
      rw [nI_l (n := b a1) (by have := hb9 a1; omega)]
      refine lv_goto (tgt := 185) hx hb d_Md_lookElement_179 (by decide) ?_
      refine lv_lstore (lv' := [(8, .long (lN (b a1))), (7, .int 1), (5, .long 0), (4, .int 0), (3, .int 5), (0, .ref m0), (1, .int (nI t)), (2, .int 1)]) hx hb d_Md_lookElement_185 hl (by decide) rfl (fun ls hl => ?_)
      refine lv_aload_n hx hb d_Md_lookElement_187 rfl (lv_at hl 5 rfl) ?_
      refine lv_dup hx hb d_Md_lookElement_188 rfl ?_
      refine va_get (D := D) (ci := 6) (v := .int (nI a1)) (C := R_Md) (T := F_Md) (N := 44) hx hb hts (fun w h => List.mem_cons_of_mem _ (i_Md w h)) hown hE.1 hP 0 rfl rfl 43 (by decide) (hts _ (List.mem_cons_of_mem _ iw3_97)) (fun _ h9 => h9) rfl d_Md_lookElement_189 ?_
      refine lv_iload hx hb d_Md_lookElement_192 (lv_at hl 1 rfl) ?_
      refine lv_if_eq (tgt := 201) hx hb d_Md_lookElement_194 (by decide) (fun c_194 => absurd c_194 (by decide)) (fun c_194 => ?_)
      refine lv_iconst (v := 1) hx hb d_Md_lookElement_197 (by decide) ?_
      refine lv_goto (tgt := 202) hx hb d_Md_lookElement_198 (by decide) ?_
      refine lv_iadd hx hb d_Md_lookElement_202 ?_
      rw [nI_1]
      refine va_put (D := D) (ci := 6) (v := .int (nI (a1 + 1))) (ty := .int) (C := R_Md) (T := F_Md) (N := 44) hx hb hts (fun w h => List.mem_cons_of_mem _ (i_Md w h)) t_Md tk_Md n_Md hown hE.1 hP hD hS 0 rfl rfl 43 (by decide) (hts _ (List.mem_cons_of_mem _ iw3_97)) (fun _ h9 => h9) rfl (by decide +kernel) rfl rfl (Nat.le_of_ble_eq_true rfl) d_Md_lookElement_203 (fun H locs hP hD hS => ?_)
      have hP : va_P D cls [(m0, .inr (6, mF g (K.1, K.2.1, K.2.2.1, K.2.2.2.1, nI X.length, K.2.2.2.2.2.1, K.2.2.2.2.2.2.1, K.2.2.2.2.2.2.2.1, nI (a1 + 1)) A0 e np B)), ((g 30), .inl (cA 3, 2000, .inl yb)), ((g 38), .inl (cA 3, 2000, .inl ow)), ((g 39), .inl (cA 3, 2000, .inl fi)), ((g 40), .inl (cA 3, 2000, .inl be))] H := hP
      have hD : va_D A [(m0, .inr (6, mF g (K.1, K.2.1, K.2.2.1, K.2.2.2.1, nI X.length, K.2.2.2.2.2.1, K.2.2.2.2.2.2.1, K.2.2.2.2.2.2.2.1, nI (a1 + 1)) A0 e np B)), ((g 30), .inl (cA 3, 2000, .inl yb)), ((g 38), .inl (cA 3, 2000, .inl ow)), ((g 39), .inl (cA 3, 2000, .inl fi)), ((g 40), .inl (cA 3, 2000, .inl be))] := hD
      refine lv_iload_n hx hb d_Md_lookElement_206 rfl (lv_at hl 7 rfl) ?_
      refine lv_iconst (v := 1) hx hb d_Md_lookElement_207 (by decide) ?_
      refine lv_icmp_ne (tgt := 214) hx hb d_Md_lookElement_208 (by decide) (fun c_208 => absurd (by decide) c_208) (fun c_208 => ?_)
      refine lv_lload hx hb d_Md_lookElement_211 (lv_at hl 0 rfl) ?_
      exact cRl (nI (a1 + 1)) hx hb hr hlocks d_Md_lookElement_213 hS hP hD (rfl) (Nat.le_refl _) (Nat.le_refl _)
    · have hl : lv_has ls 13 [(0, .ref m0), (1, .int (nI t)), (2, .int 2)] := hl
      refine lv_aload_n hx hb d_Md_lookElement_0 rfl (lv_at hl 0 rfl) ?_
      refine cV (As := []) (rest := []) (n := 0) (wc := [(m0, .inr (6, mF g (K.1, K.2.1, K.2.2.1, K.2.2.2.1, nI X.length, K.2.2.2.2.2.1, K.2.2.2.2.2.2.1, K.2.2.2.2.2.2.2.1, nI a) A0 e np B)), ((g 30), .inl (cA 3, 2000, .inl yb))]) (wr := [((g 38), .inl (cA 3, 2000, .inl ow)), ((g 39), .inl (cA 3, 2000, .inl fi)), ((g 40), .inl (cA 3, 2000, .inl be))]) ⟨hx, hb, hml, hown, hts⟩ hno hlocks hl.1 (c_Md_number l hl9 D cA ad s.heap.size m0 g (K.1, K.2.1, K.2.2.1, K.2.2.2.1, nI X.length, K.2.2.2.2.2.1, K.2.2.2.2.2.2.1, K.2.2.2.2.2.2.2.1, nI a) A0 e np B yb b lm hlm hyb hb9 a 5 a1 (by omega) hmu) iw4_132 iw4_134 sel_Md_number iw1_7 iw4_135 (by decide +kernel) rfl ⟨Nat.le_of_ble_eq_true rfl, Nat.le_of_ble_eq_true rfl⟩ ⟨Nat.le_of_ble_eq_true rfl, Nat.le_of_ble_eq_true rfl⟩ rfl (Nat.le_of_ble_eq_true rfl) d_Md_lookElement_1 hE hP hD hS hA [0, 1] [2, 3, 4] rfl rfl rfl rfl (by decide) (ci := 6) rfl rfl 0 rfl (fun _ h => h.elim) (fun v_1 u_1 H locs hp_1 hP hD hS => ?_)
      obtain rfl := hp_1
      have hP : va_P D cls [(m0, .inr (6, mF g (K.1, K.2.1, K.2.2.1, K.2.2.2.1, nI X.length, K.2.2.2.2.2.1, K.2.2.2.2.2.2.1, K.2.2.2.2.2.2.2.1, nI a1) A0 e np B)), ((g 30), .inl (cA 3, 2000, .inl yb)), ((g 38), .inl (cA 3, 2000, .inl ow)), ((g 39), .inl (cA 3, 2000, .inl fi)), ((g 40), .inl (cA 3, 2000, .inl be))] H := hP.sub [3, 4, 0, 1, 2] rfl
      have hD : va_D A [(m0, .inr (6, mF g (K.1, K.2.1, K.2.2.1, K.2.2.2.1, nI X.length, K.2.2.2.2.2.1, K.2.2.2.2.2.2.1, K.2.2.2.2.2.2.2.1, nI a1) A0 e np B)), ((g 30), .inl (cA 3, 2000, .inl yb)), ((g 38), .inl (cA 3, 2000, .inl ow)), ((g 39), .inl (cA 3, 2000, .inl fi)), ((g 40), .inl (cA 3, 2000, .inl be))] := hD.sub [3, 4, 0, 1, 2] (by decide) rfl
      refine W.cs (cells' := 0) (slots' := 0) rfl rfl ?_
      refine W.eq (g2 := F0 m 4 ls [.long (lN 5)]) rfl ?_
      refine lv_l2i hx hb d_Md_lookElement_4 rfl ?_
      refine W.eq (g2 := F0 m 5 ls [.int 5]) (by rw [lN_i]; rfl) ?_
      refine lv_istore_n (lv' := [(3, .int 5), (0, .ref m0), (1, .int (nI t)), (2, .int 2)]) hx hb d_Md_lookElement_5 rfl hl (by decide) rfl (fun ls hl => ?_)
      refine lv_iload_n hx hb d_Md_lookElement_6 rfl (lv_at hl 0 rfl) ?_
      refine lv_iconst (v := 1) hx hb d_Md_lookElement_7 (by decide) ?_
      refine lv_iand hx hb d_Md_lookElement_8 ?_
      refine W.eq (g2 := F0 m 9 ls [.int 1]) (by rw [show (5 : Int32) &&& 1 = 1 from by decide +kernel]) ?_
      refine lv_if_ne (tgt := 16) hx hb d_Md_lookElement_9 (by decide) (fun c_9 => ?_) (fun c_9 => absurd c_9 (by decide))
      refine lv_iconst (v := 0) hx hb d_Md_lookElement_16 (by decide) ?_
      refine lv_istore (lv' := [(4, .int 0), (3, .int 5), (0, .ref m0), (1, .int (nI t)), (2, .int 2)]) hx hb d_Md_lookElement_17 hl (by decide) rfl (fun ls hl => ?_)
      refine lv_iload hx hb d_Md_lookElement_19 (lv_at hl 0 rfl) ?_
      refine lv_if_eq (tgt := 37) hx hb d_Md_lookElement_21 (by decide) (fun c_21 => ?_) (fun c_21 => absurd (by decide) c_21)
      refine lv_lconst (v := 0) hx hb d_Md_lookElement_37 (by decide) ?_
      refine lv_lstore (lv' := [(5, .long 0), (4, .int 0), (3, .int 5), (0, .ref m0), (1, .int (nI t)), (2, .int 2)]) hx hb d_Md_lookElement_38 hl (by decide) rfl (fun ls hl => ?_)
      refine lv_iload_n hx hb d_Md_lookElement_40 rfl (lv_at hl 5 rfl) ?_
      refine lv_if_ne (tgt := 67) hx hb d_Md_lookElement_41 (by decide) (fun c_41 => ?_) (fun c_41 => absurd c_41 (by decide))
      refine lv_iload_n hx hb d_Md_lookElement_67 rfl (lv_at hl 5 rfl) ?_
      refine lv_iconst (v := 2) hx hb d_Md_lookElement_68 (by decide) ?_
      refine lv_icmp_ne (tgt := 75) hx hb d_Md_lookElement_69 (by decide) (fun c_69 => absurd (by decide) c_69) (fun c_69 => ?_)
      refine lv_lload hx hb d_Md_lookElement_72 (lv_at hl 0 rfl) ?_
      exact cRl (nI a1) hx hb hr hlocks d_Md_lookElement_74 hS hP hD (rfl) (Nat.le_refl _) (Nat.le_refl _)
    · have hl : lv_has ls 13 [(0, .ref m0), (1, .int (nI t)), (2, .int 3)] := hl
      refine lv_aload_n hx hb d_Md_lookElement_0 rfl (lv_at hl 0 rfl) ?_
      refine cV (As := []) (rest := []) (n := 0) (wc := [(m0, .inr (6, mF g (K.1, K.2.1, K.2.2.1, K.2.2.2.1, nI X.length, K.2.2.2.2.2.1, K.2.2.2.2.2.2.1, K.2.2.2.2.2.2.2.1, nI a) A0 e np B)), ((g 30), .inl (cA 3, 2000, .inl yb))]) (wr := [((g 38), .inl (cA 3, 2000, .inl ow)), ((g 39), .inl (cA 3, 2000, .inl fi)), ((g 40), .inl (cA 3, 2000, .inl be))]) ⟨hx, hb, hml, hown, hts⟩ hno hlocks hl.1 (c_Md_number l hl9 D cA ad s.heap.size m0 g (K.1, K.2.1, K.2.2.1, K.2.2.2.1, nI X.length, K.2.2.2.2.2.1, K.2.2.2.2.2.2.1, K.2.2.2.2.2.2.2.1, nI a) A0 e np B yb b lm hlm hyb hb9 a 5 a1 (by omega) hmu) iw4_132 iw4_134 sel_Md_number iw1_7 iw4_135 (by decide +kernel) rfl ⟨Nat.le_of_ble_eq_true rfl, Nat.le_of_ble_eq_true rfl⟩ ⟨Nat.le_of_ble_eq_true rfl, Nat.le_of_ble_eq_true rfl⟩ rfl (Nat.le_of_ble_eq_true rfl) d_Md_lookElement_1 hE hP hD hS hA [0, 1] [2, 3, 4] rfl rfl rfl rfl (by decide) (ci := 6) rfl rfl 0 rfl (fun _ h => h.elim) (fun v_1 u_1 H locs hp_1 hP hD hS => ?_)
      obtain rfl := hp_1
      have hP : va_P D cls [(m0, .inr (6, mF g (K.1, K.2.1, K.2.2.1, K.2.2.2.1, nI X.length, K.2.2.2.2.2.1, K.2.2.2.2.2.2.1, K.2.2.2.2.2.2.2.1, nI a1) A0 e np B)), ((g 30), .inl (cA 3, 2000, .inl yb)), ((g 38), .inl (cA 3, 2000, .inl ow)), ((g 39), .inl (cA 3, 2000, .inl fi)), ((g 40), .inl (cA 3, 2000, .inl be))] H := hP.sub [3, 4, 0, 1, 2] rfl
      have hD : va_D A [(m0, .inr (6, mF g (K.1, K.2.1, K.2.2.1, K.2.2.2.1, nI X.length, K.2.2.2.2.2.1, K.2.2.2.2.2.2.1, K.2.2.2.2.2.2.2.1, nI a1) A0 e np B)), ((g 30), .inl (cA 3, 2000, .inl yb)), ((g 38), .inl (cA 3, 2000, .inl ow)), ((g 39), .inl (cA 3, 2000, .inl fi)), ((g 40), .inl (cA 3, 2000, .inl be))] := hD.sub [3, 4, 0, 1, 2] (by decide) rfl
      refine W.cs (cells' := 0) (slots' := 0) rfl rfl ?_
      refine W.eq (g2 := F0 m 4 ls [.long (lN 5)]) rfl ?_
      refine lv_l2i hx hb d_Md_lookElement_4 rfl ?_
      refine W.eq (g2 := F0 m 5 ls [.int 5]) (by rw [lN_i]; rfl) ?_
      refine lv_istore_n (lv' := [(3, .int 5), (0, .ref m0), (1, .int (nI t)), (2, .int 3)]) hx hb d_Md_lookElement_5 rfl hl (by decide) rfl (fun ls hl => ?_)
      refine lv_iload_n hx hb d_Md_lookElement_6 rfl (lv_at hl 0 rfl) ?_
      refine lv_iconst (v := 1) hx hb d_Md_lookElement_7 (by decide) ?_
      refine lv_iand hx hb d_Md_lookElement_8 ?_
      refine W.eq (g2 := F0 m 9 ls [.int 1]) (by rw [show (5 : Int32) &&& 1 = 1 from by decide +kernel]) ?_
      refine lv_if_ne (tgt := 16) hx hb d_Md_lookElement_9 (by decide) (fun c_9 => ?_) (fun c_9 => absurd c_9 (by decide))
      refine lv_iconst (v := 0) hx hb d_Md_lookElement_16 (by decide) ?_
      refine lv_istore (lv' := [(4, .int 0), (3, .int 5), (0, .ref m0), (1, .int (nI t)), (2, .int 3)]) hx hb d_Md_lookElement_17 hl (by decide) rfl (fun ls hl => ?_)
      refine lv_iload hx hb d_Md_lookElement_19 (lv_at hl 0 rfl) ?_
      refine lv_if_eq (tgt := 37) hx hb d_Md_lookElement_21 (by decide) (fun c_21 => ?_) (fun c_21 => absurd (by decide) c_21)
      refine lv_lconst (v := 0) hx hb d_Md_lookElement_37 (by decide) ?_
      refine lv_lstore (lv' := [(5, .long 0), (4, .int 0), (3, .int 5), (0, .ref m0), (1, .int (nI t)), (2, .int 3)]) hx hb d_Md_lookElement_38 hl (by decide) rfl (fun ls hl => ?_)
      refine lv_iload_n hx hb d_Md_lookElement_40 rfl (lv_at hl 5 rfl) ?_
      refine lv_if_ne (tgt := 67) hx hb d_Md_lookElement_41 (by decide) (fun c_41 => ?_) (fun c_41 => absurd c_41 (by decide))
      refine lv_iload_n hx hb d_Md_lookElement_67 rfl (lv_at hl 5 rfl) ?_
      refine lv_iconst (v := 2) hx hb d_Md_lookElement_68 (by decide) ?_
      refine lv_icmp_ne (tgt := 75) hx hb d_Md_lookElement_69 (by decide) (fun c_69 => ?_) (fun c_69 => absurd c_69 (by decide))
      refine lv_iload_n hx hb d_Md_lookElement_75 rfl (lv_at hl 5 rfl) ?_
      refine lv_iconst (v := 4) hx hb d_Md_lookElement_76 (by decide) ?_
      refine lv_icmp_eq (tgt := 85) hx hb d_Md_lookElement_77 (by decide) (fun c_77 => absurd c_77 (by decide)) (fun c_77 => ?_)
      refine lv_iload_n hx hb d_Md_lookElement_80 rfl (lv_at hl 5 rfl) ?_
      refine lv_iconst (v := 5) hx hb d_Md_lookElement_81 (by decide) ?_
      refine lv_icmp_ne (tgt := 104) hx hb d_Md_lookElement_82 (by decide) (fun c_82 => ?_) (fun c_82 => absurd c_82 (by decide))
      refine lv_iload_n hx hb d_Md_lookElement_104 rfl (lv_at hl 5 rfl) ?_
      refine lv_bipush (v := 6) hx hb d_Md_lookElement_105 (by decide) ?_
      refine lv_icmp_ne (tgt := 122) hx hb d_Md_lookElement_107 (by decide) (fun c_107 => ?_) (fun c_107 => absurd c_107 (by decide))
      refine lv_iload hx hb d_Md_lookElement_122 (lv_at hl 1 rfl) ?_
      refine lv_if_eq (tgt := 142) hx hb d_Md_lookElement_124 (by decide) (fun c_124 => ?_) (fun c_124 => absurd (by decide) c_124)
      refine lv_iload_n hx hb d_Md_lookElement_142 rfl (lv_at hl 2 rfl) ?_
      refine lv_if_eq (tgt := 155) hx hb d_Md_lookElement_143 (by decide) (fun c_143 => absurd c_143 (by decide)) (fun c_143 => ?_)
      refine lv_iload_n hx hb d_Md_lookElement_146 rfl (lv_at hl 2 rfl) ?_
      refine lv_iconst (v := 4) hx hb d_Md_lookElement_147 (by decide) ?_
      refine lv_icmp_eq (tgt := 155) hx hb d_Md_lookElement_148 (by decide) (fun c_148 => absurd c_148 (by decide)) (fun c_148 => ?_)
      refine lv_iconst (v := 1) hx hb d_Md_lookElement_151 (by decide) ?_
      refine lv_goto (tgt := 156) hx hb d_Md_lookElement_152 (by decide) ?_
      refine lv_istore (lv' := [(7, .int 1), (5, .long 0), (4, .int 0), (3, .int 5), (0, .ref m0), (1, .int (nI t)), (2, .int 3)]) hx hb d_Md_lookElement_156 hl (by decide) rfl (fun ls hl => ?_)
      refine lv_iload hx hb d_Md_lookElement_158 (lv_at hl 0 rfl) ?_
      refine lv_if_eq (tgt := 182) hx hb d_Md_lookElement_160 (by decide) (fun c_160 => absurd c_160 (by decide)) (fun c_160 => ?_)
      refine lv_iload_n hx hb d_Md_lookElement_163 rfl (lv_at hl 3 rfl) ?_
      refine lv_iconst (v := 4) hx hb d_Md_lookElement_164 (by decide) ?_
      refine lv_iand hx hb d_Md_lookElement_165 ?_
      refine W.eq (g2 := F0 m 166 ls [.int 4]) (by rw [show (5 : Int32) &&& 4 = 4 from by decide +kernel]) ?_
      refine lv_if_eq (tgt := 182) hx hb d_Md_lookElement_166 (by decide) (fun c_166 => absurd c_166 (by decide)) (fun c_166 => ?_)
      refine lv_aload_n hx hb d_Md_lookElement_169 rfl (lv_at hl 4 rfl) ?_
      refine va_get (D := D) (ci := 6) (v := .ref (g 30)) (C := R_Md) (T := F_Md) (N := 44) hx hb hts (fun w h => List.mem_cons_of_mem _ (i_Md w h)) hown hE.1 hP 0 rfl rfl 30 (by decide) (hts _ (List.mem_cons_of_mem _ iw3_84)) (fun _ h9 => h9) rfl d_Md_lookElement_170 ?_
      refine lv_aload_n hx hb d_Md_lookElement_173 rfl (lv_at hl 4 rfl) ?_
      refine va_get (D := D) (ci := 6) (v := .int (nI a1)) (C := R_Md) (T := F_Md) (N := 44) hx hb hts (fun w h => List.mem_cons_of_mem _ (i_Md w h)) hown hE.1 hP 0 rfl rfl 43 (by decide) (hts _ (List.mem_cons_of_mem _ iw3_97)) (fun _ h9 => h9) rfl d_Md_lookElement_174 ?_
      refine va_iald hx hb hE.1 hP 1 3 rfl rfl (vp_in_nI (by omega) (by omega)) d_Md_lookElement_177 ?_
      rw [nI_clamp (n := a1) (by omega), hyb a1 (by omega)]
      refine lv_i2l hx hb d_Md_lookElement_178 rfl ?_
      rw [nI_l (n := b a1) (by have := hb9 a1; omega)]
      refine lv_goto (tgt := 185) hx hb d_Md_lookElement_179 (by decide) ?_
      refine lv_lstore (lv' := [(8, .long (lN (b a1))), (7, .int 1), (5, .long 0), (4, .int 0), (3, .int 5), (0, .ref m0), (1, .int (nI t)), (2, .int 3)]) hx hb d_Md_lookElement_185 hl (by decide) rfl (fun ls hl => ?_)
      refine lv_aload_n hx hb d_Md_lookElement_187 rfl (lv_at hl 5 rfl) ?_
      refine lv_dup hx hb d_Md_lookElement_188 rfl ?_
      refine va_get (D := D) (ci := 6) (v := .int (nI a1)) (C := R_Md) (T := F_Md) (N := 44) hx hb hts (fun w h => List.mem_cons_of_mem _ (i_Md w h)) hown hE.1 hP 0 rfl rfl 43 (by decide) (hts _ (List.mem_cons_of_mem _ iw3_97)) (fun _ h9 => h9) rfl d_Md_lookElement_189 ?_
      refine lv_iload hx hb d_Md_lookElement_192 (lv_at hl 1 rfl) ?_
      refine lv_if_eq (tgt := 201) hx hb d_Md_lookElement_194 (by decide) (fun c_194 => absurd c_194 (by decide)) (fun c_194 => ?_)
      refine lv_iconst (v := 1) hx hb d_Md_lookElement_197 (by decide) ?_
      refine lv_goto (tgt := 202) hx hb d_Md_lookElement_198 (by decide) ?_
      refine lv_iadd hx hb d_Md_lookElement_202 ?_
      rw [nI_1]
      refine va_put (D := D) (ci := 6) (v := .int (nI (a1 + 1))) (ty := .int) (C := R_Md) (T := F_Md) (N := 44) hx hb hts (fun w h => List.mem_cons_of_mem _ (i_Md w h)) t_Md tk_Md n_Md hown hE.1 hP hD hS 0 rfl rfl 43 (by decide) (hts _ (List.mem_cons_of_mem _ iw3_97)) (fun _ h9 => h9) rfl (by decide +kernel) rfl rfl (Nat.le_of_ble_eq_true rfl) d_Md_lookElement_203 (fun H locs hP hD hS => ?_)
      have hP : va_P D cls [(m0, .inr (6, mF g (K.1, K.2.1, K.2.2.1, K.2.2.2.1, nI X.length, K.2.2.2.2.2.1, K.2.2.2.2.2.2.1, K.2.2.2.2.2.2.2.1, nI (a1 + 1)) A0 e np B)), ((g 30), .inl (cA 3, 2000, .inl yb)), ((g 38), .inl (cA 3, 2000, .inl ow)), ((g 39), .inl (cA 3, 2000, .inl fi)), ((g 40), .inl (cA 3, 2000, .inl be))] H := hP
      have hD : va_D A [(m0, .inr (6, mF g (K.1, K.2.1, K.2.2.1, K.2.2.2.1, nI X.length, K.2.2.2.2.2.1, K.2.2.2.2.2.2.1, K.2.2.2.2.2.2.2.1, nI (a1 + 1)) A0 e np B)), ((g 30), .inl (cA 3, 2000, .inl yb)), ((g 38), .inl (cA 3, 2000, .inl ow)), ((g 39), .inl (cA 3, 2000, .inl fi)), ((g 40), .inl (cA 3, 2000, .inl be))] := hD
      refine lv_iload_n hx hb d_Md_lookElement_206 rfl (lv_at hl 7 rfl) ?_
      refine lv_iconst (v := 1) hx hb d_Md_lookElement_207 (by decide) ?_
      refine lv_icmp_ne (tgt := 214) hx hb d_Md_lookElement_208 (by decide) (fun c_208 => ?_) (fun c_208 => absurd c_208 (by decide))
      refine lv_aload_n hx hb d_Md_lookElement_214 rfl (lv_at hl 5 rfl) ?_
      refine cV (As := []) (rest := []) (n := 0) (wc := [(m0, .inr (6, mF g (K.1, K.2.1, K.2.2.1, K.2.2.2.1, nI X.length, K.2.2.2.2.2.1, K.2.2.2.2.2.2.1, K.2.2.2.2.2.2.2.1, nI (a1 + 1)) A0 e np B)), ((g 30), .inl (cA 3, 2000, .inl yb))]) (wr := [((g 38), .inl (cA 3, 2000, .inl ow)), ((g 39), .inl (cA 3, 2000, .inl fi)), ((g 40), .inl (cA 3, 2000, .inl be))]) ⟨hx, hb, hml, hown, hts⟩ hno hlocks hl.1 (c_Md_number l hl9 D cA ad H.size m0 g (K.1, K.2.1, K.2.2.1, K.2.2.2.1, nI X.length, K.2.2.2.2.2.1, K.2.2.2.2.2.2.1, K.2.2.2.2.2.2.2.1, nI (a1 + 1)) A0 e np B yb b lm hlm hyb hb9 (a1 + 1) n a4 (by omega) he4) iw4_132 iw4_134 sel_Md_number iw1_7 iw4_135 (by decide +kernel) rfl ⟨Nat.le_of_ble_eq_true rfl, Nat.le_of_ble_eq_true rfl⟩ ⟨Nat.le_of_ble_eq_true rfl, Nat.le_of_ble_eq_true rfl⟩ rfl (Nat.le_of_ble_eq_true rfl) d_Md_lookElement_215 hE hP hD hS hA [0, 1] [2, 3, 4] rfl rfl rfl rfl (by decide) (ci := 6) rfl rfl 0 rfl (fun _ h => h.elim) (fun v_215 u_215 H locs hp_215 hP hD hS => ?_)
      obtain rfl := hp_215
      have hP : va_P D cls [(m0, .inr (6, mF g (K.1, K.2.1, K.2.2.1, K.2.2.2.1, nI X.length, K.2.2.2.2.2.1, K.2.2.2.2.2.2.1, K.2.2.2.2.2.2.2.1, nI a4) A0 e np B)), ((g 30), .inl (cA 3, 2000, .inl yb)), ((g 38), .inl (cA 3, 2000, .inl ow)), ((g 39), .inl (cA 3, 2000, .inl fi)), ((g 40), .inl (cA 3, 2000, .inl be))] H := hP.sub [3, 4, 0, 1, 2] rfl
      have hD : va_D A [(m0, .inr (6, mF g (K.1, K.2.1, K.2.2.1, K.2.2.2.1, nI X.length, K.2.2.2.2.2.1, K.2.2.2.2.2.2.1, K.2.2.2.2.2.2.2.1, nI a4) A0 e np B)), ((g 30), .inl (cA 3, 2000, .inl yb)), ((g 38), .inl (cA 3, 2000, .inl ow)), ((g 39), .inl (cA 3, 2000, .inl fi)), ((g 40), .inl (cA 3, 2000, .inl be))] := hD.sub [3, 4, 0, 1, 2] (by decide) rfl
      refine W.cs (cells' := 0) (slots' := 0) rfl rfl ?_
      refine W.eq (g2 := F0 m 218 ls [.long (lN n)]) rfl ?_
      refine lv_lstore (lv' := [(10, .long (lN n)), (8, .long (lN (b a1))), (7, .int 1), (5, .long 0), (4, .int 0), (3, .int 5), (0, .ref m0), (1, .int (nI t)), (2, .int 3)]) hx hb d_Md_lookElement_218 hl (by decide) rfl (fun ls hl => ?_)
      refine lv_iload_n hx hb d_Md_lookElement_220 rfl (lv_at hl 8 rfl) ?_
      refine lv_iconst (v := 3) hx hb d_Md_lookElement_221 (by decide) ?_
      refine lv_icmp_ne (tgt := 228) hx hb d_Md_lookElement_222 (by decide) (fun c_222 => absurd (by decide) c_222) (fun c_222 => ?_)
      refine lv_lload hx hb d_Md_lookElement_225 (lv_at hl 0 rfl) ?_
      exact cRl (nI a4) hx hb hr hlocks d_Md_lookElement_227 hS hP hD (rfl) (Nat.le_refl _) (Nat.le_refl _)
    · have hl : lv_has ls 13 [(0, .ref m0), (1, .int (nI t)), (2, .int 4)] := hl
      refine lv_aload_n hx hb d_Md_lookElement_0 rfl (lv_at hl 0 rfl) ?_
      refine cV (As := []) (rest := []) (n := 0) (wc := [(m0, .inr (6, mF g (K.1, K.2.1, K.2.2.1, K.2.2.2.1, nI X.length, K.2.2.2.2.2.1, K.2.2.2.2.2.2.1, K.2.2.2.2.2.2.2.1, nI a) A0 e np B)), ((g 30), .inl (cA 3, 2000, .inl yb))]) (wr := [((g 38), .inl (cA 3, 2000, .inl ow)), ((g 39), .inl (cA 3, 2000, .inl fi)), ((g 40), .inl (cA 3, 2000, .inl be))]) ⟨hx, hb, hml, hown, hts⟩ hno hlocks hl.1 (c_Md_number l hl9 D cA ad s.heap.size m0 g (K.1, K.2.1, K.2.2.1, K.2.2.2.1, nI X.length, K.2.2.2.2.2.1, K.2.2.2.2.2.2.1, K.2.2.2.2.2.2.2.1, nI a) A0 e np B yb b lm hlm hyb hb9 a 5 a1 (by omega) hmu) iw4_132 iw4_134 sel_Md_number iw1_7 iw4_135 (by decide +kernel) rfl ⟨Nat.le_of_ble_eq_true rfl, Nat.le_of_ble_eq_true rfl⟩ ⟨Nat.le_of_ble_eq_true rfl, Nat.le_of_ble_eq_true rfl⟩ rfl (Nat.le_of_ble_eq_true rfl) d_Md_lookElement_1 hE hP hD hS hA [0, 1] [2, 3, 4] rfl rfl rfl rfl (by decide) (ci := 6) rfl rfl 0 rfl (fun _ h => h.elim) (fun v_1 u_1 H locs hp_1 hP hD hS => ?_)
      obtain rfl := hp_1
      have hP : va_P D cls [(m0, .inr (6, mF g (K.1, K.2.1, K.2.2.1, K.2.2.2.1, nI X.length, K.2.2.2.2.2.1, K.2.2.2.2.2.2.1, K.2.2.2.2.2.2.2.1, nI a1) A0 e np B)), ((g 30), .inl (cA 3, 2000, .inl yb)), ((g 38), .inl (cA 3, 2000, .inl ow)), ((g 39), .inl (cA 3, 2000, .inl fi)), ((g 40), .inl (cA 3, 2000, .inl be))] H := hP.sub [3, 4, 0, 1, 2] rfl
      have hD : va_D A [(m0, .inr (6, mF g (K.1, K.2.1, K.2.2.1, K.2.2.2.1, nI X.length, K.2.2.2.2.2.1, K.2.2.2.2.2.2.1, K.2.2.2.2.2.2.2.1, nI a1) A0 e np B)), ((g 30), .inl (cA 3, 2000, .inl yb)), ((g 38), .inl (cA 3, 2000, .inl ow)), ((g 39), .inl (cA 3, 2000, .inl fi)), ((g 40), .inl (cA 3, 2000, .inl be))] := hD.sub [3, 4, 0, 1, 2] (by decide) rfl
      refine W.cs (cells' := 0) (slots' := 0) rfl rfl ?_
      refine W.eq (g2 := F0 m 4 ls [.long (lN 5)]) rfl ?_
      refine lv_l2i hx hb d_Md_lookElement_4 rfl ?_
      refine W.eq (g2 := F0 m 5 ls [.int 5]) (by rw [lN_i]; rfl) ?_
      refine lv_istore_n (lv' := [(3, .int 5), (0, .ref m0), (1, .int (nI t)), (2, .int 4)]) hx hb d_Md_lookElement_5 rfl hl (by decide) rfl (fun ls hl => ?_)
      refine lv_iload_n hx hb d_Md_lookElement_6 rfl (lv_at hl 0 rfl) ?_
      refine lv_iconst (v := 1) hx hb d_Md_lookElement_7 (by decide) ?_
      refine lv_iand hx hb d_Md_lookElement_8 ?_
      refine W.eq (g2 := F0 m 9 ls [.int 1]) (by rw [show (5 : Int32) &&& 1 = 1 from by decide +kernel]) ?_
      refine lv_if_ne (tgt := 16) hx hb d_Md_lookElement_9 (by decide) (fun c_9 => ?_) (fun c_9 => absurd c_9 (by decide))
      refine lv_iconst (v := 0) hx hb d_Md_lookElement_16 (by decide) ?_
      refine lv_istore (lv' := [(4, .int 0), (3, .int 5), (0, .ref m0), (1, .int (nI t)), (2, .int 4)]) hx hb d_Md_lookElement_17 hl (by decide) rfl (fun ls hl => ?_)
      refine lv_iload hx hb d_Md_lookElement_19 (lv_at hl 0 rfl) ?_
      refine lv_if_eq (tgt := 37) hx hb d_Md_lookElement_21 (by decide) (fun c_21 => ?_) (fun c_21 => absurd (by decide) c_21)
      refine lv_lconst (v := 0) hx hb d_Md_lookElement_37 (by decide) ?_
      refine lv_lstore (lv' := [(5, .long 0), (4, .int 0), (3, .int 5), (0, .ref m0), (1, .int (nI t)), (2, .int 4)]) hx hb d_Md_lookElement_38 hl (by decide) rfl (fun ls hl => ?_)
      refine lv_iload_n hx hb d_Md_lookElement_40 rfl (lv_at hl 5 rfl) ?_
      refine lv_if_ne (tgt := 67) hx hb d_Md_lookElement_41 (by decide) (fun c_41 => ?_) (fun c_41 => absurd c_41 (by decide))
      refine lv_iload_n hx hb d_Md_lookElement_67 rfl (lv_at hl 5 rfl) ?_
      refine lv_iconst (v := 2) hx hb d_Md_lookElement_68 (by decide) ?_
      refine lv_icmp_ne (tgt := 75) hx hb d_Md_lookElement_69 (by decide) (fun c_69 => ?_) (fun c_69 => absurd c_69 (by decide))
      refine lv_iload_n hx hb d_Md_lookElement_75 rfl (lv_at hl 5 rfl) ?_
      refine lv_iconst (v := 4) hx hb d_Md_lookElement_76 (by decide) ?_
      refine lv_icmp_eq (tgt := 85) hx hb d_Md_lookElement_77 (by decide) (fun c_77 => ?_) (fun c_77 => absurd (by decide) c_77)
      refine lv_iload hx hb d_Md_lookElement_85 (lv_at hl 1 rfl) ?_
      refine lv_if_eq (tgt := 100) hx hb d_Md_lookElement_87 (by decide) (fun c_87 => ?_) (fun c_87 => absurd (by decide) c_87)
      refine lv_ldc2 hx hb hown (hts _ (List.mem_cons_of_mem _ iw3_204)) d_Md_lookElement_100 ?_
      exact cRl (nI a1) hx hb hr hlocks d_Md_lookElement_103 hS hP hD (rfl) (Nat.le_refl _) (Nat.le_refl _)
    · have hl : lv_has ls 13 [(0, .ref m0), (1, .int (nI t)), (2, .int 5)] := hl
      refine lv_aload_n hx hb d_Md_lookElement_0 rfl (lv_at hl 0 rfl) ?_
      refine cV (As := []) (rest := []) (n := 0) (wc := [(m0, .inr (6, mF g (K.1, K.2.1, K.2.2.1, K.2.2.2.1, nI X.length, K.2.2.2.2.2.1, K.2.2.2.2.2.2.1, K.2.2.2.2.2.2.2.1, nI a) A0 e np B)), ((g 30), .inl (cA 3, 2000, .inl yb))]) (wr := [((g 38), .inl (cA 3, 2000, .inl ow)), ((g 39), .inl (cA 3, 2000, .inl fi)), ((g 40), .inl (cA 3, 2000, .inl be))]) ⟨hx, hb, hml, hown, hts⟩ hno hlocks hl.1 (c_Md_number l hl9 D cA ad s.heap.size m0 g (K.1, K.2.1, K.2.2.1, K.2.2.2.1, nI X.length, K.2.2.2.2.2.1, K.2.2.2.2.2.2.1, K.2.2.2.2.2.2.2.1, nI a) A0 e np B yb b lm hlm hyb hb9 a 5 a1 (by omega) hmu) iw4_132 iw4_134 sel_Md_number iw1_7 iw4_135 (by decide +kernel) rfl ⟨Nat.le_of_ble_eq_true rfl, Nat.le_of_ble_eq_true rfl⟩ ⟨Nat.le_of_ble_eq_true rfl, Nat.le_of_ble_eq_true rfl⟩ rfl (Nat.le_of_ble_eq_true rfl) d_Md_lookElement_1 hE hP hD hS hA [0, 1] [2, 3, 4] rfl rfl rfl rfl (by decide) (ci := 6) rfl rfl 0 rfl (fun _ h => h.elim) (fun v_1 u_1 H locs hp_1 hP hD hS => ?_)
      obtain rfl := hp_1
      have hP : va_P D cls [(m0, .inr (6, mF g (K.1, K.2.1, K.2.2.1, K.2.2.2.1, nI X.length, K.2.2.2.2.2.1, K.2.2.2.2.2.2.1, K.2.2.2.2.2.2.2.1, nI a1) A0 e np B)), ((g 30), .inl (cA 3, 2000, .inl yb)), ((g 38), .inl (cA 3, 2000, .inl ow)), ((g 39), .inl (cA 3, 2000, .inl fi)), ((g 40), .inl (cA 3, 2000, .inl be))] H := hP.sub [3, 4, 0, 1, 2] rfl
      have hD : va_D A [(m0, .inr (6, mF g (K.1, K.2.1, K.2.2.1, K.2.2.2.1, nI X.length, K.2.2.2.2.2.1, K.2.2.2.2.2.2.1, K.2.2.2.2.2.2.2.1, nI a1) A0 e np B)), ((g 30), .inl (cA 3, 2000, .inl yb)), ((g 38), .inl (cA 3, 2000, .inl ow)), ((g 39), .inl (cA 3, 2000, .inl fi)), ((g 40), .inl (cA 3, 2000, .inl be))] := hD.sub [3, 4, 0, 1, 2] (by decide) rfl
      refine W.cs (cells' := 0) (slots' := 0) rfl rfl ?_
      refine W.eq (g2 := F0 m 4 ls [.long (lN 5)]) rfl ?_
      refine lv_l2i hx hb d_Md_lookElement_4 rfl ?_
      refine W.eq (g2 := F0 m 5 ls [.int 5]) (by rw [lN_i]; rfl) ?_
      refine lv_istore_n (lv' := [(3, .int 5), (0, .ref m0), (1, .int (nI t)), (2, .int 5)]) hx hb d_Md_lookElement_5 rfl hl (by decide) rfl (fun ls hl => ?_)
      refine lv_iload_n hx hb d_Md_lookElement_6 rfl (lv_at hl 0 rfl) ?_
      refine lv_iconst (v := 1) hx hb d_Md_lookElement_7 (by decide) ?_
      refine lv_iand hx hb d_Md_lookElement_8 ?_
      refine W.eq (g2 := F0 m 9 ls [.int 1]) (by rw [show (5 : Int32) &&& 1 = 1 from by decide +kernel]) ?_
      refine lv_if_ne (tgt := 16) hx hb d_Md_lookElement_9 (by decide) (fun c_9 => ?_) (fun c_9 => absurd c_9 (by decide))
      refine lv_iconst (v := 0) hx hb d_Md_lookElement_16 (by decide) ?_
      refine lv_istore (lv' := [(4, .int 0), (3, .int 5), (0, .ref m0), (1, .int (nI t)), (2, .int 5)]) hx hb d_Md_lookElement_17 hl (by decide) rfl (fun ls hl => ?_)
      refine lv_iload hx hb d_Md_lookElement_19 (lv_at hl 0 rfl) ?_
      refine lv_if_eq (tgt := 37) hx hb d_Md_lookElement_21 (by decide) (fun c_21 => ?_) (fun c_21 => absurd (by decide) c_21)
      refine lv_lconst (v := 0) hx hb d_Md_lookElement_37 (by decide) ?_
      refine lv_lstore (lv' := [(5, .long 0), (4, .int 0), (3, .int 5), (0, .ref m0), (1, .int (nI t)), (2, .int 5)]) hx hb d_Md_lookElement_38 hl (by decide) rfl (fun ls hl => ?_)
      refine lv_iload_n hx hb d_Md_lookElement_40 rfl (lv_at hl 5 rfl) ?_
      refine lv_if_ne (tgt := 67) hx hb d_Md_lookElement_41 (by decide) (fun c_41 => ?_) (fun c_41 => absurd c_41 (by decide))
      refine lv_iload_n hx hb d_Md_lookElement_67 rfl (lv_at hl 5 rfl) ?_
      refine lv_iconst (v := 2) hx hb d_Md_lookElement_68 (by decide) ?_
      refine lv_icmp_ne (tgt := 75) hx hb d_Md_lookElement_69 (by decide) (fun c_69 => ?_) (fun c_69 => absurd c_69 (by decide))
      refine lv_iload_n hx hb d_Md_lookElement_75 rfl (lv_at hl 5 rfl) ?_
      refine lv_iconst (v := 4) hx hb d_Md_lookElement_76 (by decide) ?_
      refine lv_icmp_eq (tgt := 85) hx hb d_Md_lookElement_77 (by decide) (fun c_77 => absurd c_77 (by decide)) (fun c_77 => ?_)
      refine lv_iload_n hx hb d_Md_lookElement_80 rfl (lv_at hl 5 rfl) ?_
      refine lv_iconst (v := 5) hx hb d_Md_lookElement_81 (by decide) ?_
      refine lv_icmp_ne (tgt := 104) hx hb d_Md_lookElement_82 (by decide) (fun c_82 => absurd (by decide) c_82) (fun c_82 => ?_)
      refine lv_iload hx hb d_Md_lookElement_85 (lv_at hl 1 rfl) ?_
      refine lv_if_eq (tgt := 100) hx hb d_Md_lookElement_87 (by decide) (fun c_87 => ?_) (fun c_87 => absurd (by decide) c_87)
      refine lv_ldc2 hx hb hown (hts _ (List.mem_cons_of_mem _ iw3_204)) d_Md_lookElement_100 ?_
      exact cRl (nI a1) hx hb hr hlocks d_Md_lookElement_103 hS hP hD (rfl) (Nat.le_refl _) (Nat.le_refl _)
    · have hl : lv_has ls 13 [(0, .ref m0), (1, .int (nI t)), (2, .int 6)] := hl
      refine lv_aload_n hx hb d_Md_lookElement_0 rfl (lv_at hl 0 rfl) ?_
      refine cV (As := []) (rest := []) (n := 0) (wc := [(m0, .inr (6, mF g (K.1, K.2.1, K.2.2.1, K.2.2.2.1, nI X.length, K.2.2.2.2.2.1, K.2.2.2.2.2.2.1, K.2.2.2.2.2.2.2.1, nI a) A0 e np B)), ((g 30), .inl (cA 3, 2000, .inl yb))]) (wr := [((g 38), .inl (cA 3, 2000, .inl ow)), ((g 39), .inl (cA 3, 2000, .inl fi)), ((g 40), .inl (cA 3, 2000, .inl be))]) ⟨hx, hb, hml, hown, hts⟩ hno hlocks hl.1 (c_Md_number l hl9 D cA ad s.heap.size m0 g (K.1, K.2.1, K.2.2.1, K.2.2.2.1, nI X.length, K.2.2.2.2.2.1, K.2.2.2.2.2.2.1, K.2.2.2.2.2.2.2.1, nI a) A0 e np B yb b lm hlm hyb hb9 a 5 a1 (by omega) hmu) iw4_132 iw4_134 sel_Md_number iw1_7 iw4_135 (by decide +kernel) rfl ⟨Nat.le_of_ble_eq_true rfl, Nat.le_of_ble_eq_true rfl⟩ ⟨Nat.le_of_ble_eq_true rfl, Nat.le_of_ble_eq_true rfl⟩ rfl (Nat.le_of_ble_eq_true rfl) d_Md_lookElement_1 hE hP hD hS hA [0, 1] [2, 3, 4] rfl rfl rfl rfl (by decide) (ci := 6) rfl rfl 0 rfl (fun _ h => h.elim) (fun v_1 u_1 H locs hp_1 hP hD hS => ?_)
      obtain rfl := hp_1
      have hP : va_P D cls [(m0, .inr (6, mF g (K.1, K.2.1, K.2.2.1, K.2.2.2.1, nI X.length, K.2.2.2.2.2.1, K.2.2.2.2.2.2.1, K.2.2.2.2.2.2.2.1, nI a1) A0 e np B)), ((g 30), .inl (cA 3, 2000, .inl yb)), ((g 38), .inl (cA 3, 2000, .inl ow)), ((g 39), .inl (cA 3, 2000, .inl fi)), ((g 40), .inl (cA 3, 2000, .inl be))] H := hP.sub [3, 4, 0, 1, 2] rfl
      have hD : va_D A [(m0, .inr (6, mF g (K.1, K.2.1, K.2.2.1, K.2.2.2.1, nI X.length, K.2.2.2.2.2.1, K.2.2.2.2.2.2.1, K.2.2.2.2.2.2.2.1, nI a1) A0 e np B)), ((g 30), .inl (cA 3, 2000, .inl yb)), ((g 38), .inl (cA 3, 2000, .inl ow)), ((g 39), .inl (cA 3, 2000, .inl fi)), ((g 40), .inl (cA 3, 2000, .inl be))] := hD.sub [3, 4, 0, 1, 2] (by decide) rfl
      refine W.cs (cells' := 0) (slots' := 0) rfl rfl ?_
      refine W.eq (g2 := F0 m 4 ls [.long (lN 5)]) rfl ?_
      refine lv_l2i hx hb d_Md_lookElement_4 rfl ?_
      refine W.eq (g2 := F0 m 5 ls [.int 5]) (by rw [lN_i]; rfl) ?_
      refine lv_istore_n (lv' := [(3, .int 5), (0, .ref m0), (1, .int (nI t)), (2, .int 6)]) hx hb d_Md_lookElement_5 rfl hl (by decide) rfl (fun ls hl => ?_)
      refine lv_iload_n hx hb d_Md_lookElement_6 rfl (lv_at hl 0 rfl) ?_
      refine lv_iconst (v := 1) hx hb d_Md_lookElement_7 (by decide) ?_
      refine lv_iand hx hb d_Md_lookElement_8 ?_
      refine W.eq (g2 := F0 m 9 ls [.int 1]) (by rw [show (5 : Int32) &&& 1 = 1 from by decide +kernel]) ?_
      refine lv_if_ne (tgt := 16) hx hb d_Md_lookElement_9 (by decide) (fun c_9 => ?_) (fun c_9 => absurd c_9 (by decide))
      refine lv_iconst (v := 0) hx hb d_Md_lookElement_16 (by decide) ?_
      refine lv_istore (lv' := [(4, .int 0), (3, .int 5), (0, .ref m0), (1, .int (nI t)), (2, .int 6)]) hx hb d_Md_lookElement_17 hl (by decide) rfl (fun ls hl => ?_)
      refine lv_iload hx hb d_Md_lookElement_19 (lv_at hl 0 rfl) ?_
      refine lv_if_eq (tgt := 37) hx hb d_Md_lookElement_21 (by decide) (fun c_21 => ?_) (fun c_21 => absurd (by decide) c_21)
      refine lv_lconst (v := 0) hx hb d_Md_lookElement_37 (by decide) ?_
      refine lv_lstore (lv' := [(5, .long 0), (4, .int 0), (3, .int 5), (0, .ref m0), (1, .int (nI t)), (2, .int 6)]) hx hb d_Md_lookElement_38 hl (by decide) rfl (fun ls hl => ?_)
      refine lv_iload_n hx hb d_Md_lookElement_40 rfl (lv_at hl 5 rfl) ?_
      refine lv_if_ne (tgt := 67) hx hb d_Md_lookElement_41 (by decide) (fun c_41 => ?_) (fun c_41 => absurd c_41 (by decide))
      refine lv_iload_n hx hb d_Md_lookElement_67 rfl (lv_at hl 5 rfl) ?_
      refine lv_iconst (v := 2) hx hb d_Md_lookElement_68 (by decide) ?_
      refine lv_icmp_ne (tgt := 75) hx hb d_Md_lookElement_69 (by decide) (fun c_69 => ?_) (fun c_69 => absurd c_69 (by decide))
      refine lv_iload_n hx hb d_Md_lookElement_75 rfl (lv_at hl 5 rfl) ?_
      refine lv_iconst (v := 4) hx hb d_Md_lookElement_76 (by decide) ?_
      refine lv_icmp_eq (tgt := 85) hx hb d_Md_lookElement_77 (by decide) (fun c_77 => absurd c_77 (by decide)) (fun c_77 => ?_)
      refine lv_iload_n hx hb d_Md_lookElement_80 rfl (lv_at hl 5 rfl) ?_
      refine lv_iconst (v := 5) hx hb d_Md_lookElement_81 (by decide) ?_
      refine lv_icmp_ne (tgt := 104) hx hb d_Md_lookElement_82 (by decide) (fun c_82 => ?_) (fun c_82 => absurd c_82 (by decide))
      refine lv_iload_n hx hb d_Md_lookElement_104 rfl (lv_at hl 5 rfl) ?_
      refine lv_bipush (v := 6) hx hb d_Md_lookElement_105 (by decide) ?_
      refine lv_icmp_ne (tgt := 122) hx hb d_Md_lookElement_107 (by decide) (fun c_107 => absurd (by decide) c_107) (fun c_107 => ?_)
      refine lv_iload_n hx hb d_Md_lookElement_110 rfl (lv_at hl 2 rfl) ?_
      refine lv_iconst (v := 4) hx hb d_Md_lookElement_111 (by decide) ?_
      refine lv_iand hx hb d_Md_lookElement_112 ?_
      refine W.eq (g2 := F0 m 113 ls [.int 4]) (by rw [show (5 : Int32) &&& 4 = 4 from by decide +kernel]) ?_
      refine lv_if_eq (tgt := 120) hx hb d_Md_lookElement_113 (by decide) (fun c_113 => absurd c_113 (by decide)) (fun c_113 => ?_)
      refine lv_lconst (v := 1) hx hb d_Md_lookElement_116 (by decide) ?_
      refine lv_goto (tgt := 121) hx hb d_Md_lookElement_117 (by decide) ?_
      exact cRl (nI a1) hx hb hr hlocks d_Md_lookElement_121 hS hP hD (rfl) (Nat.le_refl _) (Nat.le_refl _)
    · have hl : lv_has ls 13 [(0, .ref m0), (1, .int (nI t)), (2, .int 7)] := hl
      refine lv_aload_n hx hb d_Md_lookElement_0 rfl (lv_at hl 0 rfl) ?_
      refine cV (As := []) (rest := []) (n := 0) (wc := [(m0, .inr (6, mF g (K.1, K.2.1, K.2.2.1, K.2.2.2.1, nI X.length, K.2.2.2.2.2.1, K.2.2.2.2.2.2.1, K.2.2.2.2.2.2.2.1, nI a) A0 e np B)), ((g 30), .inl (cA 3, 2000, .inl yb))]) (wr := [((g 38), .inl (cA 3, 2000, .inl ow)), ((g 39), .inl (cA 3, 2000, .inl fi)), ((g 40), .inl (cA 3, 2000, .inl be))]) ⟨hx, hb, hml, hown, hts⟩ hno hlocks hl.1 (c_Md_number l hl9 D cA ad s.heap.size m0 g (K.1, K.2.1, K.2.2.1, K.2.2.2.1, nI X.length, K.2.2.2.2.2.1, K.2.2.2.2.2.2.1, K.2.2.2.2.2.2.2.1, nI a) A0 e np B yb b lm hlm hyb hb9 a 5 a1 (by omega) hmu) iw4_132 iw4_134 sel_Md_number iw1_7 iw4_135 (by decide +kernel) rfl ⟨Nat.le_of_ble_eq_true rfl, Nat.le_of_ble_eq_true rfl⟩ ⟨Nat.le_of_ble_eq_true rfl, Nat.le_of_ble_eq_true rfl⟩ rfl (Nat.le_of_ble_eq_true rfl) d_Md_lookElement_1 hE hP hD hS hA [0, 1] [2, 3, 4] rfl rfl rfl rfl (by decide) (ci := 6) rfl rfl 0 rfl (fun _ h => h.elim) (fun v_1 u_1 H locs hp_1 hP hD hS => ?_)
      obtain rfl := hp_1
      have hP : va_P D cls [(m0, .inr (6, mF g (K.1, K.2.1, K.2.2.1, K.2.2.2.1, nI X.length, K.2.2.2.2.2.1, K.2.2.2.2.2.2.1, K.2.2.2.2.2.2.2.1, nI a1) A0 e np B)), ((g 30), .inl (cA 3, 2000, .inl yb)), ((g 38), .inl (cA 3, 2000, .inl ow)), ((g 39), .inl (cA 3, 2000, .inl fi)), ((g 40), .inl (cA 3, 2000, .inl be))] H := hP.sub [3, 4, 0, 1, 2] rfl
      have hD : va_D A [(m0, .inr (6, mF g (K.1, K.2.1, K.2.2.1, K.2.2.2.1, nI X.length, K.2.2.2.2.2.1, K.2.2.2.2.2.2.1, K.2.2.2.2.2.2.2.1, nI a1) A0 e np B)), ((g 30), .inl (cA 3, 2000, .inl yb)), ((g 38), .inl (cA 3, 2000, .inl ow)), ((g 39), .inl (cA 3, 2000, .inl fi)), ((g 40), .inl (cA 3, 2000, .inl be))] := hD.sub [3, 4, 0, 1, 2] (by decide) rfl
      refine W.cs (cells' := 0) (slots' := 0) rfl rfl ?_
      refine W.eq (g2 := F0 m 4 ls [.long (lN 5)]) rfl ?_
      refine lv_l2i hx hb d_Md_lookElement_4 rfl ?_
      refine W.eq (g2 := F0 m 5 ls [.int 5]) (by rw [lN_i]; rfl) ?_
      refine lv_istore_n (lv' := [(3, .int 5), (0, .ref m0), (1, .int (nI t)), (2, .int 7)]) hx hb d_Md_lookElement_5 rfl hl (by decide) rfl (fun ls hl => ?_)
      refine lv_iload_n hx hb d_Md_lookElement_6 rfl (lv_at hl 0 rfl) ?_
      refine lv_iconst (v := 1) hx hb d_Md_lookElement_7 (by decide) ?_
      refine lv_iand hx hb d_Md_lookElement_8 ?_
      refine W.eq (g2 := F0 m 9 ls [.int 1]) (by rw [show (5 : Int32) &&& 1 = 1 from by decide +kernel]) ?_
      refine lv_if_ne (tgt := 16) hx hb d_Md_lookElement_9 (by decide) (fun c_9 => ?_) (fun c_9 => absurd c_9 (by decide))
      refine lv_iconst (v := 0) hx hb d_Md_lookElement_16 (by decide) ?_
      refine lv_istore (lv' := [(4, .int 0), (3, .int 5), (0, .ref m0), (1, .int (nI t)), (2, .int 7)]) hx hb d_Md_lookElement_17 hl (by decide) rfl (fun ls hl => ?_)
      refine lv_iload hx hb d_Md_lookElement_19 (lv_at hl 0 rfl) ?_
      refine lv_if_eq (tgt := 37) hx hb d_Md_lookElement_21 (by decide) (fun c_21 => ?_) (fun c_21 => absurd (by decide) c_21)
      refine lv_lconst (v := 0) hx hb d_Md_lookElement_37 (by decide) ?_
      refine lv_lstore (lv' := [(5, .long 0), (4, .int 0), (3, .int 5), (0, .ref m0), (1, .int (nI t)), (2, .int 7)]) hx hb d_Md_lookElement_38 hl (by decide) rfl (fun ls hl => ?_)
      refine lv_iload_n hx hb d_Md_lookElement_40 rfl (lv_at hl 5 rfl) ?_
      refine lv_if_ne (tgt := 67) hx hb d_Md_lookElement_41 (by decide) (fun c_41 => ?_) (fun c_41 => absurd c_41 (by decide))
      refine lv_iload_n hx hb d_Md_lookElement_67 rfl (lv_at hl 5 rfl) ?_
      refine lv_iconst (v := 2) hx hb d_Md_lookElement_68 (by decide) ?_
      refine lv_icmp_ne (tgt := 75) hx hb d_Md_lookElement_69 (by decide) (fun c_69 => ?_) (fun c_69 => absurd c_69 (by decide))
      refine lv_iload_n hx hb d_Md_lookElement_75 rfl (lv_at hl 5 rfl) ?_
      refine lv_iconst (v := 4) hx hb d_Md_lookElement_76 (by decide) ?_
      refine lv_icmp_eq (tgt := 85) hx hb d_Md_lookElement_77 (by decide) (fun c_77 => absurd c_77 (by decide)) (fun c_77 => ?_)
      refine lv_iload_n hx hb d_Md_lookElement_80 rfl (lv_at hl 5 rfl) ?_
      refine lv_iconst (v := 5) hx hb d_Md_lookElement_81 (by decide) ?_
      refine lv_icmp_ne (tgt := 104) hx hb d_Md_lookElement_82 (by decide) (fun c_82 => ?_) (fun c_82 => absurd c_82 (by decide))
      refine lv_iload_n hx hb d_Md_lookElement_104 rfl (lv_at hl 5 rfl) ?_
      refine lv_bipush (v := 6) hx hb d_Md_lookElement_105 (by decide) ?_
      refine lv_icmp_ne (tgt := 122) hx hb d_Md_lookElement_107 (by decide) (fun c_107 => ?_) (fun c_107 => absurd c_107 (by decide))
      refine lv_iload hx hb d_Md_lookElement_122 (lv_at hl 1 rfl) ?_
      refine lv_if_eq (tgt := 142) hx hb d_Md_lookElement_124 (by decide) (fun c_124 => ?_) (fun c_124 => absurd (by decide) c_124)
      refine lv_iload_n hx hb d_Md_lookElement_142 rfl (lv_at hl 2 rfl) ?_
      refine lv_if_eq (tgt := 155) hx hb d_Md_lookElement_143 (by decide) (fun c_143 => absurd c_143 (by decide)) (fun c_143 => ?_)
      refine lv_iload_n hx hb d_Md_lookElement_146 rfl (lv_at hl 2 rfl) ?_
      refine lv_iconst (v := 4) hx hb d_Md_lookElement_147 (by decide) ?_
      refine lv_icmp_eq (tgt := 155) hx hb d_Md_lookElement_148 (by decide) (fun c_148 => absurd c_148 (by decide)) (fun c_148 => ?_)
      refine lv_iconst (v := 1) hx hb d_Md_lookElement_151 (by decide) ?_
      refine lv_goto (tgt := 156) hx hb d_Md_lookElement_152 (by decide) ?_
      refine lv_istore (lv' := [(7, .int 1), (5, .long 0), (4, .int 0), (3, .int 5), (0, .ref m0), (1, .int (nI t)), (2, .int 7)]) hx hb d_Md_lookElement_156 hl (by decide) rfl (fun ls hl => ?_)
      refine lv_iload hx hb d_Md_lookElement_158 (lv_at hl 0 rfl) ?_
      refine lv_if_eq (tgt := 182) hx hb d_Md_lookElement_160 (by decide) (fun c_160 => absurd c_160 (by decide)) (fun c_160 => ?_)
      refine lv_iload_n hx hb d_Md_lookElement_163 rfl (lv_at hl 3 rfl) ?_
      refine lv_iconst (v := 4) hx hb d_Md_lookElement_164 (by decide) ?_
      refine lv_iand hx hb d_Md_lookElement_165 ?_
      refine W.eq (g2 := F0 m 166 ls [.int 4]) (by rw [show (5 : Int32) &&& 4 = 4 from by decide +kernel]) ?_
      refine lv_if_eq (tgt := 182) hx hb d_Md_lookElement_166 (by decide) (fun c_166 => absurd c_166 (by decide)) (fun c_166 => ?_)
      refine lv_aload_n hx hb d_Md_lookElement_169 rfl (lv_at hl 4 rfl) ?_
      refine va_get (D := D) (ci := 6) (v := .ref (g 30)) (C := R_Md) (T := F_Md) (N := 44) hx hb hts (fun w h => List.mem_cons_of_mem _ (i_Md w h)) hown hE.1 hP 0 rfl rfl 30 (by decide) (hts _ (List.mem_cons_of_mem _ iw3_84)) (fun _ h9 => h9) rfl d_Md_lookElement_170 ?_
      refine lv_aload_n hx hb d_Md_lookElement_173 rfl (lv_at hl 4 rfl) ?_
      refine va_get (D := D) (ci := 6) (v := .int (nI a1)) (C := R_Md) (T := F_Md) (N := 44) hx hb hts (fun w h => List.mem_cons_of_mem _ (i_Md w h)) hown hE.1 hP 0 rfl rfl 43 (by decide) (hts _ (List.mem_cons_of_mem _ iw3_97)) (fun _ h9 => h9) rfl d_Md_lookElement_174 ?_
      refine va_iald hx hb hE.1 hP 1 3 rfl rfl (vp_in_nI (by omega) (by omega)) d_Md_lookElement_177 ?_
      rw [nI_clamp (n := a1) (by omega), hyb a1 (by omega)]
      refine lv_i2l hx hb d_Md_lookElement_178 rfl ?_
      rw [nI_l (n := b a1) (by have := hb9 a1; omega)]
      refine lv_goto (tgt := 185) hx hb d_Md_lookElement_179 (by decide) ?_
      refine lv_lstore (lv' := [(8, .long (lN (b a1))), (7, .int 1), (5, .long 0), (4, .int 0), (3, .int 5), (0, .ref m0), (1, .int (nI t)), (2, .int 7)]) hx hb d_Md_lookElement_185 hl (by decide) rfl (fun ls hl => ?_)
      refine lv_aload_n hx hb d_Md_lookElement_187 rfl (lv_at hl 5 rfl) ?_
      refine lv_dup hx hb d_Md_lookElement_188 rfl ?_
      refine va_get (D := D) (ci := 6) (v := .int (nI a1)) (C := R_Md) (T := F_Md) (N := 44) hx hb hts (fun w h => List.mem_cons_of_mem _ (i_Md w h)) hown hE.1 hP 0 rfl rfl 43 (by decide) (hts _ (List.mem_cons_of_mem _ iw3_97)) (fun _ h9 => h9) rfl d_Md_lookElement_189 ?_
      refine lv_iload hx hb d_Md_lookElement_192 (lv_at hl 1 rfl) ?_
      refine lv_if_eq (tgt := 201) hx hb d_Md_lookElement_194 (by decide) (fun c_194 => absurd c_194 (by decide)) (fun c_194 => ?_)
      refine lv_iconst (v := 1) hx hb d_Md_lookElement_197 (by decide) ?_
      refine lv_goto (tgt := 202) hx hb d_Md_lookElement_198 (by decide) ?_
      refine lv_iadd hx hb d_Md_lookElement_202 ?_
      rw [nI_1]
      refine va_put (D := D) (ci := 6) (v := .int (nI (a1 + 1))) (ty := .int) (C := R_Md) (T := F_Md) (N := 44) hx hb hts (fun w h => List.mem_cons_of_mem _ (i_Md w h)) t_Md tk_Md n_Md hown hE.1 hP hD hS 0 rfl rfl 43 (by decide) (hts _ (List.mem_cons_of_mem _ iw3_97)) (fun _ h9 => h9) rfl (by decide +kernel) rfl rfl (Nat.le_of_ble_eq_true rfl) d_Md_lookElement_203 (fun H locs hP hD hS => ?_)
      have hP : va_P D cls [(m0, .inr (6, mF g (K.1, K.2.1, K.2.2.1, K.2.2.2.1, nI X.length, K.2.2.2.2.2.1, K.2.2.2.2.2.2.1, K.2.2.2.2.2.2.2.1, nI (a1 + 1)) A0 e np B)), ((g 30), .inl (cA 3, 2000, .inl yb)), ((g 38), .inl (cA 3, 2000, .inl ow)), ((g 39), .inl (cA 3, 2000, .inl fi)), ((g 40), .inl (cA 3, 2000, .inl be))] H := hP
      have hD : va_D A [(m0, .inr (6, mF g (K.1, K.2.1, K.2.2.1, K.2.2.2.1, nI X.length, K.2.2.2.2.2.1, K.2.2.2.2.2.2.1, K.2.2.2.2.2.2.2.1, nI (a1 + 1)) A0 e np B)), ((g 30), .inl (cA 3, 2000, .inl yb)), ((g 38), .inl (cA 3, 2000, .inl ow)), ((g 39), .inl (cA 3, 2000, .inl fi)), ((g 40), .inl (cA 3, 2000, .inl be))] := hD
      refine lv_iload_n hx hb d_Md_lookElement_206 rfl (lv_at hl 7 rfl) ?_
      refine lv_iconst (v := 1) hx hb d_Md_lookElement_207 (by decide) ?_
      refine lv_icmp_ne (tgt := 214) hx hb d_Md_lookElement_208 (by decide) (fun c_208 => ?_) (fun c_208 => absurd c_208 (by decide))
      refine lv_aload_n hx hb d_Md_lookElement_214 rfl (lv_at hl 5 rfl) ?_
      refine cV (As := []) (rest := []) (n := 0) (wc := [(m0, .inr (6, mF g (K.1, K.2.1, K.2.2.1, K.2.2.2.1, nI X.length, K.2.2.2.2.2.1, K.2.2.2.2.2.2.1, K.2.2.2.2.2.2.2.1, nI (a1 + 1)) A0 e np B)), ((g 30), .inl (cA 3, 2000, .inl yb))]) (wr := [((g 38), .inl (cA 3, 2000, .inl ow)), ((g 39), .inl (cA 3, 2000, .inl fi)), ((g 40), .inl (cA 3, 2000, .inl be))]) ⟨hx, hb, hml, hown, hts⟩ hno hlocks hl.1 (c_Md_number l hl9 D cA ad H.size m0 g (K.1, K.2.1, K.2.2.1, K.2.2.2.1, nI X.length, K.2.2.2.2.2.1, K.2.2.2.2.2.2.1, K.2.2.2.2.2.2.2.1, nI (a1 + 1)) A0 e np B yb b lm hlm hyb hb9 (a1 + 1) n a4 (by omega) he4) iw4_132 iw4_134 sel_Md_number iw1_7 iw4_135 (by decide +kernel) rfl ⟨Nat.le_of_ble_eq_true rfl, Nat.le_of_ble_eq_true rfl⟩ ⟨Nat.le_of_ble_eq_true rfl, Nat.le_of_ble_eq_true rfl⟩ rfl (Nat.le_of_ble_eq_true rfl) d_Md_lookElement_215 hE hP hD hS hA [0, 1] [2, 3, 4] rfl rfl rfl rfl (by decide) (ci := 6) rfl rfl 0 rfl (fun _ h => h.elim) (fun v_215 u_215 H locs hp_215 hP hD hS => ?_)
      obtain rfl := hp_215
      have hP : va_P D cls [(m0, .inr (6, mF g (K.1, K.2.1, K.2.2.1, K.2.2.2.1, nI X.length, K.2.2.2.2.2.1, K.2.2.2.2.2.2.1, K.2.2.2.2.2.2.2.1, nI a4) A0 e np B)), ((g 30), .inl (cA 3, 2000, .inl yb)), ((g 38), .inl (cA 3, 2000, .inl ow)), ((g 39), .inl (cA 3, 2000, .inl fi)), ((g 40), .inl (cA 3, 2000, .inl be))] H := hP.sub [3, 4, 0, 1, 2] rfl
      have hD : va_D A [(m0, .inr (6, mF g (K.1, K.2.1, K.2.2.1, K.2.2.2.1, nI X.length, K.2.2.2.2.2.1, K.2.2.2.2.2.2.1, K.2.2.2.2.2.2.2.1, nI a4) A0 e np B)), ((g 30), .inl (cA 3, 2000, .inl yb)), ((g 38), .inl (cA 3, 2000, .inl ow)), ((g 39), .inl (cA 3, 2000, .inl fi)), ((g 40), .inl (cA 3, 2000, .inl be))] := hD.sub [3, 4, 0, 1, 2] (by decide) rfl
      refine W.cs (cells' := 0) (slots' := 0) rfl rfl ?_
      refine W.eq (g2 := F0 m 218 ls [.long (lN n)]) rfl ?_
      refine lv_lstore (lv' := [(10, .long (lN n)), (8, .long (lN (b a1))), (7, .int 1), (5, .long 0), (4, .int 0), (3, .int 5), (0, .ref m0), (1, .int (nI t)), (2, .int 7)]) hx hb d_Md_lookElement_218 hl (by decide) rfl (fun ls hl => ?_)
      refine lv_iload_n hx hb d_Md_lookElement_220 rfl (lv_at hl 8 rfl) ?_
      refine lv_iconst (v := 3) hx hb d_Md_lookElement_221 (by decide) ?_
      refine lv_icmp_ne (tgt := 228) hx hb d_Md_lookElement_222 (by decide) (fun c_222 => ?_) (fun c_222 => absurd c_222 (by decide))
      refine lv_iload_n hx hb d_Md_lookElement_228 rfl (lv_at hl 8 rfl) ?_
      refine lv_bipush (v := 8) hx hb d_Md_lookElement_229 (by decide) ?_
      refine lv_icmp_lt (tgt := 245) hx hb d_Md_lookElement_231 (by decide) (fun c_231 => ?_) (fun c_231 => absurd (by decide) c_231)
      refine lv_ldc2 hx hb hown (hts _ (List.mem_cons_of_mem _ iw3_204)) d_Md_lookElement_245 ?_
      exact cRl (nI a4) hx hb hr hlocks d_Md_lookElement_248 hS hP hD (rfl) (Nat.le_refl _) (Nat.le_refl _)
    · have hl := hl
      refine lv_aload_n hx hb d_Md_lookElement_0 rfl (lv_at hl 0 rfl) ?_
      refine cV (As := []) (rest := []) (n := 0) (wc := [(m0, .inr (6, mF g (K.1, K.2.1, K.2.2.1, K.2.2.2.1, nI X.length, K.2.2.2.2.2.1, K.2.2.2.2.2.2.1, K.2.2.2.2.2.2.2.1, nI a) A0 e np B)), ((g 30), .inl (cA 3, 2000, .inl yb))]) (wr := [((g 38), .inl (cA 3, 2000, .inl ow)), ((g 39), .inl (cA 3, 2000, .inl fi)), ((g 40), .inl (cA 3, 2000, .inl be))]) ⟨hx, hb, hml, hown, hts⟩ hno hlocks hl.1 (c_Md_number l hl9 D cA ad s.heap.size m0 g (K.1, K.2.1, K.2.2.1, K.2.2.2.1, nI X.length, K.2.2.2.2.2.1, K.2.2.2.2.2.2.1, K.2.2.2.2.2.2.2.1, nI a) A0 e np B yb b lm hlm hyb hb9 a 5 a1 (by omega) hmu) iw4_132 iw4_134 sel_Md_number iw1_7 iw4_135 (by decide +kernel) rfl ⟨Nat.le_of_ble_eq_true rfl, Nat.le_of_ble_eq_true rfl⟩ ⟨Nat.le_of_ble_eq_true rfl, Nat.le_of_ble_eq_true rfl⟩ rfl (Nat.le_of_ble_eq_true rfl) d_Md_lookElement_1 hE hP hD hS hA [0, 1] [2, 3, 4] rfl rfl rfl rfl (by decide) (ci := 6) rfl rfl 0 rfl (fun _ h => h.elim) (fun v_1 u_1 H locs hp_1 hP hD hS => ?_)
      obtain rfl := hp_1
      have hP : va_P D cls [(m0, .inr (6, mF g (K.1, K.2.1, K.2.2.1, K.2.2.2.1, nI X.length, K.2.2.2.2.2.1, K.2.2.2.2.2.2.1, K.2.2.2.2.2.2.2.1, nI a1) A0 e np B)), ((g 30), .inl (cA 3, 2000, .inl yb)), ((g 38), .inl (cA 3, 2000, .inl ow)), ((g 39), .inl (cA 3, 2000, .inl fi)), ((g 40), .inl (cA 3, 2000, .inl be))] H := hP.sub [3, 4, 0, 1, 2] rfl
      have hD : va_D A [(m0, .inr (6, mF g (K.1, K.2.1, K.2.2.1, K.2.2.2.1, nI X.length, K.2.2.2.2.2.1, K.2.2.2.2.2.2.1, K.2.2.2.2.2.2.2.1, nI a1) A0 e np B)), ((g 30), .inl (cA 3, 2000, .inl yb)), ((g 38), .inl (cA 3, 2000, .inl ow)), ((g 39), .inl (cA 3, 2000, .inl fi)), ((g 40), .inl (cA 3, 2000, .inl be))] := hD.sub [3, 4, 0, 1, 2] (by decide) rfl
      refine W.cs (cells' := 0) (slots' := 0) rfl rfl ?_
      refine W.eq (g2 := F0 m 4 ls [.long (lN 5)]) rfl ?_
      refine lv_l2i hx hb d_Md_lookElement_4 rfl ?_
      refine W.eq (g2 := F0 m 5 ls [.int 5]) (by rw [lN_i]; rfl) ?_
      refine lv_istore_n (lv' := [(3, .int 5), (0, .ref m0), (1, .int (nI t)), (2, .int (nI wh))]) hx hb d_Md_lookElement_5 rfl hl (by decide) rfl (fun ls hl => ?_)
      refine lv_iload_n hx hb d_Md_lookElement_6 rfl (lv_at hl 0 rfl) ?_
      refine lv_iconst (v := 1) hx hb d_Md_lookElement_7 (by decide) ?_
      refine lv_iand hx hb d_Md_lookElement_8 ?_
      refine W.eq (g2 := F0 m 9 ls [.int 1]) (by rw [show (5 : Int32) &&& 1 = 1 from by decide +kernel]) ?_
      refine lv_if_ne (tgt := 16) hx hb d_Md_lookElement_9 (by decide) (fun c_9 => ?_) (fun c_9 => absurd c_9 (by decide))
      refine lv_iconst (v := 0) hx hb d_Md_lookElement_16 (by decide) ?_
      refine lv_istore (lv' := [(4, .int 0), (3, .int 5), (0, .ref m0), (1, .int (nI t)), (2, .int (nI wh))]) hx hb d_Md_lookElement_17 hl (by decide) rfl (fun ls hl => ?_)
      refine lv_iload hx hb d_Md_lookElement_19 (lv_at hl 0 rfl) ?_
      refine lv_if_eq (tgt := 37) hx hb d_Md_lookElement_21 (by decide) (fun c_21 => ?_) (fun c_21 => absurd (by decide) c_21)
      refine lv_lconst (v := 0) hx hb d_Md_lookElement_37 (by decide) ?_
      refine lv_lstore (lv' := [(5, .long 0), (4, .int 0), (3, .int 5), (0, .ref m0), (1, .int (nI t)), (2, .int (nI wh))]) hx hb d_Md_lookElement_38 hl (by decide) rfl (fun ls hl => ?_)
      refine lv_iload_n hx hb d_Md_lookElement_40 rfl (lv_at hl 5 rfl) ?_
      refine lv_if_ne (tgt := 67) hx hb d_Md_lookElement_41 (by decide) (fun c_41 => ?_) (fun c_41 => absurd c_41 (fun q => absurd ((nI_eq (a := wh) (b := 0) (by omega) (by decide)).mp q) (by omega)))
      refine lv_iload_n hx hb d_Md_lookElement_67 rfl (lv_at hl 5 rfl) ?_
      refine lv_iconst (v := 2) hx hb d_Md_lookElement_68 (by decide) ?_
      refine lv_icmp_ne (tgt := 75) hx hb d_Md_lookElement_69 (by decide) (fun c_69 => ?_) (fun c_69 => absurd c_69 (fun q => absurd ((nI_eq (a := wh) (b := 2) (by omega) (by decide)).mp q) (by omega)))
      refine lv_iload_n hx hb d_Md_lookElement_75 rfl (lv_at hl 5 rfl) ?_
      refine lv_iconst (v := 4) hx hb d_Md_lookElement_76 (by decide) ?_
      refine lv_icmp_eq (tgt := 85) hx hb d_Md_lookElement_77 (by decide) (fun c_77 => absurd c_77 (fun q => absurd ((nI_eq (a := wh) (b := 4) (by omega) (by decide)).mp q) (by omega))) (fun c_77 => ?_)
      refine lv_iload_n hx hb d_Md_lookElement_80 rfl (lv_at hl 5 rfl) ?_
      refine lv_iconst (v := 5) hx hb d_Md_lookElement_81 (by decide) ?_
      refine lv_icmp_ne (tgt := 104) hx hb d_Md_lookElement_82 (by decide) (fun c_82 => ?_) (fun c_82 => absurd c_82 (fun q => absurd ((nI_eq (a := wh) (b := 5) (by omega) (by decide)).mp q) (by omega)))
      refine lv_iload_n hx hb d_Md_lookElement_104 rfl (lv_at hl 5 rfl) ?_
      refine lv_bipush (v := 6) hx hb d_Md_lookElement_105 (by decide) ?_
      refine lv_icmp_ne (tgt := 122) hx hb d_Md_lookElement_107 (by decide) (fun c_107 => ?_) (fun c_107 => absurd c_107 (fun q => absurd ((nI_eq (a := wh) (b := 6) (by omega) (by decide)).mp q) (by omega)))
      refine lv_iload hx hb d_Md_lookElement_122 (lv_at hl 1 rfl) ?_
      refine lv_if_eq (tgt := 142) hx hb d_Md_lookElement_124 (by decide) (fun c_124 => ?_) (fun c_124 => absurd (by decide) c_124)
      refine lv_iload_n hx hb d_Md_lookElement_142 rfl (lv_at hl 2 rfl) ?_
      refine lv_if_eq (tgt := 155) hx hb d_Md_lookElement_143 (by decide) (fun c_143 => absurd c_143 (by decide)) (fun c_143 => ?_)
      refine lv_iload_n hx hb d_Md_lookElement_146 rfl (lv_at hl 2 rfl) ?_
      refine lv_iconst (v := 4) hx hb d_Md_lookElement_147 (by decide) ?_
      refine lv_icmp_eq (tgt := 155) hx hb d_Md_lookElement_148 (by decide) (fun c_148 => absurd c_148 (by decide)) (fun c_148 => ?_)
      refine lv_iconst (v := 1) hx hb d_Md_lookElement_151 (by decide) ?_
      refine lv_goto (tgt := 156) hx hb d_Md_lookElement_152 (by decide) ?_
      refine lv_istore (lv' := [(7, .int 1), (5, .long 0), (4, .int 0), (3, .int 5), (0, .ref m0), (1, .int (nI t)), (2, .int (nI wh))]) hx hb d_Md_lookElement_156 hl (by decide) rfl (fun ls hl => ?_)
      refine lv_iload hx hb d_Md_lookElement_158 (lv_at hl 0 rfl) ?_
      refine lv_if_eq (tgt := 182) hx hb d_Md_lookElement_160 (by decide) (fun c_160 => absurd c_160 (by decide)) (fun c_160 => ?_)
      refine lv_iload_n hx hb d_Md_lookElement_163 rfl (lv_at hl 3 rfl) ?_
      refine lv_iconst (v := 4) hx hb d_Md_lookElement_164 (by decide) ?_
      refine lv_iand hx hb d_Md_lookElement_165 ?_
      refine W.eq (g2 := F0 m 166 ls [.int 4]) (by rw [show (5 : Int32) &&& 4 = 4 from by decide +kernel]) ?_
      refine lv_if_eq (tgt := 182) hx hb d_Md_lookElement_166 (by decide) (fun c_166 => absurd c_166 (by decide)) (fun c_166 => ?_)
      refine lv_aload_n hx hb d_Md_lookElement_169 rfl (lv_at hl 4 rfl) ?_
      refine va_get (D := D) (ci := 6) (v := .ref (g 30)) (C := R_Md) (T := F_Md) (N := 44) hx hb hts (fun w h => List.mem_cons_of_mem _ (i_Md w h)) hown hE.1 hP 0 rfl rfl 30 (by decide) (hts _ (List.mem_cons_of_mem _ iw3_84)) (fun _ h9 => h9) rfl d_Md_lookElement_170 ?_
      refine lv_aload_n hx hb d_Md_lookElement_173 rfl (lv_at hl 4 rfl) ?_
      refine va_get (D := D) (ci := 6) (v := .int (nI a1)) (C := R_Md) (T := F_Md) (N := 44) hx hb hts (fun w h => List.mem_cons_of_mem _ (i_Md w h)) hown hE.1 hP 0 rfl rfl 43 (by decide) (hts _ (List.mem_cons_of_mem _ iw3_97)) (fun _ h9 => h9) rfl d_Md_lookElement_174 ?_
      refine va_iald hx hb hE.1 hP 1 3 rfl rfl (vp_in_nI (by omega) (by omega)) d_Md_lookElement_177 ?_
      rw [nI_clamp (n := a1) (by omega), hyb a1 (by omega)]
      refine lv_i2l hx hb d_Md_lookElement_178 rfl ?_
      rw [nI_l (n := b a1) (by have := hb9 a1; omega)]
      refine lv_goto (tgt := 185) hx hb d_Md_lookElement_179 (by decide) ?_
      refine lv_lstore (lv' := [(8, .long (lN (b a1))), (7, .int 1), (5, .long 0), (4, .int 0), (3, .int 5), (0, .ref m0), (1, .int (nI t)), (2, .int (nI wh))]) hx hb d_Md_lookElement_185 hl (by decide) rfl (fun ls hl => ?_)
      refine lv_aload_n hx hb d_Md_lookElement_187 rfl (lv_at hl 5 rfl) ?_
      refine lv_dup hx hb d_Md_lookElement_188 rfl ?_
      refine va_get (D := D) (ci := 6) (v := .int (nI a1)) (C := R_Md) (T := F_Md) (N := 44) hx hb hts (fun w h => List.mem_cons_of_mem _ (i_Md w h)) hown hE.1 hP 0 rfl rfl 43 (by decide) (hts _ (List.mem_cons_of_mem _ iw3_97)) (fun _ h9 => h9) rfl d_Md_lookElement_189 ?_
      refine lv_iload hx hb d_Md_lookElement_192 (lv_at hl 1 rfl) ?_
      refine lv_if_eq (tgt := 201) hx hb d_Md_lookElement_194 (by decide) (fun c_194 => absurd c_194 (by decide)) (fun c_194 => ?_)
      refine lv_iconst (v := 1) hx hb d_Md_lookElement_197 (by decide) ?_
      refine lv_goto (tgt := 202) hx hb d_Md_lookElement_198 (by decide) ?_
      refine lv_iadd hx hb d_Md_lookElement_202 ?_
      rw [nI_1]
      refine va_put (D := D) (ci := 6) (v := .int (nI (a1 + 1))) (ty := .int) (C := R_Md) (T := F_Md) (N := 44) hx hb hts (fun w h => List.mem_cons_of_mem _ (i_Md w h)) t_Md tk_Md n_Md hown hE.1 hP hD hS 0 rfl rfl 43 (by decide) (hts _ (List.mem_cons_of_mem _ iw3_97)) (fun _ h9 => h9) rfl (by decide +kernel) rfl rfl (Nat.le_of_ble_eq_true rfl) d_Md_lookElement_203 (fun H locs hP hD hS => ?_)
      have hP : va_P D cls [(m0, .inr (6, mF g (K.1, K.2.1, K.2.2.1, K.2.2.2.1, nI X.length, K.2.2.2.2.2.1, K.2.2.2.2.2.2.1, K.2.2.2.2.2.2.2.1, nI (a1 + 1)) A0 e np B)), ((g 30), .inl (cA 3, 2000, .inl yb)), ((g 38), .inl (cA 3, 2000, .inl ow)), ((g 39), .inl (cA 3, 2000, .inl fi)), ((g 40), .inl (cA 3, 2000, .inl be))] H := hP
      have hD : va_D A [(m0, .inr (6, mF g (K.1, K.2.1, K.2.2.1, K.2.2.2.1, nI X.length, K.2.2.2.2.2.1, K.2.2.2.2.2.2.1, K.2.2.2.2.2.2.2.1, nI (a1 + 1)) A0 e np B)), ((g 30), .inl (cA 3, 2000, .inl yb)), ((g 38), .inl (cA 3, 2000, .inl ow)), ((g 39), .inl (cA 3, 2000, .inl fi)), ((g 40), .inl (cA 3, 2000, .inl be))] := hD
      refine lv_iload_n hx hb d_Md_lookElement_206 rfl (lv_at hl 7 rfl) ?_
      refine lv_iconst (v := 1) hx hb d_Md_lookElement_207 (by decide) ?_
      refine lv_icmp_ne (tgt := 214) hx hb d_Md_lookElement_208 (by decide) (fun c_208 => ?_) (fun c_208 => absurd c_208 (fun q => absurd ((nI_eq (a := wh) (b := 1) (by omega) (by decide)).mp q) (by omega)))
      refine lv_aload_n hx hb d_Md_lookElement_214 rfl (lv_at hl 5 rfl) ?_
      refine cV (As := []) (rest := []) (n := 0) (wc := [(m0, .inr (6, mF g (K.1, K.2.1, K.2.2.1, K.2.2.2.1, nI X.length, K.2.2.2.2.2.1, K.2.2.2.2.2.2.1, K.2.2.2.2.2.2.2.1, nI (a1 + 1)) A0 e np B)), ((g 30), .inl (cA 3, 2000, .inl yb))]) (wr := [((g 38), .inl (cA 3, 2000, .inl ow)), ((g 39), .inl (cA 3, 2000, .inl fi)), ((g 40), .inl (cA 3, 2000, .inl be))]) ⟨hx, hb, hml, hown, hts⟩ hno hlocks hl.1 (c_Md_number l hl9 D cA ad H.size m0 g (K.1, K.2.1, K.2.2.1, K.2.2.2.1, nI X.length, K.2.2.2.2.2.1, K.2.2.2.2.2.2.1, K.2.2.2.2.2.2.2.1, nI (a1 + 1)) A0 e np B yb b lm hlm hyb hb9 (a1 + 1) n a4 (by omega) he4) iw4_132 iw4_134 sel_Md_number iw1_7 iw4_135 (by decide +kernel) rfl ⟨Nat.le_of_ble_eq_true rfl, Nat.le_of_ble_eq_true rfl⟩ ⟨Nat.le_of_ble_eq_true rfl, Nat.le_of_ble_eq_true rfl⟩ rfl (Nat.le_of_ble_eq_true rfl) d_Md_lookElement_215 hE hP hD hS hA [0, 1] [2, 3, 4] rfl rfl rfl rfl (by decide) (ci := 6) rfl rfl 0 rfl (fun _ h => h.elim) (fun v_215 u_215 H locs hp_215 hP hD hS => ?_)
      obtain rfl := hp_215
      have hP : va_P D cls [(m0, .inr (6, mF g (K.1, K.2.1, K.2.2.1, K.2.2.2.1, nI X.length, K.2.2.2.2.2.1, K.2.2.2.2.2.2.1, K.2.2.2.2.2.2.2.1, nI a4) A0 e np B)), ((g 30), .inl (cA 3, 2000, .inl yb)), ((g 38), .inl (cA 3, 2000, .inl ow)), ((g 39), .inl (cA 3, 2000, .inl fi)), ((g 40), .inl (cA 3, 2000, .inl be))] H := hP.sub [3, 4, 0, 1, 2] rfl
      have hD : va_D A [(m0, .inr (6, mF g (K.1, K.2.1, K.2.2.1, K.2.2.2.1, nI X.length, K.2.2.2.2.2.1, K.2.2.2.2.2.2.1, K.2.2.2.2.2.2.2.1, nI a4) A0 e np B)), ((g 30), .inl (cA 3, 2000, .inl yb)), ((g 38), .inl (cA 3, 2000, .inl ow)), ((g 39), .inl (cA 3, 2000, .inl fi)), ((g 40), .inl (cA 3, 2000, .inl be))] := hD.sub [3, 4, 0, 1, 2] (by decide) rfl
      refine W.cs (cells' := 0) (slots' := 0) rfl rfl ?_
      refine W.eq (g2 := F0 m 218 ls [.long (lN n)]) rfl ?_
      refine lv_lstore (lv' := [(10, .long (lN n)), (8, .long (lN (b a1))), (7, .int 1), (5, .long 0), (4, .int 0), (3, .int 5), (0, .ref m0), (1, .int (nI t)), (2, .int (nI wh))]) hx hb d_Md_lookElement_218 hl (by decide) rfl (fun ls hl => ?_)
      refine lv_iload_n hx hb d_Md_lookElement_220 rfl (lv_at hl 8 rfl) ?_
      refine lv_iconst (v := 3) hx hb d_Md_lookElement_221 (by decide) ?_
      refine lv_icmp_ne (tgt := 228) hx hb d_Md_lookElement_222 (by decide) (fun c_222 => ?_) (fun c_222 => absurd c_222 (fun q => absurd ((nI_eq (a := wh) (b := 3) (by omega) (by decide)).mp q) (by omega)))
      refine lv_iload_n hx hb d_Md_lookElement_228 rfl (lv_at hl 8 rfl) ?_
      refine lv_bipush (v := 8) hx hb d_Md_lookElement_229 (by decide) ?_
      refine lv_icmp_lt (tgt := 245) hx hb d_Md_lookElement_231 (by decide) (fun c_231 => absurd c_231 (nI_nlt (a := wh) (b := 8) (by omega) (by omega))) (fun c_231 => ?_)
      refine lv_iload_n hx hb d_Md_lookElement_234 rfl (lv_at hl 8 rfl) ?_
      refine lv_bipush (v := 8) hx hb d_Md_lookElement_235 (by decide) ?_
      refine lv_isub hx hb d_Md_lookElement_237 ?_
      refine lv_i2l hx hb d_Md_lookElement_238 rfl ?_
      refine lv_lload hx hb d_Md_lookElement_239 (lv_at hl 0 rfl) ?_
      rw [show (8 : Int32) = nI 8 from rfl, pk_sub hw8, nI_l (n := wh - 8) (by omega)]
      refine W.lcmp hx hb d_Md_lookElement_241 ?_
      refine lv_if_lt (tgt := 249) hx hb d_Md_lookElement_242 (by decide) (fun c_242 => ?_) (fun c_242 => ?_)
      · have hin : wh - 8 < n := (pk_lLT (by omega) (by omega)).mp ((lg_cmp_lt _ _).mp c_242)
        refine lv_iload_n hx hb d_Md_lookElement_249 rfl (lv_at hl 5 rfl) ?_
        refine lv_iconst (v := 4) hx hb d_Md_lookElement_250 (by decide) ?_
        refine lv_iand hx hb d_Md_lookElement_251 ?_
        refine W.eq (g2 := F0 m 252 ls [.int 4]) (by rw [show (5 : Int32) &&& 4 = 4 from by decide +kernel]) ?_
        refine lv_if_eq (tgt := 282) hx hb d_Md_lookElement_252 (by decide) (fun c_252 => absurd c_252 (by decide)) (fun c_252 => ?_)
        refine lv_aload_n hx hb d_Md_lookElement_255 rfl (lv_at hl 6 rfl) ?_
        refine va_get (D := D) (ci := 6) (v := .ref (g 39)) (C := R_Md) (T := F_Md) (N := 44) hx hb hts (fun w h => List.mem_cons_of_mem _ (i_Md w h)) hown hE.1 hP 0 rfl rfl 39 (by decide) (hts _ (List.mem_cons_of_mem _ iw3_93)) (fun _ h9 => h9) rfl d_Md_lookElement_256 ?_
        refine lv_aload_n hx hb d_Md_lookElement_259 rfl (lv_at hl 6 rfl) ?_
        refine lv_iload_n hx hb d_Md_lookElement_260 rfl (lv_at hl 7 rfl) ?_
        refine lv_iload_n hx hb d_Md_lookElement_261 rfl (lv_at hl 8 rfl) ?_
        refine lv_bipush (v := 8) hx hb d_Md_lookElement_262 (by decide) ?_
        refine lv_isub hx hb d_Md_lookElement_264 ?_
        refine lv_iload hx hb d_Md_lookElement_265 (lv_at hl 4 rfl) ?_
        refine lv_if_eq (tgt := 274) hx hb d_Md_lookElement_267 (by decide) (fun c_267 => ?_) (fun c_267 => absurd (by decide) c_267)
        refine lv_iconst (v := 0) hx hb d_Md_lookElement_274 (by decide) ?_
        refine lv_iadd hx hb d_Md_lookElement_275 ?_
        rw [show nI wh - 8 + 0 = nI (wh - 8 + 0) from by rw [show (8 : Int32) = nI 8 from rfl, pk_sub hw8]; exact nI_add (wh - 8) 0]
        refine cV (As := [.int (nI t), .int (nI (wh - 8 + 0))]) (rest := [.ref (g 39)]) (n := 2) (wc := [(m0, .inr (6, mF g (K.1, K.2.1, K.2.2.1, K.2.2.2.1, nI X.length, K.2.2.2.2.2.1, K.2.2.2.2.2.2.1, K.2.2.2.2.2.2.2.1, nI a4) A0 e np B)), ((g 38), .inl (cA 3, 2000, .inl ow))]) (wr := [((g 30), .inl (cA 3, 2000, .inl yb)), ((g 39), .inl (cA 3, 2000, .inl fi)), ((g 40), .inl (cA 3, 2000, .inl be))]) ⟨hx, hb, hml, hown, hts⟩ hno hlocks hl.1 (c_Md_expressionOf l hl9 D cA ad H.size m0 g (K.1, K.2.1, K.2.2.1, K.2.2.2.1, nI X.length, K.2.2.2.2.2.1, K.2.2.2.2.2.2.1, K.2.2.2.2.2.2.2.1, nI a4) A0 e np B ow fi be X hXH hXf hX t (by omega) (wh - 8 + 0) (by omega)) iw4_156 iw4_158 sel_Md_expressionOf iw1_7 iw4_159 (by decide +kernel) rfl ⟨Nat.le_of_ble_eq_true rfl, Nat.le_of_ble_eq_true rfl⟩ ⟨Nat.le_of_ble_eq_true rfl, Nat.le_of_ble_eq_true rfl⟩ rfl (Nat.le_of_ble_eq_true rfl) d_Md_lookElement_276 hE hP hD hS hA [0, 2] [1, 3, 4] rfl rfl rfl rfl (by decide) (ci := 6) rfl rfl 0 rfl (fun _ h => h.elim) (fun v_276 u_276 H locs hp_276 hP hD hS => ?_)
        rcases hp_276 with ⟨rfl, hno262⟩ | ⟨e262_, f262_, z262_, he262, rfl, hg262, hfi262, hbe262, hfb262, hzb262⟩
        · exact absurd hno262 (by rw [hexx]; omega)
        have hP : va_P D cls [(m0, .inr (6, mF g (K.1, K.2.1, K.2.2.1, K.2.2.2.1, nI X.length, K.2.2.2.2.2.1, K.2.2.2.2.2.2.1, K.2.2.2.2.2.2.2.1, nI a4) A0 e np B)), ((g 30), .inl (cA 3, 2000, .inl yb)), ((g 38), .inl (cA 3, 2000, .inl ow)), ((g 39), .inl (cA 3, 2000, .inl fi)), ((g 40), .inl (cA 3, 2000, .inl be))] H := hP.sub [3, 0, 4, 1, 2] rfl
        have hD : va_D A [(m0, .inr (6, mF g (K.1, K.2.1, K.2.2.1, K.2.2.2.1, nI X.length, K.2.2.2.2.2.1, K.2.2.2.2.2.2.1, K.2.2.2.2.2.2.2.1, nI a4) A0 e np B)), ((g 30), .inl (cA 3, 2000, .inl yb)), ((g 38), .inl (cA 3, 2000, .inl ow)), ((g 39), .inl (cA 3, 2000, .inl fi)), ((g 40), .inl (cA 3, 2000, .inl be))] := hD.sub [3, 0, 4, 1, 2] (by decide) rfl
        refine W.cs (cells' := 0) (slots' := 0) rfl rfl ?_
        refine W.eq (g2 := F0 m 279 ls [.int (nI e262_), .ref (g 39)]) rfl ?_
        refine va_iald hx hb hE.1 hP 3 3 rfl rfl (vp_in_nI (by omega) (by omega)) d_Md_lookElement_279 ?_
        rw [nI_clamp (n := e262_) (by omega), hfi262]
        refine lv_i2l hx hb d_Md_lookElement_280 rfl ?_
        rw [nI_l (n := f262_) (by omega)]
        have hgx : exs[wh - 8]? = some (f262_, z262_) := by rw [hexx, Nat.add_zero] at hg262; exact hg262
        exact cRl (nI a4) hx hb hr hlocks d_Md_lookElement_281 hS hP hD (by rw [lkS, if_pos (show 8 ≤ wh by omega), if_pos rfl, lst_in (z := vp_updL (vp_updL (vp_updL (vp_updL (vp_updL (vp_updL (vp_updL c_1 0 (elM 5)) 2 0) 1 (lN (b a1))) 6 (elS 5)) 3 (lN n)) 7 (lN nl)) 8 (lN n)) (cs := 7) (cn := 8) (M := n) (nl := nl) rfl rfl (by omega) hnl hitl.1 hseg (show wh - 8 < n by omega), hitx, List.getD_eq_getElem?_getD, List.getElem?_map, hgx]; rfl) (Nat.le_refl _) (Nat.le_refl _)
      · refine lv_ldc2 hx hb hown (hts _ (List.mem_cons_of_mem _ iw3_204)) d_Md_lookElement_245 ?_
        exact cRl (nI a4) hx hb hr hlocks d_Md_lookElement_248 hS hP hD (by rw [lkS, if_pos (show 8 ≤ wh by omega), if_pos rfl, lst_out (z := vp_updL (vp_updL (vp_updL (vp_updL (vp_updL (vp_updL (vp_updL c_1 0 (elM 5)) 2 0) 1 (lN (b a1))) 6 (elS 5)) 3 (lN n)) 7 (lN nl)) 8 (lN n)) (cs := 7) (cn := 8) (M := n) rfl (by omega) (by omega) (by have := (pk_lLE (a := n) (b := wh - 8) (by omega) (by omega)).mp (Int64.not_lt.mp (fun q => c_242 ((lg_cmp_lt _ _).mpr q))); omega)]) (Nat.le_refl _) (Nat.le_refl _)
  · have he2 : bnd (pU32 b lm a1) (fun v a6 => bnd (pExpr b lm dc a6) (fun _ a5 => .inr (vp_updL (vp_updL (vp_updL (vp_updL c_1 0 (elM 6)) 2 (lN v)) 4 (lN a6)) 5 (lN a5), a5))) = .inr (c2, a2) := he2
    obtain ⟨v, b8, hv8, r8⟩ := bnd_ok he2
    have hu8 := pU32_ok (by omega) hv8
    obtain ⟨_, b9, q9, r9⟩ := bnd_ok r8
    obtain ⟨ec2, eb9⟩ : vp_updL (vp_updL (vp_updL (vp_updL c_1 0 (elM 6)) 2 (lN v)) 4 (lN b8)) 5 (lN a2) = c2 ∧ b9 = a2 := by cases r9; exact ⟨rfl, rfl⟩
    subst ec2
    have h4 : lN b8 = lN x1 := (hc45 rfl).1
    have he3 : pType tRef b lm a2 = .inr (tt, a3) := he3
    obtain ⟨h71, h72, h73⟩ := pType_inv he3
    subst h72
    subst h73
    have hexx : exO t X = (x1, a2) :: exs := hexx
    have hitx := hitx (by decide)
    have hexl : exs.length = n := by have q := hitl.1; rw [hitx, List.length_map] at q; exact q
    rcases (show wh = 0 ∨ wh = 1 ∨ wh = 2 ∨ wh = 3 ∨ wh = 4 ∨ wh = 5 ∨ wh = 6 ∨ wh = 7 ∨ 8 ≤ wh by omega) with rfl | rfl | rfl | rfl | rfl | rfl | rfl | rfl | hw8
    · have hl : lv_has ls 13 [(0, .ref m0), (1, .int (nI t)), (2, .int 0)] := hl
      refine lv_aload_n hx hb d_Md_lookElement_0 rfl (lv_at hl 0 rfl) ?_
      refine cV (As := []) (rest := []) (n := 0) (wc := [(m0, .inr (6, mF g (K.1, K.2.1, K.2.2.1, K.2.2.2.1, nI X.length, K.2.2.2.2.2.1, K.2.2.2.2.2.2.1, K.2.2.2.2.2.2.2.1, nI a) A0 e np B)), ((g 30), .inl (cA 3, 2000, .inl yb))]) (wr := [((g 38), .inl (cA 3, 2000, .inl ow)), ((g 39), .inl (cA 3, 2000, .inl fi)), ((g 40), .inl (cA 3, 2000, .inl be))]) ⟨hx, hb, hml, hown, hts⟩ hno hlocks hl.1 (c_Md_number l hl9 D cA ad s.heap.size m0 g (K.1, K.2.1, K.2.2.1, K.2.2.2.1, nI X.length, K.2.2.2.2.2.1, K.2.2.2.2.2.2.1, K.2.2.2.2.2.2.2.1, nI a) A0 e np B yb b lm hlm hyb hb9 a 6 a1 (by omega) hmu) iw4_132 iw4_134 sel_Md_number iw1_7 iw4_135 (by decide +kernel) rfl ⟨Nat.le_of_ble_eq_true rfl, Nat.le_of_ble_eq_true rfl⟩ ⟨Nat.le_of_ble_eq_true rfl, Nat.le_of_ble_eq_true rfl⟩ rfl (Nat.le_of_ble_eq_true rfl) d_Md_lookElement_1 hE hP hD hS hA [0, 1] [2, 3, 4] rfl rfl rfl rfl (by decide) (ci := 6) rfl rfl 0 rfl (fun _ h => h.elim) (fun v_1 u_1 H locs hp_1 hP hD hS => ?_)
      obtain rfl := hp_1
      have hP : va_P D cls [(m0, .inr (6, mF g (K.1, K.2.1, K.2.2.1, K.2.2.2.1, nI X.length, K.2.2.2.2.2.1, K.2.2.2.2.2.2.1, K.2.2.2.2.2.2.2.1, nI a1) A0 e np B)), ((g 30), .inl (cA 3, 2000, .inl yb)), ((g 38), .inl (cA 3, 2000, .inl ow)), ((g 39), .inl (cA 3, 2000, .inl fi)), ((g 40), .inl (cA 3, 2000, .inl be))] H := hP.sub [3, 4, 0, 1, 2] rfl
      have hD : va_D A [(m0, .inr (6, mF g (K.1, K.2.1, K.2.2.1, K.2.2.2.1, nI X.length, K.2.2.2.2.2.1, K.2.2.2.2.2.2.1, K.2.2.2.2.2.2.2.1, nI a1) A0 e np B)), ((g 30), .inl (cA 3, 2000, .inl yb)), ((g 38), .inl (cA 3, 2000, .inl ow)), ((g 39), .inl (cA 3, 2000, .inl fi)), ((g 40), .inl (cA 3, 2000, .inl be))] := hD.sub [3, 4, 0, 1, 2] (by decide) rfl
      refine W.cs (cells' := 0) (slots' := 0) rfl rfl ?_
      refine W.eq (g2 := F0 m 4 ls [.long (lN 6)]) rfl ?_
      refine lv_l2i hx hb d_Md_lookElement_4 rfl ?_
      refine W.eq (g2 := F0 m 5 ls [.int 6]) (by rw [lN_i]; rfl) ?_
      refine lv_istore_n (lv' := [(3, .int 6), (0, .ref m0), (1, .int (nI t)), (2, .int 0)]) hx hb d_Md_lookElement_5 rfl hl (by decide) rfl (fun ls hl => ?_)
      refine lv_iload_n hx hb d_Md_lookElement_6 rfl (lv_at hl 0 rfl) ?_
      refine lv_iconst (v := 1) hx hb d_Md_lookElement_7 (by decide) ?_
      refine lv_iand hx hb d_Md_lookElement_8 ?_
      refine W.eq (g2 := F0 m 9 ls [.int 0]) (by rw [show (6 : Int32) &&& 1 = 0 from by decide +kernel]) ?_
      refine lv_if_ne (tgt := 16) hx hb d_Md_lookElement_9 (by decide) (fun c_9 => absurd (by decide) c_9) (fun c_9 => ?_)
      refine lv_iconst (v := 1) hx hb d_Md_lookElement_12 (by decide) ?_
      refine lv_goto (tgt := 17) hx hb d_Md_lookElement_13 (by decide) ?_
      refine lv_istore (lv' := [(4, .int 1), (3, .int 6), (0, .ref m0), (1, .int (nI t)), (2, .int 0)]) hx hb d_Md_lookElement_17 hl (by decide) rfl (fun ls hl => ?_)
      refine lv_iload hx hb d_Md_lookElement_19 (lv_at hl 0 rfl) ?_
      refine lv_if_eq (tgt := 37) hx hb d_Md_lookElement_21 (by decide) (fun c_21 => absurd c_21 (by decide)) (fun c_21 => ?_)
      refine lv_iload_n hx hb d_Md_lookElement_24 rfl (lv_at hl 1 rfl) ?_
      refine lv_iconst (v := 2) hx hb d_Md_lookElement_25 (by decide) ?_
      refine lv_iand hx hb d_Md_lookElement_26 ?_
      refine W.eq (g2 := F0 m 27 ls [.int 2]) (by rw [show (6 : Int32) &&& 2 = 2 from by decide +kernel]) ?_
      refine lv_if_eq (tgt := 37) hx hb d_Md_lookElement_27 (by decide) (fun c_27 => absurd c_27 (by decide)) (fun c_27 => ?_)
      refine lv_aload_n hx hb d_Md_lookElement_30 rfl (lv_at hl 2 rfl) ?_
      refine cV (As := []) (rest := []) (n := 0) (wc := [(m0, .inr (6, mF g (K.1, K.2.1, K.2.2.1, K.2.2.2.1, nI X.length, K.2.2.2.2.2.1, K.2.2.2.2.2.2.1, K.2.2.2.2.2.2.2.1, nI a1) A0 e np B)), ((g 30), .inl (cA 3, 2000, .inl yb))]) (wr := [((g 38), .inl (cA 3, 2000, .inl ow)), ((g 39), .inl (cA 3, 2000, .inl fi)), ((g 40), .inl (cA 3, 2000, .inl be))]) ⟨hx, hb, hml, hown, hts⟩ hno hlocks hl.1 (c_Md_number l hl9 D cA ad H.size m0 g (K.1, K.2.1, K.2.2.1, K.2.2.2.1, nI X.length, K.2.2.2.2.2.1, K.2.2.2.2.2.2.1, K.2.2.2.2.2.2.2.1, nI a1) A0 e np B yb b lm hlm hyb hb9 a1 v b8 (by omega) hv8) iw4_132 iw4_134 sel_Md_number iw1_7 iw4_135 (by decide +kernel) rfl ⟨Nat.le_of_ble_eq_true rfl, Nat.le_of_ble_eq_true rfl⟩ ⟨Nat.le_of_ble_eq_true rfl, Nat.le_of_ble_eq_true rfl⟩ rfl (Nat.le_of_ble_eq_true rfl) d_Md_lookElement_31 hE hP hD hS hA [0, 1] [2, 3, 4] rfl rfl rfl rfl (by decide) (ci := 6) rfl rfl 0 rfl (fun _ h => h.elim) (fun v_31 u_31 H locs hp_31 hP hD hS => ?_)
      obtain rfl := hp_31
      have hP : va_P D cls [(m0, .inr (6, mF g (K.1, K.2.1, K.2.2.1, K.2.2.2.1, nI X.length, K.2.2.2.2.2.1, K.2.2.2.2.2.2.1, K.2.2.2.2.2.2.2.1, nI b8) A0 e np B)), ((g 30), .inl (cA 3, 2000, .inl yb)), ((g 38), .inl (cA 3, 2000, .inl ow)), ((g 39), .inl (cA 3, 2000, .inl fi)), ((g 40), .inl (cA 3, 2000, .inl be))] H := hP.sub [3, 4, 0, 1, 2] rfl
      have hD : va_D A [(m0, .inr (6, mF g (K.1, K.2.1, K.2.2.1, K.2.2.2.1, nI X.length, K.2.2.2.2.2.1, K.2.2.2.2.2.2.1, K.2.2.2.2.2.2.2.1, nI b8) A0 e np B)), ((g 30), .inl (cA 3, 2000, .inl yb)), ((g 38), .inl (cA 3, 2000, .inl ow)), ((g 39), .inl (cA 3, 2000, .inl fi)), ((g 40), .inl (cA 3, 2000, .inl be))] := hD.sub [3, 4, 0, 1, 2] (by decide) rfl
      refine W.cs (cells' := 0) (slots' := 0) rfl rfl ?_
      refine W.eq (g2 := F0 m 34 ls [.long (lN v)]) rfl ?_
      refine lv_goto (tgt := 38) hx hb d_Md_lookElement_34 (by decide) ?_
      refine lv_lstore (lv' := [(5, .long (lN v)), (4, .int 1), (3, .int 6), (0, .ref m0), (1, .int (nI t)), (2, .int 0)]) hx hb d_Md_lookElement_38 hl (by decide) rfl (fun ls hl => ?_)
      refine lv_iload_n hx hb d_Md_lookElement_40 rfl (lv_at hl 5 rfl) ?_
      refine lv_if_ne (tgt := 67) hx hb d_Md_lookElement_41 (by decide) (fun c_41 => absurd (by decide) c_41) (fun c_41 => ?_)
      refine lv_iload hx hb d_Md_lookElement_44 (lv_at hl 1 rfl) ?_
      refine lv_if_eq (tgt := 53) hx hb d_Md_lookElement_46 (by decide) (fun c_46 => absurd c_46 (by decide)) (fun c_46 => ?_)
      refine lv_lconst (v := 1) hx hb d_Md_lookElement_49 (by decide) ?_
      refine lv_goto (tgt := 66) hx hb d_Md_lookElement_50 (by decide) ?_
      exact cRl (nI b8) hx hb hr hlocks d_Md_lookElement_66 hS hP hD (rfl) (Nat.le_refl _) (Nat.le_refl _)
    · have hl : lv_has ls 13 [(0, .ref m0), (1, .int (nI t)), (2, .int 1)] := hl
      refine lv_aload_n hx hb d_Md_lookElement_0 rfl (lv_at hl 0 rfl) ?_
      refine cV (As := []) (rest := []) (n := 0) (wc := [(m0, .inr (6, mF g (K.1, K.2.1, K.2.2.1, K.2.2.2.1, nI X.length, K.2.2.2.2.2.1, K.2.2.2.2.2.2.1, K.2.2.2.2.2.2.2.1, nI a) A0 e np B)), ((g 30), .inl (cA 3, 2000, .inl yb))]) (wr := [((g 38), .inl (cA 3, 2000, .inl ow)), ((g 39), .inl (cA 3, 2000, .inl fi)), ((g 40), .inl (cA 3, 2000, .inl be))]) ⟨hx, hb, hml, hown, hts⟩ hno hlocks hl.1 (c_Md_number l hl9 D cA ad s.heap.size m0 g (K.1, K.2.1, K.2.2.1, K.2.2.2.1, nI X.length, K.2.2.2.2.2.1, K.2.2.2.2.2.2.1, K.2.2.2.2.2.2.2.1, nI a) A0 e np B yb b lm hlm hyb hb9 a 6 a1 (by omega) hmu) iw4_132 iw4_134 sel_Md_number iw1_7 iw4_135 (by decide +kernel) rfl ⟨Nat.le_of_ble_eq_true rfl, Nat.le_of_ble_eq_true rfl⟩ ⟨Nat.le_of_ble_eq_true rfl, Nat.le_of_ble_eq_true rfl⟩ rfl (Nat.le_of_ble_eq_true rfl) d_Md_lookElement_1 hE hP hD hS hA [0, 1] [2, 3, 4] rfl rfl rfl rfl (by decide) (ci := 6) rfl rfl 0 rfl (fun _ h => h.elim) (fun v_1 u_1 H locs hp_1 hP hD hS => ?_)
      obtain rfl := hp_1
      have hP : va_P D cls [(m0, .inr (6, mF g (K.1, K.2.1, K.2.2.1, K.2.2.2.1, nI X.length, K.2.2.2.2.2.1, K.2.2.2.2.2.2.1, K.2.2.2.2.2.2.2.1, nI a1) A0 e np B)), ((g 30), .inl (cA 3, 2000, .inl yb)), ((g 38), .inl (cA 3, 2000, .inl ow)), ((g 39), .inl (cA 3, 2000, .inl fi)), ((g 40), .inl (cA 3, 2000, .inl be))] H := hP.sub [3, 4, 0, 1, 2] rfl
      have hD : va_D A [(m0, .inr (6, mF g (K.1, K.2.1, K.2.2.1, K.2.2.2.1, nI X.length, K.2.2.2.2.2.1, K.2.2.2.2.2.2.1, K.2.2.2.2.2.2.2.1, nI a1) A0 e np B)), ((g 30), .inl (cA 3, 2000, .inl yb)), ((g 38), .inl (cA 3, 2000, .inl ow)), ((g 39), .inl (cA 3, 2000, .inl fi)), ((g 40), .inl (cA 3, 2000, .inl be))] := hD.sub [3, 4, 0, 1, 2] (by decide) rfl
      refine W.cs (cells' := 0) (slots' := 0) rfl rfl ?_
      refine W.eq (g2 := F0 m 4 ls [.long (lN 6)]) rfl ?_
      refine lv_l2i hx hb d_Md_lookElement_4 rfl ?_
      refine W.eq (g2 := F0 m 5 ls [.int 6]) (by rw [lN_i]; rfl) ?_
      refine lv_istore_n (lv' := [(3, .int 6), (0, .ref m0), (1, .int (nI t)), (2, .int 1)]) hx hb d_Md_lookElement_5 rfl hl (by decide) rfl (fun ls hl => ?_)
      refine lv_iload_n hx hb d_Md_lookElement_6 rfl (lv_at hl 0 rfl) ?_
      refine lv_iconst (v := 1) hx hb d_Md_lookElement_7 (by decide) ?_
      refine lv_iand hx hb d_Md_lookElement_8 ?_
      refine W.eq (g2 := F0 m 9 ls [.int 0]) (by rw [show (6 : Int32) &&& 1 = 0 from by decide +kernel]) ?_
      refine lv_if_ne (tgt := 16) hx hb d_Md_lookElement_9 (by decide) (fun c_9 => absurd (by decide) c_9) (fun c_9 => ?_)
      refine lv_iconst (v := 1) hx hb d_Md_lookElement_12 (by decide) ?_
      refine lv_goto (tgt := 17) hx hb d_Md_lookElement_13 (by decide) ?_
      refine lv_istore (lv' := [(4, .int 1), (3, .int 6), (0, .ref m0), (1, .int (nI t)), (2, .int 1)]) hx hb d_Md_lookElement_17 hl (by decide) rfl (fun ls hl => ?_)
      refine lv_iload hx hb d_Md_lookElement_19 (lv_at hl 0 rfl) ?_
      refine lv_if_eq (tgt := 37) hx hb d_Md_lookElement_21 (by decide) (fun c_21 => absurd c_21 (by decide)) (fun c_21 => ?_)
      refine lv_iload_n hx hb d_Md_lookElement_24 rfl (lv_at hl 1 rfl) ?_
      refine lv_iconst (v := 2) hx hb d_Md_lookElement_25 (by decide) ?_
      refine lv_iand hx hb d_Md_lookElement_26 ?_
      refine W.eq (g2 := F0 m 27 ls [.int 2]) (by rw [show (6 : Int32) &&& 2 = 2 from by decide +kernel]) ?_
      refine lv_if_eq (tgt := 37) hx hb d_Md_lookElement_27 (by decide) (fun c_27 => absurd c_27 (by decide)) (fun c_27 => ?_)
      refine lv_aload_n hx hb d_Md_lookElement_30 rfl (lv_at hl 2 rfl) ?_
      refine cV (As := []) (rest := []) (n := 0) (wc := [(m0, .inr (6, mF g (K.1, K.2.1, K.2.2.1, K.2.2.2.1, nI X.length, K.2.2.2.2.2.1, K.2.2.2.2.2.2.1, K.2.2.2.2.2.2.2.1, nI a1) A0 e np B)), ((g 30), .inl (cA 3, 2000, .inl yb))]) (wr := [((g 38), .inl (cA 3, 2000, .inl ow)), ((g 39), .inl (cA 3, 2000, .inl fi)), ((g 40), .inl (cA 3, 2000, .inl be))]) ⟨hx, hb, hml, hown, hts⟩ hno hlocks hl.1 (c_Md_number l hl9 D cA ad H.size m0 g (K.1, K.2.1, K.2.2.1, K.2.2.2.1, nI X.length, K.2.2.2.2.2.1, K.2.2.2.2.2.2.1, K.2.2.2.2.2.2.2.1, nI a1) A0 e np B yb b lm hlm hyb hb9 a1 v b8 (by omega) hv8) iw4_132 iw4_134 sel_Md_number iw1_7 iw4_135 (by decide +kernel) rfl ⟨Nat.le_of_ble_eq_true rfl, Nat.le_of_ble_eq_true rfl⟩ ⟨Nat.le_of_ble_eq_true rfl, Nat.le_of_ble_eq_true rfl⟩ rfl (Nat.le_of_ble_eq_true rfl) d_Md_lookElement_31 hE hP hD hS hA [0, 1] [2, 3, 4] rfl rfl rfl rfl (by decide) (ci := 6) rfl rfl 0 rfl (fun _ h => h.elim) (fun v_31 u_31 H locs hp_31 hP hD hS => ?_)
      obtain rfl := hp_31
      have hP : va_P D cls [(m0, .inr (6, mF g (K.1, K.2.1, K.2.2.1, K.2.2.2.1, nI X.length, K.2.2.2.2.2.1, K.2.2.2.2.2.2.1, K.2.2.2.2.2.2.2.1, nI b8) A0 e np B)), ((g 30), .inl (cA 3, 2000, .inl yb)), ((g 38), .inl (cA 3, 2000, .inl ow)), ((g 39), .inl (cA 3, 2000, .inl fi)), ((g 40), .inl (cA 3, 2000, .inl be))] H := hP.sub [3, 4, 0, 1, 2] rfl
      have hD : va_D A [(m0, .inr (6, mF g (K.1, K.2.1, K.2.2.1, K.2.2.2.1, nI X.length, K.2.2.2.2.2.1, K.2.2.2.2.2.2.1, K.2.2.2.2.2.2.2.1, nI b8) A0 e np B)), ((g 30), .inl (cA 3, 2000, .inl yb)), ((g 38), .inl (cA 3, 2000, .inl ow)), ((g 39), .inl (cA 3, 2000, .inl fi)), ((g 40), .inl (cA 3, 2000, .inl be))] := hD.sub [3, 4, 0, 1, 2] (by decide) rfl
      refine W.cs (cells' := 0) (slots' := 0) rfl rfl ?_
      refine W.eq (g2 := F0 m 34 ls [.long (lN v)]) rfl ?_
      refine lv_goto (tgt := 38) hx hb d_Md_lookElement_34 (by decide) ?_
      refine lv_lstore (lv' := [(5, .long (lN v)), (4, .int 1), (3, .int 6), (0, .ref m0), (1, .int (nI t)), (2, .int 1)]) hx hb d_Md_lookElement_38 hl (by decide) rfl (fun ls hl => ?_)
      refine lv_iload_n hx hb d_Md_lookElement_40 rfl (lv_at hl 5 rfl) ?_
      refine lv_if_ne (tgt := 67) hx hb d_Md_lookElement_41 (by decide) (fun c_41 => ?_) (fun c_41 => absurd c_41 (by decide))
      refine lv_iload_n hx hb d_Md_lookElement_67 rfl (lv_at hl 5 rfl) ?_
      refine lv_iconst (v := 2) hx hb d_Md_lookElement_68 (by decide) ?_
      refine lv_icmp_ne (tgt := 75) hx hb d_Md_lookElement_69 (by decide) (fun c_69 => ?_) (fun c_69 => absurd c_69 (by decide))
      refine lv_iload_n hx hb d_Md_lookElement_75 rfl (lv_at hl 5 rfl) ?_
      refine lv_iconst (v := 4) hx hb d_Md_lookElement_76 (by decide) ?_
      refine lv_icmp_eq (tgt := 85) hx hb d_Md_lookElement_77 (by decide) (fun c_77 => absurd c_77 (by decide)) (fun c_77 => ?_)
      refine lv_iload_n hx hb d_Md_lookElement_80 rfl (lv_at hl 5 rfl) ?_
      refine lv_iconst (v := 5) hx hb d_Md_lookElement_81 (by decide) ?_
      refine lv_icmp_ne (tgt := 104) hx hb d_Md_lookElement_82 (by decide) (fun c_82 => ?_) (fun c_82 => absurd c_82 (by decide))
      refine lv_iload_n hx hb d_Md_lookElement_104 rfl (lv_at hl 5 rfl) ?_
      refine lv_bipush (v := 6) hx hb d_Md_lookElement_105 (by decide) ?_
      refine lv_icmp_ne (tgt := 122) hx hb d_Md_lookElement_107 (by decide) (fun c_107 => ?_) (fun c_107 => absurd c_107 (by decide))
      refine lv_iload hx hb d_Md_lookElement_122 (lv_at hl 1 rfl) ?_
      refine lv_if_eq (tgt := 142) hx hb d_Md_lookElement_124 (by decide) (fun c_124 => absurd c_124 (by decide)) (fun c_124 => ?_)
      refine lv_aload_n hx hb d_Md_lookElement_127 rfl (lv_at hl 3 rfl) ?_
      refine lv_aload_n hx hb d_Md_lookElement_128 rfl (lv_at hl 3 rfl) ?_
      refine va_get (D := D) (ci := 6) (v := .ref (g 40)) (C := R_Md) (T := F_Md) (N := 44) hx hb hts (fun w h => List.mem_cons_of_mem _ (i_Md w h)) hown hE.1 hP 0 rfl rfl 40 (by decide) (hts _ (List.mem_cons_of_mem _ iw3_94)) (fun _ h9 => h9) rfl d_Md_lookElement_129 ?_
      refine lv_aload_n hx hb d_Md_lookElement_132 rfl (lv_at hl 3 rfl) ?_
      refine lv_iload_n hx hb d_Md_lookElement_133 rfl (lv_at hl 4 rfl) ?_
      refine lv_iconst (v := 0) hx hb d_Md_lookElement_134 (by decide) ?_
      refine cV (As := [.int (nI t), .int 0]) (rest := [.ref (g 40), .ref m0]) (n := 2) (wc := [(m0, .inr (6, mF g (K.1, K.2.1, K.2.2.1, K.2.2.2.1, nI X.length, K.2.2.2.2.2.1, K.2.2.2.2.2.2.1, K.2.2.2.2.2.2.2.1, nI b8) A0 e np B)), ((g 38), .inl (cA 3, 2000, .inl ow))]) (wr := [((g 30), .inl (cA 3, 2000, .inl yb)), ((g 39), .inl (cA 3, 2000, .inl fi)), ((g 40), .inl (cA 3, 2000, .inl be))]) ⟨hx, hb, hml, hown, hts⟩ hno hlocks hl.1 (c_Md_expressionOf l hl9 D cA ad H.size m0 g (K.1, K.2.1, K.2.2.1, K.2.2.2.1, nI X.length, K.2.2.2.2.2.1, K.2.2.2.2.2.2.1, K.2.2.2.2.2.2.2.1, nI b8) A0 e np B ow fi be X hXH hXf hX t (by omega) 0 (by omega)) iw4_156 iw4_158 sel_Md_expressionOf iw1_7 iw4_159 (by decide +kernel) rfl ⟨Nat.le_of_ble_eq_true rfl, Nat.le_of_ble_eq_true rfl⟩ ⟨Nat.le_of_ble_eq_true rfl, Nat.le_of_ble_eq_true rfl⟩ rfl (Nat.le_of_ble_eq_true rfl) d_Md_lookElement_135 hE hP hD hS hA [0, 2] [1, 3, 4] rfl rfl rfl rfl (by decide) (ci := 6) rfl rfl 0 rfl (fun _ h => h.elim) (fun v_135 u_135 H locs hp_135 hP hD hS => ?_)
      rcases hp_135 with ⟨rfl, hno263⟩ | ⟨e263_, f263_, z263_, he263, rfl, hg263, hfi263, hbe263, hfb263, hzb263⟩
      · exact absurd hno263 (by rw [hexx]; simp)
      have hP : va_P D cls [(m0, .inr (6, mF g (K.1, K.2.1, K.2.2.1, K.2.2.2.1, nI X.length, K.2.2.2.2.2.1, K.2.2.2.2.2.2.1, K.2.2.2.2.2.2.2.1, nI b8) A0 e np B)), ((g 30), .inl (cA 3, 2000, .inl yb)), ((g 38), .inl (cA 3, 2000, .inl ow)), ((g 39), .inl (cA 3, 2000, .inl fi)), ((g 40), .inl (cA 3, 2000, .inl be))] H := hP.sub [3, 0, 4, 1, 2] rfl
      have hD : va_D A [(m0, .inr (6, mF g (K.1, K.2.1, K.2.2.1, K.2.2.2.1, nI X.length, K.2.2.2.2.2.1, K.2.2.2.2.2.2.1, K.2.2.2.2.2.2.2.1, nI b8) A0 e np B)), ((g 30), .inl (cA 3, 2000, .inl yb)), ((g 38), .inl (cA 3, 2000, .inl ow)), ((g 39), .inl (cA 3, 2000, .inl fi)), ((g 40), .inl (cA 3, 2000, .inl be))] := hD.sub [3, 0, 4, 1, 2] (by decide) rfl
      refine W.cs (cells' := 0) (slots' := 0) rfl rfl ?_
      refine W.eq (g2 := F0 m 138 ls [.int (nI e263_), .ref (g 40), .ref m0]) rfl ?_
      refine va_iald hx hb hE.1 hP 4 3 rfl rfl (vp_in_nI (by omega) (by omega)) d_Md_lookElement_138 ?_
      rw [nI_clamp (n := e263_) (by omega), hbe263, show z263_ = a2 from by rw [hexx] at hg263; exact (congrArg Prod.snd (Option.some.inj hg263)).symm]
      refine va_put (D := D) (ci := 6) (v := .int (nI a2)) (ty := .int) (C := R_Md) (T := F_Md) (N := 44) hx hb hts (fun w h => List.mem_cons_of_mem _ (i_Md w h)) t_Md tk_Md n_Md hown hE.1 hP hD hS 0 rfl rfl 43 (by decide) (hts _ (List.mem_cons_of_mem _ iw3_97)) (fun _ h9 => h9) rfl (by decide +kernel) rfl rfl (Nat.le_of_ble_eq_true rfl) d_Md_lookElement_139 (fun H locs hP hD hS => ?_)
      have hP : va_P D cls [(m0, .inr (6, mF g (K.1, K.2.1, K.2.2.1, K.2.2.2.1, nI X.length, K.2.2.2.2.2.1, K.2.2.2.2.2.2.1, K.2.2.2.2.2.2.2.1, nI a2) A0 e np B)), ((g 30), .inl (cA 3, 2000, .inl yb)), ((g 38), .inl (cA 3, 2000, .inl ow)), ((g 39), .inl (cA 3, 2000, .inl fi)), ((g 40), .inl (cA 3, 2000, .inl be))] H := hP
      have hD : va_D A [(m0, .inr (6, mF g (K.1, K.2.1, K.2.2.1, K.2.2.2.1, nI X.length, K.2.2.2.2.2.1, K.2.2.2.2.2.2.1, K.2.2.2.2.2.2.2.1, nI a2) A0 e np B)), ((g 30), .inl (cA 3, 2000, .inl yb)), ((g 38), .inl (cA 3, 2000, .inl ow)), ((g 39), .inl (cA 3, 2000, .inl fi)), ((g 40), .inl (cA 3, 2000, .inl be))] := hD
      refine lv_iload_n hx hb d_Md_lookElement_142 rfl (lv_at hl 2 rfl) ?_
      refine lv_if_eq (tgt := 155) hx hb d_Md_lookElement_143 (by decide) (fun c_143 => absurd c_143 (by decide)) (fun c_143 => ?_)
      refine lv_iload_n hx hb d_Md_lookElement_146 rfl (lv_at hl 2 rfl) ?_
      refine lv_iconst (v := 4) hx hb d_Md_lookElement_147 (by decide) ?_
      refine lv_icmp_eq (tgt := 155) hx hb d_Md_lookElement_148 (by decide) (fun c_148 => absurd c_148 (by decide)) (fun c_148 => ?_)
      refine lv_iconst (v := 1) hx hb d_Md_lookElement_151 (by decide) ?_
      refine lv_goto (tgt := 156) hx hb d_Md_lookElement_152 (by decide) ?_
      refine lv_istore (lv' := [(7, .int 1), (5, .long (lN v)), (4, .int 1), (3, .int 6), (0, .ref m0), (1, .int (nI t)), (2, .int 1)]) hx hb d_Md_lookElement_156 hl (by decide) rfl (fun ls hl => ?_)
      refine lv_iload hx hb d_Md_lookElement_158 (lv_at hl 0 rfl) ?_
      refine lv_if_eq (tgt := 182) hx hb d_Md_lookElement_160 (by decide) (fun c_160 => absurd c_160 (by decide)) (fun c_160 => ?_)
      refine lv_iload_n hx hb d_Md_lookElement_163 rfl (lv_at hl 3 rfl) ?_
      refine lv_iconst (v := 4) hx hb d_Md_lookElement_164 (by decide) ?_
      refine lv_iand hx hb d_Md_lookElement_165 ?_
      refine W.eq (g2 := F0 m 166 ls [.int 4]) (by rw [show (6 : Int32) &&& 4 = 4 from by decide +kernel]) ?_
      refine lv_if_eq (tgt := 182) hx hb d_Md_lookElement_166 (by decide) (fun c_166 => absurd c_166 (by decide)) (fun c_166 => ?_)
      refine lv_aload_n hx hb d_Md_lookElement_169 rfl (lv_at hl 4 rfl) ?_
      refine va_get (D := D) (ci := 6) (v := .ref (g 30)) (C := R_Md) (T := F_Md) (N := 44) hx hb hts (fun w h => List.mem_cons_of_mem _ (i_Md w h)) hown hE.1 hP 0 rfl rfl 30 (by decide) (hts _ (List.mem_cons_of_mem _ iw3_84)) (fun _ h9 => h9) rfl d_Md_lookElement_170 ?_
      refine lv_aload_n hx hb d_Md_lookElement_173 rfl (lv_at hl 4 rfl) ?_
      refine va_get (D := D) (ci := 6) (v := .int (nI a2)) (C := R_Md) (T := F_Md) (N := 44) hx hb hts (fun w h => List.mem_cons_of_mem _ (i_Md w h)) hown hE.1 hP 0 rfl rfl 43 (by decide) (hts _ (List.mem_cons_of_mem _ iw3_97)) (fun _ h9 => h9) rfl d_Md_lookElement_174 ?_
      refine va_iald hx hb hE.1 hP 1 3 rfl rfl (vp_in_nI (by omega) (by omega)) d_Md_lookElement_177 ?_
      rw [nI_clamp (n := a2) (by omega), hyb a2 (by omega)]
      refine lv_i2l hx hb d_Md_lookElement_178 rfl ?_
      rw [nI_l (n := b a2) (by have := hb9 a2; omega)]
      refine lv_goto (tgt := 185) hx hb d_Md_lookElement_179 (by decide) ?_
      refine lv_lstore (lv' := [(8, .long (lN (b a2))), (7, .int 1), (5, .long (lN v)), (4, .int 1), (3, .int 6), (0, .ref m0), (1, .int (nI t)), (2, .int 1)]) hx hb d_Md_lookElement_185 hl (by decide) rfl (fun ls hl => ?_)
      refine lv_aload_n hx hb d_Md_lookElement_187 rfl (lv_at hl 5 rfl) ?_
      refine lv_dup hx hb d_Md_lookElement_188 rfl ?_
      refine va_get (D := D) (ci := 6) (v := .int (nI a2)) (C := R_Md) (T := F_Md) (N := 44) hx hb hts (fun w h => List.mem_cons_of_mem _ (i_Md w h)) hown hE.1 hP 0 rfl rfl 43 (by decide) (hts _ (List.mem_cons_of_mem _ iw3_97)) (fun _ h9 => h9) rfl d_Md_lookElement_189 ?_
      refine lv_iload hx hb d_Md_lookElement_192 (lv_at hl 1 rfl) ?_
      refine lv_if_eq (tgt := 201) hx hb d_Md_lookElement_194 (by decide) (fun c_194 => absurd c_194 (by decide)) (fun c_194 => ?_)
      refine lv_iconst (v := 1) hx hb d_Md_lookElement_197 (by decide) ?_
      refine lv_goto (tgt := 202) hx hb d_Md_lookElement_198 (by decide) ?_
      refine lv_iadd hx hb d_Md_lookElement_202 ?_
      rw [nI_1]
      refine va_put (D := D) (ci := 6) (v := .int (nI (a2 + 1))) (ty := .int) (C := R_Md) (T := F_Md) (N := 44) hx hb hts (fun w h => List.mem_cons_of_mem _ (i_Md w h)) t_Md tk_Md n_Md hown hE.1 hP hD hS 0 rfl rfl 43 (by decide) (hts _ (List.mem_cons_of_mem _ iw3_97)) (fun _ h9 => h9) rfl (by decide +kernel) rfl rfl (Nat.le_of_ble_eq_true rfl) d_Md_lookElement_203 (fun H locs hP hD hS => ?_)
      have hP : va_P D cls [(m0, .inr (6, mF g (K.1, K.2.1, K.2.2.1, K.2.2.2.1, nI X.length, K.2.2.2.2.2.1, K.2.2.2.2.2.2.1, K.2.2.2.2.2.2.2.1, nI (a2 + 1)) A0 e np B)), ((g 30), .inl (cA 3, 2000, .inl yb)), ((g 38), .inl (cA 3, 2000, .inl ow)), ((g 39), .inl (cA 3, 2000, .inl fi)), ((g 40), .inl (cA 3, 2000, .inl be))] H := hP
      have hD : va_D A [(m0, .inr (6, mF g (K.1, K.2.1, K.2.2.1, K.2.2.2.1, nI X.length, K.2.2.2.2.2.1, K.2.2.2.2.2.2.1, K.2.2.2.2.2.2.2.1, nI (a2 + 1)) A0 e np B)), ((g 30), .inl (cA 3, 2000, .inl yb)), ((g 38), .inl (cA 3, 2000, .inl ow)), ((g 39), .inl (cA 3, 2000, .inl fi)), ((g 40), .inl (cA 3, 2000, .inl be))] := hD
      refine lv_iload_n hx hb d_Md_lookElement_206 rfl (lv_at hl 7 rfl) ?_
      refine lv_iconst (v := 1) hx hb d_Md_lookElement_207 (by decide) ?_
      refine lv_icmp_ne (tgt := 214) hx hb d_Md_lookElement_208 (by decide) (fun c_208 => absurd (by decide) c_208) (fun c_208 => ?_)
      refine lv_lload hx hb d_Md_lookElement_211 (lv_at hl 0 rfl) ?_
      exact cRl (nI (a2 + 1)) hx hb hr hlocks d_Md_lookElement_213 hS hP hD (rfl) (Nat.le_refl _) (Nat.le_refl _)
    · have hl : lv_has ls 13 [(0, .ref m0), (1, .int (nI t)), (2, .int 2)] := hl
      refine lv_aload_n hx hb d_Md_lookElement_0 rfl (lv_at hl 0 rfl) ?_
      refine cV (As := []) (rest := []) (n := 0) (wc := [(m0, .inr (6, mF g (K.1, K.2.1, K.2.2.1, K.2.2.2.1, nI X.length, K.2.2.2.2.2.1, K.2.2.2.2.2.2.1, K.2.2.2.2.2.2.2.1, nI a) A0 e np B)), ((g 30), .inl (cA 3, 2000, .inl yb))]) (wr := [((g 38), .inl (cA 3, 2000, .inl ow)), ((g 39), .inl (cA 3, 2000, .inl fi)), ((g 40), .inl (cA 3, 2000, .inl be))]) ⟨hx, hb, hml, hown, hts⟩ hno hlocks hl.1 (c_Md_number l hl9 D cA ad s.heap.size m0 g (K.1, K.2.1, K.2.2.1, K.2.2.2.1, nI X.length, K.2.2.2.2.2.1, K.2.2.2.2.2.2.1, K.2.2.2.2.2.2.2.1, nI a) A0 e np B yb b lm hlm hyb hb9 a 6 a1 (by omega) hmu) iw4_132 iw4_134 sel_Md_number iw1_7 iw4_135 (by decide +kernel) rfl ⟨Nat.le_of_ble_eq_true rfl, Nat.le_of_ble_eq_true rfl⟩ ⟨Nat.le_of_ble_eq_true rfl, Nat.le_of_ble_eq_true rfl⟩ rfl (Nat.le_of_ble_eq_true rfl) d_Md_lookElement_1 hE hP hD hS hA [0, 1] [2, 3, 4] rfl rfl rfl rfl (by decide) (ci := 6) rfl rfl 0 rfl (fun _ h => h.elim) (fun v_1 u_1 H locs hp_1 hP hD hS => ?_)
      obtain rfl := hp_1
      have hP : va_P D cls [(m0, .inr (6, mF g (K.1, K.2.1, K.2.2.1, K.2.2.2.1, nI X.length, K.2.2.2.2.2.1, K.2.2.2.2.2.2.1, K.2.2.2.2.2.2.2.1, nI a1) A0 e np B)), ((g 30), .inl (cA 3, 2000, .inl yb)), ((g 38), .inl (cA 3, 2000, .inl ow)), ((g 39), .inl (cA 3, 2000, .inl fi)), ((g 40), .inl (cA 3, 2000, .inl be))] H := hP.sub [3, 4, 0, 1, 2] rfl
      have hD : va_D A [(m0, .inr (6, mF g (K.1, K.2.1, K.2.2.1, K.2.2.2.1, nI X.length, K.2.2.2.2.2.1, K.2.2.2.2.2.2.1, K.2.2.2.2.2.2.2.1, nI a1) A0 e np B)), ((g 30), .inl (cA 3, 2000, .inl yb)), ((g 38), .inl (cA 3, 2000, .inl ow)), ((g 39), .inl (cA 3, 2000, .inl fi)), ((g 40), .inl (cA 3, 2000, .inl be))] := hD.sub [3, 4, 0, 1, 2] (by decide) rfl
      refine W.cs (cells' := 0) (slots' := 0) rfl rfl ?_
      refine W.eq (g2 := F0 m 4 ls [.long (lN 6)]) rfl ?_
      refine lv_l2i hx hb d_Md_lookElement_4 rfl ?_
      refine W.eq (g2 := F0 m 5 ls [.int 6]) (by rw [lN_i]; rfl) ?_
      refine lv_istore_n (lv' := [(3, .int 6), (0, .ref m0), (1, .int (nI t)), (2, .int 2)]) hx hb d_Md_lookElement_5 rfl hl (by decide) rfl (fun ls hl => ?_)
      refine lv_iload_n hx hb d_Md_lookElement_6 rfl (lv_at hl 0 rfl) ?_
      refine lv_iconst (v := 1) hx hb d_Md_lookElement_7 (by decide) ?_
      refine lv_iand hx hb d_Md_lookElement_8 ?_
      refine W.eq (g2 := F0 m 9 ls [.int 0]) (by rw [show (6 : Int32) &&& 1 = 0 from by decide +kernel]) ?_
      refine lv_if_ne (tgt := 16) hx hb d_Md_lookElement_9 (by decide) (fun c_9 => absurd (by decide) c_9) (fun c_9 => ?_)
      refine lv_iconst (v := 1) hx hb d_Md_lookElement_12 (by decide) ?_
      refine lv_goto (tgt := 17) hx hb d_Md_lookElement_13 (by decide) ?_
      refine lv_istore (lv' := [(4, .int 1), (3, .int 6), (0, .ref m0), (1, .int (nI t)), (2, .int 2)]) hx hb d_Md_lookElement_17 hl (by decide) rfl (fun ls hl => ?_)
      refine lv_iload hx hb d_Md_lookElement_19 (lv_at hl 0 rfl) ?_
      refine lv_if_eq (tgt := 37) hx hb d_Md_lookElement_21 (by decide) (fun c_21 => absurd c_21 (by decide)) (fun c_21 => ?_)
      refine lv_iload_n hx hb d_Md_lookElement_24 rfl (lv_at hl 1 rfl) ?_
      refine lv_iconst (v := 2) hx hb d_Md_lookElement_25 (by decide) ?_
      refine lv_iand hx hb d_Md_lookElement_26 ?_
      refine W.eq (g2 := F0 m 27 ls [.int 2]) (by rw [show (6 : Int32) &&& 2 = 2 from by decide +kernel]) ?_
      refine lv_if_eq (tgt := 37) hx hb d_Md_lookElement_27 (by decide) (fun c_27 => absurd c_27 (by decide)) (fun c_27 => ?_)
      refine lv_aload_n hx hb d_Md_lookElement_30 rfl (lv_at hl 2 rfl) ?_
      refine cV (As := []) (rest := []) (n := 0) (wc := [(m0, .inr (6, mF g (K.1, K.2.1, K.2.2.1, K.2.2.2.1, nI X.length, K.2.2.2.2.2.1, K.2.2.2.2.2.2.1, K.2.2.2.2.2.2.2.1, nI a1) A0 e np B)), ((g 30), .inl (cA 3, 2000, .inl yb))]) (wr := [((g 38), .inl (cA 3, 2000, .inl ow)), ((g 39), .inl (cA 3, 2000, .inl fi)), ((g 40), .inl (cA 3, 2000, .inl be))]) ⟨hx, hb, hml, hown, hts⟩ hno hlocks hl.1 (c_Md_number l hl9 D cA ad H.size m0 g (K.1, K.2.1, K.2.2.1, K.2.2.2.1, nI X.length, K.2.2.2.2.2.1, K.2.2.2.2.2.2.1, K.2.2.2.2.2.2.2.1, nI a1) A0 e np B yb b lm hlm hyb hb9 a1 v b8 (by omega) hv8) iw4_132 iw4_134 sel_Md_number iw1_7 iw4_135 (by decide +kernel) rfl ⟨Nat.le_of_ble_eq_true rfl, Nat.le_of_ble_eq_true rfl⟩ ⟨Nat.le_of_ble_eq_true rfl, Nat.le_of_ble_eq_true rfl⟩ rfl (Nat.le_of_ble_eq_true rfl) d_Md_lookElement_31 hE hP hD hS hA [0, 1] [2, 3, 4] rfl rfl rfl rfl (by decide) (ci := 6) rfl rfl 0 rfl (fun _ h => h.elim) (fun v_31 u_31 H locs hp_31 hP hD hS => ?_)
      obtain rfl := hp_31
      have hP : va_P D cls [(m0, .inr (6, mF g (K.1, K.2.1, K.2.2.1, K.2.2.2.1, nI X.length, K.2.2.2.2.2.1, K.2.2.2.2.2.2.1, K.2.2.2.2.2.2.2.1, nI b8) A0 e np B)), ((g 30), .inl (cA 3, 2000, .inl yb)), ((g 38), .inl (cA 3, 2000, .inl ow)), ((g 39), .inl (cA 3, 2000, .inl fi)), ((g 40), .inl (cA 3, 2000, .inl be))] H := hP.sub [3, 4, 0, 1, 2] rfl
      have hD : va_D A [(m0, .inr (6, mF g (K.1, K.2.1, K.2.2.1, K.2.2.2.1, nI X.length, K.2.2.2.2.2.1, K.2.2.2.2.2.2.1, K.2.2.2.2.2.2.2.1, nI b8) A0 e np B)), ((g 30), .inl (cA 3, 2000, .inl yb)), ((g 38), .inl (cA 3, 2000, .inl ow)), ((g 39), .inl (cA 3, 2000, .inl fi)), ((g 40), .inl (cA 3, 2000, .inl be))] := hD.sub [3, 4, 0, 1, 2] (by decide) rfl
      refine W.cs (cells' := 0) (slots' := 0) rfl rfl ?_
      refine W.eq (g2 := F0 m 34 ls [.long (lN v)]) rfl ?_
      refine lv_goto (tgt := 38) hx hb d_Md_lookElement_34 (by decide) ?_
      refine lv_lstore (lv' := [(5, .long (lN v)), (4, .int 1), (3, .int 6), (0, .ref m0), (1, .int (nI t)), (2, .int 2)]) hx hb d_Md_lookElement_38 hl (by decide) rfl (fun ls hl => ?_)
      refine lv_iload_n hx hb d_Md_lookElement_40 rfl (lv_at hl 5 rfl) ?_
      refine lv_if_ne (tgt := 67) hx hb d_Md_lookElement_41 (by decide) (fun c_41 => ?_) (fun c_41 => absurd c_41 (by decide))
      refine lv_iload_n hx hb d_Md_lookElement_67 rfl (lv_at hl 5 rfl) ?_
      refine lv_iconst (v := 2) hx hb d_Md_lookElement_68 (by decide) ?_
      refine lv_icmp_ne (tgt := 75) hx hb d_Md_lookElement_69 (by decide) (fun c_69 => absurd (by decide) c_69) (fun c_69 => ?_)
      refine lv_lload hx hb d_Md_lookElement_72 (lv_at hl 0 rfl) ?_
      exact cRl (nI b8) hx hb hr hlocks d_Md_lookElement_74 hS hP hD (rfl) (Nat.le_refl _) (Nat.le_refl _)
    · have hl : lv_has ls 13 [(0, .ref m0), (1, .int (nI t)), (2, .int 3)] := hl
      refine lv_aload_n hx hb d_Md_lookElement_0 rfl (lv_at hl 0 rfl) ?_
      refine cV (As := []) (rest := []) (n := 0) (wc := [(m0, .inr (6, mF g (K.1, K.2.1, K.2.2.1, K.2.2.2.1, nI X.length, K.2.2.2.2.2.1, K.2.2.2.2.2.2.1, K.2.2.2.2.2.2.2.1, nI a) A0 e np B)), ((g 30), .inl (cA 3, 2000, .inl yb))]) (wr := [((g 38), .inl (cA 3, 2000, .inl ow)), ((g 39), .inl (cA 3, 2000, .inl fi)), ((g 40), .inl (cA 3, 2000, .inl be))]) ⟨hx, hb, hml, hown, hts⟩ hno hlocks hl.1 (c_Md_number l hl9 D cA ad s.heap.size m0 g (K.1, K.2.1, K.2.2.1, K.2.2.2.1, nI X.length, K.2.2.2.2.2.1, K.2.2.2.2.2.2.1, K.2.2.2.2.2.2.2.1, nI a) A0 e np B yb b lm hlm hyb hb9 a 6 a1 (by omega) hmu) iw4_132 iw4_134 sel_Md_number iw1_7 iw4_135 (by decide +kernel) rfl ⟨Nat.le_of_ble_eq_true rfl, Nat.le_of_ble_eq_true rfl⟩ ⟨Nat.le_of_ble_eq_true rfl, Nat.le_of_ble_eq_true rfl⟩ rfl (Nat.le_of_ble_eq_true rfl) d_Md_lookElement_1 hE hP hD hS hA [0, 1] [2, 3, 4] rfl rfl rfl rfl (by decide) (ci := 6) rfl rfl 0 rfl (fun _ h => h.elim) (fun v_1 u_1 H locs hp_1 hP hD hS => ?_)
      obtain rfl := hp_1
      have hP : va_P D cls [(m0, .inr (6, mF g (K.1, K.2.1, K.2.2.1, K.2.2.2.1, nI X.length, K.2.2.2.2.2.1, K.2.2.2.2.2.2.1, K.2.2.2.2.2.2.2.1, nI a1) A0 e np B)), ((g 30), .inl (cA 3, 2000, .inl yb)), ((g 38), .inl (cA 3, 2000, .inl ow)), ((g 39), .inl (cA 3, 2000, .inl fi)), ((g 40), .inl (cA 3, 2000, .inl be))] H := hP.sub [3, 4, 0, 1, 2] rfl
      have hD : va_D A [(m0, .inr (6, mF g (K.1, K.2.1, K.2.2.1, K.2.2.2.1, nI X.length, K.2.2.2.2.2.1, K.2.2.2.2.2.2.1, K.2.2.2.2.2.2.2.1, nI a1) A0 e np B)), ((g 30), .inl (cA 3, 2000, .inl yb)), ((g 38), .inl (cA 3, 2000, .inl ow)), ((g 39), .inl (cA 3, 2000, .inl fi)), ((g 40), .inl (cA 3, 2000, .inl be))] := hD.sub [3, 4, 0, 1, 2] (by decide) rfl
      refine W.cs (cells' := 0) (slots' := 0) rfl rfl ?_
      refine W.eq (g2 := F0 m 4 ls [.long (lN 6)]) rfl ?_
      refine lv_l2i hx hb d_Md_lookElement_4 rfl ?_
      refine W.eq (g2 := F0 m 5 ls [.int 6]) (by rw [lN_i]; rfl) ?_
      refine lv_istore_n (lv' := [(3, .int 6), (0, .ref m0), (1, .int (nI t)), (2, .int 3)]) hx hb d_Md_lookElement_5 rfl hl (by decide) rfl (fun ls hl => ?_)
      refine lv_iload_n hx hb d_Md_lookElement_6 rfl (lv_at hl 0 rfl) ?_
      refine lv_iconst (v := 1) hx hb d_Md_lookElement_7 (by decide) ?_
      refine lv_iand hx hb d_Md_lookElement_8 ?_
      refine W.eq (g2 := F0 m 9 ls [.int 0]) (by rw [show (6 : Int32) &&& 1 = 0 from by decide +kernel]) ?_
      refine lv_if_ne (tgt := 16) hx hb d_Md_lookElement_9 (by decide) (fun c_9 => absurd (by decide) c_9) (fun c_9 => ?_)
      refine lv_iconst (v := 1) hx hb d_Md_lookElement_12 (by decide) ?_
      refine lv_goto (tgt := 17) hx hb d_Md_lookElement_13 (by decide) ?_
      refine lv_istore (lv' := [(4, .int 1), (3, .int 6), (0, .ref m0), (1, .int (nI t)), (2, .int 3)]) hx hb d_Md_lookElement_17 hl (by decide) rfl (fun ls hl => ?_)
      refine lv_iload hx hb d_Md_lookElement_19 (lv_at hl 0 rfl) ?_
      refine lv_if_eq (tgt := 37) hx hb d_Md_lookElement_21 (by decide) (fun c_21 => absurd c_21 (by decide)) (fun c_21 => ?_)
      refine lv_iload_n hx hb d_Md_lookElement_24 rfl (lv_at hl 1 rfl) ?_
      refine lv_iconst (v := 2) hx hb d_Md_lookElement_25 (by decide) ?_
      refine lv_iand hx hb d_Md_lookElement_26 ?_
      refine W.eq (g2 := F0 m 27 ls [.int 2]) (by rw [show (6 : Int32) &&& 2 = 2 from by decide +kernel]) ?_
      refine lv_if_eq (tgt := 37) hx hb d_Md_lookElement_27 (by decide) (fun c_27 => absurd c_27 (by decide)) (fun c_27 => ?_)
      refine lv_aload_n hx hb d_Md_lookElement_30 rfl (lv_at hl 2 rfl) ?_
      refine cV (As := []) (rest := []) (n := 0) (wc := [(m0, .inr (6, mF g (K.1, K.2.1, K.2.2.1, K.2.2.2.1, nI X.length, K.2.2.2.2.2.1, K.2.2.2.2.2.2.1, K.2.2.2.2.2.2.2.1, nI a1) A0 e np B)), ((g 30), .inl (cA 3, 2000, .inl yb))]) (wr := [((g 38), .inl (cA 3, 2000, .inl ow)), ((g 39), .inl (cA 3, 2000, .inl fi)), ((g 40), .inl (cA 3, 2000, .inl be))]) ⟨hx, hb, hml, hown, hts⟩ hno hlocks hl.1 (c_Md_number l hl9 D cA ad H.size m0 g (K.1, K.2.1, K.2.2.1, K.2.2.2.1, nI X.length, K.2.2.2.2.2.1, K.2.2.2.2.2.2.1, K.2.2.2.2.2.2.2.1, nI a1) A0 e np B yb b lm hlm hyb hb9 a1 v b8 (by omega) hv8) iw4_132 iw4_134 sel_Md_number iw1_7 iw4_135 (by decide +kernel) rfl ⟨Nat.le_of_ble_eq_true rfl, Nat.le_of_ble_eq_true rfl⟩ ⟨Nat.le_of_ble_eq_true rfl, Nat.le_of_ble_eq_true rfl⟩ rfl (Nat.le_of_ble_eq_true rfl) d_Md_lookElement_31 hE hP hD hS hA [0, 1] [2, 3, 4] rfl rfl rfl rfl (by decide) (ci := 6) rfl rfl 0 rfl (fun _ h => h.elim) (fun v_31 u_31 H locs hp_31 hP hD hS => ?_)
      obtain rfl := hp_31
      have hP : va_P D cls [(m0, .inr (6, mF g (K.1, K.2.1, K.2.2.1, K.2.2.2.1, nI X.length, K.2.2.2.2.2.1, K.2.2.2.2.2.2.1, K.2.2.2.2.2.2.2.1, nI b8) A0 e np B)), ((g 30), .inl (cA 3, 2000, .inl yb)), ((g 38), .inl (cA 3, 2000, .inl ow)), ((g 39), .inl (cA 3, 2000, .inl fi)), ((g 40), .inl (cA 3, 2000, .inl be))] H := hP.sub [3, 4, 0, 1, 2] rfl
      have hD : va_D A [(m0, .inr (6, mF g (K.1, K.2.1, K.2.2.1, K.2.2.2.1, nI X.length, K.2.2.2.2.2.1, K.2.2.2.2.2.2.1, K.2.2.2.2.2.2.2.1, nI b8) A0 e np B)), ((g 30), .inl (cA 3, 2000, .inl yb)), ((g 38), .inl (cA 3, 2000, .inl ow)), ((g 39), .inl (cA 3, 2000, .inl fi)), ((g 40), .inl (cA 3, 2000, .inl be))] := hD.sub [3, 4, 0, 1, 2] (by decide) rfl
      refine W.cs (cells' := 0) (slots' := 0) rfl rfl ?_
      refine W.eq (g2 := F0 m 34 ls [.long (lN v)]) rfl ?_
      refine lv_goto (tgt := 38) hx hb d_Md_lookElement_34 (by decide) ?_
      refine lv_lstore (lv' := [(5, .long (lN v)), (4, .int 1), (3, .int 6), (0, .ref m0), (1, .int (nI t)), (2, .int 3)]) hx hb d_Md_lookElement_38 hl (by decide) rfl (fun ls hl => ?_)
      refine lv_iload_n hx hb d_Md_lookElement_40 rfl (lv_at hl 5 rfl) ?_
      refine lv_if_ne (tgt := 67) hx hb d_Md_lookElement_41 (by decide) (fun c_41 => ?_) (fun c_41 => absurd c_41 (by decide))
      refine lv_iload_n hx hb d_Md_lookElement_67 rfl (lv_at hl 5 rfl) ?_
      refine lv_iconst (v := 2) hx hb d_Md_lookElement_68 (by decide) ?_
      refine lv_icmp_ne (tgt := 75) hx hb d_Md_lookElement_69 (by decide) (fun c_69 => ?_) (fun c_69 => absurd c_69 (by decide))
      refine lv_iload_n hx hb d_Md_lookElement_75 rfl (lv_at hl 5 rfl) ?_
      refine lv_iconst (v := 4) hx hb d_Md_lookElement_76 (by decide) ?_
      refine lv_icmp_eq (tgt := 85) hx hb d_Md_lookElement_77 (by decide) (fun c_77 => absurd c_77 (by decide)) (fun c_77 => ?_)
      refine lv_iload_n hx hb d_Md_lookElement_80 rfl (lv_at hl 5 rfl) ?_
      refine lv_iconst (v := 5) hx hb d_Md_lookElement_81 (by decide) ?_
      refine lv_icmp_ne (tgt := 104) hx hb d_Md_lookElement_82 (by decide) (fun c_82 => ?_) (fun c_82 => absurd c_82 (by decide))
      refine lv_iload_n hx hb d_Md_lookElement_104 rfl (lv_at hl 5 rfl) ?_
      refine lv_bipush (v := 6) hx hb d_Md_lookElement_105 (by decide) ?_
      refine lv_icmp_ne (tgt := 122) hx hb d_Md_lookElement_107 (by decide) (fun c_107 => ?_) (fun c_107 => absurd c_107 (by decide))
      refine lv_iload hx hb d_Md_lookElement_122 (lv_at hl 1 rfl) ?_
      refine lv_if_eq (tgt := 142) hx hb d_Md_lookElement_124 (by decide) (fun c_124 => absurd c_124 (by decide)) (fun c_124 => ?_)
      refine lv_aload_n hx hb d_Md_lookElement_127 rfl (lv_at hl 3 rfl) ?_
      refine lv_aload_n hx hb d_Md_lookElement_128 rfl (lv_at hl 3 rfl) ?_
      refine va_get (D := D) (ci := 6) (v := .ref (g 40)) (C := R_Md) (T := F_Md) (N := 44) hx hb hts (fun w h => List.mem_cons_of_mem _ (i_Md w h)) hown hE.1 hP 0 rfl rfl 40 (by decide) (hts _ (List.mem_cons_of_mem _ iw3_94)) (fun _ h9 => h9) rfl d_Md_lookElement_129 ?_
      refine lv_aload_n hx hb d_Md_lookElement_132 rfl (lv_at hl 3 rfl) ?_
      refine lv_iload_n hx hb d_Md_lookElement_133 rfl (lv_at hl 4 rfl) ?_
      refine lv_iconst (v := 0) hx hb d_Md_lookElement_134 (by decide) ?_
      refine cV (As := [.int (nI t), .int 0]) (rest := [.ref (g 40), .ref m0]) (n := 2) (wc := [(m0, .inr (6, mF g (K.1, K.2.1, K.2.2.1, K.2.2.2.1, nI X.length, K.2.2.2.2.2.1, K.2.2.2.2.2.2.1, K.2.2.2.2.2.2.2.1, nI b8) A0 e np B)), ((g 38), .inl (cA 3, 2000, .inl ow))]) (wr := [((g 30), .inl (cA 3, 2000, .inl yb)), ((g 39), .inl (cA 3, 2000, .inl fi)), ((g 40), .inl (cA 3, 2000, .inl be))]) ⟨hx, hb, hml, hown, hts⟩ hno hlocks hl.1 (c_Md_expressionOf l hl9 D cA ad H.size m0 g (K.1, K.2.1, K.2.2.1, K.2.2.2.1, nI X.length, K.2.2.2.2.2.1, K.2.2.2.2.2.2.1, K.2.2.2.2.2.2.2.1, nI b8) A0 e np B ow fi be X hXH hXf hX t (by omega) 0 (by omega)) iw4_156 iw4_158 sel_Md_expressionOf iw1_7 iw4_159 (by decide +kernel) rfl ⟨Nat.le_of_ble_eq_true rfl, Nat.le_of_ble_eq_true rfl⟩ ⟨Nat.le_of_ble_eq_true rfl, Nat.le_of_ble_eq_true rfl⟩ rfl (Nat.le_of_ble_eq_true rfl) d_Md_lookElement_135 hE hP hD hS hA [0, 2] [1, 3, 4] rfl rfl rfl rfl (by decide) (ci := 6) rfl rfl 0 rfl (fun _ h => h.elim) (fun v_135 u_135 H locs hp_135 hP hD hS => ?_)
      rcases hp_135 with ⟨rfl, hno264⟩ | ⟨e264_, f264_, z264_, he264, rfl, hg264, hfi264, hbe264, hfb264, hzb264⟩
      · exact absurd hno264 (by rw [hexx]; simp)
      have hP : va_P D cls [(m0, .inr (6, mF g (K.1, K.2.1, K.2.2.1, K.2.2.2.1, nI X.length, K.2.2.2.2.2.1, K.2.2.2.2.2.2.1, K.2.2.2.2.2.2.2.1, nI b8) A0 e np B)), ((g 30), .inl (cA 3, 2000, .inl yb)), ((g 38), .inl (cA 3, 2000, .inl ow)), ((g 39), .inl (cA 3, 2000, .inl fi)), ((g 40), .inl (cA 3, 2000, .inl be))] H := hP.sub [3, 0, 4, 1, 2] rfl
      have hD : va_D A [(m0, .inr (6, mF g (K.1, K.2.1, K.2.2.1, K.2.2.2.1, nI X.length, K.2.2.2.2.2.1, K.2.2.2.2.2.2.1, K.2.2.2.2.2.2.2.1, nI b8) A0 e np B)), ((g 30), .inl (cA 3, 2000, .inl yb)), ((g 38), .inl (cA 3, 2000, .inl ow)), ((g 39), .inl (cA 3, 2000, .inl fi)), ((g 40), .inl (cA 3, 2000, .inl be))] := hD.sub [3, 0, 4, 1, 2] (by decide) rfl
      refine W.cs (cells' := 0) (slots' := 0) rfl rfl ?_
      refine W.eq (g2 := F0 m 138 ls [.int (nI e264_), .ref (g 40), .ref m0]) rfl ?_
      refine va_iald hx hb hE.1 hP 4 3 rfl rfl (vp_in_nI (by omega) (by omega)) d_Md_lookElement_138 ?_
      rw [nI_clamp (n := e264_) (by omega), hbe264, show z264_ = a2 from by rw [hexx] at hg264; exact (congrArg Prod.snd (Option.some.inj hg264)).symm]
      refine va_put (D := D) (ci := 6) (v := .int (nI a2)) (ty := .int) (C := R_Md) (T := F_Md) (N := 44) hx hb hts (fun w h => List.mem_cons_of_mem _ (i_Md w h)) t_Md tk_Md n_Md hown hE.1 hP hD hS 0 rfl rfl 43 (by decide) (hts _ (List.mem_cons_of_mem _ iw3_97)) (fun _ h9 => h9) rfl (by decide +kernel) rfl rfl (Nat.le_of_ble_eq_true rfl) d_Md_lookElement_139 (fun H locs hP hD hS => ?_)
      have hP : va_P D cls [(m0, .inr (6, mF g (K.1, K.2.1, K.2.2.1, K.2.2.2.1, nI X.length, K.2.2.2.2.2.1, K.2.2.2.2.2.2.1, K.2.2.2.2.2.2.2.1, nI a2) A0 e np B)), ((g 30), .inl (cA 3, 2000, .inl yb)), ((g 38), .inl (cA 3, 2000, .inl ow)), ((g 39), .inl (cA 3, 2000, .inl fi)), ((g 40), .inl (cA 3, 2000, .inl be))] H := hP
      have hD : va_D A [(m0, .inr (6, mF g (K.1, K.2.1, K.2.2.1, K.2.2.2.1, nI X.length, K.2.2.2.2.2.1, K.2.2.2.2.2.2.1, K.2.2.2.2.2.2.2.1, nI a2) A0 e np B)), ((g 30), .inl (cA 3, 2000, .inl yb)), ((g 38), .inl (cA 3, 2000, .inl ow)), ((g 39), .inl (cA 3, 2000, .inl fi)), ((g 40), .inl (cA 3, 2000, .inl be))] := hD
      refine lv_iload_n hx hb d_Md_lookElement_142 rfl (lv_at hl 2 rfl) ?_
      refine lv_if_eq (tgt := 155) hx hb d_Md_lookElement_143 (by decide) (fun c_143 => absurd c_143 (by decide)) (fun c_143 => ?_)
      refine lv_iload_n hx hb d_Md_lookElement_146 rfl (lv_at hl 2 rfl) ?_
      refine lv_iconst (v := 4) hx hb d_Md_lookElement_147 (by decide) ?_
      refine lv_icmp_eq (tgt := 155) hx hb d_Md_lookElement_148 (by decide) (fun c_148 => absurd c_148 (by decide)) (fun c_148 => ?_)
      refine lv_iconst (v := 1) hx hb d_Md_lookElement_151 (by decide) ?_
      refine lv_goto (tgt := 156) hx hb d_Md_lookElement_152 (by decide) ?_
      refine lv_istore (lv' := [(7, .int 1), (5, .long (lN v)), (4, .int 1), (3, .int 6), (0, .ref m0), (1, .int (nI t)), (2, .int 3)]) hx hb d_Md_lookElement_156 hl (by decide) rfl (fun ls hl => ?_)
      refine lv_iload hx hb d_Md_lookElement_158 (lv_at hl 0 rfl) ?_
      refine lv_if_eq (tgt := 182) hx hb d_Md_lookElement_160 (by decide) (fun c_160 => absurd c_160 (by decide)) (fun c_160 => ?_)
      refine lv_iload_n hx hb d_Md_lookElement_163 rfl (lv_at hl 3 rfl) ?_
      refine lv_iconst (v := 4) hx hb d_Md_lookElement_164 (by decide) ?_
      refine lv_iand hx hb d_Md_lookElement_165 ?_
      refine W.eq (g2 := F0 m 166 ls [.int 4]) (by rw [show (6 : Int32) &&& 4 = 4 from by decide +kernel]) ?_
      refine lv_if_eq (tgt := 182) hx hb d_Md_lookElement_166 (by decide) (fun c_166 => absurd c_166 (by decide)) (fun c_166 => ?_)
      refine lv_aload_n hx hb d_Md_lookElement_169 rfl (lv_at hl 4 rfl) ?_
      refine va_get (D := D) (ci := 6) (v := .ref (g 30)) (C := R_Md) (T := F_Md) (N := 44) hx hb hts (fun w h => List.mem_cons_of_mem _ (i_Md w h)) hown hE.1 hP 0 rfl rfl 30 (by decide) (hts _ (List.mem_cons_of_mem _ iw3_84)) (fun _ h9 => h9) rfl d_Md_lookElement_170 ?_
      refine lv_aload_n hx hb d_Md_lookElement_173 rfl (lv_at hl 4 rfl) ?_
      refine va_get (D := D) (ci := 6) (v := .int (nI a2)) (C := R_Md) (T := F_Md) (N := 44) hx hb hts (fun w h => List.mem_cons_of_mem _ (i_Md w h)) hown hE.1 hP 0 rfl rfl 43 (by decide) (hts _ (List.mem_cons_of_mem _ iw3_97)) (fun _ h9 => h9) rfl d_Md_lookElement_174 ?_
      refine va_iald hx hb hE.1 hP 1 3 rfl rfl (vp_in_nI (by omega) (by omega)) d_Md_lookElement_177 ?_
      rw [nI_clamp (n := a2) (by omega), hyb a2 (by omega)]
      refine lv_i2l hx hb d_Md_lookElement_178 rfl ?_
      rw [nI_l (n := b a2) (by have := hb9 a2; omega)]
      refine lv_goto (tgt := 185) hx hb d_Md_lookElement_179 (by decide) ?_
      refine lv_lstore (lv' := [(8, .long (lN (b a2))), (7, .int 1), (5, .long (lN v)), (4, .int 1), (3, .int 6), (0, .ref m0), (1, .int (nI t)), (2, .int 3)]) hx hb d_Md_lookElement_185 hl (by decide) rfl (fun ls hl => ?_)
      refine lv_aload_n hx hb d_Md_lookElement_187 rfl (lv_at hl 5 rfl) ?_
      refine lv_dup hx hb d_Md_lookElement_188 rfl ?_
      refine va_get (D := D) (ci := 6) (v := .int (nI a2)) (C := R_Md) (T := F_Md) (N := 44) hx hb hts (fun w h => List.mem_cons_of_mem _ (i_Md w h)) hown hE.1 hP 0 rfl rfl 43 (by decide) (hts _ (List.mem_cons_of_mem _ iw3_97)) (fun _ h9 => h9) rfl d_Md_lookElement_189 ?_
      refine lv_iload hx hb d_Md_lookElement_192 (lv_at hl 1 rfl) ?_
      refine lv_if_eq (tgt := 201) hx hb d_Md_lookElement_194 (by decide) (fun c_194 => absurd c_194 (by decide)) (fun c_194 => ?_)
      refine lv_iconst (v := 1) hx hb d_Md_lookElement_197 (by decide) ?_
      refine lv_goto (tgt := 202) hx hb d_Md_lookElement_198 (by decide) ?_
      refine lv_iadd hx hb d_Md_lookElement_202 ?_
      rw [nI_1]
      refine va_put (D := D) (ci := 6) (v := .int (nI (a2 + 1))) (ty := .int) (C := R_Md) (T := F_Md) (N := 44) hx hb hts (fun w h => List.mem_cons_of_mem _ (i_Md w h)) t_Md tk_Md n_Md hown hE.1 hP hD hS 0 rfl rfl 43 (by decide) (hts _ (List.mem_cons_of_mem _ iw3_97)) (fun _ h9 => h9) rfl (by decide +kernel) rfl rfl (Nat.le_of_ble_eq_true rfl) d_Md_lookElement_203 (fun H locs hP hD hS => ?_)
      have hP : va_P D cls [(m0, .inr (6, mF g (K.1, K.2.1, K.2.2.1, K.2.2.2.1, nI X.length, K.2.2.2.2.2.1, K.2.2.2.2.2.2.1, K.2.2.2.2.2.2.2.1, nI (a2 + 1)) A0 e np B)), ((g 30), .inl (cA 3, 2000, .inl yb)), ((g 38), .inl (cA 3, 2000, .inl ow)), ((g 39), .inl (cA 3, 2000, .inl fi)), ((g 40), .inl (cA 3, 2000, .inl be))] H := hP
      have hD : va_D A [(m0, .inr (6, mF g (K.1, K.2.1, K.2.2.1, K.2.2.2.1, nI X.length, K.2.2.2.2.2.1, K.2.2.2.2.2.2.1, K.2.2.2.2.2.2.2.1, nI (a2 + 1)) A0 e np B)), ((g 30), .inl (cA 3, 2000, .inl yb)), ((g 38), .inl (cA 3, 2000, .inl ow)), ((g 39), .inl (cA 3, 2000, .inl fi)), ((g 40), .inl (cA 3, 2000, .inl be))] := hD
      refine lv_iload_n hx hb d_Md_lookElement_206 rfl (lv_at hl 7 rfl) ?_
      refine lv_iconst (v := 1) hx hb d_Md_lookElement_207 (by decide) ?_
      refine lv_icmp_ne (tgt := 214) hx hb d_Md_lookElement_208 (by decide) (fun c_208 => ?_) (fun c_208 => absurd c_208 (by decide))
      refine lv_aload_n hx hb d_Md_lookElement_214 rfl (lv_at hl 5 rfl) ?_
      refine cV (As := []) (rest := []) (n := 0) (wc := [(m0, .inr (6, mF g (K.1, K.2.1, K.2.2.1, K.2.2.2.1, nI X.length, K.2.2.2.2.2.1, K.2.2.2.2.2.2.1, K.2.2.2.2.2.2.2.1, nI (a2 + 1)) A0 e np B)), ((g 30), .inl (cA 3, 2000, .inl yb))]) (wr := [((g 38), .inl (cA 3, 2000, .inl ow)), ((g 39), .inl (cA 3, 2000, .inl fi)), ((g 40), .inl (cA 3, 2000, .inl be))]) ⟨hx, hb, hml, hown, hts⟩ hno hlocks hl.1 (c_Md_number l hl9 D cA ad H.size m0 g (K.1, K.2.1, K.2.2.1, K.2.2.2.1, nI X.length, K.2.2.2.2.2.1, K.2.2.2.2.2.2.1, K.2.2.2.2.2.2.2.1, nI (a2 + 1)) A0 e np B yb b lm hlm hyb hb9 (a2 + 1) n a4 (by omega) he4) iw4_132 iw4_134 sel_Md_number iw1_7 iw4_135 (by decide +kernel) rfl ⟨Nat.le_of_ble_eq_true rfl, Nat.le_of_ble_eq_true rfl⟩ ⟨Nat.le_of_ble_eq_true rfl, Nat.le_of_ble_eq_true rfl⟩ rfl (Nat.le_of_ble_eq_true rfl) d_Md_lookElement_215 hE hP hD hS hA [0, 1] [2, 3, 4] rfl rfl rfl rfl (by decide) (ci := 6) rfl rfl 0 rfl (fun _ h => h.elim) (fun v_215 u_215 H locs hp_215 hP hD hS => ?_)
      obtain rfl := hp_215
      have hP : va_P D cls [(m0, .inr (6, mF g (K.1, K.2.1, K.2.2.1, K.2.2.2.1, nI X.length, K.2.2.2.2.2.1, K.2.2.2.2.2.2.1, K.2.2.2.2.2.2.2.1, nI a4) A0 e np B)), ((g 30), .inl (cA 3, 2000, .inl yb)), ((g 38), .inl (cA 3, 2000, .inl ow)), ((g 39), .inl (cA 3, 2000, .inl fi)), ((g 40), .inl (cA 3, 2000, .inl be))] H := hP.sub [3, 4, 0, 1, 2] rfl
      have hD : va_D A [(m0, .inr (6, mF g (K.1, K.2.1, K.2.2.1, K.2.2.2.1, nI X.length, K.2.2.2.2.2.1, K.2.2.2.2.2.2.1, K.2.2.2.2.2.2.2.1, nI a4) A0 e np B)), ((g 30), .inl (cA 3, 2000, .inl yb)), ((g 38), .inl (cA 3, 2000, .inl ow)), ((g 39), .inl (cA 3, 2000, .inl fi)), ((g 40), .inl (cA 3, 2000, .inl be))] := hD.sub [3, 4, 0, 1, 2] (by decide) rfl
      refine W.cs (cells' := 0) (slots' := 0) rfl rfl ?_
      refine W.eq (g2 := F0 m 218 ls [.long (lN n)]) rfl ?_
      refine lv_lstore (lv' := [(10, .long (lN n)), (8, .long (lN (b a2))), (7, .int 1), (5, .long (lN v)), (4, .int 1), (3, .int 6), (0, .ref m0), (1, .int (nI t)), (2, .int 3)]) hx hb d_Md_lookElement_218 hl (by decide) rfl (fun ls hl => ?_)
      refine lv_iload_n hx hb d_Md_lookElement_220 rfl (lv_at hl 8 rfl) ?_
      refine lv_iconst (v := 3) hx hb d_Md_lookElement_221 (by decide) ?_
      refine lv_icmp_ne (tgt := 228) hx hb d_Md_lookElement_222 (by decide) (fun c_222 => absurd (by decide) c_222) (fun c_222 => ?_)
      refine lv_lload hx hb d_Md_lookElement_225 (lv_at hl 0 rfl) ?_
      exact cRl (nI a4) hx hb hr hlocks d_Md_lookElement_227 hS hP hD (rfl) (Nat.le_refl _) (Nat.le_refl _)
    · have hl : lv_has ls 13 [(0, .ref m0), (1, .int (nI t)), (2, .int 4)] := hl
      refine lv_aload_n hx hb d_Md_lookElement_0 rfl (lv_at hl 0 rfl) ?_
      refine cV (As := []) (rest := []) (n := 0) (wc := [(m0, .inr (6, mF g (K.1, K.2.1, K.2.2.1, K.2.2.2.1, nI X.length, K.2.2.2.2.2.1, K.2.2.2.2.2.2.1, K.2.2.2.2.2.2.2.1, nI a) A0 e np B)), ((g 30), .inl (cA 3, 2000, .inl yb))]) (wr := [((g 38), .inl (cA 3, 2000, .inl ow)), ((g 39), .inl (cA 3, 2000, .inl fi)), ((g 40), .inl (cA 3, 2000, .inl be))]) ⟨hx, hb, hml, hown, hts⟩ hno hlocks hl.1 (c_Md_number l hl9 D cA ad s.heap.size m0 g (K.1, K.2.1, K.2.2.1, K.2.2.2.1, nI X.length, K.2.2.2.2.2.1, K.2.2.2.2.2.2.1, K.2.2.2.2.2.2.2.1, nI a) A0 e np B yb b lm hlm hyb hb9 a 6 a1 (by omega) hmu) iw4_132 iw4_134 sel_Md_number iw1_7 iw4_135 (by decide +kernel) rfl ⟨Nat.le_of_ble_eq_true rfl, Nat.le_of_ble_eq_true rfl⟩ ⟨Nat.le_of_ble_eq_true rfl, Nat.le_of_ble_eq_true rfl⟩ rfl (Nat.le_of_ble_eq_true rfl) d_Md_lookElement_1 hE hP hD hS hA [0, 1] [2, 3, 4] rfl rfl rfl rfl (by decide) (ci := 6) rfl rfl 0 rfl (fun _ h => h.elim) (fun v_1 u_1 H locs hp_1 hP hD hS => ?_)
      obtain rfl := hp_1
      have hP : va_P D cls [(m0, .inr (6, mF g (K.1, K.2.1, K.2.2.1, K.2.2.2.1, nI X.length, K.2.2.2.2.2.1, K.2.2.2.2.2.2.1, K.2.2.2.2.2.2.2.1, nI a1) A0 e np B)), ((g 30), .inl (cA 3, 2000, .inl yb)), ((g 38), .inl (cA 3, 2000, .inl ow)), ((g 39), .inl (cA 3, 2000, .inl fi)), ((g 40), .inl (cA 3, 2000, .inl be))] H := hP.sub [3, 4, 0, 1, 2] rfl
      have hD : va_D A [(m0, .inr (6, mF g (K.1, K.2.1, K.2.2.1, K.2.2.2.1, nI X.length, K.2.2.2.2.2.1, K.2.2.2.2.2.2.1, K.2.2.2.2.2.2.2.1, nI a1) A0 e np B)), ((g 30), .inl (cA 3, 2000, .inl yb)), ((g 38), .inl (cA 3, 2000, .inl ow)), ((g 39), .inl (cA 3, 2000, .inl fi)), ((g 40), .inl (cA 3, 2000, .inl be))] := hD.sub [3, 4, 0, 1, 2] (by decide) rfl
      refine W.cs (cells' := 0) (slots' := 0) rfl rfl ?_
      refine W.eq (g2 := F0 m 4 ls [.long (lN 6)]) rfl ?_
      refine lv_l2i hx hb d_Md_lookElement_4 rfl ?_
      refine W.eq (g2 := F0 m 5 ls [.int 6]) (by rw [lN_i]; rfl) ?_
      refine lv_istore_n (lv' := [(3, .int 6), (0, .ref m0), (1, .int (nI t)), (2, .int 4)]) hx hb d_Md_lookElement_5 rfl hl (by decide) rfl (fun ls hl => ?_)
      refine lv_iload_n hx hb d_Md_lookElement_6 rfl (lv_at hl 0 rfl) ?_
      refine lv_iconst (v := 1) hx hb d_Md_lookElement_7 (by decide) ?_
      refine lv_iand hx hb d_Md_lookElement_8 ?_
      refine W.eq (g2 := F0 m 9 ls [.int 0]) (by rw [show (6 : Int32) &&& 1 = 0 from by decide +kernel]) ?_
      refine lv_if_ne (tgt := 16) hx hb d_Md_lookElement_9 (by decide) (fun c_9 => absurd (by decide) c_9) (fun c_9 => ?_)
      refine lv_iconst (v := 1) hx hb d_Md_lookElement_12 (by decide) ?_
      refine lv_goto (tgt := 17) hx hb d_Md_lookElement_13 (by decide) ?_
      refine lv_istore (lv' := [(4, .int 1), (3, .int 6), (0, .ref m0), (1, .int (nI t)), (2, .int 4)]) hx hb d_Md_lookElement_17 hl (by decide) rfl (fun ls hl => ?_)
      refine lv_iload hx hb d_Md_lookElement_19 (lv_at hl 0 rfl) ?_
      refine lv_if_eq (tgt := 37) hx hb d_Md_lookElement_21 (by decide) (fun c_21 => absurd c_21 (by decide)) (fun c_21 => ?_)
      refine lv_iload_n hx hb d_Md_lookElement_24 rfl (lv_at hl 1 rfl) ?_
      refine lv_iconst (v := 2) hx hb d_Md_lookElement_25 (by decide) ?_
      refine lv_iand hx hb d_Md_lookElement_26 ?_
      refine W.eq (g2 := F0 m 27 ls [.int 2]) (by rw [show (6 : Int32) &&& 2 = 2 from by decide +kernel]) ?_
      refine lv_if_eq (tgt := 37) hx hb d_Md_lookElement_27 (by decide) (fun c_27 => absurd c_27 (by decide)) (fun c_27 => ?_)
      refine lv_aload_n hx hb d_Md_lookElement_30 rfl (lv_at hl 2 rfl) ?_
      refine cV (As := []) (rest := []) (n := 0) (wc := [(m0, .inr (6, mF g (K.1, K.2.1, K.2.2.1, K.2.2.2.1, nI X.length, K.2.2.2.2.2.1, K.2.2.2.2.2.2.1, K.2.2.2.2.2.2.2.1, nI a1) A0 e np B)), ((g 30), .inl (cA 3, 2000, .inl yb))]) (wr := [((g 38), .inl (cA 3, 2000, .inl ow)), ((g 39), .inl (cA 3, 2000, .inl fi)), ((g 40), .inl (cA 3, 2000, .inl be))]) ⟨hx, hb, hml, hown, hts⟩ hno hlocks hl.1 (c_Md_number l hl9 D cA ad H.size m0 g (K.1, K.2.1, K.2.2.1, K.2.2.2.1, nI X.length, K.2.2.2.2.2.1, K.2.2.2.2.2.2.1, K.2.2.2.2.2.2.2.1, nI a1) A0 e np B yb b lm hlm hyb hb9 a1 v b8 (by omega) hv8) iw4_132 iw4_134 sel_Md_number iw1_7 iw4_135 (by decide +kernel) rfl ⟨Nat.le_of_ble_eq_true rfl, Nat.le_of_ble_eq_true rfl⟩ ⟨Nat.le_of_ble_eq_true rfl, Nat.le_of_ble_eq_true rfl⟩ rfl (Nat.le_of_ble_eq_true rfl) d_Md_lookElement_31 hE hP hD hS hA [0, 1] [2, 3, 4] rfl rfl rfl rfl (by decide) (ci := 6) rfl rfl 0 rfl (fun _ h => h.elim) (fun v_31 u_31 H locs hp_31 hP hD hS => ?_)
      obtain rfl := hp_31
      have hP : va_P D cls [(m0, .inr (6, mF g (K.1, K.2.1, K.2.2.1, K.2.2.2.1, nI X.length, K.2.2.2.2.2.1, K.2.2.2.2.2.2.1, K.2.2.2.2.2.2.2.1, nI b8) A0 e np B)), ((g 30), .inl (cA 3, 2000, .inl yb)), ((g 38), .inl (cA 3, 2000, .inl ow)), ((g 39), .inl (cA 3, 2000, .inl fi)), ((g 40), .inl (cA 3, 2000, .inl be))] H := hP.sub [3, 4, 0, 1, 2] rfl
      have hD : va_D A [(m0, .inr (6, mF g (K.1, K.2.1, K.2.2.1, K.2.2.2.1, nI X.length, K.2.2.2.2.2.1, K.2.2.2.2.2.2.1, K.2.2.2.2.2.2.2.1, nI b8) A0 e np B)), ((g 30), .inl (cA 3, 2000, .inl yb)), ((g 38), .inl (cA 3, 2000, .inl ow)), ((g 39), .inl (cA 3, 2000, .inl fi)), ((g 40), .inl (cA 3, 2000, .inl be))] := hD.sub [3, 4, 0, 1, 2] (by decide) rfl
      refine W.cs (cells' := 0) (slots' := 0) rfl rfl ?_
      refine W.eq (g2 := F0 m 34 ls [.long (lN v)]) rfl ?_
      refine lv_goto (tgt := 38) hx hb d_Md_lookElement_34 (by decide) ?_
      refine lv_lstore (lv' := [(5, .long (lN v)), (4, .int 1), (3, .int 6), (0, .ref m0), (1, .int (nI t)), (2, .int 4)]) hx hb d_Md_lookElement_38 hl (by decide) rfl (fun ls hl => ?_)
      refine lv_iload_n hx hb d_Md_lookElement_40 rfl (lv_at hl 5 rfl) ?_
      refine lv_if_ne (tgt := 67) hx hb d_Md_lookElement_41 (by decide) (fun c_41 => ?_) (fun c_41 => absurd c_41 (by decide))
      refine lv_iload_n hx hb d_Md_lookElement_67 rfl (lv_at hl 5 rfl) ?_
      refine lv_iconst (v := 2) hx hb d_Md_lookElement_68 (by decide) ?_
      refine lv_icmp_ne (tgt := 75) hx hb d_Md_lookElement_69 (by decide) (fun c_69 => ?_) (fun c_69 => absurd c_69 (by decide))
      refine lv_iload_n hx hb d_Md_lookElement_75 rfl (lv_at hl 5 rfl) ?_
      refine lv_iconst (v := 4) hx hb d_Md_lookElement_76 (by decide) ?_
      refine lv_icmp_eq (tgt := 85) hx hb d_Md_lookElement_77 (by decide) (fun c_77 => ?_) (fun c_77 => absurd (by decide) c_77)
      refine lv_iload hx hb d_Md_lookElement_85 (lv_at hl 1 rfl) ?_
      refine lv_if_eq (tgt := 100) hx hb d_Md_lookElement_87 (by decide) (fun c_87 => absurd c_87 (by decide)) (fun c_87 => ?_)
      refine lv_aload_n hx hb d_Md_lookElement_90 rfl (lv_at hl 3 rfl) ?_
      refine lv_iload_n hx hb d_Md_lookElement_91 rfl (lv_at hl 4 rfl) ?_
      refine lv_iload_n hx hb d_Md_lookElement_92 rfl (lv_at hl 5 rfl) ?_
      refine cV (As := [.int (nI t), .int 4]) (rest := []) (n := 2) (wc := [(m0, .inr (6, mF g (K.1, K.2.1, K.2.2.1, K.2.2.2.1, nI X.length, K.2.2.2.2.2.1, K.2.2.2.2.2.2.1, K.2.2.2.2.2.2.2.1, nI b8) A0 e np B)), ((g 38), .inl (cA 3, 2000, .inl ow)), ((g 39), .inl (cA 3, 2000, .inl fi)), ((g 40), .inl (cA 3, 2000, .inl be))]) (wr := [((g 30), .inl (cA 3, 2000, .inl yb))]) ⟨hx, hb, hml, hown, hts⟩ hno hlocks hl.1 (c_Md_placeOf l hl9 D cA ad H.size m0 g (K.1, K.2.1, K.2.2.1, K.2.2.2.1, nI X.length, K.2.2.2.2.2.1, K.2.2.2.2.2.2.1, K.2.2.2.2.2.2.2.1, nI b8) A0 e np B ow fi be X hXH hXf hX t (by omega) x1 a2 exs hexx (4 : Int32)) iw4_152 iw4_154 sel_Md_placeOf iw1_7 iw4_155 (by decide +kernel) rfl ⟨Nat.le_of_ble_eq_true rfl, Nat.le_of_ble_eq_true rfl⟩ ⟨Nat.le_of_ble_eq_true rfl, Nat.le_of_ble_eq_true rfl⟩ rfl (Nat.le_of_ble_eq_true rfl) d_Md_lookElement_93 hE hP hD hS hA [0, 2, 3, 4] [1] rfl rfl rfl rfl (by decide) (ci := 6) rfl rfl 0 rfl (fun _ h => h.elim) (fun v_93 u_93 H locs hp_93 hP hD hS => ?_)
      obtain rfl := hp_93
      have hP : va_P D cls [(m0, .inr (6, mF g (K.1, K.2.1, K.2.2.1, K.2.2.2.1, nI X.length, K.2.2.2.2.2.1, K.2.2.2.2.2.2.1, K.2.2.2.2.2.2.2.1, nI b8) A0 e np B)), ((g 30), .inl (cA 3, 2000, .inl yb)), ((g 38), .inl (cA 3, 2000, .inl ow)), ((g 39), .inl (cA 3, 2000, .inl fi)), ((g 40), .inl (cA 3, 2000, .inl be))] H := hP.sub [1, 0, 2, 3, 4] rfl
      have hD : va_D A [(m0, .inr (6, mF g (K.1, K.2.1, K.2.2.1, K.2.2.2.1, nI X.length, K.2.2.2.2.2.1, K.2.2.2.2.2.2.1, K.2.2.2.2.2.2.2.1, nI b8) A0 e np B)), ((g 30), .inl (cA 3, 2000, .inl yb)), ((g 38), .inl (cA 3, 2000, .inl ow)), ((g 39), .inl (cA 3, 2000, .inl fi)), ((g 40), .inl (cA 3, 2000, .inl be))] := hD.sub [1, 0, 2, 3, 4] (by decide) rfl
      refine W.cs (cells' := 0) (slots' := 0) rfl rfl ?_
      refine W.eq (g2 := F0 m 96 ls [.int (if (4 : Int32) = 4 then nI x1 else nI a2)]) rfl ?_
      refine lv_i2l hx hb d_Md_lookElement_96 rfl ?_
      rw [if_pos rfl, nI_l (n := x1) (by omega)]
      refine lv_goto (tgt := 103) hx hb d_Md_lookElement_97 (by decide) ?_
      exact cRl (nI b8) hx hb hr hlocks d_Md_lookElement_103 hS hP hD (congrArg (fun z : Int64 => some (Value.long z)) h4.symm) (Nat.le_refl _) (Nat.le_refl _)
    · have hl : lv_has ls 13 [(0, .ref m0), (1, .int (nI t)), (2, .int 5)] := hl
      refine lv_aload_n hx hb d_Md_lookElement_0 rfl (lv_at hl 0 rfl) ?_
      refine cV (As := []) (rest := []) (n := 0) (wc := [(m0, .inr (6, mF g (K.1, K.2.1, K.2.2.1, K.2.2.2.1, nI X.length, K.2.2.2.2.2.1, K.2.2.2.2.2.2.1, K.2.2.2.2.2.2.2.1, nI a) A0 e np B)), ((g 30), .inl (cA 3, 2000, .inl yb))]) (wr := [((g 38), .inl (cA 3, 2000, .inl ow)), ((g 39), .inl (cA 3, 2000, .inl fi)), ((g 40), .inl (cA 3, 2000, .inl be))]) ⟨hx, hb, hml, hown, hts⟩ hno hlocks hl.1 (c_Md_number l hl9 D cA ad s.heap.size m0 g (K.1, K.2.1, K.2.2.1, K.2.2.2.1, nI X.length, K.2.2.2.2.2.1, K.2.2.2.2.2.2.1, K.2.2.2.2.2.2.2.1, nI a) A0 e np B yb b lm hlm hyb hb9 a 6 a1 (by omega) hmu) iw4_132 iw4_134 sel_Md_number iw1_7 iw4_135 (by decide +kernel) rfl ⟨Nat.le_of_ble_eq_true rfl, Nat.le_of_ble_eq_true rfl⟩ ⟨Nat.le_of_ble_eq_true rfl, Nat.le_of_ble_eq_true rfl⟩ rfl (Nat.le_of_ble_eq_true rfl) d_Md_lookElement_1 hE hP hD hS hA [0, 1] [2, 3, 4] rfl rfl rfl rfl (by decide) (ci := 6) rfl rfl 0 rfl (fun _ h => h.elim) (fun v_1 u_1 H locs hp_1 hP hD hS => ?_)
      obtain rfl := hp_1
      have hP : va_P D cls [(m0, .inr (6, mF g (K.1, K.2.1, K.2.2.1, K.2.2.2.1, nI X.length, K.2.2.2.2.2.1, K.2.2.2.2.2.2.1, K.2.2.2.2.2.2.2.1, nI a1) A0 e np B)), ((g 30), .inl (cA 3, 2000, .inl yb)), ((g 38), .inl (cA 3, 2000, .inl ow)), ((g 39), .inl (cA 3, 2000, .inl fi)), ((g 40), .inl (cA 3, 2000, .inl be))] H := hP.sub [3, 4, 0, 1, 2] rfl
      have hD : va_D A [(m0, .inr (6, mF g (K.1, K.2.1, K.2.2.1, K.2.2.2.1, nI X.length, K.2.2.2.2.2.1, K.2.2.2.2.2.2.1, K.2.2.2.2.2.2.2.1, nI a1) A0 e np B)), ((g 30), .inl (cA 3, 2000, .inl yb)), ((g 38), .inl (cA 3, 2000, .inl ow)), ((g 39), .inl (cA 3, 2000, .inl fi)), ((g 40), .inl (cA 3, 2000, .inl be))] := hD.sub [3, 4, 0, 1, 2] (by decide) rfl
      refine W.cs (cells' := 0) (slots' := 0) rfl rfl ?_
      refine W.eq (g2 := F0 m 4 ls [.long (lN 6)]) rfl ?_
      refine lv_l2i hx hb d_Md_lookElement_4 rfl ?_
      refine W.eq (g2 := F0 m 5 ls [.int 6]) (by rw [lN_i]; rfl) ?_
      refine lv_istore_n (lv' := [(3, .int 6), (0, .ref m0), (1, .int (nI t)), (2, .int 5)]) hx hb d_Md_lookElement_5 rfl hl (by decide) rfl (fun ls hl => ?_)
      refine lv_iload_n hx hb d_Md_lookElement_6 rfl (lv_at hl 0 rfl) ?_
      refine lv_iconst (v := 1) hx hb d_Md_lookElement_7 (by decide) ?_
      refine lv_iand hx hb d_Md_lookElement_8 ?_
      refine W.eq (g2 := F0 m 9 ls [.int 0]) (by rw [show (6 : Int32) &&& 1 = 0 from by decide +kernel]) ?_
      refine lv_if_ne (tgt := 16) hx hb d_Md_lookElement_9 (by decide) (fun c_9 => absurd (by decide) c_9) (fun c_9 => ?_)
      refine lv_iconst (v := 1) hx hb d_Md_lookElement_12 (by decide) ?_
      refine lv_goto (tgt := 17) hx hb d_Md_lookElement_13 (by decide) ?_
      refine lv_istore (lv' := [(4, .int 1), (3, .int 6), (0, .ref m0), (1, .int (nI t)), (2, .int 5)]) hx hb d_Md_lookElement_17 hl (by decide) rfl (fun ls hl => ?_)
      refine lv_iload hx hb d_Md_lookElement_19 (lv_at hl 0 rfl) ?_
      refine lv_if_eq (tgt := 37) hx hb d_Md_lookElement_21 (by decide) (fun c_21 => absurd c_21 (by decide)) (fun c_21 => ?_)
      refine lv_iload_n hx hb d_Md_lookElement_24 rfl (lv_at hl 1 rfl) ?_
      refine lv_iconst (v := 2) hx hb d_Md_lookElement_25 (by decide) ?_
      refine lv_iand hx hb d_Md_lookElement_26 ?_
      refine W.eq (g2 := F0 m 27 ls [.int 2]) (by rw [show (6 : Int32) &&& 2 = 2 from by decide +kernel]) ?_
      refine lv_if_eq (tgt := 37) hx hb d_Md_lookElement_27 (by decide) (fun c_27 => absurd c_27 (by decide)) (fun c_27 => ?_)
      refine lv_aload_n hx hb d_Md_lookElement_30 rfl (lv_at hl 2 rfl) ?_
      refine cV (As := []) (rest := []) (n := 0) (wc := [(m0, .inr (6, mF g (K.1, K.2.1, K.2.2.1, K.2.2.2.1, nI X.length, K.2.2.2.2.2.1, K.2.2.2.2.2.2.1, K.2.2.2.2.2.2.2.1, nI a1) A0 e np B)), ((g 30), .inl (cA 3, 2000, .inl yb))]) (wr := [((g 38), .inl (cA 3, 2000, .inl ow)), ((g 39), .inl (cA 3, 2000, .inl fi)), ((g 40), .inl (cA 3, 2000, .inl be))]) ⟨hx, hb, hml, hown, hts⟩ hno hlocks hl.1 (c_Md_number l hl9 D cA ad H.size m0 g (K.1, K.2.1, K.2.2.1, K.2.2.2.1, nI X.length, K.2.2.2.2.2.1, K.2.2.2.2.2.2.1, K.2.2.2.2.2.2.2.1, nI a1) A0 e np B yb b lm hlm hyb hb9 a1 v b8 (by omega) hv8) iw4_132 iw4_134 sel_Md_number iw1_7 iw4_135 (by decide +kernel) rfl ⟨Nat.le_of_ble_eq_true rfl, Nat.le_of_ble_eq_true rfl⟩ ⟨Nat.le_of_ble_eq_true rfl, Nat.le_of_ble_eq_true rfl⟩ rfl (Nat.le_of_ble_eq_true rfl) d_Md_lookElement_31 hE hP hD hS hA [0, 1] [2, 3, 4] rfl rfl rfl rfl (by decide) (ci := 6) rfl rfl 0 rfl (fun _ h => h.elim) (fun v_31 u_31 H locs hp_31 hP hD hS => ?_)
      obtain rfl := hp_31
      have hP : va_P D cls [(m0, .inr (6, mF g (K.1, K.2.1, K.2.2.1, K.2.2.2.1, nI X.length, K.2.2.2.2.2.1, K.2.2.2.2.2.2.1, K.2.2.2.2.2.2.2.1, nI b8) A0 e np B)), ((g 30), .inl (cA 3, 2000, .inl yb)), ((g 38), .inl (cA 3, 2000, .inl ow)), ((g 39), .inl (cA 3, 2000, .inl fi)), ((g 40), .inl (cA 3, 2000, .inl be))] H := hP.sub [3, 4, 0, 1, 2] rfl
      have hD : va_D A [(m0, .inr (6, mF g (K.1, K.2.1, K.2.2.1, K.2.2.2.1, nI X.length, K.2.2.2.2.2.1, K.2.2.2.2.2.2.1, K.2.2.2.2.2.2.2.1, nI b8) A0 e np B)), ((g 30), .inl (cA 3, 2000, .inl yb)), ((g 38), .inl (cA 3, 2000, .inl ow)), ((g 39), .inl (cA 3, 2000, .inl fi)), ((g 40), .inl (cA 3, 2000, .inl be))] := hD.sub [3, 4, 0, 1, 2] (by decide) rfl
      refine W.cs (cells' := 0) (slots' := 0) rfl rfl ?_
      refine W.eq (g2 := F0 m 34 ls [.long (lN v)]) rfl ?_
      refine lv_goto (tgt := 38) hx hb d_Md_lookElement_34 (by decide) ?_
      refine lv_lstore (lv' := [(5, .long (lN v)), (4, .int 1), (3, .int 6), (0, .ref m0), (1, .int (nI t)), (2, .int 5)]) hx hb d_Md_lookElement_38 hl (by decide) rfl (fun ls hl => ?_)
      refine lv_iload_n hx hb d_Md_lookElement_40 rfl (lv_at hl 5 rfl) ?_
      refine lv_if_ne (tgt := 67) hx hb d_Md_lookElement_41 (by decide) (fun c_41 => ?_) (fun c_41 => absurd c_41 (by decide))
      refine lv_iload_n hx hb d_Md_lookElement_67 rfl (lv_at hl 5 rfl) ?_
      refine lv_iconst (v := 2) hx hb d_Md_lookElement_68 (by decide) ?_
      refine lv_icmp_ne (tgt := 75) hx hb d_Md_lookElement_69 (by decide) (fun c_69 => ?_) (fun c_69 => absurd c_69 (by decide))
      refine lv_iload_n hx hb d_Md_lookElement_75 rfl (lv_at hl 5 rfl) ?_
      refine lv_iconst (v := 4) hx hb d_Md_lookElement_76 (by decide) ?_
      refine lv_icmp_eq (tgt := 85) hx hb d_Md_lookElement_77 (by decide) (fun c_77 => absurd c_77 (by decide)) (fun c_77 => ?_)
      refine lv_iload_n hx hb d_Md_lookElement_80 rfl (lv_at hl 5 rfl) ?_
      refine lv_iconst (v := 5) hx hb d_Md_lookElement_81 (by decide) ?_
      refine lv_icmp_ne (tgt := 104) hx hb d_Md_lookElement_82 (by decide) (fun c_82 => absurd (by decide) c_82) (fun c_82 => ?_)
      refine lv_iload hx hb d_Md_lookElement_85 (lv_at hl 1 rfl) ?_
      refine lv_if_eq (tgt := 100) hx hb d_Md_lookElement_87 (by decide) (fun c_87 => absurd c_87 (by decide)) (fun c_87 => ?_)
      refine lv_aload_n hx hb d_Md_lookElement_90 rfl (lv_at hl 3 rfl) ?_
      refine lv_iload_n hx hb d_Md_lookElement_91 rfl (lv_at hl 4 rfl) ?_
      refine lv_iload_n hx hb d_Md_lookElement_92 rfl (lv_at hl 5 rfl) ?_
      refine cV (As := [.int (nI t), .int 5]) (rest := []) (n := 2) (wc := [(m0, .inr (6, mF g (K.1, K.2.1, K.2.2.1, K.2.2.2.1, nI X.length, K.2.2.2.2.2.1, K.2.2.2.2.2.2.1, K.2.2.2.2.2.2.2.1, nI b8) A0 e np B)), ((g 38), .inl (cA 3, 2000, .inl ow)), ((g 39), .inl (cA 3, 2000, .inl fi)), ((g 40), .inl (cA 3, 2000, .inl be))]) (wr := [((g 30), .inl (cA 3, 2000, .inl yb))]) ⟨hx, hb, hml, hown, hts⟩ hno hlocks hl.1 (c_Md_placeOf l hl9 D cA ad H.size m0 g (K.1, K.2.1, K.2.2.1, K.2.2.2.1, nI X.length, K.2.2.2.2.2.1, K.2.2.2.2.2.2.1, K.2.2.2.2.2.2.2.1, nI b8) A0 e np B ow fi be X hXH hXf hX t (by omega) x1 a2 exs hexx (5 : Int32)) iw4_152 iw4_154 sel_Md_placeOf iw1_7 iw4_155 (by decide +kernel) rfl ⟨Nat.le_of_ble_eq_true rfl, Nat.le_of_ble_eq_true rfl⟩ ⟨Nat.le_of_ble_eq_true rfl, Nat.le_of_ble_eq_true rfl⟩ rfl (Nat.le_of_ble_eq_true rfl) d_Md_lookElement_93 hE hP hD hS hA [0, 2, 3, 4] [1] rfl rfl rfl rfl (by decide) (ci := 6) rfl rfl 0 rfl (fun _ h => h.elim) (fun v_93 u_93 H locs hp_93 hP hD hS => ?_)
      obtain rfl := hp_93
      have hP : va_P D cls [(m0, .inr (6, mF g (K.1, K.2.1, K.2.2.1, K.2.2.2.1, nI X.length, K.2.2.2.2.2.1, K.2.2.2.2.2.2.1, K.2.2.2.2.2.2.2.1, nI b8) A0 e np B)), ((g 30), .inl (cA 3, 2000, .inl yb)), ((g 38), .inl (cA 3, 2000, .inl ow)), ((g 39), .inl (cA 3, 2000, .inl fi)), ((g 40), .inl (cA 3, 2000, .inl be))] H := hP.sub [1, 0, 2, 3, 4] rfl
      have hD : va_D A [(m0, .inr (6, mF g (K.1, K.2.1, K.2.2.1, K.2.2.2.1, nI X.length, K.2.2.2.2.2.1, K.2.2.2.2.2.2.1, K.2.2.2.2.2.2.2.1, nI b8) A0 e np B)), ((g 30), .inl (cA 3, 2000, .inl yb)), ((g 38), .inl (cA 3, 2000, .inl ow)), ((g 39), .inl (cA 3, 2000, .inl fi)), ((g 40), .inl (cA 3, 2000, .inl be))] := hD.sub [1, 0, 2, 3, 4] (by decide) rfl
      refine W.cs (cells' := 0) (slots' := 0) rfl rfl ?_
      refine W.eq (g2 := F0 m 96 ls [.int (if (5 : Int32) = 4 then nI x1 else nI a2)]) rfl ?_
      refine lv_i2l hx hb d_Md_lookElement_96 rfl ?_
      rw [if_neg (by decide), nI_l (n := a2) (by omega)]
      refine lv_goto (tgt := 103) hx hb d_Md_lookElement_97 (by decide) ?_
      exact cRl (nI b8) hx hb hr hlocks d_Md_lookElement_103 hS hP hD (rfl) (Nat.le_refl _) (Nat.le_refl _)
    · have hl : lv_has ls 13 [(0, .ref m0), (1, .int (nI t)), (2, .int 6)] := hl
      refine lv_aload_n hx hb d_Md_lookElement_0 rfl (lv_at hl 0 rfl) ?_
      refine cV (As := []) (rest := []) (n := 0) (wc := [(m0, .inr (6, mF g (K.1, K.2.1, K.2.2.1, K.2.2.2.1, nI X.length, K.2.2.2.2.2.1, K.2.2.2.2.2.2.1, K.2.2.2.2.2.2.2.1, nI a) A0 e np B)), ((g 30), .inl (cA 3, 2000, .inl yb))]) (wr := [((g 38), .inl (cA 3, 2000, .inl ow)), ((g 39), .inl (cA 3, 2000, .inl fi)), ((g 40), .inl (cA 3, 2000, .inl be))]) ⟨hx, hb, hml, hown, hts⟩ hno hlocks hl.1 (c_Md_number l hl9 D cA ad s.heap.size m0 g (K.1, K.2.1, K.2.2.1, K.2.2.2.1, nI X.length, K.2.2.2.2.2.1, K.2.2.2.2.2.2.1, K.2.2.2.2.2.2.2.1, nI a) A0 e np B yb b lm hlm hyb hb9 a 6 a1 (by omega) hmu) iw4_132 iw4_134 sel_Md_number iw1_7 iw4_135 (by decide +kernel) rfl ⟨Nat.le_of_ble_eq_true rfl, Nat.le_of_ble_eq_true rfl⟩ ⟨Nat.le_of_ble_eq_true rfl, Nat.le_of_ble_eq_true rfl⟩ rfl (Nat.le_of_ble_eq_true rfl) d_Md_lookElement_1 hE hP hD hS hA [0, 1] [2, 3, 4] rfl rfl rfl rfl (by decide) (ci := 6) rfl rfl 0 rfl (fun _ h => h.elim) (fun v_1 u_1 H locs hp_1 hP hD hS => ?_)
      obtain rfl := hp_1
      have hP : va_P D cls [(m0, .inr (6, mF g (K.1, K.2.1, K.2.2.1, K.2.2.2.1, nI X.length, K.2.2.2.2.2.1, K.2.2.2.2.2.2.1, K.2.2.2.2.2.2.2.1, nI a1) A0 e np B)), ((g 30), .inl (cA 3, 2000, .inl yb)), ((g 38), .inl (cA 3, 2000, .inl ow)), ((g 39), .inl (cA 3, 2000, .inl fi)), ((g 40), .inl (cA 3, 2000, .inl be))] H := hP.sub [3, 4, 0, 1, 2] rfl
      have hD : va_D A [(m0, .inr (6, mF g (K.1, K.2.1, K.2.2.1, K.2.2.2.1, nI X.length, K.2.2.2.2.2.1, K.2.2.2.2.2.2.1, K.2.2.2.2.2.2.2.1, nI a1) A0 e np B)), ((g 30), .inl (cA 3, 2000, .inl yb)), ((g 38), .inl (cA 3, 2000, .inl ow)), ((g 39), .inl (cA 3, 2000, .inl fi)), ((g 40), .inl (cA 3, 2000, .inl be))] := hD.sub [3, 4, 0, 1, 2] (by decide) rfl
      refine W.cs (cells' := 0) (slots' := 0) rfl rfl ?_
      refine W.eq (g2 := F0 m 4 ls [.long (lN 6)]) rfl ?_
      refine lv_l2i hx hb d_Md_lookElement_4 rfl ?_
      refine W.eq (g2 := F0 m 5 ls [.int 6]) (by rw [lN_i]; rfl) ?_
      refine lv_istore_n (lv' := [(3, .int 6), (0, .ref m0), (1, .int (nI t)), (2, .int 6)]) hx hb d_Md_lookElement_5 rfl hl (by decide) rfl (fun ls hl => ?_)
      refine lv_iload_n hx hb d_Md_lookElement_6 rfl (lv_at hl 0 rfl) ?_
      refine lv_iconst (v := 1) hx hb d_Md_lookElement_7 (by decide) ?_
      refine lv_iand hx hb d_Md_lookElement_8 ?_
      refine W.eq (g2 := F0 m 9 ls [.int 0]) (by rw [show (6 : Int32) &&& 1 = 0 from by decide +kernel]) ?_
      refine lv_if_ne (tgt := 16) hx hb d_Md_lookElement_9 (by decide) (fun c_9 => absurd (by decide) c_9) (fun c_9 => ?_)
      refine lv_iconst (v := 1) hx hb d_Md_lookElement_12 (by decide) ?_
      refine lv_goto (tgt := 17) hx hb d_Md_lookElement_13 (by decide) ?_
      refine lv_istore (lv' := [(4, .int 1), (3, .int 6), (0, .ref m0), (1, .int (nI t)), (2, .int 6)]) hx hb d_Md_lookElement_17 hl (by decide) rfl (fun ls hl => ?_)
      refine lv_iload hx hb d_Md_lookElement_19 (lv_at hl 0 rfl) ?_
      refine lv_if_eq (tgt := 37) hx hb d_Md_lookElement_21 (by decide) (fun c_21 => absurd c_21 (by decide)) (fun c_21 => ?_)
      refine lv_iload_n hx hb d_Md_lookElement_24 rfl (lv_at hl 1 rfl) ?_
      refine lv_iconst (v := 2) hx hb d_Md_lookElement_25 (by decide) ?_
      refine lv_iand hx hb d_Md_lookElement_26 ?_
      refine W.eq (g2 := F0 m 27 ls [.int 2]) (by rw [show (6 : Int32) &&& 2 = 2 from by decide +kernel]) ?_
      refine lv_if_eq (tgt := 37) hx hb d_Md_lookElement_27 (by decide) (fun c_27 => absurd c_27 (by decide)) (fun c_27 => ?_)
      refine lv_aload_n hx hb d_Md_lookElement_30 rfl (lv_at hl 2 rfl) ?_
      refine cV (As := []) (rest := []) (n := 0) (wc := [(m0, .inr (6, mF g (K.1, K.2.1, K.2.2.1, K.2.2.2.1, nI X.length, K.2.2.2.2.2.1, K.2.2.2.2.2.2.1, K.2.2.2.2.2.2.2.1, nI a1) A0 e np B)), ((g 30), .inl (cA 3, 2000, .inl yb))]) (wr := [((g 38), .inl (cA 3, 2000, .inl ow)), ((g 39), .inl (cA 3, 2000, .inl fi)), ((g 40), .inl (cA 3, 2000, .inl be))]) ⟨hx, hb, hml, hown, hts⟩ hno hlocks hl.1 (c_Md_number l hl9 D cA ad H.size m0 g (K.1, K.2.1, K.2.2.1, K.2.2.2.1, nI X.length, K.2.2.2.2.2.1, K.2.2.2.2.2.2.1, K.2.2.2.2.2.2.2.1, nI a1) A0 e np B yb b lm hlm hyb hb9 a1 v b8 (by omega) hv8) iw4_132 iw4_134 sel_Md_number iw1_7 iw4_135 (by decide +kernel) rfl ⟨Nat.le_of_ble_eq_true rfl, Nat.le_of_ble_eq_true rfl⟩ ⟨Nat.le_of_ble_eq_true rfl, Nat.le_of_ble_eq_true rfl⟩ rfl (Nat.le_of_ble_eq_true rfl) d_Md_lookElement_31 hE hP hD hS hA [0, 1] [2, 3, 4] rfl rfl rfl rfl (by decide) (ci := 6) rfl rfl 0 rfl (fun _ h => h.elim) (fun v_31 u_31 H locs hp_31 hP hD hS => ?_)
      obtain rfl := hp_31
      have hP : va_P D cls [(m0, .inr (6, mF g (K.1, K.2.1, K.2.2.1, K.2.2.2.1, nI X.length, K.2.2.2.2.2.1, K.2.2.2.2.2.2.1, K.2.2.2.2.2.2.2.1, nI b8) A0 e np B)), ((g 30), .inl (cA 3, 2000, .inl yb)), ((g 38), .inl (cA 3, 2000, .inl ow)), ((g 39), .inl (cA 3, 2000, .inl fi)), ((g 40), .inl (cA 3, 2000, .inl be))] H := hP.sub [3, 4, 0, 1, 2] rfl
      have hD : va_D A [(m0, .inr (6, mF g (K.1, K.2.1, K.2.2.1, K.2.2.2.1, nI X.length, K.2.2.2.2.2.1, K.2.2.2.2.2.2.1, K.2.2.2.2.2.2.2.1, nI b8) A0 e np B)), ((g 30), .inl (cA 3, 2000, .inl yb)), ((g 38), .inl (cA 3, 2000, .inl ow)), ((g 39), .inl (cA 3, 2000, .inl fi)), ((g 40), .inl (cA 3, 2000, .inl be))] := hD.sub [3, 4, 0, 1, 2] (by decide) rfl
      refine W.cs (cells' := 0) (slots' := 0) rfl rfl ?_
      refine W.eq (g2 := F0 m 34 ls [.long (lN v)]) rfl ?_
      refine lv_goto (tgt := 38) hx hb d_Md_lookElement_34 (by decide) ?_
      refine lv_lstore (lv' := [(5, .long (lN v)), (4, .int 1), (3, .int 6), (0, .ref m0), (1, .int (nI t)), (2, .int 6)]) hx hb d_Md_lookElement_38 hl (by decide) rfl (fun ls hl => ?_)
      refine lv_iload_n hx hb d_Md_lookElement_40 rfl (lv_at hl 5 rfl) ?_
      refine lv_if_ne (tgt := 67) hx hb d_Md_lookElement_41 (by decide) (fun c_41 => ?_) (fun c_41 => absurd c_41 (by decide))
      refine lv_iload_n hx hb d_Md_lookElement_67 rfl (lv_at hl 5 rfl) ?_
      refine lv_iconst (v := 2) hx hb d_Md_lookElement_68 (by decide) ?_
      refine lv_icmp_ne (tgt := 75) hx hb d_Md_lookElement_69 (by decide) (fun c_69 => ?_) (fun c_69 => absurd c_69 (by decide))
      refine lv_iload_n hx hb d_Md_lookElement_75 rfl (lv_at hl 5 rfl) ?_
      refine lv_iconst (v := 4) hx hb d_Md_lookElement_76 (by decide) ?_
      refine lv_icmp_eq (tgt := 85) hx hb d_Md_lookElement_77 (by decide) (fun c_77 => absurd c_77 (by decide)) (fun c_77 => ?_)
      refine lv_iload_n hx hb d_Md_lookElement_80 rfl (lv_at hl 5 rfl) ?_
      refine lv_iconst (v := 5) hx hb d_Md_lookElement_81 (by decide) ?_
      refine lv_icmp_ne (tgt := 104) hx hb d_Md_lookElement_82 (by decide) (fun c_82 => ?_) (fun c_82 => absurd c_82 (by decide))
      refine lv_iload_n hx hb d_Md_lookElement_104 rfl (lv_at hl 5 rfl) ?_
      refine lv_bipush (v := 6) hx hb d_Md_lookElement_105 (by decide) ?_
      refine lv_icmp_ne (tgt := 122) hx hb d_Md_lookElement_107 (by decide) (fun c_107 => absurd (by decide) c_107) (fun c_107 => ?_)
      refine lv_iload_n hx hb d_Md_lookElement_110 rfl (lv_at hl 2 rfl) ?_
      refine lv_iconst (v := 4) hx hb d_Md_lookElement_111 (by decide) ?_
      refine lv_iand hx hb d_Md_lookElement_112 ?_
      refine W.eq (g2 := F0 m 113 ls [.int 4]) (by rw [show (6 : Int32) &&& 4 = 4 from by decide +kernel]) ?_
      refine lv_if_eq (tgt := 120) hx hb d_Md_lookElement_113 (by decide) (fun c_113 => absurd c_113 (by decide)) (fun c_113 => ?_)
      refine lv_lconst (v := 1) hx hb d_Md_lookElement_116 (by decide) ?_
      refine lv_goto (tgt := 121) hx hb d_Md_lookElement_117 (by decide) ?_
      exact cRl (nI b8) hx hb hr hlocks d_Md_lookElement_121 hS hP hD (rfl) (Nat.le_refl _) (Nat.le_refl _)
    · have hl : lv_has ls 13 [(0, .ref m0), (1, .int (nI t)), (2, .int 7)] := hl
      refine lv_aload_n hx hb d_Md_lookElement_0 rfl (lv_at hl 0 rfl) ?_
      refine cV (As := []) (rest := []) (n := 0) (wc := [(m0, .inr (6, mF g (K.1, K.2.1, K.2.2.1, K.2.2.2.1, nI X.length, K.2.2.2.2.2.1, K.2.2.2.2.2.2.1, K.2.2.2.2.2.2.2.1, nI a) A0 e np B)), ((g 30), .inl (cA 3, 2000, .inl yb))]) (wr := [((g 38), .inl (cA 3, 2000, .inl ow)), ((g 39), .inl (cA 3, 2000, .inl fi)), ((g 40), .inl (cA 3, 2000, .inl be))]) ⟨hx, hb, hml, hown, hts⟩ hno hlocks hl.1 (c_Md_number l hl9 D cA ad s.heap.size m0 g (K.1, K.2.1, K.2.2.1, K.2.2.2.1, nI X.length, K.2.2.2.2.2.1, K.2.2.2.2.2.2.1, K.2.2.2.2.2.2.2.1, nI a) A0 e np B yb b lm hlm hyb hb9 a 6 a1 (by omega) hmu) iw4_132 iw4_134 sel_Md_number iw1_7 iw4_135 (by decide +kernel) rfl ⟨Nat.le_of_ble_eq_true rfl, Nat.le_of_ble_eq_true rfl⟩ ⟨Nat.le_of_ble_eq_true rfl, Nat.le_of_ble_eq_true rfl⟩ rfl (Nat.le_of_ble_eq_true rfl) d_Md_lookElement_1 hE hP hD hS hA [0, 1] [2, 3, 4] rfl rfl rfl rfl (by decide) (ci := 6) rfl rfl 0 rfl (fun _ h => h.elim) (fun v_1 u_1 H locs hp_1 hP hD hS => ?_)
      obtain rfl := hp_1
      have hP : va_P D cls [(m0, .inr (6, mF g (K.1, K.2.1, K.2.2.1, K.2.2.2.1, nI X.length, K.2.2.2.2.2.1, K.2.2.2.2.2.2.1, K.2.2.2.2.2.2.2.1, nI a1) A0 e np B)), ((g 30), .inl (cA 3, 2000, .inl yb)), ((g 38), .inl (cA 3, 2000, .inl ow)), ((g 39), .inl (cA 3, 2000, .inl fi)), ((g 40), .inl (cA 3, 2000, .inl be))] H := hP.sub [3, 4, 0, 1, 2] rfl
      have hD : va_D A [(m0, .inr (6, mF g (K.1, K.2.1, K.2.2.1, K.2.2.2.1, nI X.length, K.2.2.2.2.2.1, K.2.2.2.2.2.2.1, K.2.2.2.2.2.2.2.1, nI a1) A0 e np B)), ((g 30), .inl (cA 3, 2000, .inl yb)), ((g 38), .inl (cA 3, 2000, .inl ow)), ((g 39), .inl (cA 3, 2000, .inl fi)), ((g 40), .inl (cA 3, 2000, .inl be))] := hD.sub [3, 4, 0, 1, 2] (by decide) rfl
      refine W.cs (cells' := 0) (slots' := 0) rfl rfl ?_
      refine W.eq (g2 := F0 m 4 ls [.long (lN 6)]) rfl ?_
      refine lv_l2i hx hb d_Md_lookElement_4 rfl ?_
      refine W.eq (g2 := F0 m 5 ls [.int 6]) (by rw [lN_i]; rfl) ?_
      refine lv_istore_n (lv' := [(3, .int 6), (0, .ref m0), (1, .int (nI t)), (2, .int 7)]) hx hb d_Md_lookElement_5 rfl hl (by decide) rfl (fun ls hl => ?_)
      refine lv_iload_n hx hb d_Md_lookElement_6 rfl (lv_at hl 0 rfl) ?_
      refine lv_iconst (v := 1) hx hb d_Md_lookElement_7 (by decide) ?_
      refine lv_iand hx hb d_Md_lookElement_8 ?_
      refine W.eq (g2 := F0 m 9 ls [.int 0]) (by rw [show (6 : Int32) &&& 1 = 0 from by decide +kernel]) ?_
      refine lv_if_ne (tgt := 16) hx hb d_Md_lookElement_9 (by decide) (fun c_9 => absurd (by decide) c_9) (fun c_9 => ?_)
      refine lv_iconst (v := 1) hx hb d_Md_lookElement_12 (by decide) ?_
      refine lv_goto (tgt := 17) hx hb d_Md_lookElement_13 (by decide) ?_
      refine lv_istore (lv' := [(4, .int 1), (3, .int 6), (0, .ref m0), (1, .int (nI t)), (2, .int 7)]) hx hb d_Md_lookElement_17 hl (by decide) rfl (fun ls hl => ?_)
      refine lv_iload hx hb d_Md_lookElement_19 (lv_at hl 0 rfl) ?_
      refine lv_if_eq (tgt := 37) hx hb d_Md_lookElement_21 (by decide) (fun c_21 => absurd c_21 (by decide)) (fun c_21 => ?_)
      refine lv_iload_n hx hb d_Md_lookElement_24 rfl (lv_at hl 1 rfl) ?_
      refine lv_iconst (v := 2) hx hb d_Md_lookElement_25 (by decide) ?_
      refine lv_iand hx hb d_Md_lookElement_26 ?_
      refine W.eq (g2 := F0 m 27 ls [.int 2]) (by rw [show (6 : Int32) &&& 2 = 2 from by decide +kernel]) ?_
      refine lv_if_eq (tgt := 37) hx hb d_Md_lookElement_27 (by decide) (fun c_27 => absurd c_27 (by decide)) (fun c_27 => ?_)
      refine lv_aload_n hx hb d_Md_lookElement_30 rfl (lv_at hl 2 rfl) ?_
      refine cV (As := []) (rest := []) (n := 0) (wc := [(m0, .inr (6, mF g (K.1, K.2.1, K.2.2.1, K.2.2.2.1, nI X.length, K.2.2.2.2.2.1, K.2.2.2.2.2.2.1, K.2.2.2.2.2.2.2.1, nI a1) A0 e np B)), ((g 30), .inl (cA 3, 2000, .inl yb))]) (wr := [((g 38), .inl (cA 3, 2000, .inl ow)), ((g 39), .inl (cA 3, 2000, .inl fi)), ((g 40), .inl (cA 3, 2000, .inl be))]) ⟨hx, hb, hml, hown, hts⟩ hno hlocks hl.1 (c_Md_number l hl9 D cA ad H.size m0 g (K.1, K.2.1, K.2.2.1, K.2.2.2.1, nI X.length, K.2.2.2.2.2.1, K.2.2.2.2.2.2.1, K.2.2.2.2.2.2.2.1, nI a1) A0 e np B yb b lm hlm hyb hb9 a1 v b8 (by omega) hv8) iw4_132 iw4_134 sel_Md_number iw1_7 iw4_135 (by decide +kernel) rfl ⟨Nat.le_of_ble_eq_true rfl, Nat.le_of_ble_eq_true rfl⟩ ⟨Nat.le_of_ble_eq_true rfl, Nat.le_of_ble_eq_true rfl⟩ rfl (Nat.le_of_ble_eq_true rfl) d_Md_lookElement_31 hE hP hD hS hA [0, 1] [2, 3, 4] rfl rfl rfl rfl (by decide) (ci := 6) rfl rfl 0 rfl (fun _ h => h.elim) (fun v_31 u_31 H locs hp_31 hP hD hS => ?_)
      obtain rfl := hp_31
      have hP : va_P D cls [(m0, .inr (6, mF g (K.1, K.2.1, K.2.2.1, K.2.2.2.1, nI X.length, K.2.2.2.2.2.1, K.2.2.2.2.2.2.1, K.2.2.2.2.2.2.2.1, nI b8) A0 e np B)), ((g 30), .inl (cA 3, 2000, .inl yb)), ((g 38), .inl (cA 3, 2000, .inl ow)), ((g 39), .inl (cA 3, 2000, .inl fi)), ((g 40), .inl (cA 3, 2000, .inl be))] H := hP.sub [3, 4, 0, 1, 2] rfl
      have hD : va_D A [(m0, .inr (6, mF g (K.1, K.2.1, K.2.2.1, K.2.2.2.1, nI X.length, K.2.2.2.2.2.1, K.2.2.2.2.2.2.1, K.2.2.2.2.2.2.2.1, nI b8) A0 e np B)), ((g 30), .inl (cA 3, 2000, .inl yb)), ((g 38), .inl (cA 3, 2000, .inl ow)), ((g 39), .inl (cA 3, 2000, .inl fi)), ((g 40), .inl (cA 3, 2000, .inl be))] := hD.sub [3, 4, 0, 1, 2] (by decide) rfl
      refine W.cs (cells' := 0) (slots' := 0) rfl rfl ?_
      refine W.eq (g2 := F0 m 34 ls [.long (lN v)]) rfl ?_
      refine lv_goto (tgt := 38) hx hb d_Md_lookElement_34 (by decide) ?_
      refine lv_lstore (lv' := [(5, .long (lN v)), (4, .int 1), (3, .int 6), (0, .ref m0), (1, .int (nI t)), (2, .int 7)]) hx hb d_Md_lookElement_38 hl (by decide) rfl (fun ls hl => ?_)
      refine lv_iload_n hx hb d_Md_lookElement_40 rfl (lv_at hl 5 rfl) ?_
      refine lv_if_ne (tgt := 67) hx hb d_Md_lookElement_41 (by decide) (fun c_41 => ?_) (fun c_41 => absurd c_41 (by decide))
      refine lv_iload_n hx hb d_Md_lookElement_67 rfl (lv_at hl 5 rfl) ?_
      refine lv_iconst (v := 2) hx hb d_Md_lookElement_68 (by decide) ?_
      refine lv_icmp_ne (tgt := 75) hx hb d_Md_lookElement_69 (by decide) (fun c_69 => ?_) (fun c_69 => absurd c_69 (by decide))
      refine lv_iload_n hx hb d_Md_lookElement_75 rfl (lv_at hl 5 rfl) ?_
      refine lv_iconst (v := 4) hx hb d_Md_lookElement_76 (by decide) ?_
      refine lv_icmp_eq (tgt := 85) hx hb d_Md_lookElement_77 (by decide) (fun c_77 => absurd c_77 (by decide)) (fun c_77 => ?_)
      refine lv_iload_n hx hb d_Md_lookElement_80 rfl (lv_at hl 5 rfl) ?_
      refine lv_iconst (v := 5) hx hb d_Md_lookElement_81 (by decide) ?_
      refine lv_icmp_ne (tgt := 104) hx hb d_Md_lookElement_82 (by decide) (fun c_82 => ?_) (fun c_82 => absurd c_82 (by decide))
      refine lv_iload_n hx hb d_Md_lookElement_104 rfl (lv_at hl 5 rfl) ?_
      refine lv_bipush (v := 6) hx hb d_Md_lookElement_105 (by decide) ?_
      refine lv_icmp_ne (tgt := 122) hx hb d_Md_lookElement_107 (by decide) (fun c_107 => ?_) (fun c_107 => absurd c_107 (by decide))
      refine lv_iload hx hb d_Md_lookElement_122 (lv_at hl 1 rfl) ?_
      refine lv_if_eq (tgt := 142) hx hb d_Md_lookElement_124 (by decide) (fun c_124 => absurd c_124 (by decide)) (fun c_124 => ?_)
      refine lv_aload_n hx hb d_Md_lookElement_127 rfl (lv_at hl 3 rfl) ?_
      refine lv_aload_n hx hb d_Md_lookElement_128 rfl (lv_at hl 3 rfl) ?_
      refine va_get (D := D) (ci := 6) (v := .ref (g 40)) (C := R_Md) (T := F_Md) (N := 44) hx hb hts (fun w h => List.mem_cons_of_mem _ (i_Md w h)) hown hE.1 hP 0 rfl rfl 40 (by decide) (hts _ (List.mem_cons_of_mem _ iw3_94)) (fun _ h9 => h9) rfl d_Md_lookElement_129 ?_
      refine lv_aload_n hx hb d_Md_lookElement_132 rfl (lv_at hl 3 rfl) ?_
      refine lv_iload_n hx hb d_Md_lookElement_133 rfl (lv_at hl 4 rfl) ?_
      refine lv_iconst (v := 0) hx hb d_Md_lookElement_134 (by decide) ?_
      refine cV (As := [.int (nI t), .int 0]) (rest := [.ref (g 40), .ref m0]) (n := 2) (wc := [(m0, .inr (6, mF g (K.1, K.2.1, K.2.2.1, K.2.2.2.1, nI X.length, K.2.2.2.2.2.1, K.2.2.2.2.2.2.1, K.2.2.2.2.2.2.2.1, nI b8) A0 e np B)), ((g 38), .inl (cA 3, 2000, .inl ow))]) (wr := [((g 30), .inl (cA 3, 2000, .inl yb)), ((g 39), .inl (cA 3, 2000, .inl fi)), ((g 40), .inl (cA 3, 2000, .inl be))]) ⟨hx, hb, hml, hown, hts⟩ hno hlocks hl.1 (c_Md_expressionOf l hl9 D cA ad H.size m0 g (K.1, K.2.1, K.2.2.1, K.2.2.2.1, nI X.length, K.2.2.2.2.2.1, K.2.2.2.2.2.2.1, K.2.2.2.2.2.2.2.1, nI b8) A0 e np B ow fi be X hXH hXf hX t (by omega) 0 (by omega)) iw4_156 iw4_158 sel_Md_expressionOf iw1_7 iw4_159 (by decide +kernel) rfl ⟨Nat.le_of_ble_eq_true rfl, Nat.le_of_ble_eq_true rfl⟩ ⟨Nat.le_of_ble_eq_true rfl, Nat.le_of_ble_eq_true rfl⟩ rfl (Nat.le_of_ble_eq_true rfl) d_Md_lookElement_135 hE hP hD hS hA [0, 2] [1, 3, 4] rfl rfl rfl rfl (by decide) (ci := 6) rfl rfl 0 rfl (fun _ h => h.elim) (fun v_135 u_135 H locs hp_135 hP hD hS => ?_)
      rcases hp_135 with ⟨rfl, hno265⟩ | ⟨e265_, f265_, z265_, he265, rfl, hg265, hfi265, hbe265, hfb265, hzb265⟩
      · exact absurd hno265 (by rw [hexx]; simp)
      have hP : va_P D cls [(m0, .inr (6, mF g (K.1, K.2.1, K.2.2.1, K.2.2.2.1, nI X.length, K.2.2.2.2.2.1, K.2.2.2.2.2.2.1, K.2.2.2.2.2.2.2.1, nI b8) A0 e np B)), ((g 30), .inl (cA 3, 2000, .inl yb)), ((g 38), .inl (cA 3, 2000, .inl ow)), ((g 39), .inl (cA 3, 2000, .inl fi)), ((g 40), .inl (cA 3, 2000, .inl be))] H := hP.sub [3, 0, 4, 1, 2] rfl
      have hD : va_D A [(m0, .inr (6, mF g (K.1, K.2.1, K.2.2.1, K.2.2.2.1, nI X.length, K.2.2.2.2.2.1, K.2.2.2.2.2.2.1, K.2.2.2.2.2.2.2.1, nI b8) A0 e np B)), ((g 30), .inl (cA 3, 2000, .inl yb)), ((g 38), .inl (cA 3, 2000, .inl ow)), ((g 39), .inl (cA 3, 2000, .inl fi)), ((g 40), .inl (cA 3, 2000, .inl be))] := hD.sub [3, 0, 4, 1, 2] (by decide) rfl
      refine W.cs (cells' := 0) (slots' := 0) rfl rfl ?_
      refine W.eq (g2 := F0 m 138 ls [.int (nI e265_), .ref (g 40), .ref m0]) rfl ?_
      refine va_iald hx hb hE.1 hP 4 3 rfl rfl (vp_in_nI (by omega) (by omega)) d_Md_lookElement_138 ?_
      rw [nI_clamp (n := e265_) (by omega), hbe265, show z265_ = a2 from by rw [hexx] at hg265; exact (congrArg Prod.snd (Option.some.inj hg265)).symm]
      refine va_put (D := D) (ci := 6) (v := .int (nI a2)) (ty := .int) (C := R_Md) (T := F_Md) (N := 44) hx hb hts (fun w h => List.mem_cons_of_mem _ (i_Md w h)) t_Md tk_Md n_Md hown hE.1 hP hD hS 0 rfl rfl 43 (by decide) (hts _ (List.mem_cons_of_mem _ iw3_97)) (fun _ h9 => h9) rfl (by decide +kernel) rfl rfl (Nat.le_of_ble_eq_true rfl) d_Md_lookElement_139 (fun H locs hP hD hS => ?_)
      have hP : va_P D cls [(m0, .inr (6, mF g (K.1, K.2.1, K.2.2.1, K.2.2.2.1, nI X.length, K.2.2.2.2.2.1, K.2.2.2.2.2.2.1, K.2.2.2.2.2.2.2.1, nI a2) A0 e np B)), ((g 30), .inl (cA 3, 2000, .inl yb)), ((g 38), .inl (cA 3, 2000, .inl ow)), ((g 39), .inl (cA 3, 2000, .inl fi)), ((g 40), .inl (cA 3, 2000, .inl be))] H := hP
      have hD : va_D A [(m0, .inr (6, mF g (K.1, K.2.1, K.2.2.1, K.2.2.2.1, nI X.length, K.2.2.2.2.2.1, K.2.2.2.2.2.2.1, K.2.2.2.2.2.2.2.1, nI a2) A0 e np B)), ((g 30), .inl (cA 3, 2000, .inl yb)), ((g 38), .inl (cA 3, 2000, .inl ow)), ((g 39), .inl (cA 3, 2000, .inl fi)), ((g 40), .inl (cA 3, 2000, .inl be))] := hD
      refine lv_iload_n hx hb d_Md_lookElement_142 rfl (lv_at hl 2 rfl) ?_
      refine lv_if_eq (tgt := 155) hx hb d_Md_lookElement_143 (by decide) (fun c_143 => absurd c_143 (by decide)) (fun c_143 => ?_)
      refine lv_iload_n hx hb d_Md_lookElement_146 rfl (lv_at hl 2 rfl) ?_
      refine lv_iconst (v := 4) hx hb d_Md_lookElement_147 (by decide) ?_
      refine lv_icmp_eq (tgt := 155) hx hb d_Md_lookElement_148 (by decide) (fun c_148 => absurd c_148 (by decide)) (fun c_148 => ?_)
      refine lv_iconst (v := 1) hx hb d_Md_lookElement_151 (by decide) ?_
      refine lv_goto (tgt := 156) hx hb d_Md_lookElement_152 (by decide) ?_
      refine lv_istore (lv' := [(7, .int 1), (5, .long (lN v)), (4, .int 1), (3, .int 6), (0, .ref m0), (1, .int (nI t)), (2, .int 7)]) hx hb d_Md_lookElement_156 hl (by decide) rfl (fun ls hl => ?_)
      refine lv_iload hx hb d_Md_lookElement_158 (lv_at hl 0 rfl) ?_
      refine lv_if_eq (tgt := 182) hx hb d_Md_lookElement_160 (by decide) (fun c_160 => absurd c_160 (by decide)) (fun c_160 => ?_)
      refine lv_iload_n hx hb d_Md_lookElement_163 rfl (lv_at hl 3 rfl) ?_
      refine lv_iconst (v := 4) hx hb d_Md_lookElement_164 (by decide) ?_
      refine lv_iand hx hb d_Md_lookElement_165 ?_
      refine W.eq (g2 := F0 m 166 ls [.int 4]) (by rw [show (6 : Int32) &&& 4 = 4 from by decide +kernel]) ?_
      refine lv_if_eq (tgt := 182) hx hb d_Md_lookElement_166 (by decide) (fun c_166 => absurd c_166 (by decide)) (fun c_166 => ?_)
      refine lv_aload_n hx hb d_Md_lookElement_169 rfl (lv_at hl 4 rfl) ?_
      refine va_get (D := D) (ci := 6) (v := .ref (g 30)) (C := R_Md) (T := F_Md) (N := 44) hx hb hts (fun w h => List.mem_cons_of_mem _ (i_Md w h)) hown hE.1 hP 0 rfl rfl 30 (by decide) (hts _ (List.mem_cons_of_mem _ iw3_84)) (fun _ h9 => h9) rfl d_Md_lookElement_170 ?_
      refine lv_aload_n hx hb d_Md_lookElement_173 rfl (lv_at hl 4 rfl) ?_
      refine va_get (D := D) (ci := 6) (v := .int (nI a2)) (C := R_Md) (T := F_Md) (N := 44) hx hb hts (fun w h => List.mem_cons_of_mem _ (i_Md w h)) hown hE.1 hP 0 rfl rfl 43 (by decide) (hts _ (List.mem_cons_of_mem _ iw3_97)) (fun _ h9 => h9) rfl d_Md_lookElement_174 ?_
      refine va_iald hx hb hE.1 hP 1 3 rfl rfl (vp_in_nI (by omega) (by omega)) d_Md_lookElement_177 ?_
      rw [nI_clamp (n := a2) (by omega), hyb a2 (by omega)]
      refine lv_i2l hx hb d_Md_lookElement_178 rfl ?_
      rw [nI_l (n := b a2) (by have := hb9 a2; omega)]
      refine lv_goto (tgt := 185) hx hb d_Md_lookElement_179 (by decide) ?_
      refine lv_lstore (lv' := [(8, .long (lN (b a2))), (7, .int 1), (5, .long (lN v)), (4, .int 1), (3, .int 6), (0, .ref m0), (1, .int (nI t)), (2, .int 7)]) hx hb d_Md_lookElement_185 hl (by decide) rfl (fun ls hl => ?_)
      refine lv_aload_n hx hb d_Md_lookElement_187 rfl (lv_at hl 5 rfl) ?_
      refine lv_dup hx hb d_Md_lookElement_188 rfl ?_
      refine va_get (D := D) (ci := 6) (v := .int (nI a2)) (C := R_Md) (T := F_Md) (N := 44) hx hb hts (fun w h => List.mem_cons_of_mem _ (i_Md w h)) hown hE.1 hP 0 rfl rfl 43 (by decide) (hts _ (List.mem_cons_of_mem _ iw3_97)) (fun _ h9 => h9) rfl d_Md_lookElement_189 ?_
      refine lv_iload hx hb d_Md_lookElement_192 (lv_at hl 1 rfl) ?_
      refine lv_if_eq (tgt := 201) hx hb d_Md_lookElement_194 (by decide) (fun c_194 => absurd c_194 (by decide)) (fun c_194 => ?_)
      refine lv_iconst (v := 1) hx hb d_Md_lookElement_197 (by decide) ?_
      refine lv_goto (tgt := 202) hx hb d_Md_lookElement_198 (by decide) ?_
      refine lv_iadd hx hb d_Md_lookElement_202 ?_
      rw [nI_1]
      refine va_put (D := D) (ci := 6) (v := .int (nI (a2 + 1))) (ty := .int) (C := R_Md) (T := F_Md) (N := 44) hx hb hts (fun w h => List.mem_cons_of_mem _ (i_Md w h)) t_Md tk_Md n_Md hown hE.1 hP hD hS 0 rfl rfl 43 (by decide) (hts _ (List.mem_cons_of_mem _ iw3_97)) (fun _ h9 => h9) rfl (by decide +kernel) rfl rfl (Nat.le_of_ble_eq_true rfl) d_Md_lookElement_203 (fun H locs hP hD hS => ?_)
      have hP : va_P D cls [(m0, .inr (6, mF g (K.1, K.2.1, K.2.2.1, K.2.2.2.1, nI X.length, K.2.2.2.2.2.1, K.2.2.2.2.2.2.1, K.2.2.2.2.2.2.2.1, nI (a2 + 1)) A0 e np B)), ((g 30), .inl (cA 3, 2000, .inl yb)), ((g 38), .inl (cA 3, 2000, .inl ow)), ((g 39), .inl (cA 3, 2000, .inl fi)), ((g 40), .inl (cA 3, 2000, .inl be))] H := hP
      have hD : va_D A [(m0, .inr (6, mF g (K.1, K.2.1, K.2.2.1, K.2.2.2.1, nI X.length, K.2.2.2.2.2.1, K.2.2.2.2.2.2.1, K.2.2.2.2.2.2.2.1, nI (a2 + 1)) A0 e np B)), ((g 30), .inl (cA 3, 2000, .inl yb)), ((g 38), .inl (cA 3, 2000, .inl ow)), ((g 39), .inl (cA 3, 2000, .inl fi)), ((g 40), .inl (cA 3, 2000, .inl be))] := hD
      refine lv_iload_n hx hb d_Md_lookElement_206 rfl (lv_at hl 7 rfl) ?_
      refine lv_iconst (v := 1) hx hb d_Md_lookElement_207 (by decide) ?_
      refine lv_icmp_ne (tgt := 214) hx hb d_Md_lookElement_208 (by decide) (fun c_208 => ?_) (fun c_208 => absurd c_208 (by decide))
      refine lv_aload_n hx hb d_Md_lookElement_214 rfl (lv_at hl 5 rfl) ?_
      refine cV (As := []) (rest := []) (n := 0) (wc := [(m0, .inr (6, mF g (K.1, K.2.1, K.2.2.1, K.2.2.2.1, nI X.length, K.2.2.2.2.2.1, K.2.2.2.2.2.2.1, K.2.2.2.2.2.2.2.1, nI (a2 + 1)) A0 e np B)), ((g 30), .inl (cA 3, 2000, .inl yb))]) (wr := [((g 38), .inl (cA 3, 2000, .inl ow)), ((g 39), .inl (cA 3, 2000, .inl fi)), ((g 40), .inl (cA 3, 2000, .inl be))]) ⟨hx, hb, hml, hown, hts⟩ hno hlocks hl.1 (c_Md_number l hl9 D cA ad H.size m0 g (K.1, K.2.1, K.2.2.1, K.2.2.2.1, nI X.length, K.2.2.2.2.2.1, K.2.2.2.2.2.2.1, K.2.2.2.2.2.2.2.1, nI (a2 + 1)) A0 e np B yb b lm hlm hyb hb9 (a2 + 1) n a4 (by omega) he4) iw4_132 iw4_134 sel_Md_number iw1_7 iw4_135 (by decide +kernel) rfl ⟨Nat.le_of_ble_eq_true rfl, Nat.le_of_ble_eq_true rfl⟩ ⟨Nat.le_of_ble_eq_true rfl, Nat.le_of_ble_eq_true rfl⟩ rfl (Nat.le_of_ble_eq_true rfl) d_Md_lookElement_215 hE hP hD hS hA [0, 1] [2, 3, 4] rfl rfl rfl rfl (by decide) (ci := 6) rfl rfl 0 rfl (fun _ h => h.elim) (fun v_215 u_215 H locs hp_215 hP hD hS => ?_)
      obtain rfl := hp_215
      have hP : va_P D cls [(m0, .inr (6, mF g (K.1, K.2.1, K.2.2.1, K.2.2.2.1, nI X.length, K.2.2.2.2.2.1, K.2.2.2.2.2.2.1, K.2.2.2.2.2.2.2.1, nI a4) A0 e np B)), ((g 30), .inl (cA 3, 2000, .inl yb)), ((g 38), .inl (cA 3, 2000, .inl ow)), ((g 39), .inl (cA 3, 2000, .inl fi)), ((g 40), .inl (cA 3, 2000, .inl be))] H := hP.sub [3, 4, 0, 1, 2] rfl
      have hD : va_D A [(m0, .inr (6, mF g (K.1, K.2.1, K.2.2.1, K.2.2.2.1, nI X.length, K.2.2.2.2.2.1, K.2.2.2.2.2.2.1, K.2.2.2.2.2.2.2.1, nI a4) A0 e np B)), ((g 30), .inl (cA 3, 2000, .inl yb)), ((g 38), .inl (cA 3, 2000, .inl ow)), ((g 39), .inl (cA 3, 2000, .inl fi)), ((g 40), .inl (cA 3, 2000, .inl be))] := hD.sub [3, 4, 0, 1, 2] (by decide) rfl
      refine W.cs (cells' := 0) (slots' := 0) rfl rfl ?_
      refine W.eq (g2 := F0 m 218 ls [.long (lN n)]) rfl ?_
      refine lv_lstore (lv' := [(10, .long (lN n)), (8, .long (lN (b a2))), (7, .int 1), (5, .long (lN v)), (4, .int 1), (3, .int 6), (0, .ref m0), (1, .int (nI t)), (2, .int 7)]) hx hb d_Md_lookElement_218 hl (by decide) rfl (fun ls hl => ?_)
      refine lv_iload_n hx hb d_Md_lookElement_220 rfl (lv_at hl 8 rfl) ?_
      refine lv_iconst (v := 3) hx hb d_Md_lookElement_221 (by decide) ?_
      refine lv_icmp_ne (tgt := 228) hx hb d_Md_lookElement_222 (by decide) (fun c_222 => ?_) (fun c_222 => absurd c_222 (by decide))
      refine lv_iload_n hx hb d_Md_lookElement_228 rfl (lv_at hl 8 rfl) ?_
      refine lv_bipush (v := 8) hx hb d_Md_lookElement_229 (by decide) ?_
      refine lv_icmp_lt (tgt := 245) hx hb d_Md_lookElement_231 (by decide) (fun c_231 => ?_) (fun c_231 => absurd (by decide) c_231)
      refine lv_ldc2 hx hb hown (hts _ (List.mem_cons_of_mem _ iw3_204)) d_Md_lookElement_245 ?_
      exact cRl (nI a4) hx hb hr hlocks d_Md_lookElement_248 hS hP hD (rfl) (Nat.le_refl _) (Nat.le_refl _)
    · have hl := hl
      refine lv_aload_n hx hb d_Md_lookElement_0 rfl (lv_at hl 0 rfl) ?_
      refine cV (As := []) (rest := []) (n := 0) (wc := [(m0, .inr (6, mF g (K.1, K.2.1, K.2.2.1, K.2.2.2.1, nI X.length, K.2.2.2.2.2.1, K.2.2.2.2.2.2.1, K.2.2.2.2.2.2.2.1, nI a) A0 e np B)), ((g 30), .inl (cA 3, 2000, .inl yb))]) (wr := [((g 38), .inl (cA 3, 2000, .inl ow)), ((g 39), .inl (cA 3, 2000, .inl fi)), ((g 40), .inl (cA 3, 2000, .inl be))]) ⟨hx, hb, hml, hown, hts⟩ hno hlocks hl.1 (c_Md_number l hl9 D cA ad s.heap.size m0 g (K.1, K.2.1, K.2.2.1, K.2.2.2.1, nI X.length, K.2.2.2.2.2.1, K.2.2.2.2.2.2.1, K.2.2.2.2.2.2.2.1, nI a) A0 e np B yb b lm hlm hyb hb9 a 6 a1 (by omega) hmu) iw4_132 iw4_134 sel_Md_number iw1_7 iw4_135 (by decide +kernel) rfl ⟨Nat.le_of_ble_eq_true rfl, Nat.le_of_ble_eq_true rfl⟩ ⟨Nat.le_of_ble_eq_true rfl, Nat.le_of_ble_eq_true rfl⟩ rfl (Nat.le_of_ble_eq_true rfl) d_Md_lookElement_1 hE hP hD hS hA [0, 1] [2, 3, 4] rfl rfl rfl rfl (by decide) (ci := 6) rfl rfl 0 rfl (fun _ h => h.elim) (fun v_1 u_1 H locs hp_1 hP hD hS => ?_)
      obtain rfl := hp_1
      have hP : va_P D cls [(m0, .inr (6, mF g (K.1, K.2.1, K.2.2.1, K.2.2.2.1, nI X.length, K.2.2.2.2.2.1, K.2.2.2.2.2.2.1, K.2.2.2.2.2.2.2.1, nI a1) A0 e np B)), ((g 30), .inl (cA 3, 2000, .inl yb)), ((g 38), .inl (cA 3, 2000, .inl ow)), ((g 39), .inl (cA 3, 2000, .inl fi)), ((g 40), .inl (cA 3, 2000, .inl be))] H := hP.sub [3, 4, 0, 1, 2] rfl
      have hD : va_D A [(m0, .inr (6, mF g (K.1, K.2.1, K.2.2.1, K.2.2.2.1, nI X.length, K.2.2.2.2.2.1, K.2.2.2.2.2.2.1, K.2.2.2.2.2.2.2.1, nI a1) A0 e np B)), ((g 30), .inl (cA 3, 2000, .inl yb)), ((g 38), .inl (cA 3, 2000, .inl ow)), ((g 39), .inl (cA 3, 2000, .inl fi)), ((g 40), .inl (cA 3, 2000, .inl be))] := hD.sub [3, 4, 0, 1, 2] (by decide) rfl
      refine W.cs (cells' := 0) (slots' := 0) rfl rfl ?_
      refine W.eq (g2 := F0 m 4 ls [.long (lN 6)]) rfl ?_
      refine lv_l2i hx hb d_Md_lookElement_4 rfl ?_
      refine W.eq (g2 := F0 m 5 ls [.int 6]) (by rw [lN_i]; rfl) ?_
      refine lv_istore_n (lv' := [(3, .int 6), (0, .ref m0), (1, .int (nI t)), (2, .int (nI wh))]) hx hb d_Md_lookElement_5 rfl hl (by decide) rfl (fun ls hl => ?_)
      refine lv_iload_n hx hb d_Md_lookElement_6 rfl (lv_at hl 0 rfl) ?_
      refine lv_iconst (v := 1) hx hb d_Md_lookElement_7 (by decide) ?_
      refine lv_iand hx hb d_Md_lookElement_8 ?_
      refine W.eq (g2 := F0 m 9 ls [.int 0]) (by rw [show (6 : Int32) &&& 1 = 0 from by decide +kernel]) ?_
      refine lv_if_ne (tgt := 16) hx hb d_Md_lookElement_9 (by decide) (fun c_9 => absurd (by decide) c_9) (fun c_9 => ?_)
      refine lv_iconst (v := 1) hx hb d_Md_lookElement_12 (by decide) ?_
      refine lv_goto (tgt := 17) hx hb d_Md_lookElement_13 (by decide) ?_
      refine lv_istore (lv' := [(4, .int 1), (3, .int 6), (0, .ref m0), (1, .int (nI t)), (2, .int (nI wh))]) hx hb d_Md_lookElement_17 hl (by decide) rfl (fun ls hl => ?_)
      refine lv_iload hx hb d_Md_lookElement_19 (lv_at hl 0 rfl) ?_
      refine lv_if_eq (tgt := 37) hx hb d_Md_lookElement_21 (by decide) (fun c_21 => absurd c_21 (by decide)) (fun c_21 => ?_)
      refine lv_iload_n hx hb d_Md_lookElement_24 rfl (lv_at hl 1 rfl) ?_
      refine lv_iconst (v := 2) hx hb d_Md_lookElement_25 (by decide) ?_
      refine lv_iand hx hb d_Md_lookElement_26 ?_
      refine W.eq (g2 := F0 m 27 ls [.int 2]) (by rw [show (6 : Int32) &&& 2 = 2 from by decide +kernel]) ?_
      refine lv_if_eq (tgt := 37) hx hb d_Md_lookElement_27 (by decide) (fun c_27 => absurd c_27 (by decide)) (fun c_27 => ?_)
      refine lv_aload_n hx hb d_Md_lookElement_30 rfl (lv_at hl 2 rfl) ?_
      refine cV (As := []) (rest := []) (n := 0) (wc := [(m0, .inr (6, mF g (K.1, K.2.1, K.2.2.1, K.2.2.2.1, nI X.length, K.2.2.2.2.2.1, K.2.2.2.2.2.2.1, K.2.2.2.2.2.2.2.1, nI a1) A0 e np B)), ((g 30), .inl (cA 3, 2000, .inl yb))]) (wr := [((g 38), .inl (cA 3, 2000, .inl ow)), ((g 39), .inl (cA 3, 2000, .inl fi)), ((g 40), .inl (cA 3, 2000, .inl be))]) ⟨hx, hb, hml, hown, hts⟩ hno hlocks hl.1 (c_Md_number l hl9 D cA ad H.size m0 g (K.1, K.2.1, K.2.2.1, K.2.2.2.1, nI X.length, K.2.2.2.2.2.1, K.2.2.2.2.2.2.1, K.2.2.2.2.2.2.2.1, nI a1) A0 e np B yb b lm hlm hyb hb9 a1 v b8 (by omega) hv8) iw4_132 iw4_134 sel_Md_number iw1_7 iw4_135 (by decide +kernel) rfl ⟨Nat.le_of_ble_eq_true rfl, Nat.le_of_ble_eq_true rfl⟩ ⟨Nat.le_of_ble_eq_true rfl, Nat.le_of_ble_eq_true rfl⟩ rfl (Nat.le_of_ble_eq_true rfl) d_Md_lookElement_31 hE hP hD hS hA [0, 1] [2, 3, 4] rfl rfl rfl rfl (by decide) (ci := 6) rfl rfl 0 rfl (fun _ h => h.elim) (fun v_31 u_31 H locs hp_31 hP hD hS => ?_)
      obtain rfl := hp_31
      have hP : va_P D cls [(m0, .inr (6, mF g (K.1, K.2.1, K.2.2.1, K.2.2.2.1, nI X.length, K.2.2.2.2.2.1, K.2.2.2.2.2.2.1, K.2.2.2.2.2.2.2.1, nI b8) A0 e np B)), ((g 30), .inl (cA 3, 2000, .inl yb)), ((g 38), .inl (cA 3, 2000, .inl ow)), ((g 39), .inl (cA 3, 2000, .inl fi)), ((g 40), .inl (cA 3, 2000, .inl be))] H := hP.sub [3, 4, 0, 1, 2] rfl
      have hD : va_D A [(m0, .inr (6, mF g (K.1, K.2.1, K.2.2.1, K.2.2.2.1, nI X.length, K.2.2.2.2.2.1, K.2.2.2.2.2.2.1, K.2.2.2.2.2.2.2.1, nI b8) A0 e np B)), ((g 30), .inl (cA 3, 2000, .inl yb)), ((g 38), .inl (cA 3, 2000, .inl ow)), ((g 39), .inl (cA 3, 2000, .inl fi)), ((g 40), .inl (cA 3, 2000, .inl be))] := hD.sub [3, 4, 0, 1, 2] (by decide) rfl
      refine W.cs (cells' := 0) (slots' := 0) rfl rfl ?_
      refine W.eq (g2 := F0 m 34 ls [.long (lN v)]) rfl ?_
      refine lv_goto (tgt := 38) hx hb d_Md_lookElement_34 (by decide) ?_
      refine lv_lstore (lv' := [(5, .long (lN v)), (4, .int 1), (3, .int 6), (0, .ref m0), (1, .int (nI t)), (2, .int (nI wh))]) hx hb d_Md_lookElement_38 hl (by decide) rfl (fun ls hl => ?_)
      refine lv_iload_n hx hb d_Md_lookElement_40 rfl (lv_at hl 5 rfl) ?_
      refine lv_if_ne (tgt := 67) hx hb d_Md_lookElement_41 (by decide) (fun c_41 => ?_) (fun c_41 => absurd c_41 (fun q => absurd ((nI_eq (a := wh) (b := 0) (by omega) (by decide)).mp q) (by omega)))
      refine lv_iload_n hx hb d_Md_lookElement_67 rfl (lv_at hl 5 rfl) ?_
      refine lv_iconst (v := 2) hx hb d_Md_lookElement_68 (by decide) ?_
      refine lv_icmp_ne (tgt := 75) hx hb d_Md_lookElement_69 (by decide) (fun c_69 => ?_) (fun c_69 => absurd c_69 (fun q => absurd ((nI_eq (a := wh) (b := 2) (by omega) (by decide)).mp q) (by omega)))
      refine lv_iload_n hx hb d_Md_lookElement_75 rfl (lv_at hl 5 rfl) ?_
      refine lv_iconst (v := 4) hx hb d_Md_lookElement_76 (by decide) ?_
      refine lv_icmp_eq (tgt := 85) hx hb d_Md_lookElement_77 (by decide) (fun c_77 => absurd c_77 (fun q => absurd ((nI_eq (a := wh) (b := 4) (by omega) (by decide)).mp q) (by omega))) (fun c_77 => ?_)
      refine lv_iload_n hx hb d_Md_lookElement_80 rfl (lv_at hl 5 rfl) ?_
      refine lv_iconst (v := 5) hx hb d_Md_lookElement_81 (by decide) ?_
      refine lv_icmp_ne (tgt := 104) hx hb d_Md_lookElement_82 (by decide) (fun c_82 => ?_) (fun c_82 => absurd c_82 (fun q => absurd ((nI_eq (a := wh) (b := 5) (by omega) (by decide)).mp q) (by omega)))
      refine lv_iload_n hx hb d_Md_lookElement_104 rfl (lv_at hl 5 rfl) ?_
      refine lv_bipush (v := 6) hx hb d_Md_lookElement_105 (by decide) ?_
      refine lv_icmp_ne (tgt := 122) hx hb d_Md_lookElement_107 (by decide) (fun c_107 => ?_) (fun c_107 => absurd c_107 (fun q => absurd ((nI_eq (a := wh) (b := 6) (by omega) (by decide)).mp q) (by omega)))
      refine lv_iload hx hb d_Md_lookElement_122 (lv_at hl 1 rfl) ?_
      refine lv_if_eq (tgt := 142) hx hb d_Md_lookElement_124 (by decide) (fun c_124 => absurd c_124 (by decide)) (fun c_124 => ?_)
      refine lv_aload_n hx hb d_Md_lookElement_127 rfl (lv_at hl 3 rfl) ?_
      refine lv_aload_n hx hb d_Md_lookElement_128 rfl (lv_at hl 3 rfl) ?_
      refine va_get (D := D) (ci := 6) (v := .ref (g 40)) (C := R_Md) (T := F_Md) (N := 44) hx hb hts (fun w h => List.mem_cons_of_mem _ (i_Md w h)) hown hE.1 hP 0 rfl rfl 40 (by decide) (hts _ (List.mem_cons_of_mem _ iw3_94)) (fun _ h9 => h9) rfl d_Md_lookElement_129 ?_
      refine lv_aload_n hx hb d_Md_lookElement_132 rfl (lv_at hl 3 rfl) ?_
      refine lv_iload_n hx hb d_Md_lookElement_133 rfl (lv_at hl 4 rfl) ?_
      refine lv_iconst (v := 0) hx hb d_Md_lookElement_134 (by decide) ?_
      refine cV (As := [.int (nI t), .int 0]) (rest := [.ref (g 40), .ref m0]) (n := 2) (wc := [(m0, .inr (6, mF g (K.1, K.2.1, K.2.2.1, K.2.2.2.1, nI X.length, K.2.2.2.2.2.1, K.2.2.2.2.2.2.1, K.2.2.2.2.2.2.2.1, nI b8) A0 e np B)), ((g 38), .inl (cA 3, 2000, .inl ow))]) (wr := [((g 30), .inl (cA 3, 2000, .inl yb)), ((g 39), .inl (cA 3, 2000, .inl fi)), ((g 40), .inl (cA 3, 2000, .inl be))]) ⟨hx, hb, hml, hown, hts⟩ hno hlocks hl.1 (c_Md_expressionOf l hl9 D cA ad H.size m0 g (K.1, K.2.1, K.2.2.1, K.2.2.2.1, nI X.length, K.2.2.2.2.2.1, K.2.2.2.2.2.2.1, K.2.2.2.2.2.2.2.1, nI b8) A0 e np B ow fi be X hXH hXf hX t (by omega) 0 (by omega)) iw4_156 iw4_158 sel_Md_expressionOf iw1_7 iw4_159 (by decide +kernel) rfl ⟨Nat.le_of_ble_eq_true rfl, Nat.le_of_ble_eq_true rfl⟩ ⟨Nat.le_of_ble_eq_true rfl, Nat.le_of_ble_eq_true rfl⟩ rfl (Nat.le_of_ble_eq_true rfl) d_Md_lookElement_135 hE hP hD hS hA [0, 2] [1, 3, 4] rfl rfl rfl rfl (by decide) (ci := 6) rfl rfl 0 rfl (fun _ h => h.elim) (fun v_135 u_135 H locs hp_135 hP hD hS => ?_)
      rcases hp_135 with ⟨rfl, hno266⟩ | ⟨e266_, f266_, z266_, he266, rfl, hg266, hfi266, hbe266, hfb266, hzb266⟩
      · exact absurd hno266 (by rw [hexx]; simp)
      have hP : va_P D cls [(m0, .inr (6, mF g (K.1, K.2.1, K.2.2.1, K.2.2.2.1, nI X.length, K.2.2.2.2.2.1, K.2.2.2.2.2.2.1, K.2.2.2.2.2.2.2.1, nI b8) A0 e np B)), ((g 30), .inl (cA 3, 2000, .inl yb)), ((g 38), .inl (cA 3, 2000, .inl ow)), ((g 39), .inl (cA 3, 2000, .inl fi)), ((g 40), .inl (cA 3, 2000, .inl be))] H := hP.sub [3, 0, 4, 1, 2] rfl
      have hD : va_D A [(m0, .inr (6, mF g (K.1, K.2.1, K.2.2.1, K.2.2.2.1, nI X.length, K.2.2.2.2.2.1, K.2.2.2.2.2.2.1, K.2.2.2.2.2.2.2.1, nI b8) A0 e np B)), ((g 30), .inl (cA 3, 2000, .inl yb)), ((g 38), .inl (cA 3, 2000, .inl ow)), ((g 39), .inl (cA 3, 2000, .inl fi)), ((g 40), .inl (cA 3, 2000, .inl be))] := hD.sub [3, 0, 4, 1, 2] (by decide) rfl
      refine W.cs (cells' := 0) (slots' := 0) rfl rfl ?_
      refine W.eq (g2 := F0 m 138 ls [.int (nI e266_), .ref (g 40), .ref m0]) rfl ?_
      refine va_iald hx hb hE.1 hP 4 3 rfl rfl (vp_in_nI (by omega) (by omega)) d_Md_lookElement_138 ?_
      rw [nI_clamp (n := e266_) (by omega), hbe266, show z266_ = a2 from by rw [hexx] at hg266; exact (congrArg Prod.snd (Option.some.inj hg266)).symm]
      refine va_put (D := D) (ci := 6) (v := .int (nI a2)) (ty := .int) (C := R_Md) (T := F_Md) (N := 44) hx hb hts (fun w h => List.mem_cons_of_mem _ (i_Md w h)) t_Md tk_Md n_Md hown hE.1 hP hD hS 0 rfl rfl 43 (by decide) (hts _ (List.mem_cons_of_mem _ iw3_97)) (fun _ h9 => h9) rfl (by decide +kernel) rfl rfl (Nat.le_of_ble_eq_true rfl) d_Md_lookElement_139 (fun H locs hP hD hS => ?_)
      have hP : va_P D cls [(m0, .inr (6, mF g (K.1, K.2.1, K.2.2.1, K.2.2.2.1, nI X.length, K.2.2.2.2.2.1, K.2.2.2.2.2.2.1, K.2.2.2.2.2.2.2.1, nI a2) A0 e np B)), ((g 30), .inl (cA 3, 2000, .inl yb)), ((g 38), .inl (cA 3, 2000, .inl ow)), ((g 39), .inl (cA 3, 2000, .inl fi)), ((g 40), .inl (cA 3, 2000, .inl be))] H := hP
      have hD : va_D A [(m0, .inr (6, mF g (K.1, K.2.1, K.2.2.1, K.2.2.2.1, nI X.length, K.2.2.2.2.2.1, K.2.2.2.2.2.2.1, K.2.2.2.2.2.2.2.1, nI a2) A0 e np B)), ((g 30), .inl (cA 3, 2000, .inl yb)), ((g 38), .inl (cA 3, 2000, .inl ow)), ((g 39), .inl (cA 3, 2000, .inl fi)), ((g 40), .inl (cA 3, 2000, .inl be))] := hD
      refine lv_iload_n hx hb d_Md_lookElement_142 rfl (lv_at hl 2 rfl) ?_
      refine lv_if_eq (tgt := 155) hx hb d_Md_lookElement_143 (by decide) (fun c_143 => absurd c_143 (by decide)) (fun c_143 => ?_)
      refine lv_iload_n hx hb d_Md_lookElement_146 rfl (lv_at hl 2 rfl) ?_
      refine lv_iconst (v := 4) hx hb d_Md_lookElement_147 (by decide) ?_
      refine lv_icmp_eq (tgt := 155) hx hb d_Md_lookElement_148 (by decide) (fun c_148 => absurd c_148 (by decide)) (fun c_148 => ?_)
      refine lv_iconst (v := 1) hx hb d_Md_lookElement_151 (by decide) ?_
      refine lv_goto (tgt := 156) hx hb d_Md_lookElement_152 (by decide) ?_
      refine lv_istore (lv' := [(7, .int 1), (5, .long (lN v)), (4, .int 1), (3, .int 6), (0, .ref m0), (1, .int (nI t)), (2, .int (nI wh))]) hx hb d_Md_lookElement_156 hl (by decide) rfl (fun ls hl => ?_)
      refine lv_iload hx hb d_Md_lookElement_158 (lv_at hl 0 rfl) ?_
      refine lv_if_eq (tgt := 182) hx hb d_Md_lookElement_160 (by decide) (fun c_160 => absurd c_160 (by decide)) (fun c_160 => ?_)
      refine lv_iload_n hx hb d_Md_lookElement_163 rfl (lv_at hl 3 rfl) ?_
      refine lv_iconst (v := 4) hx hb d_Md_lookElement_164 (by decide) ?_
      refine lv_iand hx hb d_Md_lookElement_165 ?_
      refine W.eq (g2 := F0 m 166 ls [.int 4]) (by rw [show (6 : Int32) &&& 4 = 4 from by decide +kernel]) ?_
      refine lv_if_eq (tgt := 182) hx hb d_Md_lookElement_166 (by decide) (fun c_166 => absurd c_166 (by decide)) (fun c_166 => ?_)
      refine lv_aload_n hx hb d_Md_lookElement_169 rfl (lv_at hl 4 rfl) ?_
      refine va_get (D := D) (ci := 6) (v := .ref (g 30)) (C := R_Md) (T := F_Md) (N := 44) hx hb hts (fun w h => List.mem_cons_of_mem _ (i_Md w h)) hown hE.1 hP 0 rfl rfl 30 (by decide) (hts _ (List.mem_cons_of_mem _ iw3_84)) (fun _ h9 => h9) rfl d_Md_lookElement_170 ?_
      refine lv_aload_n hx hb d_Md_lookElement_173 rfl (lv_at hl 4 rfl) ?_
      refine va_get (D := D) (ci := 6) (v := .int (nI a2)) (C := R_Md) (T := F_Md) (N := 44) hx hb hts (fun w h => List.mem_cons_of_mem _ (i_Md w h)) hown hE.1 hP 0 rfl rfl 43 (by decide) (hts _ (List.mem_cons_of_mem _ iw3_97)) (fun _ h9 => h9) rfl d_Md_lookElement_174 ?_
      refine va_iald hx hb hE.1 hP 1 3 rfl rfl (vp_in_nI (by omega) (by omega)) d_Md_lookElement_177 ?_
      rw [nI_clamp (n := a2) (by omega), hyb a2 (by omega)]
      refine lv_i2l hx hb d_Md_lookElement_178 rfl ?_
      rw [nI_l (n := b a2) (by have := hb9 a2; omega)]
      refine lv_goto (tgt := 185) hx hb d_Md_lookElement_179 (by decide) ?_
      refine lv_lstore (lv' := [(8, .long (lN (b a2))), (7, .int 1), (5, .long (lN v)), (4, .int 1), (3, .int 6), (0, .ref m0), (1, .int (nI t)), (2, .int (nI wh))]) hx hb d_Md_lookElement_185 hl (by decide) rfl (fun ls hl => ?_)
      refine lv_aload_n hx hb d_Md_lookElement_187 rfl (lv_at hl 5 rfl) ?_
      refine lv_dup hx hb d_Md_lookElement_188 rfl ?_
      refine va_get (D := D) (ci := 6) (v := .int (nI a2)) (C := R_Md) (T := F_Md) (N := 44) hx hb hts (fun w h => List.mem_cons_of_mem _ (i_Md w h)) hown hE.1 hP 0 rfl rfl 43 (by decide) (hts _ (List.mem_cons_of_mem _ iw3_97)) (fun _ h9 => h9) rfl d_Md_lookElement_189 ?_
      refine lv_iload hx hb d_Md_lookElement_192 (lv_at hl 1 rfl) ?_
      refine lv_if_eq (tgt := 201) hx hb d_Md_lookElement_194 (by decide) (fun c_194 => absurd c_194 (by decide)) (fun c_194 => ?_)
      refine lv_iconst (v := 1) hx hb d_Md_lookElement_197 (by decide) ?_
      refine lv_goto (tgt := 202) hx hb d_Md_lookElement_198 (by decide) ?_
      refine lv_iadd hx hb d_Md_lookElement_202 ?_
      rw [nI_1]
      refine va_put (D := D) (ci := 6) (v := .int (nI (a2 + 1))) (ty := .int) (C := R_Md) (T := F_Md) (N := 44) hx hb hts (fun w h => List.mem_cons_of_mem _ (i_Md w h)) t_Md tk_Md n_Md hown hE.1 hP hD hS 0 rfl rfl 43 (by decide) (hts _ (List.mem_cons_of_mem _ iw3_97)) (fun _ h9 => h9) rfl (by decide +kernel) rfl rfl (Nat.le_of_ble_eq_true rfl) d_Md_lookElement_203 (fun H locs hP hD hS => ?_)
      have hP : va_P D cls [(m0, .inr (6, mF g (K.1, K.2.1, K.2.2.1, K.2.2.2.1, nI X.length, K.2.2.2.2.2.1, K.2.2.2.2.2.2.1, K.2.2.2.2.2.2.2.1, nI (a2 + 1)) A0 e np B)), ((g 30), .inl (cA 3, 2000, .inl yb)), ((g 38), .inl (cA 3, 2000, .inl ow)), ((g 39), .inl (cA 3, 2000, .inl fi)), ((g 40), .inl (cA 3, 2000, .inl be))] H := hP
      have hD : va_D A [(m0, .inr (6, mF g (K.1, K.2.1, K.2.2.1, K.2.2.2.1, nI X.length, K.2.2.2.2.2.1, K.2.2.2.2.2.2.1, K.2.2.2.2.2.2.2.1, nI (a2 + 1)) A0 e np B)), ((g 30), .inl (cA 3, 2000, .inl yb)), ((g 38), .inl (cA 3, 2000, .inl ow)), ((g 39), .inl (cA 3, 2000, .inl fi)), ((g 40), .inl (cA 3, 2000, .inl be))] := hD
      refine lv_iload_n hx hb d_Md_lookElement_206 rfl (lv_at hl 7 rfl) ?_
      refine lv_iconst (v := 1) hx hb d_Md_lookElement_207 (by decide) ?_
      refine lv_icmp_ne (tgt := 214) hx hb d_Md_lookElement_208 (by decide) (fun c_208 => ?_) (fun c_208 => absurd c_208 (fun q => absurd ((nI_eq (a := wh) (b := 1) (by omega) (by decide)).mp q) (by omega)))
      refine lv_aload_n hx hb d_Md_lookElement_214 rfl (lv_at hl 5 rfl) ?_
      refine cV (As := []) (rest := []) (n := 0) (wc := [(m0, .inr (6, mF g (K.1, K.2.1, K.2.2.1, K.2.2.2.1, nI X.length, K.2.2.2.2.2.1, K.2.2.2.2.2.2.1, K.2.2.2.2.2.2.2.1, nI (a2 + 1)) A0 e np B)), ((g 30), .inl (cA 3, 2000, .inl yb))]) (wr := [((g 38), .inl (cA 3, 2000, .inl ow)), ((g 39), .inl (cA 3, 2000, .inl fi)), ((g 40), .inl (cA 3, 2000, .inl be))]) ⟨hx, hb, hml, hown, hts⟩ hno hlocks hl.1 (c_Md_number l hl9 D cA ad H.size m0 g (K.1, K.2.1, K.2.2.1, K.2.2.2.1, nI X.length, K.2.2.2.2.2.1, K.2.2.2.2.2.2.1, K.2.2.2.2.2.2.2.1, nI (a2 + 1)) A0 e np B yb b lm hlm hyb hb9 (a2 + 1) n a4 (by omega) he4) iw4_132 iw4_134 sel_Md_number iw1_7 iw4_135 (by decide +kernel) rfl ⟨Nat.le_of_ble_eq_true rfl, Nat.le_of_ble_eq_true rfl⟩ ⟨Nat.le_of_ble_eq_true rfl, Nat.le_of_ble_eq_true rfl⟩ rfl (Nat.le_of_ble_eq_true rfl) d_Md_lookElement_215 hE hP hD hS hA [0, 1] [2, 3, 4] rfl rfl rfl rfl (by decide) (ci := 6) rfl rfl 0 rfl (fun _ h => h.elim) (fun v_215 u_215 H locs hp_215 hP hD hS => ?_)
      obtain rfl := hp_215
      have hP : va_P D cls [(m0, .inr (6, mF g (K.1, K.2.1, K.2.2.1, K.2.2.2.1, nI X.length, K.2.2.2.2.2.1, K.2.2.2.2.2.2.1, K.2.2.2.2.2.2.2.1, nI a4) A0 e np B)), ((g 30), .inl (cA 3, 2000, .inl yb)), ((g 38), .inl (cA 3, 2000, .inl ow)), ((g 39), .inl (cA 3, 2000, .inl fi)), ((g 40), .inl (cA 3, 2000, .inl be))] H := hP.sub [3, 4, 0, 1, 2] rfl
      have hD : va_D A [(m0, .inr (6, mF g (K.1, K.2.1, K.2.2.1, K.2.2.2.1, nI X.length, K.2.2.2.2.2.1, K.2.2.2.2.2.2.1, K.2.2.2.2.2.2.2.1, nI a4) A0 e np B)), ((g 30), .inl (cA 3, 2000, .inl yb)), ((g 38), .inl (cA 3, 2000, .inl ow)), ((g 39), .inl (cA 3, 2000, .inl fi)), ((g 40), .inl (cA 3, 2000, .inl be))] := hD.sub [3, 4, 0, 1, 2] (by decide) rfl
      refine W.cs (cells' := 0) (slots' := 0) rfl rfl ?_
      refine W.eq (g2 := F0 m 218 ls [.long (lN n)]) rfl ?_
      refine lv_lstore (lv' := [(10, .long (lN n)), (8, .long (lN (b a2))), (7, .int 1), (5, .long (lN v)), (4, .int 1), (3, .int 6), (0, .ref m0), (1, .int (nI t)), (2, .int (nI wh))]) hx hb d_Md_lookElement_218 hl (by decide) rfl (fun ls hl => ?_)
      refine lv_iload_n hx hb d_Md_lookElement_220 rfl (lv_at hl 8 rfl) ?_
      refine lv_iconst (v := 3) hx hb d_Md_lookElement_221 (by decide) ?_
      refine lv_icmp_ne (tgt := 228) hx hb d_Md_lookElement_222 (by decide) (fun c_222 => ?_) (fun c_222 => absurd c_222 (fun q => absurd ((nI_eq (a := wh) (b := 3) (by omega) (by decide)).mp q) (by omega)))
      refine lv_iload_n hx hb d_Md_lookElement_228 rfl (lv_at hl 8 rfl) ?_
      refine lv_bipush (v := 8) hx hb d_Md_lookElement_229 (by decide) ?_
      refine lv_icmp_lt (tgt := 245) hx hb d_Md_lookElement_231 (by decide) (fun c_231 => absurd c_231 (nI_nlt (a := wh) (b := 8) (by omega) (by omega))) (fun c_231 => ?_)
      refine lv_iload_n hx hb d_Md_lookElement_234 rfl (lv_at hl 8 rfl) ?_
      refine lv_bipush (v := 8) hx hb d_Md_lookElement_235 (by decide) ?_
      refine lv_isub hx hb d_Md_lookElement_237 ?_
      refine lv_i2l hx hb d_Md_lookElement_238 rfl ?_
      refine lv_lload hx hb d_Md_lookElement_239 (lv_at hl 0 rfl) ?_
      rw [show (8 : Int32) = nI 8 from rfl, pk_sub hw8, nI_l (n := wh - 8) (by omega)]
      refine W.lcmp hx hb d_Md_lookElement_241 ?_
      refine lv_if_lt (tgt := 249) hx hb d_Md_lookElement_242 (by decide) (fun c_242 => ?_) (fun c_242 => ?_)
      · have hin : wh - 8 < n := (pk_lLT (by omega) (by omega)).mp ((lg_cmp_lt _ _).mp c_242)
        refine lv_iload_n hx hb d_Md_lookElement_249 rfl (lv_at hl 5 rfl) ?_
        refine lv_iconst (v := 4) hx hb d_Md_lookElement_250 (by decide) ?_
        refine lv_iand hx hb d_Md_lookElement_251 ?_
        refine W.eq (g2 := F0 m 252 ls [.int 4]) (by rw [show (6 : Int32) &&& 4 = 4 from by decide +kernel]) ?_
        refine lv_if_eq (tgt := 282) hx hb d_Md_lookElement_252 (by decide) (fun c_252 => absurd c_252 (by decide)) (fun c_252 => ?_)
        refine lv_aload_n hx hb d_Md_lookElement_255 rfl (lv_at hl 6 rfl) ?_
        refine va_get (D := D) (ci := 6) (v := .ref (g 39)) (C := R_Md) (T := F_Md) (N := 44) hx hb hts (fun w h => List.mem_cons_of_mem _ (i_Md w h)) hown hE.1 hP 0 rfl rfl 39 (by decide) (hts _ (List.mem_cons_of_mem _ iw3_93)) (fun _ h9 => h9) rfl d_Md_lookElement_256 ?_
        refine lv_aload_n hx hb d_Md_lookElement_259 rfl (lv_at hl 6 rfl) ?_
        refine lv_iload_n hx hb d_Md_lookElement_260 rfl (lv_at hl 7 rfl) ?_
        refine lv_iload_n hx hb d_Md_lookElement_261 rfl (lv_at hl 8 rfl) ?_
        refine lv_bipush (v := 8) hx hb d_Md_lookElement_262 (by decide) ?_
        refine lv_isub hx hb d_Md_lookElement_264 ?_
        refine lv_iload hx hb d_Md_lookElement_265 (lv_at hl 4 rfl) ?_
        refine lv_if_eq (tgt := 274) hx hb d_Md_lookElement_267 (by decide) (fun c_267 => absurd c_267 (by decide)) (fun c_267 => ?_)
        refine lv_iconst (v := 1) hx hb d_Md_lookElement_270 (by decide) ?_
        refine lv_goto (tgt := 275) hx hb d_Md_lookElement_271 (by decide) ?_
        refine lv_iadd hx hb d_Md_lookElement_275 ?_
        rw [show nI wh - 8 + 1 = nI (wh - 8 + 1) from by rw [show (8 : Int32) = nI 8 from rfl, pk_sub hw8]; exact nI_add (wh - 8) 1]
        refine cV (As := [.int (nI t), .int (nI (wh - 8 + 1))]) (rest := [.ref (g 39)]) (n := 2) (wc := [(m0, .inr (6, mF g (K.1, K.2.1, K.2.2.1, K.2.2.2.1, nI X.length, K.2.2.2.2.2.1, K.2.2.2.2.2.2.1, K.2.2.2.2.2.2.2.1, nI a4) A0 e np B)), ((g 38), .inl (cA 3, 2000, .inl ow))]) (wr := [((g 30), .inl (cA 3, 2000, .inl yb)), ((g 39), .inl (cA 3, 2000, .inl fi)), ((g 40), .inl (cA 3, 2000, .inl be))]) ⟨hx, hb, hml, hown, hts⟩ hno hlocks hl.1 (c_Md_expressionOf l hl9 D cA ad H.size m0 g (K.1, K.2.1, K.2.2.1, K.2.2.2.1, nI X.length, K.2.2.2.2.2.1, K.2.2.2.2.2.2.1, K.2.2.2.2.2.2.2.1, nI a4) A0 e np B ow fi be X hXH hXf hX t (by omega) (wh - 8 + 1) (by omega)) iw4_156 iw4_158 sel_Md_expressionOf iw1_7 iw4_159 (by decide +kernel) rfl ⟨Nat.le_of_ble_eq_true rfl, Nat.le_of_ble_eq_true rfl⟩ ⟨Nat.le_of_ble_eq_true rfl, Nat.le_of_ble_eq_true rfl⟩ rfl (Nat.le_of_ble_eq_true rfl) d_Md_lookElement_276 hE hP hD hS hA [0, 2] [1, 3, 4] rfl rfl rfl rfl (by decide) (ci := 6) rfl rfl 0 rfl (fun _ h => h.elim) (fun v_276 u_276 H locs hp_276 hP hD hS => ?_)
        rcases hp_276 with ⟨rfl, hno267⟩ | ⟨e267_, f267_, z267_, he267, rfl, hg267, hfi267, hbe267, hfb267, hzb267⟩
        · exact absurd hno267 (by rw [hexx, List.length_cons]; omega)
        have hP : va_P D cls [(m0, .inr (6, mF g (K.1, K.2.1, K.2.2.1, K.2.2.2.1, nI X.length, K.2.2.2.2.2.1, K.2.2.2.2.2.2.1, K.2.2.2.2.2.2.2.1, nI a4) A0 e np B)), ((g 30), .inl (cA 3, 2000, .inl yb)), ((g 38), .inl (cA 3, 2000, .inl ow)), ((g 39), .inl (cA 3, 2000, .inl fi)), ((g 40), .inl (cA 3, 2000, .inl be))] H := hP.sub [3, 0, 4, 1, 2] rfl
        have hD : va_D A [(m0, .inr (6, mF g (K.1, K.2.1, K.2.2.1, K.2.2.2.1, nI X.length, K.2.2.2.2.2.1, K.2.2.2.2.2.2.1, K.2.2.2.2.2.2.2.1, nI a4) A0 e np B)), ((g 30), .inl (cA 3, 2000, .inl yb)), ((g 38), .inl (cA 3, 2000, .inl ow)), ((g 39), .inl (cA 3, 2000, .inl fi)), ((g 40), .inl (cA 3, 2000, .inl be))] := hD.sub [3, 0, 4, 1, 2] (by decide) rfl
        refine W.cs (cells' := 0) (slots' := 0) rfl rfl ?_
        refine W.eq (g2 := F0 m 279 ls [.int (nI e267_), .ref (g 39)]) rfl ?_
        refine va_iald hx hb hE.1 hP 3 3 rfl rfl (vp_in_nI (by omega) (by omega)) d_Md_lookElement_279 ?_
        rw [nI_clamp (n := e267_) (by omega), hfi267]
        refine lv_i2l hx hb d_Md_lookElement_280 rfl ?_
        rw [nI_l (n := f267_) (by omega)]
        have hgx : exs[wh - 8]? = some (f267_, z267_) := by rw [hexx, List.getElem?_cons_succ] at hg267; exact hg267
        exact cRl (nI a4) hx hb hr hlocks d_Md_lookElement_281 hS hP hD (by rw [lkS, if_pos (show 8 ≤ wh by omega), if_pos rfl, lst_in (z := vp_updL (vp_updL (vp_updL (vp_updL (vp_updL (vp_updL (vp_updL (vp_updL (vp_updL c_1 0 (elM 6)) 2 (lN v)) 4 (lN b8)) 5 (lN a2)) 1 (lN (b a2))) 6 (elS 6)) 3 (lN n)) 7 (lN nl)) 8 (lN n)) (cs := 7) (cn := 8) (M := n) (nl := nl) rfl rfl (by omega) hnl hitl.1 hseg (show wh - 8 < n by omega), hitx, List.getD_eq_getElem?_getD, List.getElem?_map, hgx]; rfl) (Nat.le_refl _) (Nat.le_refl _)
      · refine lv_ldc2 hx hb hown (hts _ (List.mem_cons_of_mem _ iw3_204)) d_Md_lookElement_245 ?_
        exact cRl (nI a4) hx hb hr hlocks d_Md_lookElement_248 hS hP hD (by rw [lkS, if_pos (show 8 ≤ wh by omega), if_pos rfl, lst_out (z := vp_updL (vp_updL (vp_updL (vp_updL (vp_updL (vp_updL (vp_updL (vp_updL (vp_updL c_1 0 (elM 6)) 2 (lN v)) 4 (lN b8)) 5 (lN a2)) 1 (lN (b a2))) 6 (elS 6)) 3 (lN n)) 7 (lN nl)) 8 (lN n)) (cs := 7) (cn := 8) (M := n) rfl (by omega) (by omega) (by have := (pk_lLE (a := n) (b := wh - 8) (by omega) (by omega)).mp (Int64.not_lt.mp (fun q => c_242 ((lg_cmp_lt _ _).mpr q))); omega)]) (Nat.le_refl _) (Nat.le_refl _)
  · obtain ⟨ec2, ea2⟩ : vp_updL (vp_updL c_1 0 (elM 7)) 2 0 = c2 ∧ a1 = a2 := by have q : (Sum.inr (vp_updL (vp_updL c_1 0 (elM 7)) 2 0, a1) : PR (Nat → Int64)) = .inr (c2, a2) := he2; cases q; exact ⟨rfl, rfl⟩
    subst ea2
    subst ec2
    have he3 : pType tRef b lm a1 = .inr (tt, a3) := he3
    obtain ⟨h71, h72, h73⟩ := pType_inv he3
    subst h72
    subst h73
    have hexx : exO t X = exs := hexx
    have hitx := hitx (by decide)
    have hexl : exs.length = n := by have q := hitl.1; rw [hitx, List.length_map] at q; exact q
    rcases (show wh = 0 ∨ wh = 1 ∨ wh = 2 ∨ wh = 3 ∨ wh = 4 ∨ wh = 5 ∨ wh = 6 ∨ wh = 7 ∨ 8 ≤ wh by omega) with rfl | rfl | rfl | rfl | rfl | rfl | rfl | rfl | hw8
    · have hl : lv_has ls 13 [(0, .ref m0), (1, .int (nI t)), (2, .int 0)] := hl
      refine lv_aload_n hx hb d_Md_lookElement_0 rfl (lv_at hl 0 rfl) ?_
      refine cV (As := []) (rest := []) (n := 0) (wc := [(m0, .inr (6, mF g (K.1, K.2.1, K.2.2.1, K.2.2.2.1, nI X.length, K.2.2.2.2.2.1, K.2.2.2.2.2.2.1, K.2.2.2.2.2.2.2.1, nI a) A0 e np B)), ((g 30), .inl (cA 3, 2000, .inl yb))]) (wr := [((g 38), .inl (cA 3, 2000, .inl ow)), ((g 39), .inl (cA 3, 2000, .inl fi)), ((g 40), .inl (cA 3, 2000, .inl be))]) ⟨hx, hb, hml, hown, hts⟩ hno hlocks hl.1 (c_Md_number l hl9 D cA ad s.heap.size m0 g (K.1, K.2.1, K.2.2.1, K.2.2.2.1, nI X.length, K.2.2.2.2.2.1, K.2.2.2.2.2.2.1, K.2.2.2.2.2.2.2.1, nI a) A0 e np B yb b lm hlm hyb hb9 a 7 a1 (by omega) hmu) iw4_132 iw4_134 sel_Md_number iw1_7 iw4_135 (by decide +kernel) rfl ⟨Nat.le_of_ble_eq_true rfl, Nat.le_of_ble_eq_true rfl⟩ ⟨Nat.le_of_ble_eq_true rfl, Nat.le_of_ble_eq_true rfl⟩ rfl (Nat.le_of_ble_eq_true rfl) d_Md_lookElement_1 hE hP hD hS hA [0, 1] [2, 3, 4] rfl rfl rfl rfl (by decide) (ci := 6) rfl rfl 0 rfl (fun _ h => h.elim) (fun v_1 u_1 H locs hp_1 hP hD hS => ?_)
      obtain rfl := hp_1
      have hP : va_P D cls [(m0, .inr (6, mF g (K.1, K.2.1, K.2.2.1, K.2.2.2.1, nI X.length, K.2.2.2.2.2.1, K.2.2.2.2.2.2.1, K.2.2.2.2.2.2.2.1, nI a1) A0 e np B)), ((g 30), .inl (cA 3, 2000, .inl yb)), ((g 38), .inl (cA 3, 2000, .inl ow)), ((g 39), .inl (cA 3, 2000, .inl fi)), ((g 40), .inl (cA 3, 2000, .inl be))] H := hP.sub [3, 4, 0, 1, 2] rfl
      have hD : va_D A [(m0, .inr (6, mF g (K.1, K.2.1, K.2.2.1, K.2.2.2.1, nI X.length, K.2.2.2.2.2.1, K.2.2.2.2.2.2.1, K.2.2.2.2.2.2.2.1, nI a1) A0 e np B)), ((g 30), .inl (cA 3, 2000, .inl yb)), ((g 38), .inl (cA 3, 2000, .inl ow)), ((g 39), .inl (cA 3, 2000, .inl fi)), ((g 40), .inl (cA 3, 2000, .inl be))] := hD.sub [3, 4, 0, 1, 2] (by decide) rfl
      refine W.cs (cells' := 0) (slots' := 0) rfl rfl ?_
      refine W.eq (g2 := F0 m 4 ls [.long (lN 7)]) rfl ?_
      refine lv_l2i hx hb d_Md_lookElement_4 rfl ?_
      refine W.eq (g2 := F0 m 5 ls [.int 7]) (by rw [lN_i]; rfl) ?_
      refine lv_istore_n (lv' := [(3, .int 7), (0, .ref m0), (1, .int (nI t)), (2, .int 0)]) hx hb d_Md_lookElement_5 rfl hl (by decide) rfl (fun ls hl => ?_)
      refine lv_iload_n hx hb d_Md_lookElement_6 rfl (lv_at hl 0 rfl) ?_
      refine lv_iconst (v := 1) hx hb d_Md_lookElement_7 (by decide) ?_
      refine lv_iand hx hb d_Md_lookElement_8 ?_
      refine W.eq (g2 := F0 m 9 ls [.int 1]) (by rw [show (7 : Int32) &&& 1 = 1 from by decide +kernel]) ?_
      refine lv_if_ne (tgt := 16) hx hb d_Md_lookElement_9 (by decide) (fun c_9 => ?_) (fun c_9 => absurd c_9 (by decide))
      refine lv_iconst (v := 0) hx hb d_Md_lookElement_16 (by decide) ?_
      refine lv_istore (lv' := [(4, .int 0), (3, .int 7), (0, .ref m0), (1, .int (nI t)), (2, .int 0)]) hx hb d_Md_lookElement_17 hl (by decide) rfl (fun ls hl => ?_)
      refine lv_iload hx hb d_Md_lookElement_19 (lv_at hl 0 rfl) ?_
      refine lv_if_eq (tgt := 37) hx hb d_Md_lookElement_21 (by decide) (fun c_21 => ?_) (fun c_21 => absurd (by decide) c_21)
      refine lv_lconst (v := 0) hx hb d_Md_lookElement_37 (by decide) ?_
      refine lv_lstore (lv' := [(5, .long 0), (4, .int 0), (3, .int 7), (0, .ref m0), (1, .int (nI t)), (2, .int 0)]) hx hb d_Md_lookElement_38 hl (by decide) rfl (fun ls hl => ?_)
      refine lv_iload_n hx hb d_Md_lookElement_40 rfl (lv_at hl 5 rfl) ?_
      refine lv_if_ne (tgt := 67) hx hb d_Md_lookElement_41 (by decide) (fun c_41 => absurd (by decide) c_41) (fun c_41 => ?_)
      refine lv_iload hx hb d_Md_lookElement_44 (lv_at hl 1 rfl) ?_
      refine lv_if_eq (tgt := 53) hx hb d_Md_lookElement_46 (by decide) (fun c_46 => ?_) (fun c_46 => absurd (by decide) c_46)
      refine lv_iload_n hx hb d_Md_lookElement_53 rfl (lv_at hl 2 rfl) ?_
      refine lv_iconst (v := 2) hx hb d_Md_lookElement_54 (by decide) ?_
      refine lv_iand hx hb d_Md_lookElement_55 ?_
      refine W.eq (g2 := F0 m 56 ls [.int 2]) (by rw [show (7 : Int32) &&& 2 = 2 from by decide +kernel]) ?_
      refine lv_if_eq (tgt := 65) hx hb d_Md_lookElement_56 (by decide) (fun c_56 => absurd c_56 (by decide)) (fun c_56 => ?_)
      refine lv_ldc2 hx hb hown (hts _ (List.mem_cons_of_mem _ iw4_51)) d_Md_lookElement_59 ?_
      refine lv_goto (tgt := 66) hx hb d_Md_lookElement_62 (by decide) ?_
      exact cRl (nI a1) hx hb hr hlocks d_Md_lookElement_66 hS hP hD (rfl) (Nat.le_refl _) (Nat.le_refl _)
    · have hl : lv_has ls 13 [(0, .ref m0), (1, .int (nI t)), (2, .int 1)] := hl
      refine lv_aload_n hx hb d_Md_lookElement_0 rfl (lv_at hl 0 rfl) ?_
      refine cV (As := []) (rest := []) (n := 0) (wc := [(m0, .inr (6, mF g (K.1, K.2.1, K.2.2.1, K.2.2.2.1, nI X.length, K.2.2.2.2.2.1, K.2.2.2.2.2.2.1, K.2.2.2.2.2.2.2.1, nI a) A0 e np B)), ((g 30), .inl (cA 3, 2000, .inl yb))]) (wr := [((g 38), .inl (cA 3, 2000, .inl ow)), ((g 39), .inl (cA 3, 2000, .inl fi)), ((g 40), .inl (cA 3, 2000, .inl be))]) ⟨hx, hb, hml, hown, hts⟩ hno hlocks hl.1 (c_Md_number l hl9 D cA ad s.heap.size m0 g (K.1, K.2.1, K.2.2.1, K.2.2.2.1, nI X.length, K.2.2.2.2.2.1, K.2.2.2.2.2.2.1, K.2.2.2.2.2.2.2.1, nI a) A0 e np B yb b lm hlm hyb hb9 a 7 a1 (by omega) hmu) iw4_132 iw4_134 sel_Md_number iw1_7 iw4_135 (by decide +kernel) rfl ⟨Nat.le_of_ble_eq_true rfl, Nat.le_of_ble_eq_true rfl⟩ ⟨Nat.le_of_ble_eq_true rfl, Nat.le_of_ble_eq_true rfl⟩ rfl (Nat.le_of_ble_eq_true rfl) d_Md_lookElement_1 hE hP hD hS hA [0, 1] [2, 3, 4] rfl rfl rfl rfl (by decide) (ci := 6) rfl rfl 0 rfl (fun _ h => h.elim) (fun v_1 u_1 H locs hp_1 hP hD hS => ?_)
      obtain rfl := hp_1
      have hP : va_P D cls [(m0, .inr (6, mF g (K.1, K.2.1, K.2.2.1, K.2.2.2.1, nI X.length, K.2.2.2.2.2.1, K.2.2.2.2.2.2.1, K.2.2.2.2.2.2.2.1, nI a1) A0 e np B)), ((g 30), .inl (cA 3, 2000, .inl yb)), ((g 38), .inl (cA 3, 2000, .inl ow)), ((g 39), .inl (cA 3, 2000, .inl fi)), ((g 40), .inl (cA 3, 2000, .inl be))] H := hP.sub [3, 4, 0, 1, 2] rfl
      have hD : va_D A [(m0, .inr (6, mF g (K.1, K.2.1, K.2.2.1, K.2.2.2.1, nI X.length, K.2.2.2.2.2.1, K.2.2.2.2.2.2.1, K.2.2.2.2.2.2.2.1, nI a1) A0 e np B)), ((g 30), .inl (cA 3, 2000, .inl yb)), ((g 38), .inl (cA 3, 2000, .inl ow)), ((g 39), .inl (cA 3, 2000, .inl fi)), ((g 40), .inl (cA 3, 2000, .inl be))] := hD.sub [3, 4, 0, 1, 2] (by decide) rfl
      refine W.cs (cells' := 0) (slots' := 0) rfl rfl ?_
      refine W.eq (g2 := F0 m 4 ls [.long (lN 7)]) rfl ?_
      refine lv_l2i hx hb d_Md_lookElement_4 rfl ?_
      refine W.eq (g2 := F0 m 5 ls [.int 7]) (by rw [lN_i]; rfl) ?_
      refine lv_istore_n (lv' := [(3, .int 7), (0, .ref m0), (1, .int (nI t)), (2, .int 1)]) hx hb d_Md_lookElement_5 rfl hl (by decide) rfl (fun ls hl => ?_)
      refine lv_iload_n hx hb d_Md_lookElement_6 rfl (lv_at hl 0 rfl) ?_
      refine lv_iconst (v := 1) hx hb d_Md_lookElement_7 (by decide) ?_
      refine lv_iand hx hb d_Md_lookElement_8 ?_
      refine W.eq (g2 := F0 m 9 ls [.int 1]) (by rw [show (7 : Int32) &&& 1 = 1 from by decide +kernel]) ?_
      refine lv_if_ne (tgt := 16) hx hb d_Md_lookElement_9 (by decide) (fun c_9 => ?_) (fun c_9 => absurd c_9 (by decide))
      refine lv_iconst (v := 0) hx hb d_Md_lookElement_16 (by decide) ?_
      refine lv_istore (lv' := [(4, .int 0), (3, .int 7), (0, .ref m0), (1, .int (nI t)), (2, .int 1)]) hx hb d_Md_lookElement_17 hl (by decide) rfl (fun ls hl => ?_)
      refine lv_iload hx hb d_Md_lookElement_19 (lv_at hl 0 rfl) ?_
      refine lv_if_eq (tgt := 37) hx hb d_Md_lookElement_21 (by decide) (fun c_21 => ?_) (fun c_21 => absurd (by decide) c_21)
      refine lv_lconst (v := 0) hx hb d_Md_lookElement_37 (by decide) ?_
      refine lv_lstore (lv' := [(5, .long 0), (4, .int 0), (3, .int 7), (0, .ref m0), (1, .int (nI t)), (2, .int 1)]) hx hb d_Md_lookElement_38 hl (by decide) rfl (fun ls hl => ?_)
      refine lv_iload_n hx hb d_Md_lookElement_40 rfl (lv_at hl 5 rfl) ?_
      refine lv_if_ne (tgt := 67) hx hb d_Md_lookElement_41 (by decide) (fun c_41 => ?_) (fun c_41 => absurd c_41 (by decide))
      refine lv_iload_n hx hb d_Md_lookElement_67 rfl (lv_at hl 5 rfl) ?_
      refine lv_iconst (v := 2) hx hb d_Md_lookElement_68 (by decide) ?_
      refine lv_icmp_ne (tgt := 75) hx hb d_Md_lookElement_69 (by decide) (fun c_69 => ?_) (fun c_69 => absurd c_69 (by decide))
      refine lv_iload_n hx hb d_Md_lookElement_75 rfl (lv_at hl 5 rfl) ?_
      refine lv_iconst (v := 4) hx hb d_Md_lookElement_76 (by decide) ?_
      refine lv_icmp_eq (tgt := 85) hx hb d_Md_lookElement_77 (by decide) (fun c_77 => absurd c_77 (by decide)) (fun c_77 => ?_)
      refine lv_iload_n hx hb d_Md_lookElement_80 rfl (lv_at hl 5 rfl) ?_
      refine lv_iconst (v := 5) hx hb d_Md_lookElement_81 (by decide) ?_
      refine lv_icmp_ne (tgt := 104) hx hb d_Md_lookElement_82 (by decide) (fun c_82 => ?_) (fun c_82 => absurd c_82 (by decide))
      refine lv_iload_n hx hb d_Md_lookElement_104 rfl (lv_at hl 5 rfl) ?_
      refine lv_bipush (v := 6) hx hb d_Md_lookElement_105 (by decide) ?_
      refine lv_icmp_ne (tgt := 122) hx hb d_Md_lookElement_107 (by decide) (fun c_107 => ?_) (fun c_107 => absurd c_107 (by decide))
      refine lv_iload hx hb d_Md_lookElement_122 (lv_at hl 1 rfl) ?_
      refine lv_if_eq (tgt := 142) hx hb d_Md_lookElement_124 (by decide) (fun c_124 => ?_) (fun c_124 => absurd (by decide) c_124)
      refine lv_iload_n hx hb d_Md_lookElement_142 rfl (lv_at hl 2 rfl) ?_
      refine lv_if_eq (tgt := 155) hx hb d_Md_lookElement_143 (by decide) (fun c_143 => absurd c_143 (by decide)) (fun c_143 => ?_)
      refine lv_iload_n hx hb d_Md_lookElement_146 rfl (lv_at hl 2 rfl) ?_
      refine lv_iconst (v := 4) hx hb d_Md_lookElement_147 (by decide) ?_
      refine lv_icmp_eq (tgt := 155) hx hb d_Md_lookElement_148 (by decide) (fun c_148 => absurd c_148 (by decide)) (fun c_148 => ?_)
      refine lv_iconst (v := 1) hx hb d_Md_lookElement_151 (by decide) ?_
      refine lv_goto (tgt := 156) hx hb d_Md_lookElement_152 (by decide) ?_
      refine lv_istore (lv' := [(7, .int 1), (5, .long 0), (4, .int 0), (3, .int 7), (0, .ref m0), (1, .int (nI t)), (2, .int 1)]) hx hb d_Md_lookElement_156 hl (by decide) rfl (fun ls hl => ?_)
      refine lv_iload hx hb d_Md_lookElement_158 (lv_at hl 0 rfl) ?_
      refine lv_if_eq (tgt := 182) hx hb d_Md_lookElement_160 (by decide) (fun c_160 => absurd c_160 (by decide)) (fun c_160 => ?_)
      refine lv_iload_n hx hb d_Md_lookElement_163 rfl (lv_at hl 3 rfl) ?_
      refine lv_iconst (v := 4) hx hb d_Md_lookElement_164 (by decide) ?_
      refine lv_iand hx hb d_Md_lookElement_165 ?_
      refine W.eq (g2 := F0 m 166 ls [.int 4]) (by rw [show (7 : Int32) &&& 4 = 4 from by decide +kernel]) ?_
      refine lv_if_eq (tgt := 182) hx hb d_Md_lookElement_166 (by decide) (fun c_166 => absurd c_166 (by decide)) (fun c_166 => ?_)
      refine lv_aload_n hx hb d_Md_lookElement_169 rfl (lv_at hl 4 rfl) ?_
      refine va_get (D := D) (ci := 6) (v := .ref (g 30)) (C := R_Md) (T := F_Md) (N := 44) hx hb hts (fun w h => List.mem_cons_of_mem _ (i_Md w h)) hown hE.1 hP 0 rfl rfl 30 (by decide) (hts _ (List.mem_cons_of_mem _ iw3_84)) (fun _ h9 => h9) rfl d_Md_lookElement_170 ?_
      refine lv_aload_n hx hb d_Md_lookElement_173 rfl (lv_at hl 4 rfl) ?_
      refine va_get (D := D) (ci := 6) (v := .int (nI a1)) (C := R_Md) (T := F_Md) (N := 44) hx hb hts (fun w h => List.mem_cons_of_mem _ (i_Md w h)) hown hE.1 hP 0 rfl rfl 43 (by decide) (hts _ (List.mem_cons_of_mem _ iw3_97)) (fun _ h9 => h9) rfl d_Md_lookElement_174 ?_
      refine va_iald hx hb hE.1 hP 1 3 rfl rfl (vp_in_nI (by omega) (by omega)) d_Md_lookElement_177 ?_
      rw [nI_clamp (n := a1) (by omega), hyb a1 (by omega)]
      refine lv_i2l hx hb d_Md_lookElement_178 rfl ?_
      rw [nI_l (n := b a1) (by have := hb9 a1; omega)]
      refine lv_goto (tgt := 185) hx hb d_Md_lookElement_179 (by decide) ?_
      refine lv_lstore (lv' := [(8, .long (lN (b a1))), (7, .int 1), (5, .long 0), (4, .int 0), (3, .int 7), (0, .ref m0), (1, .int (nI t)), (2, .int 1)]) hx hb d_Md_lookElement_185 hl (by decide) rfl (fun ls hl => ?_)
      refine lv_aload_n hx hb d_Md_lookElement_187 rfl (lv_at hl 5 rfl) ?_
      refine lv_dup hx hb d_Md_lookElement_188 rfl ?_
      refine va_get (D := D) (ci := 6) (v := .int (nI a1)) (C := R_Md) (T := F_Md) (N := 44) hx hb hts (fun w h => List.mem_cons_of_mem _ (i_Md w h)) hown hE.1 hP 0 rfl rfl 43 (by decide) (hts _ (List.mem_cons_of_mem _ iw3_97)) (fun _ h9 => h9) rfl d_Md_lookElement_189 ?_
      refine lv_iload hx hb d_Md_lookElement_192 (lv_at hl 1 rfl) ?_
      refine lv_if_eq (tgt := 201) hx hb d_Md_lookElement_194 (by decide) (fun c_194 => absurd c_194 (by decide)) (fun c_194 => ?_)
      refine lv_iconst (v := 1) hx hb d_Md_lookElement_197 (by decide) ?_
      refine lv_goto (tgt := 202) hx hb d_Md_lookElement_198 (by decide) ?_
      refine lv_iadd hx hb d_Md_lookElement_202 ?_
      rw [nI_1]
      refine va_put (D := D) (ci := 6) (v := .int (nI (a1 + 1))) (ty := .int) (C := R_Md) (T := F_Md) (N := 44) hx hb hts (fun w h => List.mem_cons_of_mem _ (i_Md w h)) t_Md tk_Md n_Md hown hE.1 hP hD hS 0 rfl rfl 43 (by decide) (hts _ (List.mem_cons_of_mem _ iw3_97)) (fun _ h9 => h9) rfl (by decide +kernel) rfl rfl (Nat.le_of_ble_eq_true rfl) d_Md_lookElement_203 (fun H locs hP hD hS => ?_)
      have hP : va_P D cls [(m0, .inr (6, mF g (K.1, K.2.1, K.2.2.1, K.2.2.2.1, nI X.length, K.2.2.2.2.2.1, K.2.2.2.2.2.2.1, K.2.2.2.2.2.2.2.1, nI (a1 + 1)) A0 e np B)), ((g 30), .inl (cA 3, 2000, .inl yb)), ((g 38), .inl (cA 3, 2000, .inl ow)), ((g 39), .inl (cA 3, 2000, .inl fi)), ((g 40), .inl (cA 3, 2000, .inl be))] H := hP
      have hD : va_D A [(m0, .inr (6, mF g (K.1, K.2.1, K.2.2.1, K.2.2.2.1, nI X.length, K.2.2.2.2.2.1, K.2.2.2.2.2.2.1, K.2.2.2.2.2.2.2.1, nI (a1 + 1)) A0 e np B)), ((g 30), .inl (cA 3, 2000, .inl yb)), ((g 38), .inl (cA 3, 2000, .inl ow)), ((g 39), .inl (cA 3, 2000, .inl fi)), ((g 40), .inl (cA 3, 2000, .inl be))] := hD
      refine lv_iload_n hx hb d_Md_lookElement_206 rfl (lv_at hl 7 rfl) ?_
      refine lv_iconst (v := 1) hx hb d_Md_lookElement_207 (by decide) ?_
      refine lv_icmp_ne (tgt := 214) hx hb d_Md_lookElement_208 (by decide) (fun c_208 => absurd (by decide) c_208) (fun c_208 => ?_)
      refine lv_lload hx hb d_Md_lookElement_211 (lv_at hl 0 rfl) ?_
      exact cRl (nI (a1 + 1)) hx hb hr hlocks d_Md_lookElement_213 hS hP hD (rfl) (Nat.le_refl _) (Nat.le_refl _)
    · have hl : lv_has ls 13 [(0, .ref m0), (1, .int (nI t)), (2, .int 2)] := hl
      refine lv_aload_n hx hb d_Md_lookElement_0 rfl (lv_at hl 0 rfl) ?_
      refine cV (As := []) (rest := []) (n := 0) (wc := [(m0, .inr (6, mF g (K.1, K.2.1, K.2.2.1, K.2.2.2.1, nI X.length, K.2.2.2.2.2.1, K.2.2.2.2.2.2.1, K.2.2.2.2.2.2.2.1, nI a) A0 e np B)), ((g 30), .inl (cA 3, 2000, .inl yb))]) (wr := [((g 38), .inl (cA 3, 2000, .inl ow)), ((g 39), .inl (cA 3, 2000, .inl fi)), ((g 40), .inl (cA 3, 2000, .inl be))]) ⟨hx, hb, hml, hown, hts⟩ hno hlocks hl.1 (c_Md_number l hl9 D cA ad s.heap.size m0 g (K.1, K.2.1, K.2.2.1, K.2.2.2.1, nI X.length, K.2.2.2.2.2.1, K.2.2.2.2.2.2.1, K.2.2.2.2.2.2.2.1, nI a) A0 e np B yb b lm hlm hyb hb9 a 7 a1 (by omega) hmu) iw4_132 iw4_134 sel_Md_number iw1_7 iw4_135 (by decide +kernel) rfl ⟨Nat.le_of_ble_eq_true rfl, Nat.le_of_ble_eq_true rfl⟩ ⟨Nat.le_of_ble_eq_true rfl, Nat.le_of_ble_eq_true rfl⟩ rfl (Nat.le_of_ble_eq_true rfl) d_Md_lookElement_1 hE hP hD hS hA [0, 1] [2, 3, 4] rfl rfl rfl rfl (by decide) (ci := 6) rfl rfl 0 rfl (fun _ h => h.elim) (fun v_1 u_1 H locs hp_1 hP hD hS => ?_)
      obtain rfl := hp_1
      have hP : va_P D cls [(m0, .inr (6, mF g (K.1, K.2.1, K.2.2.1, K.2.2.2.1, nI X.length, K.2.2.2.2.2.1, K.2.2.2.2.2.2.1, K.2.2.2.2.2.2.2.1, nI a1) A0 e np B)), ((g 30), .inl (cA 3, 2000, .inl yb)), ((g 38), .inl (cA 3, 2000, .inl ow)), ((g 39), .inl (cA 3, 2000, .inl fi)), ((g 40), .inl (cA 3, 2000, .inl be))] H := hP.sub [3, 4, 0, 1, 2] rfl
      have hD : va_D A [(m0, .inr (6, mF g (K.1, K.2.1, K.2.2.1, K.2.2.2.1, nI X.length, K.2.2.2.2.2.1, K.2.2.2.2.2.2.1, K.2.2.2.2.2.2.2.1, nI a1) A0 e np B)), ((g 30), .inl (cA 3, 2000, .inl yb)), ((g 38), .inl (cA 3, 2000, .inl ow)), ((g 39), .inl (cA 3, 2000, .inl fi)), ((g 40), .inl (cA 3, 2000, .inl be))] := hD.sub [3, 4, 0, 1, 2] (by decide) rfl
      refine W.cs (cells' := 0) (slots' := 0) rfl rfl ?_
      refine W.eq (g2 := F0 m 4 ls [.long (lN 7)]) rfl ?_
      refine lv_l2i hx hb d_Md_lookElement_4 rfl ?_
      refine W.eq (g2 := F0 m 5 ls [.int 7]) (by rw [lN_i]; rfl) ?_
      refine lv_istore_n (lv' := [(3, .int 7), (0, .ref m0), (1, .int (nI t)), (2, .int 2)]) hx hb d_Md_lookElement_5 rfl hl (by decide) rfl (fun ls hl => ?_)
      refine lv_iload_n hx hb d_Md_lookElement_6 rfl (lv_at hl 0 rfl) ?_
      refine lv_iconst (v := 1) hx hb d_Md_lookElement_7 (by decide) ?_
      refine lv_iand hx hb d_Md_lookElement_8 ?_
      refine W.eq (g2 := F0 m 9 ls [.int 1]) (by rw [show (7 : Int32) &&& 1 = 1 from by decide +kernel]) ?_
      refine lv_if_ne (tgt := 16) hx hb d_Md_lookElement_9 (by decide) (fun c_9 => ?_) (fun c_9 => absurd c_9 (by decide))
      refine lv_iconst (v := 0) hx hb d_Md_lookElement_16 (by decide) ?_
      refine lv_istore (lv' := [(4, .int 0), (3, .int 7), (0, .ref m0), (1, .int (nI t)), (2, .int 2)]) hx hb d_Md_lookElement_17 hl (by decide) rfl (fun ls hl => ?_)
      refine lv_iload hx hb d_Md_lookElement_19 (lv_at hl 0 rfl) ?_
      refine lv_if_eq (tgt := 37) hx hb d_Md_lookElement_21 (by decide) (fun c_21 => ?_) (fun c_21 => absurd (by decide) c_21)
      refine lv_lconst (v := 0) hx hb d_Md_lookElement_37 (by decide) ?_
      refine lv_lstore (lv' := [(5, .long 0), (4, .int 0), (3, .int 7), (0, .ref m0), (1, .int (nI t)), (2, .int 2)]) hx hb d_Md_lookElement_38 hl (by decide) rfl (fun ls hl => ?_)
      refine lv_iload_n hx hb d_Md_lookElement_40 rfl (lv_at hl 5 rfl) ?_
      refine lv_if_ne (tgt := 67) hx hb d_Md_lookElement_41 (by decide) (fun c_41 => ?_) (fun c_41 => absurd c_41 (by decide))
      refine lv_iload_n hx hb d_Md_lookElement_67 rfl (lv_at hl 5 rfl) ?_
      refine lv_iconst (v := 2) hx hb d_Md_lookElement_68 (by decide) ?_
      refine lv_icmp_ne (tgt := 75) hx hb d_Md_lookElement_69 (by decide) (fun c_69 => absurd (by decide) c_69) (fun c_69 => ?_)
      refine lv_lload hx hb d_Md_lookElement_72 (lv_at hl 0 rfl) ?_
      exact cRl (nI a1) hx hb hr hlocks d_Md_lookElement_74 hS hP hD (rfl) (Nat.le_refl _) (Nat.le_refl _)
    · have hl : lv_has ls 13 [(0, .ref m0), (1, .int (nI t)), (2, .int 3)] := hl
      refine lv_aload_n hx hb d_Md_lookElement_0 rfl (lv_at hl 0 rfl) ?_
      refine cV (As := []) (rest := []) (n := 0) (wc := [(m0, .inr (6, mF g (K.1, K.2.1, K.2.2.1, K.2.2.2.1, nI X.length, K.2.2.2.2.2.1, K.2.2.2.2.2.2.1, K.2.2.2.2.2.2.2.1, nI a) A0 e np B)), ((g 30), .inl (cA 3, 2000, .inl yb))]) (wr := [((g 38), .inl (cA 3, 2000, .inl ow)), ((g 39), .inl (cA 3, 2000, .inl fi)), ((g 40), .inl (cA 3, 2000, .inl be))]) ⟨hx, hb, hml, hown, hts⟩ hno hlocks hl.1 (c_Md_number l hl9 D cA ad s.heap.size m0 g (K.1, K.2.1, K.2.2.1, K.2.2.2.1, nI X.length, K.2.2.2.2.2.1, K.2.2.2.2.2.2.1, K.2.2.2.2.2.2.2.1, nI a) A0 e np B yb b lm hlm hyb hb9 a 7 a1 (by omega) hmu) iw4_132 iw4_134 sel_Md_number iw1_7 iw4_135 (by decide +kernel) rfl ⟨Nat.le_of_ble_eq_true rfl, Nat.le_of_ble_eq_true rfl⟩ ⟨Nat.le_of_ble_eq_true rfl, Nat.le_of_ble_eq_true rfl⟩ rfl (Nat.le_of_ble_eq_true rfl) d_Md_lookElement_1 hE hP hD hS hA [0, 1] [2, 3, 4] rfl rfl rfl rfl (by decide) (ci := 6) rfl rfl 0 rfl (fun _ h => h.elim) (fun v_1 u_1 H locs hp_1 hP hD hS => ?_)
      obtain rfl := hp_1
      have hP : va_P D cls [(m0, .inr (6, mF g (K.1, K.2.1, K.2.2.1, K.2.2.2.1, nI X.length, K.2.2.2.2.2.1, K.2.2.2.2.2.2.1, K.2.2.2.2.2.2.2.1, nI a1) A0 e np B)), ((g 30), .inl (cA 3, 2000, .inl yb)), ((g 38), .inl (cA 3, 2000, .inl ow)), ((g 39), .inl (cA 3, 2000, .inl fi)), ((g 40), .inl (cA 3, 2000, .inl be))] H := hP.sub [3, 4, 0, 1, 2] rfl
      have hD : va_D A [(m0, .inr (6, mF g (K.1, K.2.1, K.2.2.1, K.2.2.2.1, nI X.length, K.2.2.2.2.2.1, K.2.2.2.2.2.2.1, K.2.2.2.2.2.2.2.1, nI a1) A0 e np B)), ((g 30), .inl (cA 3, 2000, .inl yb)), ((g 38), .inl (cA 3, 2000, .inl ow)), ((g 39), .inl (cA 3, 2000, .inl fi)), ((g 40), .inl (cA 3, 2000, .inl be))] := hD.sub [3, 4, 0, 1, 2] (by decide) rfl
      refine W.cs (cells' := 0) (slots' := 0) rfl rfl ?_
      refine W.eq (g2 := F0 m 4 ls [.long (lN 7)]) rfl ?_
      refine lv_l2i hx hb d_Md_lookElement_4 rfl ?_
      refine W.eq (g2 := F0 m 5 ls [.int 7]) (by rw [lN_i]; rfl) ?_
      refine lv_istore_n (lv' := [(3, .int 7), (0, .ref m0), (1, .int (nI t)), (2, .int 3)]) hx hb d_Md_lookElement_5 rfl hl (by decide) rfl (fun ls hl => ?_)
      refine lv_iload_n hx hb d_Md_lookElement_6 rfl (lv_at hl 0 rfl) ?_
      refine lv_iconst (v := 1) hx hb d_Md_lookElement_7 (by decide) ?_
      refine lv_iand hx hb d_Md_lookElement_8 ?_
      refine W.eq (g2 := F0 m 9 ls [.int 1]) (by rw [show (7 : Int32) &&& 1 = 1 from by decide +kernel]) ?_
      refine lv_if_ne (tgt := 16) hx hb d_Md_lookElement_9 (by decide) (fun c_9 => ?_) (fun c_9 => absurd c_9 (by decide))
      refine lv_iconst (v := 0) hx hb d_Md_lookElement_16 (by decide) ?_
      refine lv_istore (lv' := [(4, .int 0), (3, .int 7), (0, .ref m0), (1, .int (nI t)), (2, .int 3)]) hx hb d_Md_lookElement_17 hl (by decide) rfl (fun ls hl => ?_)
      refine lv_iload hx hb d_Md_lookElement_19 (lv_at hl 0 rfl) ?_
      refine lv_if_eq (tgt := 37) hx hb d_Md_lookElement_21 (by decide) (fun c_21 => ?_) (fun c_21 => absurd (by decide) c_21)
      refine lv_lconst (v := 0) hx hb d_Md_lookElement_37 (by decide) ?_
      refine lv_lstore (lv' := [(5, .long 0), (4, .int 0), (3, .int 7), (0, .ref m0), (1, .int (nI t)), (2, .int 3)]) hx hb d_Md_lookElement_38 hl (by decide) rfl (fun ls hl => ?_)
      refine lv_iload_n hx hb d_Md_lookElement_40 rfl (lv_at hl 5 rfl) ?_
      refine lv_if_ne (tgt := 67) hx hb d_Md_lookElement_41 (by decide) (fun c_41 => ?_) (fun c_41 => absurd c_41 (by decide))
      refine lv_iload_n hx hb d_Md_lookElement_67 rfl (lv_at hl 5 rfl) ?_
      refine lv_iconst (v := 2) hx hb d_Md_lookElement_68 (by decide) ?_
      refine lv_icmp_ne (tgt := 75) hx hb d_Md_lookElement_69 (by decide) (fun c_69 => ?_) (fun c_69 => absurd c_69 (by decide))
      refine lv_iload_n hx hb d_Md_lookElement_75 rfl (lv_at hl 5 rfl) ?_
      refine lv_iconst (v := 4) hx hb d_Md_lookElement_76 (by decide) ?_
      refine lv_icmp_eq (tgt := 85) hx hb d_Md_lookElement_77 (by decide) (fun c_77 => absurd c_77 (by decide)) (fun c_77 => ?_)
      refine lv_iload_n hx hb d_Md_lookElement_80 rfl (lv_at hl 5 rfl) ?_
      refine lv_iconst (v := 5) hx hb d_Md_lookElement_81 (by decide) ?_
      refine lv_icmp_ne (tgt := 104) hx hb d_Md_lookElement_82 (by decide) (fun c_82 => ?_) (fun c_82 => absurd c_82 (by decide))
      refine lv_iload_n hx hb d_Md_lookElement_104 rfl (lv_at hl 5 rfl) ?_
      refine lv_bipush (v := 6) hx hb d_Md_lookElement_105 (by decide) ?_
      refine lv_icmp_ne (tgt := 122) hx hb d_Md_lookElement_107 (by decide) (fun c_107 => ?_) (fun c_107 => absurd c_107 (by decide))
      refine lv_iload hx hb d_Md_lookElement_122 (lv_at hl 1 rfl) ?_
      refine lv_if_eq (tgt := 142) hx hb d_Md_lookElement_124 (by decide) (fun c_124 => ?_) (fun c_124 => absurd (by decide) c_124)
      refine lv_iload_n hx hb d_Md_lookElement_142 rfl (lv_at hl 2 rfl) ?_
      refine lv_if_eq (tgt := 155) hx hb d_Md_lookElement_143 (by decide) (fun c_143 => absurd c_143 (by decide)) (fun c_143 => ?_)
      refine lv_iload_n hx hb d_Md_lookElement_146 rfl (lv_at hl 2 rfl) ?_
      refine lv_iconst (v := 4) hx hb d_Md_lookElement_147 (by decide) ?_
      refine lv_icmp_eq (tgt := 155) hx hb d_Md_lookElement_148 (by decide) (fun c_148 => absurd c_148 (by decide)) (fun c_148 => ?_)
      refine lv_iconst (v := 1) hx hb d_Md_lookElement_151 (by decide) ?_
      refine lv_goto (tgt := 156) hx hb d_Md_lookElement_152 (by decide) ?_
      refine lv_istore (lv' := [(7, .int 1), (5, .long 0), (4, .int 0), (3, .int 7), (0, .ref m0), (1, .int (nI t)), (2, .int 3)]) hx hb d_Md_lookElement_156 hl (by decide) rfl (fun ls hl => ?_)
      refine lv_iload hx hb d_Md_lookElement_158 (lv_at hl 0 rfl) ?_
      refine lv_if_eq (tgt := 182) hx hb d_Md_lookElement_160 (by decide) (fun c_160 => absurd c_160 (by decide)) (fun c_160 => ?_)
      refine lv_iload_n hx hb d_Md_lookElement_163 rfl (lv_at hl 3 rfl) ?_
      refine lv_iconst (v := 4) hx hb d_Md_lookElement_164 (by decide) ?_
      refine lv_iand hx hb d_Md_lookElement_165 ?_
      refine W.eq (g2 := F0 m 166 ls [.int 4]) (by rw [show (7 : Int32) &&& 4 = 4 from by decide +kernel]) ?_
      refine lv_if_eq (tgt := 182) hx hb d_Md_lookElement_166 (by decide) (fun c_166 => absurd c_166 (by decide)) (fun c_166 => ?_)
      refine lv_aload_n hx hb d_Md_lookElement_169 rfl (lv_at hl 4 rfl) ?_
      refine va_get (D := D) (ci := 6) (v := .ref (g 30)) (C := R_Md) (T := F_Md) (N := 44) hx hb hts (fun w h => List.mem_cons_of_mem _ (i_Md w h)) hown hE.1 hP 0 rfl rfl 30 (by decide) (hts _ (List.mem_cons_of_mem _ iw3_84)) (fun _ h9 => h9) rfl d_Md_lookElement_170 ?_
      refine lv_aload_n hx hb d_Md_lookElement_173 rfl (lv_at hl 4 rfl) ?_
      refine va_get (D := D) (ci := 6) (v := .int (nI a1)) (C := R_Md) (T := F_Md) (N := 44) hx hb hts (fun w h => List.mem_cons_of_mem _ (i_Md w h)) hown hE.1 hP 0 rfl rfl 43 (by decide) (hts _ (List.mem_cons_of_mem _ iw3_97)) (fun _ h9 => h9) rfl d_Md_lookElement_174 ?_
      refine va_iald hx hb hE.1 hP 1 3 rfl rfl (vp_in_nI (by omega) (by omega)) d_Md_lookElement_177 ?_
      rw [nI_clamp (n := a1) (by omega), hyb a1 (by omega)]
      refine lv_i2l hx hb d_Md_lookElement_178 rfl ?_
      rw [nI_l (n := b a1) (by have := hb9 a1; omega)]
      refine lv_goto (tgt := 185) hx hb d_Md_lookElement_179 (by decide) ?_
      refine lv_lstore (lv' := [(8, .long (lN (b a1))), (7, .int 1), (5, .long 0), (4, .int 0), (3, .int 7), (0, .ref m0), (1, .int (nI t)), (2, .int 3)]) hx hb d_Md_lookElement_185 hl (by decide) rfl (fun ls hl => ?_)
      refine lv_aload_n hx hb d_Md_lookElement_187 rfl (lv_at hl 5 rfl) ?_
      refine lv_dup hx hb d_Md_lookElement_188 rfl ?_
      refine va_get (D := D) (ci := 6) (v := .int (nI a1)) (C := R_Md) (T := F_Md) (N := 44) hx hb hts (fun w h => List.mem_cons_of_mem _ (i_Md w h)) hown hE.1 hP 0 rfl rfl 43 (by decide) (hts _ (List.mem_cons_of_mem _ iw3_97)) (fun _ h9 => h9) rfl d_Md_lookElement_189 ?_
      refine lv_iload hx hb d_Md_lookElement_192 (lv_at hl 1 rfl) ?_
      refine lv_if_eq (tgt := 201) hx hb d_Md_lookElement_194 (by decide) (fun c_194 => absurd c_194 (by decide)) (fun c_194 => ?_)
      refine lv_iconst (v := 1) hx hb d_Md_lookElement_197 (by decide) ?_
      refine lv_goto (tgt := 202) hx hb d_Md_lookElement_198 (by decide) ?_
      refine lv_iadd hx hb d_Md_lookElement_202 ?_
      rw [nI_1]
      refine va_put (D := D) (ci := 6) (v := .int (nI (a1 + 1))) (ty := .int) (C := R_Md) (T := F_Md) (N := 44) hx hb hts (fun w h => List.mem_cons_of_mem _ (i_Md w h)) t_Md tk_Md n_Md hown hE.1 hP hD hS 0 rfl rfl 43 (by decide) (hts _ (List.mem_cons_of_mem _ iw3_97)) (fun _ h9 => h9) rfl (by decide +kernel) rfl rfl (Nat.le_of_ble_eq_true rfl) d_Md_lookElement_203 (fun H locs hP hD hS => ?_)
      have hP : va_P D cls [(m0, .inr (6, mF g (K.1, K.2.1, K.2.2.1, K.2.2.2.1, nI X.length, K.2.2.2.2.2.1, K.2.2.2.2.2.2.1, K.2.2.2.2.2.2.2.1, nI (a1 + 1)) A0 e np B)), ((g 30), .inl (cA 3, 2000, .inl yb)), ((g 38), .inl (cA 3, 2000, .inl ow)), ((g 39), .inl (cA 3, 2000, .inl fi)), ((g 40), .inl (cA 3, 2000, .inl be))] H := hP
      have hD : va_D A [(m0, .inr (6, mF g (K.1, K.2.1, K.2.2.1, K.2.2.2.1, nI X.length, K.2.2.2.2.2.1, K.2.2.2.2.2.2.1, K.2.2.2.2.2.2.2.1, nI (a1 + 1)) A0 e np B)), ((g 30), .inl (cA 3, 2000, .inl yb)), ((g 38), .inl (cA 3, 2000, .inl ow)), ((g 39), .inl (cA 3, 2000, .inl fi)), ((g 40), .inl (cA 3, 2000, .inl be))] := hD
      refine lv_iload_n hx hb d_Md_lookElement_206 rfl (lv_at hl 7 rfl) ?_
      refine lv_iconst (v := 1) hx hb d_Md_lookElement_207 (by decide) ?_
      refine lv_icmp_ne (tgt := 214) hx hb d_Md_lookElement_208 (by decide) (fun c_208 => ?_) (fun c_208 => absurd c_208 (by decide))
      refine lv_aload_n hx hb d_Md_lookElement_214 rfl (lv_at hl 5 rfl) ?_
      refine cV (As := []) (rest := []) (n := 0) (wc := [(m0, .inr (6, mF g (K.1, K.2.1, K.2.2.1, K.2.2.2.1, nI X.length, K.2.2.2.2.2.1, K.2.2.2.2.2.2.1, K.2.2.2.2.2.2.2.1, nI (a1 + 1)) A0 e np B)), ((g 30), .inl (cA 3, 2000, .inl yb))]) (wr := [((g 38), .inl (cA 3, 2000, .inl ow)), ((g 39), .inl (cA 3, 2000, .inl fi)), ((g 40), .inl (cA 3, 2000, .inl be))]) ⟨hx, hb, hml, hown, hts⟩ hno hlocks hl.1 (c_Md_number l hl9 D cA ad H.size m0 g (K.1, K.2.1, K.2.2.1, K.2.2.2.1, nI X.length, K.2.2.2.2.2.1, K.2.2.2.2.2.2.1, K.2.2.2.2.2.2.2.1, nI (a1 + 1)) A0 e np B yb b lm hlm hyb hb9 (a1 + 1) n a4 (by omega) he4) iw4_132 iw4_134 sel_Md_number iw1_7 iw4_135 (by decide +kernel) rfl ⟨Nat.le_of_ble_eq_true rfl, Nat.le_of_ble_eq_true rfl⟩ ⟨Nat.le_of_ble_eq_true rfl, Nat.le_of_ble_eq_true rfl⟩ rfl (Nat.le_of_ble_eq_true rfl) d_Md_lookElement_215 hE hP hD hS hA [0, 1] [2, 3, 4] rfl rfl rfl rfl (by decide) (ci := 6) rfl rfl 0 rfl (fun _ h => h.elim) (fun v_215 u_215 H locs hp_215 hP hD hS => ?_)
      obtain rfl := hp_215
      have hP : va_P D cls [(m0, .inr (6, mF g (K.1, K.2.1, K.2.2.1, K.2.2.2.1, nI X.length, K.2.2.2.2.2.1, K.2.2.2.2.2.2.1, K.2.2.2.2.2.2.2.1, nI a4) A0 e np B)), ((g 30), .inl (cA 3, 2000, .inl yb)), ((g 38), .inl (cA 3, 2000, .inl ow)), ((g 39), .inl (cA 3, 2000, .inl fi)), ((g 40), .inl (cA 3, 2000, .inl be))] H := hP.sub [3, 4, 0, 1, 2] rfl
      have hD : va_D A [(m0, .inr (6, mF g (K.1, K.2.1, K.2.2.1, K.2.2.2.1, nI X.length, K.2.2.2.2.2.1, K.2.2.2.2.2.2.1, K.2.2.2.2.2.2.2.1, nI a4) A0 e np B)), ((g 30), .inl (cA 3, 2000, .inl yb)), ((g 38), .inl (cA 3, 2000, .inl ow)), ((g 39), .inl (cA 3, 2000, .inl fi)), ((g 40), .inl (cA 3, 2000, .inl be))] := hD.sub [3, 4, 0, 1, 2] (by decide) rfl
      refine W.cs (cells' := 0) (slots' := 0) rfl rfl ?_
      refine W.eq (g2 := F0 m 218 ls [.long (lN n)]) rfl ?_
      refine lv_lstore (lv' := [(10, .long (lN n)), (8, .long (lN (b a1))), (7, .int 1), (5, .long 0), (4, .int 0), (3, .int 7), (0, .ref m0), (1, .int (nI t)), (2, .int 3)]) hx hb d_Md_lookElement_218 hl (by decide) rfl (fun ls hl => ?_)
      refine lv_iload_n hx hb d_Md_lookElement_220 rfl (lv_at hl 8 rfl) ?_
      refine lv_iconst (v := 3) hx hb d_Md_lookElement_221 (by decide) ?_
      refine lv_icmp_ne (tgt := 228) hx hb d_Md_lookElement_222 (by decide) (fun c_222 => absurd (by decide) c_222) (fun c_222 => ?_)
      refine lv_lload hx hb d_Md_lookElement_225 (lv_at hl 0 rfl) ?_
      exact cRl (nI a4) hx hb hr hlocks d_Md_lookElement_227 hS hP hD (rfl) (Nat.le_refl _) (Nat.le_refl _)
    · have hl : lv_has ls 13 [(0, .ref m0), (1, .int (nI t)), (2, .int 4)] := hl
      refine lv_aload_n hx hb d_Md_lookElement_0 rfl (lv_at hl 0 rfl) ?_
      refine cV (As := []) (rest := []) (n := 0) (wc := [(m0, .inr (6, mF g (K.1, K.2.1, K.2.2.1, K.2.2.2.1, nI X.length, K.2.2.2.2.2.1, K.2.2.2.2.2.2.1, K.2.2.2.2.2.2.2.1, nI a) A0 e np B)), ((g 30), .inl (cA 3, 2000, .inl yb))]) (wr := [((g 38), .inl (cA 3, 2000, .inl ow)), ((g 39), .inl (cA 3, 2000, .inl fi)), ((g 40), .inl (cA 3, 2000, .inl be))]) ⟨hx, hb, hml, hown, hts⟩ hno hlocks hl.1 (c_Md_number l hl9 D cA ad s.heap.size m0 g (K.1, K.2.1, K.2.2.1, K.2.2.2.1, nI X.length, K.2.2.2.2.2.1, K.2.2.2.2.2.2.1, K.2.2.2.2.2.2.2.1, nI a) A0 e np B yb b lm hlm hyb hb9 a 7 a1 (by omega) hmu) iw4_132 iw4_134 sel_Md_number iw1_7 iw4_135 (by decide +kernel) rfl ⟨Nat.le_of_ble_eq_true rfl, Nat.le_of_ble_eq_true rfl⟩ ⟨Nat.le_of_ble_eq_true rfl, Nat.le_of_ble_eq_true rfl⟩ rfl (Nat.le_of_ble_eq_true rfl) d_Md_lookElement_1 hE hP hD hS hA [0, 1] [2, 3, 4] rfl rfl rfl rfl (by decide) (ci := 6) rfl rfl 0 rfl (fun _ h => h.elim) (fun v_1 u_1 H locs hp_1 hP hD hS => ?_)
      obtain rfl := hp_1
      have hP : va_P D cls [(m0, .inr (6, mF g (K.1, K.2.1, K.2.2.1, K.2.2.2.1, nI X.length, K.2.2.2.2.2.1, K.2.2.2.2.2.2.1, K.2.2.2.2.2.2.2.1, nI a1) A0 e np B)), ((g 30), .inl (cA 3, 2000, .inl yb)), ((g 38), .inl (cA 3, 2000, .inl ow)), ((g 39), .inl (cA 3, 2000, .inl fi)), ((g 40), .inl (cA 3, 2000, .inl be))] H := hP.sub [3, 4, 0, 1, 2] rfl
      have hD : va_D A [(m0, .inr (6, mF g (K.1, K.2.1, K.2.2.1, K.2.2.2.1, nI X.length, K.2.2.2.2.2.1, K.2.2.2.2.2.2.1, K.2.2.2.2.2.2.2.1, nI a1) A0 e np B)), ((g 30), .inl (cA 3, 2000, .inl yb)), ((g 38), .inl (cA 3, 2000, .inl ow)), ((g 39), .inl (cA 3, 2000, .inl fi)), ((g 40), .inl (cA 3, 2000, .inl be))] := hD.sub [3, 4, 0, 1, 2] (by decide) rfl
      refine W.cs (cells' := 0) (slots' := 0) rfl rfl ?_
      refine W.eq (g2 := F0 m 4 ls [.long (lN 7)]) rfl ?_
      refine lv_l2i hx hb d_Md_lookElement_4 rfl ?_
      refine W.eq (g2 := F0 m 5 ls [.int 7]) (by rw [lN_i]; rfl) ?_
      refine lv_istore_n (lv' := [(3, .int 7), (0, .ref m0), (1, .int (nI t)), (2, .int 4)]) hx hb d_Md_lookElement_5 rfl hl (by decide) rfl (fun ls hl => ?_)
      refine lv_iload_n hx hb d_Md_lookElement_6 rfl (lv_at hl 0 rfl) ?_
      refine lv_iconst (v := 1) hx hb d_Md_lookElement_7 (by decide) ?_
      refine lv_iand hx hb d_Md_lookElement_8 ?_
      refine W.eq (g2 := F0 m 9 ls [.int 1]) (by rw [show (7 : Int32) &&& 1 = 1 from by decide +kernel]) ?_
      refine lv_if_ne (tgt := 16) hx hb d_Md_lookElement_9 (by decide) (fun c_9 => ?_) (fun c_9 => absurd c_9 (by decide))
      refine lv_iconst (v := 0) hx hb d_Md_lookElement_16 (by decide) ?_
      refine lv_istore (lv' := [(4, .int 0), (3, .int 7), (0, .ref m0), (1, .int (nI t)), (2, .int 4)]) hx hb d_Md_lookElement_17 hl (by decide) rfl (fun ls hl => ?_)
      refine lv_iload hx hb d_Md_lookElement_19 (lv_at hl 0 rfl) ?_
      refine lv_if_eq (tgt := 37) hx hb d_Md_lookElement_21 (by decide) (fun c_21 => ?_) (fun c_21 => absurd (by decide) c_21)
      refine lv_lconst (v := 0) hx hb d_Md_lookElement_37 (by decide) ?_
      refine lv_lstore (lv' := [(5, .long 0), (4, .int 0), (3, .int 7), (0, .ref m0), (1, .int (nI t)), (2, .int 4)]) hx hb d_Md_lookElement_38 hl (by decide) rfl (fun ls hl => ?_)
      refine lv_iload_n hx hb d_Md_lookElement_40 rfl (lv_at hl 5 rfl) ?_
      refine lv_if_ne (tgt := 67) hx hb d_Md_lookElement_41 (by decide) (fun c_41 => ?_) (fun c_41 => absurd c_41 (by decide))
      refine lv_iload_n hx hb d_Md_lookElement_67 rfl (lv_at hl 5 rfl) ?_
      refine lv_iconst (v := 2) hx hb d_Md_lookElement_68 (by decide) ?_
      refine lv_icmp_ne (tgt := 75) hx hb d_Md_lookElement_69 (by decide) (fun c_69 => ?_) (fun c_69 => absurd c_69 (by decide))
      refine lv_iload_n hx hb d_Md_lookElement_75 rfl (lv_at hl 5 rfl) ?_
      refine lv_iconst (v := 4) hx hb d_Md_lookElement_76 (by decide) ?_
      refine lv_icmp_eq (tgt := 85) hx hb d_Md_lookElement_77 (by decide) (fun c_77 => ?_) (fun c_77 => absurd (by decide) c_77)
      refine lv_iload hx hb d_Md_lookElement_85 (lv_at hl 1 rfl) ?_
      refine lv_if_eq (tgt := 100) hx hb d_Md_lookElement_87 (by decide) (fun c_87 => ?_) (fun c_87 => absurd (by decide) c_87)
      refine lv_ldc2 hx hb hown (hts _ (List.mem_cons_of_mem _ iw3_204)) d_Md_lookElement_100 ?_
      exact cRl (nI a1) hx hb hr hlocks d_Md_lookElement_103 hS hP hD (rfl) (Nat.le_refl _) (Nat.le_refl _)
    · have hl : lv_has ls 13 [(0, .ref m0), (1, .int (nI t)), (2, .int 5)] := hl
      refine lv_aload_n hx hb d_Md_lookElement_0 rfl (lv_at hl 0 rfl) ?_
      refine cV (As := []) (rest := []) (n := 0) (wc := [(m0, .inr (6, mF g (K.1, K.2.1, K.2.2.1, K.2.2.2.1, nI X.length, K.2.2.2.2.2.1, K.2.2.2.2.2.2.1, K.2.2.2.2.2.2.2.1, nI a) A0 e np B)), ((g 30), .inl (cA 3, 2000, .inl yb))]) (wr := [((g 38), .inl (cA 3, 2000, .inl ow)), ((g 39), .inl (cA 3, 2000, .inl fi)), ((g 40), .inl (cA 3, 2000, .inl be))]) ⟨hx, hb, hml, hown, hts⟩ hno hlocks hl.1 (c_Md_number l hl9 D cA ad s.heap.size m0 g (K.1, K.2.1, K.2.2.1, K.2.2.2.1, nI X.length, K.2.2.2.2.2.1, K.2.2.2.2.2.2.1, K.2.2.2.2.2.2.2.1, nI a) A0 e np B yb b lm hlm hyb hb9 a 7 a1 (by omega) hmu) iw4_132 iw4_134 sel_Md_number iw1_7 iw4_135 (by decide +kernel) rfl ⟨Nat.le_of_ble_eq_true rfl, Nat.le_of_ble_eq_true rfl⟩ ⟨Nat.le_of_ble_eq_true rfl, Nat.le_of_ble_eq_true rfl⟩ rfl (Nat.le_of_ble_eq_true rfl) d_Md_lookElement_1 hE hP hD hS hA [0, 1] [2, 3, 4] rfl rfl rfl rfl (by decide) (ci := 6) rfl rfl 0 rfl (fun _ h => h.elim) (fun v_1 u_1 H locs hp_1 hP hD hS => ?_)
      obtain rfl := hp_1
      have hP : va_P D cls [(m0, .inr (6, mF g (K.1, K.2.1, K.2.2.1, K.2.2.2.1, nI X.length, K.2.2.2.2.2.1, K.2.2.2.2.2.2.1, K.2.2.2.2.2.2.2.1, nI a1) A0 e np B)), ((g 30), .inl (cA 3, 2000, .inl yb)), ((g 38), .inl (cA 3, 2000, .inl ow)), ((g 39), .inl (cA 3, 2000, .inl fi)), ((g 40), .inl (cA 3, 2000, .inl be))] H := hP.sub [3, 4, 0, 1, 2] rfl
      have hD : va_D A [(m0, .inr (6, mF g (K.1, K.2.1, K.2.2.1, K.2.2.2.1, nI X.length, K.2.2.2.2.2.1, K.2.2.2.2.2.2.1, K.2.2.2.2.2.2.2.1, nI a1) A0 e np B)), ((g 30), .inl (cA 3, 2000, .inl yb)), ((g 38), .inl (cA 3, 2000, .inl ow)), ((g 39), .inl (cA 3, 2000, .inl fi)), ((g 40), .inl (cA 3, 2000, .inl be))] := hD.sub [3, 4, 0, 1, 2] (by decide) rfl
      refine W.cs (cells' := 0) (slots' := 0) rfl rfl ?_
      refine W.eq (g2 := F0 m 4 ls [.long (lN 7)]) rfl ?_
      refine lv_l2i hx hb d_Md_lookElement_4 rfl ?_
      refine W.eq (g2 := F0 m 5 ls [.int 7]) (by rw [lN_i]; rfl) ?_
      refine lv_istore_n (lv' := [(3, .int 7), (0, .ref m0), (1, .int (nI t)), (2, .int 5)]) hx hb d_Md_lookElement_5 rfl hl (by decide) rfl (fun ls hl => ?_)
      refine lv_iload_n hx hb d_Md_lookElement_6 rfl (lv_at hl 0 rfl) ?_
      refine lv_iconst (v := 1) hx hb d_Md_lookElement_7 (by decide) ?_
      refine lv_iand hx hb d_Md_lookElement_8 ?_
      refine W.eq (g2 := F0 m 9 ls [.int 1]) (by rw [show (7 : Int32) &&& 1 = 1 from by decide +kernel]) ?_
      refine lv_if_ne (tgt := 16) hx hb d_Md_lookElement_9 (by decide) (fun c_9 => ?_) (fun c_9 => absurd c_9 (by decide))
      refine lv_iconst (v := 0) hx hb d_Md_lookElement_16 (by decide) ?_
      refine lv_istore (lv' := [(4, .int 0), (3, .int 7), (0, .ref m0), (1, .int (nI t)), (2, .int 5)]) hx hb d_Md_lookElement_17 hl (by decide) rfl (fun ls hl => ?_)
      refine lv_iload hx hb d_Md_lookElement_19 (lv_at hl 0 rfl) ?_
      refine lv_if_eq (tgt := 37) hx hb d_Md_lookElement_21 (by decide) (fun c_21 => ?_) (fun c_21 => absurd (by decide) c_21)
      refine lv_lconst (v := 0) hx hb d_Md_lookElement_37 (by decide) ?_
      refine lv_lstore (lv' := [(5, .long 0), (4, .int 0), (3, .int 7), (0, .ref m0), (1, .int (nI t)), (2, .int 5)]) hx hb d_Md_lookElement_38 hl (by decide) rfl (fun ls hl => ?_)
      refine lv_iload_n hx hb d_Md_lookElement_40 rfl (lv_at hl 5 rfl) ?_
      refine lv_if_ne (tgt := 67) hx hb d_Md_lookElement_41 (by decide) (fun c_41 => ?_) (fun c_41 => absurd c_41 (by decide))
      refine lv_iload_n hx hb d_Md_lookElement_67 rfl (lv_at hl 5 rfl) ?_
      refine lv_iconst (v := 2) hx hb d_Md_lookElement_68 (by decide) ?_
      refine lv_icmp_ne (tgt := 75) hx hb d_Md_lookElement_69 (by decide) (fun c_69 => ?_) (fun c_69 => absurd c_69 (by decide))
      refine lv_iload_n hx hb d_Md_lookElement_75 rfl (lv_at hl 5 rfl) ?_
      refine lv_iconst (v := 4) hx hb d_Md_lookElement_76 (by decide) ?_
      refine lv_icmp_eq (tgt := 85) hx hb d_Md_lookElement_77 (by decide) (fun c_77 => absurd c_77 (by decide)) (fun c_77 => ?_)
      refine lv_iload_n hx hb d_Md_lookElement_80 rfl (lv_at hl 5 rfl) ?_
      refine lv_iconst (v := 5) hx hb d_Md_lookElement_81 (by decide) ?_
      refine lv_icmp_ne (tgt := 104) hx hb d_Md_lookElement_82 (by decide) (fun c_82 => absurd (by decide) c_82) (fun c_82 => ?_)
      refine lv_iload hx hb d_Md_lookElement_85 (lv_at hl 1 rfl) ?_
      refine lv_if_eq (tgt := 100) hx hb d_Md_lookElement_87 (by decide) (fun c_87 => ?_) (fun c_87 => absurd (by decide) c_87)
      refine lv_ldc2 hx hb hown (hts _ (List.mem_cons_of_mem _ iw3_204)) d_Md_lookElement_100 ?_
      exact cRl (nI a1) hx hb hr hlocks d_Md_lookElement_103 hS hP hD (rfl) (Nat.le_refl _) (Nat.le_refl _)
    · have hl : lv_has ls 13 [(0, .ref m0), (1, .int (nI t)), (2, .int 6)] := hl
      refine lv_aload_n hx hb d_Md_lookElement_0 rfl (lv_at hl 0 rfl) ?_
      refine cV (As := []) (rest := []) (n := 0) (wc := [(m0, .inr (6, mF g (K.1, K.2.1, K.2.2.1, K.2.2.2.1, nI X.length, K.2.2.2.2.2.1, K.2.2.2.2.2.2.1, K.2.2.2.2.2.2.2.1, nI a) A0 e np B)), ((g 30), .inl (cA 3, 2000, .inl yb))]) (wr := [((g 38), .inl (cA 3, 2000, .inl ow)), ((g 39), .inl (cA 3, 2000, .inl fi)), ((g 40), .inl (cA 3, 2000, .inl be))]) ⟨hx, hb, hml, hown, hts⟩ hno hlocks hl.1 (c_Md_number l hl9 D cA ad s.heap.size m0 g (K.1, K.2.1, K.2.2.1, K.2.2.2.1, nI X.length, K.2.2.2.2.2.1, K.2.2.2.2.2.2.1, K.2.2.2.2.2.2.2.1, nI a) A0 e np B yb b lm hlm hyb hb9 a 7 a1 (by omega) hmu) iw4_132 iw4_134 sel_Md_number iw1_7 iw4_135 (by decide +kernel) rfl ⟨Nat.le_of_ble_eq_true rfl, Nat.le_of_ble_eq_true rfl⟩ ⟨Nat.le_of_ble_eq_true rfl, Nat.le_of_ble_eq_true rfl⟩ rfl (Nat.le_of_ble_eq_true rfl) d_Md_lookElement_1 hE hP hD hS hA [0, 1] [2, 3, 4] rfl rfl rfl rfl (by decide) (ci := 6) rfl rfl 0 rfl (fun _ h => h.elim) (fun v_1 u_1 H locs hp_1 hP hD hS => ?_)
      obtain rfl := hp_1
      have hP : va_P D cls [(m0, .inr (6, mF g (K.1, K.2.1, K.2.2.1, K.2.2.2.1, nI X.length, K.2.2.2.2.2.1, K.2.2.2.2.2.2.1, K.2.2.2.2.2.2.2.1, nI a1) A0 e np B)), ((g 30), .inl (cA 3, 2000, .inl yb)), ((g 38), .inl (cA 3, 2000, .inl ow)), ((g 39), .inl (cA 3, 2000, .inl fi)), ((g 40), .inl (cA 3, 2000, .inl be))] H := hP.sub [3, 4, 0, 1, 2] rfl
      have hD : va_D A [(m0, .inr (6, mF g (K.1, K.2.1, K.2.2.1, K.2.2.2.1, nI X.length, K.2.2.2.2.2.1, K.2.2.2.2.2.2.1, K.2.2.2.2.2.2.2.1, nI a1) A0 e np B)), ((g 30), .inl (cA 3, 2000, .inl yb)), ((g 38), .inl (cA 3, 2000, .inl ow)), ((g 39), .inl (cA 3, 2000, .inl fi)), ((g 40), .inl (cA 3, 2000, .inl be))] := hD.sub [3, 4, 0, 1, 2] (by decide) rfl
      refine W.cs (cells' := 0) (slots' := 0) rfl rfl ?_
      refine W.eq (g2 := F0 m 4 ls [.long (lN 7)]) rfl ?_
      refine lv_l2i hx hb d_Md_lookElement_4 rfl ?_
      refine W.eq (g2 := F0 m 5 ls [.int 7]) (by rw [lN_i]; rfl) ?_
      refine lv_istore_n (lv' := [(3, .int 7), (0, .ref m0), (1, .int (nI t)), (2, .int 6)]) hx hb d_Md_lookElement_5 rfl hl (by decide) rfl (fun ls hl => ?_)
      refine lv_iload_n hx hb d_Md_lookElement_6 rfl (lv_at hl 0 rfl) ?_
      refine lv_iconst (v := 1) hx hb d_Md_lookElement_7 (by decide) ?_
      refine lv_iand hx hb d_Md_lookElement_8 ?_
      refine W.eq (g2 := F0 m 9 ls [.int 1]) (by rw [show (7 : Int32) &&& 1 = 1 from by decide +kernel]) ?_
      refine lv_if_ne (tgt := 16) hx hb d_Md_lookElement_9 (by decide) (fun c_9 => ?_) (fun c_9 => absurd c_9 (by decide))
      refine lv_iconst (v := 0) hx hb d_Md_lookElement_16 (by decide) ?_
      refine lv_istore (lv' := [(4, .int 0), (3, .int 7), (0, .ref m0), (1, .int (nI t)), (2, .int 6)]) hx hb d_Md_lookElement_17 hl (by decide) rfl (fun ls hl => ?_)
      refine lv_iload hx hb d_Md_lookElement_19 (lv_at hl 0 rfl) ?_
      refine lv_if_eq (tgt := 37) hx hb d_Md_lookElement_21 (by decide) (fun c_21 => ?_) (fun c_21 => absurd (by decide) c_21)
      refine lv_lconst (v := 0) hx hb d_Md_lookElement_37 (by decide) ?_
      refine lv_lstore (lv' := [(5, .long 0), (4, .int 0), (3, .int 7), (0, .ref m0), (1, .int (nI t)), (2, .int 6)]) hx hb d_Md_lookElement_38 hl (by decide) rfl (fun ls hl => ?_)
      refine lv_iload_n hx hb d_Md_lookElement_40 rfl (lv_at hl 5 rfl) ?_
      refine lv_if_ne (tgt := 67) hx hb d_Md_lookElement_41 (by decide) (fun c_41 => ?_) (fun c_41 => absurd c_41 (by decide))
      refine lv_iload_n hx hb d_Md_lookElement_67 rfl (lv_at hl 5 rfl) ?_
      refine lv_iconst (v := 2) hx hb d_Md_lookElement_68 (by decide) ?_
      refine lv_icmp_ne (tgt := 75) hx hb d_Md_lookElement_69 (by decide) (fun c_69 => ?_) (fun c_69 => absurd c_69 (by decide))
      refine lv_iload_n hx hb d_Md_lookElement_75 rfl (lv_at hl 5 rfl) ?_
      refine lv_iconst (v := 4) hx hb d_Md_lookElement_76 (by decide) ?_
      refine lv_icmp_eq (tgt := 85) hx hb d_Md_lookElement_77 (by decide) (fun c_77 => absurd c_77 (by decide)) (fun c_77 => ?_)
      refine lv_iload_n hx hb d_Md_lookElement_80 rfl (lv_at hl 5 rfl) ?_
      refine lv_iconst (v := 5) hx hb d_Md_lookElement_81 (by decide) ?_
      refine lv_icmp_ne (tgt := 104) hx hb d_Md_lookElement_82 (by decide) (fun c_82 => ?_) (fun c_82 => absurd c_82 (by decide))
      refine lv_iload_n hx hb d_Md_lookElement_104 rfl (lv_at hl 5 rfl) ?_
      refine lv_bipush (v := 6) hx hb d_Md_lookElement_105 (by decide) ?_
      refine lv_icmp_ne (tgt := 122) hx hb d_Md_lookElement_107 (by decide) (fun c_107 => absurd (by decide) c_107) (fun c_107 => ?_)
      refine lv_iload_n hx hb d_Md_lookElement_110 rfl (lv_at hl 2 rfl) ?_
      refine lv_iconst (v := 4) hx hb d_Md_lookElement_111 (by decide) ?_
      refine lv_iand hx hb d_Md_lookElement_112 ?_
      refine W.eq (g2 := F0 m 113 ls [.int 4]) (by rw [show (7 : Int32) &&& 4 = 4 from by decide +kernel]) ?_
      refine lv_if_eq (tgt := 120) hx hb d_Md_lookElement_113 (by decide) (fun c_113 => absurd c_113 (by decide)) (fun c_113 => ?_)
      refine lv_lconst (v := 1) hx hb d_Md_lookElement_116 (by decide) ?_
      refine lv_goto (tgt := 121) hx hb d_Md_lookElement_117 (by decide) ?_
      exact cRl (nI a1) hx hb hr hlocks d_Md_lookElement_121 hS hP hD (rfl) (Nat.le_refl _) (Nat.le_refl _)
    · have hl : lv_has ls 13 [(0, .ref m0), (1, .int (nI t)), (2, .int 7)] := hl
      refine lv_aload_n hx hb d_Md_lookElement_0 rfl (lv_at hl 0 rfl) ?_
      refine cV (As := []) (rest := []) (n := 0) (wc := [(m0, .inr (6, mF g (K.1, K.2.1, K.2.2.1, K.2.2.2.1, nI X.length, K.2.2.2.2.2.1, K.2.2.2.2.2.2.1, K.2.2.2.2.2.2.2.1, nI a) A0 e np B)), ((g 30), .inl (cA 3, 2000, .inl yb))]) (wr := [((g 38), .inl (cA 3, 2000, .inl ow)), ((g 39), .inl (cA 3, 2000, .inl fi)), ((g 40), .inl (cA 3, 2000, .inl be))]) ⟨hx, hb, hml, hown, hts⟩ hno hlocks hl.1 (c_Md_number l hl9 D cA ad s.heap.size m0 g (K.1, K.2.1, K.2.2.1, K.2.2.2.1, nI X.length, K.2.2.2.2.2.1, K.2.2.2.2.2.2.1, K.2.2.2.2.2.2.2.1, nI a) A0 e np B yb b lm hlm hyb hb9 a 7 a1 (by omega) hmu) iw4_132 iw4_134 sel_Md_number iw1_7 iw4_135 (by decide +kernel) rfl ⟨Nat.le_of_ble_eq_true rfl, Nat.le_of_ble_eq_true rfl⟩ ⟨Nat.le_of_ble_eq_true rfl, Nat.le_of_ble_eq_true rfl⟩ rfl (Nat.le_of_ble_eq_true rfl) d_Md_lookElement_1 hE hP hD hS hA [0, 1] [2, 3, 4] rfl rfl rfl rfl (by decide) (ci := 6) rfl rfl 0 rfl (fun _ h => h.elim) (fun v_1 u_1 H locs hp_1 hP hD hS => ?_)
      obtain rfl := hp_1
      have hP : va_P D cls [(m0, .inr (6, mF g (K.1, K.2.1, K.2.2.1, K.2.2.2.1, nI X.length, K.2.2.2.2.2.1, K.2.2.2.2.2.2.1, K.2.2.2.2.2.2.2.1, nI a1) A0 e np B)), ((g 30), .inl (cA 3, 2000, .inl yb)), ((g 38), .inl (cA 3, 2000, .inl ow)), ((g 39), .inl (cA 3, 2000, .inl fi)), ((g 40), .inl (cA 3, 2000, .inl be))] H := hP.sub [3, 4, 0, 1, 2] rfl
      have hD : va_D A [(m0, .inr (6, mF g (K.1, K.2.1, K.2.2.1, K.2.2.2.1, nI X.length, K.2.2.2.2.2.1, K.2.2.2.2.2.2.1, K.2.2.2.2.2.2.2.1, nI a1) A0 e np B)), ((g 30), .inl (cA 3, 2000, .inl yb)), ((g 38), .inl (cA 3, 2000, .inl ow)), ((g 39), .inl (cA 3, 2000, .inl fi)), ((g 40), .inl (cA 3, 2000, .inl be))] := hD.sub [3, 4, 0, 1, 2] (by decide) rfl
      refine W.cs (cells' := 0) (slots' := 0) rfl rfl ?_
      refine W.eq (g2 := F0 m 4 ls [.long (lN 7)]) rfl ?_
      refine lv_l2i hx hb d_Md_lookElement_4 rfl ?_
      refine W.eq (g2 := F0 m 5 ls [.int 7]) (by rw [lN_i]; rfl) ?_
      refine lv_istore_n (lv' := [(3, .int 7), (0, .ref m0), (1, .int (nI t)), (2, .int 7)]) hx hb d_Md_lookElement_5 rfl hl (by decide) rfl (fun ls hl => ?_)
      refine lv_iload_n hx hb d_Md_lookElement_6 rfl (lv_at hl 0 rfl) ?_
      refine lv_iconst (v := 1) hx hb d_Md_lookElement_7 (by decide) ?_
      refine lv_iand hx hb d_Md_lookElement_8 ?_
      refine W.eq (g2 := F0 m 9 ls [.int 1]) (by rw [show (7 : Int32) &&& 1 = 1 from by decide +kernel]) ?_
      refine lv_if_ne (tgt := 16) hx hb d_Md_lookElement_9 (by decide) (fun c_9 => ?_) (fun c_9 => absurd c_9 (by decide))
      refine lv_iconst (v := 0) hx hb d_Md_lookElement_16 (by decide) ?_
      refine lv_istore (lv' := [(4, .int 0), (3, .int 7), (0, .ref m0), (1, .int (nI t)), (2, .int 7)]) hx hb d_Md_lookElement_17 hl (by decide) rfl (fun ls hl => ?_)
      refine lv_iload hx hb d_Md_lookElement_19 (lv_at hl 0 rfl) ?_
      refine lv_if_eq (tgt := 37) hx hb d_Md_lookElement_21 (by decide) (fun c_21 => ?_) (fun c_21 => absurd (by decide) c_21)
      refine lv_lconst (v := 0) hx hb d_Md_lookElement_37 (by decide) ?_
      refine lv_lstore (lv' := [(5, .long 0), (4, .int 0), (3, .int 7), (0, .ref m0), (1, .int (nI t)), (2, .int 7)]) hx hb d_Md_lookElement_38 hl (by decide) rfl (fun ls hl => ?_)
      refine lv_iload_n hx hb d_Md_lookElement_40 rfl (lv_at hl 5 rfl) ?_
      refine lv_if_ne (tgt := 67) hx hb d_Md_lookElement_41 (by decide) (fun c_41 => ?_) (fun c_41 => absurd c_41 (by decide))
      refine lv_iload_n hx hb d_Md_lookElement_67 rfl (lv_at hl 5 rfl) ?_
      refine lv_iconst (v := 2) hx hb d_Md_lookElement_68 (by decide) ?_
      refine lv_icmp_ne (tgt := 75) hx hb d_Md_lookElement_69 (by decide) (fun c_69 => ?_) (fun c_69 => absurd c_69 (by decide))
      refine lv_iload_n hx hb d_Md_lookElement_75 rfl (lv_at hl 5 rfl) ?_
      refine lv_iconst (v := 4) hx hb d_Md_lookElement_76 (by decide) ?_
      refine lv_icmp_eq (tgt := 85) hx hb d_Md_lookElement_77 (by decide) (fun c_77 => absurd c_77 (by decide)) (fun c_77 => ?_)
      refine lv_iload_n hx hb d_Md_lookElement_80 rfl (lv_at hl 5 rfl) ?_
      refine lv_iconst (v := 5) hx hb d_Md_lookElement_81 (by decide) ?_
      refine lv_icmp_ne (tgt := 104) hx hb d_Md_lookElement_82 (by decide) (fun c_82 => ?_) (fun c_82 => absurd c_82 (by decide))
      refine lv_iload_n hx hb d_Md_lookElement_104 rfl (lv_at hl 5 rfl) ?_
      refine lv_bipush (v := 6) hx hb d_Md_lookElement_105 (by decide) ?_
      refine lv_icmp_ne (tgt := 122) hx hb d_Md_lookElement_107 (by decide) (fun c_107 => ?_) (fun c_107 => absurd c_107 (by decide))
      refine lv_iload hx hb d_Md_lookElement_122 (lv_at hl 1 rfl) ?_
      refine lv_if_eq (tgt := 142) hx hb d_Md_lookElement_124 (by decide) (fun c_124 => ?_) (fun c_124 => absurd (by decide) c_124)
      refine lv_iload_n hx hb d_Md_lookElement_142 rfl (lv_at hl 2 rfl) ?_
      refine lv_if_eq (tgt := 155) hx hb d_Md_lookElement_143 (by decide) (fun c_143 => absurd c_143 (by decide)) (fun c_143 => ?_)
      refine lv_iload_n hx hb d_Md_lookElement_146 rfl (lv_at hl 2 rfl) ?_
      refine lv_iconst (v := 4) hx hb d_Md_lookElement_147 (by decide) ?_
      refine lv_icmp_eq (tgt := 155) hx hb d_Md_lookElement_148 (by decide) (fun c_148 => absurd c_148 (by decide)) (fun c_148 => ?_)
      refine lv_iconst (v := 1) hx hb d_Md_lookElement_151 (by decide) ?_
      refine lv_goto (tgt := 156) hx hb d_Md_lookElement_152 (by decide) ?_
      refine lv_istore (lv' := [(7, .int 1), (5, .long 0), (4, .int 0), (3, .int 7), (0, .ref m0), (1, .int (nI t)), (2, .int 7)]) hx hb d_Md_lookElement_156 hl (by decide) rfl (fun ls hl => ?_)
      refine lv_iload hx hb d_Md_lookElement_158 (lv_at hl 0 rfl) ?_
      refine lv_if_eq (tgt := 182) hx hb d_Md_lookElement_160 (by decide) (fun c_160 => absurd c_160 (by decide)) (fun c_160 => ?_)
      refine lv_iload_n hx hb d_Md_lookElement_163 rfl (lv_at hl 3 rfl) ?_
      refine lv_iconst (v := 4) hx hb d_Md_lookElement_164 (by decide) ?_
      refine lv_iand hx hb d_Md_lookElement_165 ?_
      refine W.eq (g2 := F0 m 166 ls [.int 4]) (by rw [show (7 : Int32) &&& 4 = 4 from by decide +kernel]) ?_
      refine lv_if_eq (tgt := 182) hx hb d_Md_lookElement_166 (by decide) (fun c_166 => absurd c_166 (by decide)) (fun c_166 => ?_)
      refine lv_aload_n hx hb d_Md_lookElement_169 rfl (lv_at hl 4 rfl) ?_
      refine va_get (D := D) (ci := 6) (v := .ref (g 30)) (C := R_Md) (T := F_Md) (N := 44) hx hb hts (fun w h => List.mem_cons_of_mem _ (i_Md w h)) hown hE.1 hP 0 rfl rfl 30 (by decide) (hts _ (List.mem_cons_of_mem _ iw3_84)) (fun _ h9 => h9) rfl d_Md_lookElement_170 ?_
      refine lv_aload_n hx hb d_Md_lookElement_173 rfl (lv_at hl 4 rfl) ?_
      refine va_get (D := D) (ci := 6) (v := .int (nI a1)) (C := R_Md) (T := F_Md) (N := 44) hx hb hts (fun w h => List.mem_cons_of_mem _ (i_Md w h)) hown hE.1 hP 0 rfl rfl 43 (by decide) (hts _ (List.mem_cons_of_mem _ iw3_97)) (fun _ h9 => h9) rfl d_Md_lookElement_174 ?_
      refine va_iald hx hb hE.1 hP 1 3 rfl rfl (vp_in_nI (by omega) (by omega)) d_Md_lookElement_177 ?_
      rw [nI_clamp (n := a1) (by omega), hyb a1 (by omega)]
      refine lv_i2l hx hb d_Md_lookElement_178 rfl ?_
      rw [nI_l (n := b a1) (by have := hb9 a1; omega)]
      refine lv_goto (tgt := 185) hx hb d_Md_lookElement_179 (by decide) ?_
      refine lv_lstore (lv' := [(8, .long (lN (b a1))), (7, .int 1), (5, .long 0), (4, .int 0), (3, .int 7), (0, .ref m0), (1, .int (nI t)), (2, .int 7)]) hx hb d_Md_lookElement_185 hl (by decide) rfl (fun ls hl => ?_)
      refine lv_aload_n hx hb d_Md_lookElement_187 rfl (lv_at hl 5 rfl) ?_
      refine lv_dup hx hb d_Md_lookElement_188 rfl ?_
      refine va_get (D := D) (ci := 6) (v := .int (nI a1)) (C := R_Md) (T := F_Md) (N := 44) hx hb hts (fun w h => List.mem_cons_of_mem _ (i_Md w h)) hown hE.1 hP 0 rfl rfl 43 (by decide) (hts _ (List.mem_cons_of_mem _ iw3_97)) (fun _ h9 => h9) rfl d_Md_lookElement_189 ?_
      refine lv_iload hx hb d_Md_lookElement_192 (lv_at hl 1 rfl) ?_
      refine lv_if_eq (tgt := 201) hx hb d_Md_lookElement_194 (by decide) (fun c_194 => absurd c_194 (by decide)) (fun c_194 => ?_)
      refine lv_iconst (v := 1) hx hb d_Md_lookElement_197 (by decide) ?_
      refine lv_goto (tgt := 202) hx hb d_Md_lookElement_198 (by decide) ?_
      refine lv_iadd hx hb d_Md_lookElement_202 ?_
      rw [nI_1]
      refine va_put (D := D) (ci := 6) (v := .int (nI (a1 + 1))) (ty := .int) (C := R_Md) (T := F_Md) (N := 44) hx hb hts (fun w h => List.mem_cons_of_mem _ (i_Md w h)) t_Md tk_Md n_Md hown hE.1 hP hD hS 0 rfl rfl 43 (by decide) (hts _ (List.mem_cons_of_mem _ iw3_97)) (fun _ h9 => h9) rfl (by decide +kernel) rfl rfl (Nat.le_of_ble_eq_true rfl) d_Md_lookElement_203 (fun H locs hP hD hS => ?_)
      have hP : va_P D cls [(m0, .inr (6, mF g (K.1, K.2.1, K.2.2.1, K.2.2.2.1, nI X.length, K.2.2.2.2.2.1, K.2.2.2.2.2.2.1, K.2.2.2.2.2.2.2.1, nI (a1 + 1)) A0 e np B)), ((g 30), .inl (cA 3, 2000, .inl yb)), ((g 38), .inl (cA 3, 2000, .inl ow)), ((g 39), .inl (cA 3, 2000, .inl fi)), ((g 40), .inl (cA 3, 2000, .inl be))] H := hP
      have hD : va_D A [(m0, .inr (6, mF g (K.1, K.2.1, K.2.2.1, K.2.2.2.1, nI X.length, K.2.2.2.2.2.1, K.2.2.2.2.2.2.1, K.2.2.2.2.2.2.2.1, nI (a1 + 1)) A0 e np B)), ((g 30), .inl (cA 3, 2000, .inl yb)), ((g 38), .inl (cA 3, 2000, .inl ow)), ((g 39), .inl (cA 3, 2000, .inl fi)), ((g 40), .inl (cA 3, 2000, .inl be))] := hD
      refine lv_iload_n hx hb d_Md_lookElement_206 rfl (lv_at hl 7 rfl) ?_
      refine lv_iconst (v := 1) hx hb d_Md_lookElement_207 (by decide) ?_
      refine lv_icmp_ne (tgt := 214) hx hb d_Md_lookElement_208 (by decide) (fun c_208 => ?_) (fun c_208 => absurd c_208 (by decide))
      refine lv_aload_n hx hb d_Md_lookElement_214 rfl (lv_at hl 5 rfl) ?_
      refine cV (As := []) (rest := []) (n := 0) (wc := [(m0, .inr (6, mF g (K.1, K.2.1, K.2.2.1, K.2.2.2.1, nI X.length, K.2.2.2.2.2.1, K.2.2.2.2.2.2.1, K.2.2.2.2.2.2.2.1, nI (a1 + 1)) A0 e np B)), ((g 30), .inl (cA 3, 2000, .inl yb))]) (wr := [((g 38), .inl (cA 3, 2000, .inl ow)), ((g 39), .inl (cA 3, 2000, .inl fi)), ((g 40), .inl (cA 3, 2000, .inl be))]) ⟨hx, hb, hml, hown, hts⟩ hno hlocks hl.1 (c_Md_number l hl9 D cA ad H.size m0 g (K.1, K.2.1, K.2.2.1, K.2.2.2.1, nI X.length, K.2.2.2.2.2.1, K.2.2.2.2.2.2.1, K.2.2.2.2.2.2.2.1, nI (a1 + 1)) A0 e np B yb b lm hlm hyb hb9 (a1 + 1) n a4 (by omega) he4) iw4_132 iw4_134 sel_Md_number iw1_7 iw4_135 (by decide +kernel) rfl ⟨Nat.le_of_ble_eq_true rfl, Nat.le_of_ble_eq_true rfl⟩ ⟨Nat.le_of_ble_eq_true rfl, Nat.le_of_ble_eq_true rfl⟩ rfl (Nat.le_of_ble_eq_true rfl) d_Md_lookElement_215 hE hP hD hS hA [0, 1] [2, 3, 4] rfl rfl rfl rfl (by decide) (ci := 6) rfl rfl 0 rfl (fun _ h => h.elim) (fun v_215 u_215 H locs hp_215 hP hD hS => ?_)
      obtain rfl := hp_215
      have hP : va_P D cls [(m0, .inr (6, mF g (K.1, K.2.1, K.2.2.1, K.2.2.2.1, nI X.length, K.2.2.2.2.2.1, K.2.2.2.2.2.2.1, K.2.2.2.2.2.2.2.1, nI a4) A0 e np B)), ((g 30), .inl (cA 3, 2000, .inl yb)), ((g 38), .inl (cA 3, 2000, .inl ow)), ((g 39), .inl (cA 3, 2000, .inl fi)), ((g 40), .inl (cA 3, 2000, .inl be))] H := hP.sub [3, 4, 0, 1, 2] rfl
      have hD : va_D A [(m0, .inr (6, mF g (K.1, K.2.1, K.2.2.1, K.2.2.2.1, nI X.length, K.2.2.2.2.2.1, K.2.2.2.2.2.2.1, K.2.2.2.2.2.2.2.1, nI a4) A0 e np B)), ((g 30), .inl (cA 3, 2000, .inl yb)), ((g 38), .inl (cA 3, 2000, .inl ow)), ((g 39), .inl (cA 3, 2000, .inl fi)), ((g 40), .inl (cA 3, 2000, .inl be))] := hD.sub [3, 4, 0, 1, 2] (by decide) rfl
      refine W.cs (cells' := 0) (slots' := 0) rfl rfl ?_
      refine W.eq (g2 := F0 m 218 ls [.long (lN n)]) rfl ?_
      refine lv_lstore (lv' := [(10, .long (lN n)), (8, .long (lN (b a1))), (7, .int 1), (5, .long 0), (4, .int 0), (3, .int 7), (0, .ref m0), (1, .int (nI t)), (2, .int 7)]) hx hb d_Md_lookElement_218 hl (by decide) rfl (fun ls hl => ?_)
      refine lv_iload_n hx hb d_Md_lookElement_220 rfl (lv_at hl 8 rfl) ?_
      refine lv_iconst (v := 3) hx hb d_Md_lookElement_221 (by decide) ?_
      refine lv_icmp_ne (tgt := 228) hx hb d_Md_lookElement_222 (by decide) (fun c_222 => ?_) (fun c_222 => absurd c_222 (by decide))
      refine lv_iload_n hx hb d_Md_lookElement_228 rfl (lv_at hl 8 rfl) ?_
      refine lv_bipush (v := 8) hx hb d_Md_lookElement_229 (by decide) ?_
      refine lv_icmp_lt (tgt := 245) hx hb d_Md_lookElement_231 (by decide) (fun c_231 => ?_) (fun c_231 => absurd (by decide) c_231)
      refine lv_ldc2 hx hb hown (hts _ (List.mem_cons_of_mem _ iw3_204)) d_Md_lookElement_245 ?_
      exact cRl (nI a4) hx hb hr hlocks d_Md_lookElement_248 hS hP hD (rfl) (Nat.le_refl _) (Nat.le_refl _)
    · have hl := hl
      refine lv_aload_n hx hb d_Md_lookElement_0 rfl (lv_at hl 0 rfl) ?_
      refine cV (As := []) (rest := []) (n := 0) (wc := [(m0, .inr (6, mF g (K.1, K.2.1, K.2.2.1, K.2.2.2.1, nI X.length, K.2.2.2.2.2.1, K.2.2.2.2.2.2.1, K.2.2.2.2.2.2.2.1, nI a) A0 e np B)), ((g 30), .inl (cA 3, 2000, .inl yb))]) (wr := [((g 38), .inl (cA 3, 2000, .inl ow)), ((g 39), .inl (cA 3, 2000, .inl fi)), ((g 40), .inl (cA 3, 2000, .inl be))]) ⟨hx, hb, hml, hown, hts⟩ hno hlocks hl.1 (c_Md_number l hl9 D cA ad s.heap.size m0 g (K.1, K.2.1, K.2.2.1, K.2.2.2.1, nI X.length, K.2.2.2.2.2.1, K.2.2.2.2.2.2.1, K.2.2.2.2.2.2.2.1, nI a) A0 e np B yb b lm hlm hyb hb9 a 7 a1 (by omega) hmu) iw4_132 iw4_134 sel_Md_number iw1_7 iw4_135 (by decide +kernel) rfl ⟨Nat.le_of_ble_eq_true rfl, Nat.le_of_ble_eq_true rfl⟩ ⟨Nat.le_of_ble_eq_true rfl, Nat.le_of_ble_eq_true rfl⟩ rfl (Nat.le_of_ble_eq_true rfl) d_Md_lookElement_1 hE hP hD hS hA [0, 1] [2, 3, 4] rfl rfl rfl rfl (by decide) (ci := 6) rfl rfl 0 rfl (fun _ h => h.elim) (fun v_1 u_1 H locs hp_1 hP hD hS => ?_)
      obtain rfl := hp_1
      have hP : va_P D cls [(m0, .inr (6, mF g (K.1, K.2.1, K.2.2.1, K.2.2.2.1, nI X.length, K.2.2.2.2.2.1, K.2.2.2.2.2.2.1, K.2.2.2.2.2.2.2.1, nI a1) A0 e np B)), ((g 30), .inl (cA 3, 2000, .inl yb)), ((g 38), .inl (cA 3, 2000, .inl ow)), ((g 39), .inl (cA 3, 2000, .inl fi)), ((g 40), .inl (cA 3, 2000, .inl be))] H := hP.sub [3, 4, 0, 1, 2] rfl
      have hD : va_D A [(m0, .inr (6, mF g (K.1, K.2.1, K.2.2.1, K.2.2.2.1, nI X.length, K.2.2.2.2.2.1, K.2.2.2.2.2.2.1, K.2.2.2.2.2.2.2.1, nI a1) A0 e np B)), ((g 30), .inl (cA 3, 2000, .inl yb)), ((g 38), .inl (cA 3, 2000, .inl ow)), ((g 39), .inl (cA 3, 2000, .inl fi)), ((g 40), .inl (cA 3, 2000, .inl be))] := hD.sub [3, 4, 0, 1, 2] (by decide) rfl
      refine W.cs (cells' := 0) (slots' := 0) rfl rfl ?_
      refine W.eq (g2 := F0 m 4 ls [.long (lN 7)]) rfl ?_
      refine lv_l2i hx hb d_Md_lookElement_4 rfl ?_
      refine W.eq (g2 := F0 m 5 ls [.int 7]) (by rw [lN_i]; rfl) ?_
      refine lv_istore_n (lv' := [(3, .int 7), (0, .ref m0), (1, .int (nI t)), (2, .int (nI wh))]) hx hb d_Md_lookElement_5 rfl hl (by decide) rfl (fun ls hl => ?_)
      refine lv_iload_n hx hb d_Md_lookElement_6 rfl (lv_at hl 0 rfl) ?_
      refine lv_iconst (v := 1) hx hb d_Md_lookElement_7 (by decide) ?_
      refine lv_iand hx hb d_Md_lookElement_8 ?_
      refine W.eq (g2 := F0 m 9 ls [.int 1]) (by rw [show (7 : Int32) &&& 1 = 1 from by decide +kernel]) ?_
      refine lv_if_ne (tgt := 16) hx hb d_Md_lookElement_9 (by decide) (fun c_9 => ?_) (fun c_9 => absurd c_9 (by decide))
      refine lv_iconst (v := 0) hx hb d_Md_lookElement_16 (by decide) ?_
      refine lv_istore (lv' := [(4, .int 0), (3, .int 7), (0, .ref m0), (1, .int (nI t)), (2, .int (nI wh))]) hx hb d_Md_lookElement_17 hl (by decide) rfl (fun ls hl => ?_)
      refine lv_iload hx hb d_Md_lookElement_19 (lv_at hl 0 rfl) ?_
      refine lv_if_eq (tgt := 37) hx hb d_Md_lookElement_21 (by decide) (fun c_21 => ?_) (fun c_21 => absurd (by decide) c_21)
      refine lv_lconst (v := 0) hx hb d_Md_lookElement_37 (by decide) ?_
      refine lv_lstore (lv' := [(5, .long 0), (4, .int 0), (3, .int 7), (0, .ref m0), (1, .int (nI t)), (2, .int (nI wh))]) hx hb d_Md_lookElement_38 hl (by decide) rfl (fun ls hl => ?_)
      refine lv_iload_n hx hb d_Md_lookElement_40 rfl (lv_at hl 5 rfl) ?_
      refine lv_if_ne (tgt := 67) hx hb d_Md_lookElement_41 (by decide) (fun c_41 => ?_) (fun c_41 => absurd c_41 (fun q => absurd ((nI_eq (a := wh) (b := 0) (by omega) (by decide)).mp q) (by omega)))
      refine lv_iload_n hx hb d_Md_lookElement_67 rfl (lv_at hl 5 rfl) ?_
      refine lv_iconst (v := 2) hx hb d_Md_lookElement_68 (by decide) ?_
      refine lv_icmp_ne (tgt := 75) hx hb d_Md_lookElement_69 (by decide) (fun c_69 => ?_) (fun c_69 => absurd c_69 (fun q => absurd ((nI_eq (a := wh) (b := 2) (by omega) (by decide)).mp q) (by omega)))
      refine lv_iload_n hx hb d_Md_lookElement_75 rfl (lv_at hl 5 rfl) ?_
      refine lv_iconst (v := 4) hx hb d_Md_lookElement_76 (by decide) ?_
      refine lv_icmp_eq (tgt := 85) hx hb d_Md_lookElement_77 (by decide) (fun c_77 => absurd c_77 (fun q => absurd ((nI_eq (a := wh) (b := 4) (by omega) (by decide)).mp q) (by omega))) (fun c_77 => ?_)
      refine lv_iload_n hx hb d_Md_lookElement_80 rfl (lv_at hl 5 rfl) ?_
      refine lv_iconst (v := 5) hx hb d_Md_lookElement_81 (by decide) ?_
      refine lv_icmp_ne (tgt := 104) hx hb d_Md_lookElement_82 (by decide) (fun c_82 => ?_) (fun c_82 => absurd c_82 (fun q => absurd ((nI_eq (a := wh) (b := 5) (by omega) (by decide)).mp q) (by omega)))
      refine lv_iload_n hx hb d_Md_lookElement_104 rfl (lv_at hl 5 rfl) ?_
      refine lv_bipush (v := 6) hx hb d_Md_lookElement_105 (by decide) ?_
      refine lv_icmp_ne (tgt := 122) hx hb d_Md_lookElement_107 (by decide) (fun c_107 => ?_) (fun c_107 => absurd c_107 (fun q => absurd ((nI_eq (a := wh) (b := 6) (by omega) (by decide)).mp q) (by omega)))
      refine lv_iload hx hb d_Md_lookElement_122 (lv_at hl 1 rfl) ?_
      refine lv_if_eq (tgt := 142) hx hb d_Md_lookElement_124 (by decide) (fun c_124 => ?_) (fun c_124 => absurd (by decide) c_124)
      refine lv_iload_n hx hb d_Md_lookElement_142 rfl (lv_at hl 2 rfl) ?_
      refine lv_if_eq (tgt := 155) hx hb d_Md_lookElement_143 (by decide) (fun c_143 => absurd c_143 (by decide)) (fun c_143 => ?_)
      refine lv_iload_n hx hb d_Md_lookElement_146 rfl (lv_at hl 2 rfl) ?_
      refine lv_iconst (v := 4) hx hb d_Md_lookElement_147 (by decide) ?_
      refine lv_icmp_eq (tgt := 155) hx hb d_Md_lookElement_148 (by decide) (fun c_148 => absurd c_148 (by decide)) (fun c_148 => ?_)
      refine lv_iconst (v := 1) hx hb d_Md_lookElement_151 (by decide) ?_
      refine lv_goto (tgt := 156) hx hb d_Md_lookElement_152 (by decide) ?_
      refine lv_istore (lv' := [(7, .int 1), (5, .long 0), (4, .int 0), (3, .int 7), (0, .ref m0), (1, .int (nI t)), (2, .int (nI wh))]) hx hb d_Md_lookElement_156 hl (by decide) rfl (fun ls hl => ?_)
      refine lv_iload hx hb d_Md_lookElement_158 (lv_at hl 0 rfl) ?_
      refine lv_if_eq (tgt := 182) hx hb d_Md_lookElement_160 (by decide) (fun c_160 => absurd c_160 (by decide)) (fun c_160 => ?_)
      refine lv_iload_n hx hb d_Md_lookElement_163 rfl (lv_at hl 3 rfl) ?_
      refine lv_iconst (v := 4) hx hb d_Md_lookElement_164 (by decide) ?_
      refine lv_iand hx hb d_Md_lookElement_165 ?_
      refine W.eq (g2 := F0 m 166 ls [.int 4]) (by rw [show (7 : Int32) &&& 4 = 4 from by decide +kernel]) ?_
      refine lv_if_eq (tgt := 182) hx hb d_Md_lookElement_166 (by decide) (fun c_166 => absurd c_166 (by decide)) (fun c_166 => ?_)
      refine lv_aload_n hx hb d_Md_lookElement_169 rfl (lv_at hl 4 rfl) ?_
      refine va_get (D := D) (ci := 6) (v := .ref (g 30)) (C := R_Md) (T := F_Md) (N := 44) hx hb hts (fun w h => List.mem_cons_of_mem _ (i_Md w h)) hown hE.1 hP 0 rfl rfl 30 (by decide) (hts _ (List.mem_cons_of_mem _ iw3_84)) (fun _ h9 => h9) rfl d_Md_lookElement_170 ?_
      refine lv_aload_n hx hb d_Md_lookElement_173 rfl (lv_at hl 4 rfl) ?_
      refine va_get (D := D) (ci := 6) (v := .int (nI a1)) (C := R_Md) (T := F_Md) (N := 44) hx hb hts (fun w h => List.mem_cons_of_mem _ (i_Md w h)) hown hE.1 hP 0 rfl rfl 43 (by decide) (hts _ (List.mem_cons_of_mem _ iw3_97)) (fun _ h9 => h9) rfl d_Md_lookElement_174 ?_
      refine va_iald hx hb hE.1 hP 1 3 rfl rfl (vp_in_nI (by omega) (by omega)) d_Md_lookElement_177 ?_
      rw [nI_clamp (n := a1) (by omega), hyb a1 (by omega)]
      refine lv_i2l hx hb d_Md_lookElement_178 rfl ?_
      rw [nI_l (n := b a1) (by have := hb9 a1; omega)]
      refine lv_goto (tgt := 185) hx hb d_Md_lookElement_179 (by decide) ?_
      refine lv_lstore (lv' := [(8, .long (lN (b a1))), (7, .int 1), (5, .long 0), (4, .int 0), (3, .int 7), (0, .ref m0), (1, .int (nI t)), (2, .int (nI wh))]) hx hb d_Md_lookElement_185 hl (by decide) rfl (fun ls hl => ?_)
      refine lv_aload_n hx hb d_Md_lookElement_187 rfl (lv_at hl 5 rfl) ?_
      refine lv_dup hx hb d_Md_lookElement_188 rfl ?_
      refine va_get (D := D) (ci := 6) (v := .int (nI a1)) (C := R_Md) (T := F_Md) (N := 44) hx hb hts (fun w h => List.mem_cons_of_mem _ (i_Md w h)) hown hE.1 hP 0 rfl rfl 43 (by decide) (hts _ (List.mem_cons_of_mem _ iw3_97)) (fun _ h9 => h9) rfl d_Md_lookElement_189 ?_
      refine lv_iload hx hb d_Md_lookElement_192 (lv_at hl 1 rfl) ?_
      refine lv_if_eq (tgt := 201) hx hb d_Md_lookElement_194 (by decide) (fun c_194 => absurd c_194 (by decide)) (fun c_194 => ?_)
      refine lv_iconst (v := 1) hx hb d_Md_lookElement_197 (by decide) ?_
      refine lv_goto (tgt := 202) hx hb d_Md_lookElement_198 (by decide) ?_
      refine lv_iadd hx hb d_Md_lookElement_202 ?_
      rw [nI_1]
      refine va_put (D := D) (ci := 6) (v := .int (nI (a1 + 1))) (ty := .int) (C := R_Md) (T := F_Md) (N := 44) hx hb hts (fun w h => List.mem_cons_of_mem _ (i_Md w h)) t_Md tk_Md n_Md hown hE.1 hP hD hS 0 rfl rfl 43 (by decide) (hts _ (List.mem_cons_of_mem _ iw3_97)) (fun _ h9 => h9) rfl (by decide +kernel) rfl rfl (Nat.le_of_ble_eq_true rfl) d_Md_lookElement_203 (fun H locs hP hD hS => ?_)
      have hP : va_P D cls [(m0, .inr (6, mF g (K.1, K.2.1, K.2.2.1, K.2.2.2.1, nI X.length, K.2.2.2.2.2.1, K.2.2.2.2.2.2.1, K.2.2.2.2.2.2.2.1, nI (a1 + 1)) A0 e np B)), ((g 30), .inl (cA 3, 2000, .inl yb)), ((g 38), .inl (cA 3, 2000, .inl ow)), ((g 39), .inl (cA 3, 2000, .inl fi)), ((g 40), .inl (cA 3, 2000, .inl be))] H := hP
      have hD : va_D A [(m0, .inr (6, mF g (K.1, K.2.1, K.2.2.1, K.2.2.2.1, nI X.length, K.2.2.2.2.2.1, K.2.2.2.2.2.2.1, K.2.2.2.2.2.2.2.1, nI (a1 + 1)) A0 e np B)), ((g 30), .inl (cA 3, 2000, .inl yb)), ((g 38), .inl (cA 3, 2000, .inl ow)), ((g 39), .inl (cA 3, 2000, .inl fi)), ((g 40), .inl (cA 3, 2000, .inl be))] := hD
      refine lv_iload_n hx hb d_Md_lookElement_206 rfl (lv_at hl 7 rfl) ?_
      refine lv_iconst (v := 1) hx hb d_Md_lookElement_207 (by decide) ?_
      refine lv_icmp_ne (tgt := 214) hx hb d_Md_lookElement_208 (by decide) (fun c_208 => ?_) (fun c_208 => absurd c_208 (fun q => absurd ((nI_eq (a := wh) (b := 1) (by omega) (by decide)).mp q) (by omega)))
      refine lv_aload_n hx hb d_Md_lookElement_214 rfl (lv_at hl 5 rfl) ?_
      refine cV (As := []) (rest := []) (n := 0) (wc := [(m0, .inr (6, mF g (K.1, K.2.1, K.2.2.1, K.2.2.2.1, nI X.length, K.2.2.2.2.2.1, K.2.2.2.2.2.2.1, K.2.2.2.2.2.2.2.1, nI (a1 + 1)) A0 e np B)), ((g 30), .inl (cA 3, 2000, .inl yb))]) (wr := [((g 38), .inl (cA 3, 2000, .inl ow)), ((g 39), .inl (cA 3, 2000, .inl fi)), ((g 40), .inl (cA 3, 2000, .inl be))]) ⟨hx, hb, hml, hown, hts⟩ hno hlocks hl.1 (c_Md_number l hl9 D cA ad H.size m0 g (K.1, K.2.1, K.2.2.1, K.2.2.2.1, nI X.length, K.2.2.2.2.2.1, K.2.2.2.2.2.2.1, K.2.2.2.2.2.2.2.1, nI (a1 + 1)) A0 e np B yb b lm hlm hyb hb9 (a1 + 1) n a4 (by omega) he4) iw4_132 iw4_134 sel_Md_number iw1_7 iw4_135 (by decide +kernel) rfl ⟨Nat.le_of_ble_eq_true rfl, Nat.le_of_ble_eq_true rfl⟩ ⟨Nat.le_of_ble_eq_true rfl, Nat.le_of_ble_eq_true rfl⟩ rfl (Nat.le_of_ble_eq_true rfl) d_Md_lookElement_215 hE hP hD hS hA [0, 1] [2, 3, 4] rfl rfl rfl rfl (by decide) (ci := 6) rfl rfl 0 rfl (fun _ h => h.elim) (fun v_215 u_215 H locs hp_215 hP hD hS => ?_)
      obtain rfl := hp_215
      have hP : va_P D cls [(m0, .inr (6, mF g (K.1, K.2.1, K.2.2.1, K.2.2.2.1, nI X.length, K.2.2.2.2.2.1, K.2.2.2.2.2.2.1, K.2.2.2.2.2.2.2.1, nI a4) A0 e np B)), ((g 30), .inl (cA 3, 2000, .inl yb)), ((g 38), .inl (cA 3, 2000, .inl ow)), ((g 39), .inl (cA 3, 2000, .inl fi)), ((g 40), .inl (cA 3, 2000, .inl be))] H := hP.sub [3, 4, 0, 1, 2] rfl
      have hD : va_D A [(m0, .inr (6, mF g (K.1, K.2.1, K.2.2.1, K.2.2.2.1, nI X.length, K.2.2.2.2.2.1, K.2.2.2.2.2.2.1, K.2.2.2.2.2.2.2.1, nI a4) A0 e np B)), ((g 30), .inl (cA 3, 2000, .inl yb)), ((g 38), .inl (cA 3, 2000, .inl ow)), ((g 39), .inl (cA 3, 2000, .inl fi)), ((g 40), .inl (cA 3, 2000, .inl be))] := hD.sub [3, 4, 0, 1, 2] (by decide) rfl
      refine W.cs (cells' := 0) (slots' := 0) rfl rfl ?_
      refine W.eq (g2 := F0 m 218 ls [.long (lN n)]) rfl ?_
      refine lv_lstore (lv' := [(10, .long (lN n)), (8, .long (lN (b a1))), (7, .int 1), (5, .long 0), (4, .int 0), (3, .int 7), (0, .ref m0), (1, .int (nI t)), (2, .int (nI wh))]) hx hb d_Md_lookElement_218 hl (by decide) rfl (fun ls hl => ?_)
      refine lv_iload_n hx hb d_Md_lookElement_220 rfl (lv_at hl 8 rfl) ?_
      refine lv_iconst (v := 3) hx hb d_Md_lookElement_221 (by decide) ?_
      refine lv_icmp_ne (tgt := 228) hx hb d_Md_lookElement_222 (by decide) (fun c_222 => ?_) (fun c_222 => absurd c_222 (fun q => absurd ((nI_eq (a := wh) (b := 3) (by omega) (by decide)).mp q) (by omega)))
      refine lv_iload_n hx hb d_Md_lookElement_228 rfl (lv_at hl 8 rfl) ?_
      refine lv_bipush (v := 8) hx hb d_Md_lookElement_229 (by decide) ?_
      refine lv_icmp_lt (tgt := 245) hx hb d_Md_lookElement_231 (by decide) (fun c_231 => absurd c_231 (nI_nlt (a := wh) (b := 8) (by omega) (by omega))) (fun c_231 => ?_)
      refine lv_iload_n hx hb d_Md_lookElement_234 rfl (lv_at hl 8 rfl) ?_
      refine lv_bipush (v := 8) hx hb d_Md_lookElement_235 (by decide) ?_
      refine lv_isub hx hb d_Md_lookElement_237 ?_
      refine lv_i2l hx hb d_Md_lookElement_238 rfl ?_
      refine lv_lload hx hb d_Md_lookElement_239 (lv_at hl 0 rfl) ?_
      rw [show (8 : Int32) = nI 8 from rfl, pk_sub hw8, nI_l (n := wh - 8) (by omega)]
      refine W.lcmp hx hb d_Md_lookElement_241 ?_
      refine lv_if_lt (tgt := 249) hx hb d_Md_lookElement_242 (by decide) (fun c_242 => ?_) (fun c_242 => ?_)
      · have hin : wh - 8 < n := (pk_lLT (by omega) (by omega)).mp ((lg_cmp_lt _ _).mp c_242)
        refine lv_iload_n hx hb d_Md_lookElement_249 rfl (lv_at hl 5 rfl) ?_
        refine lv_iconst (v := 4) hx hb d_Md_lookElement_250 (by decide) ?_
        refine lv_iand hx hb d_Md_lookElement_251 ?_
        refine W.eq (g2 := F0 m 252 ls [.int 4]) (by rw [show (7 : Int32) &&& 4 = 4 from by decide +kernel]) ?_
        refine lv_if_eq (tgt := 282) hx hb d_Md_lookElement_252 (by decide) (fun c_252 => absurd c_252 (by decide)) (fun c_252 => ?_)
        refine lv_aload_n hx hb d_Md_lookElement_255 rfl (lv_at hl 6 rfl) ?_
        refine va_get (D := D) (ci := 6) (v := .ref (g 39)) (C := R_Md) (T := F_Md) (N := 44) hx hb hts (fun w h => List.mem_cons_of_mem _ (i_Md w h)) hown hE.1 hP 0 rfl rfl 39 (by decide) (hts _ (List.mem_cons_of_mem _ iw3_93)) (fun _ h9 => h9) rfl d_Md_lookElement_256 ?_
        refine lv_aload_n hx hb d_Md_lookElement_259 rfl (lv_at hl 6 rfl) ?_
        refine lv_iload_n hx hb d_Md_lookElement_260 rfl (lv_at hl 7 rfl) ?_
        refine lv_iload_n hx hb d_Md_lookElement_261 rfl (lv_at hl 8 rfl) ?_
        refine lv_bipush (v := 8) hx hb d_Md_lookElement_262 (by decide) ?_
        refine lv_isub hx hb d_Md_lookElement_264 ?_
        refine lv_iload hx hb d_Md_lookElement_265 (lv_at hl 4 rfl) ?_
        refine lv_if_eq (tgt := 274) hx hb d_Md_lookElement_267 (by decide) (fun c_267 => ?_) (fun c_267 => absurd (by decide) c_267)
        refine lv_iconst (v := 0) hx hb d_Md_lookElement_274 (by decide) ?_
        refine lv_iadd hx hb d_Md_lookElement_275 ?_
        rw [show nI wh - 8 + 0 = nI (wh - 8 + 0) from by rw [show (8 : Int32) = nI 8 from rfl, pk_sub hw8]; exact nI_add (wh - 8) 0]
        refine cV (As := [.int (nI t), .int (nI (wh - 8 + 0))]) (rest := [.ref (g 39)]) (n := 2) (wc := [(m0, .inr (6, mF g (K.1, K.2.1, K.2.2.1, K.2.2.2.1, nI X.length, K.2.2.2.2.2.1, K.2.2.2.2.2.2.1, K.2.2.2.2.2.2.2.1, nI a4) A0 e np B)), ((g 38), .inl (cA 3, 2000, .inl ow))]) (wr := [((g 30), .inl (cA 3, 2000, .inl yb)), ((g 39), .inl (cA 3, 2000, .inl fi)), ((g 40), .inl (cA 3, 2000, .inl be))]) ⟨hx, hb, hml, hown, hts⟩ hno hlocks hl.1 (c_Md_expressionOf l hl9 D cA ad H.size m0 g (K.1, K.2.1, K.2.2.1, K.2.2.2.1, nI X.length, K.2.2.2.2.2.1, K.2.2.2.2.2.2.1, K.2.2.2.2.2.2.2.1, nI a4) A0 e np B ow fi be X hXH hXf hX t (by omega) (wh - 8 + 0) (by omega)) iw4_156 iw4_158 sel_Md_expressionOf iw1_7 iw4_159 (by decide +kernel) rfl ⟨Nat.le_of_ble_eq_true rfl, Nat.le_of_ble_eq_true rfl⟩ ⟨Nat.le_of_ble_eq_true rfl, Nat.le_of_ble_eq_true rfl⟩ rfl (Nat.le_of_ble_eq_true rfl) d_Md_lookElement_276 hE hP hD hS hA [0, 2] [1, 3, 4] rfl rfl rfl rfl (by decide) (ci := 6) rfl rfl 0 rfl (fun _ h => h.elim) (fun v_276 u_276 H locs hp_276 hP hD hS => ?_)
        rcases hp_276 with ⟨rfl, hno268⟩ | ⟨e268_, f268_, z268_, he268, rfl, hg268, hfi268, hbe268, hfb268, hzb268⟩
        · exact absurd hno268 (by rw [hexx]; omega)
        have hP : va_P D cls [(m0, .inr (6, mF g (K.1, K.2.1, K.2.2.1, K.2.2.2.1, nI X.length, K.2.2.2.2.2.1, K.2.2.2.2.2.2.1, K.2.2.2.2.2.2.2.1, nI a4) A0 e np B)), ((g 30), .inl (cA 3, 2000, .inl yb)), ((g 38), .inl (cA 3, 2000, .inl ow)), ((g 39), .inl (cA 3, 2000, .inl fi)), ((g 40), .inl (cA 3, 2000, .inl be))] H := hP.sub [3, 0, 4, 1, 2] rfl
        have hD : va_D A [(m0, .inr (6, mF g (K.1, K.2.1, K.2.2.1, K.2.2.2.1, nI X.length, K.2.2.2.2.2.1, K.2.2.2.2.2.2.1, K.2.2.2.2.2.2.2.1, nI a4) A0 e np B)), ((g 30), .inl (cA 3, 2000, .inl yb)), ((g 38), .inl (cA 3, 2000, .inl ow)), ((g 39), .inl (cA 3, 2000, .inl fi)), ((g 40), .inl (cA 3, 2000, .inl be))] := hD.sub [3, 0, 4, 1, 2] (by decide) rfl
        refine W.cs (cells' := 0) (slots' := 0) rfl rfl ?_
        refine W.eq (g2 := F0 m 279 ls [.int (nI e268_), .ref (g 39)]) rfl ?_
        refine va_iald hx hb hE.1 hP 3 3 rfl rfl (vp_in_nI (by omega) (by omega)) d_Md_lookElement_279 ?_
        rw [nI_clamp (n := e268_) (by omega), hfi268]
        refine lv_i2l hx hb d_Md_lookElement_280 rfl ?_
        rw [nI_l (n := f268_) (by omega)]
        have hgx : exs[wh - 8]? = some (f268_, z268_) := by rw [hexx, Nat.add_zero] at hg268; exact hg268
        exact cRl (nI a4) hx hb hr hlocks d_Md_lookElement_281 hS hP hD (by rw [lkS, if_pos (show 8 ≤ wh by omega), if_pos rfl, lst_in (z := vp_updL (vp_updL (vp_updL (vp_updL (vp_updL (vp_updL (vp_updL c_1 0 (elM 7)) 2 0) 1 (lN (b a1))) 6 (elS 7)) 3 (lN n)) 7 (lN nl)) 8 (lN n)) (cs := 7) (cn := 8) (M := n) (nl := nl) rfl rfl (by omega) hnl hitl.1 hseg (show wh - 8 < n by omega), hitx, List.getD_eq_getElem?_getD, List.getElem?_map, hgx]; rfl) (Nat.le_refl _) (Nat.le_refl _)
      · refine lv_ldc2 hx hb hown (hts _ (List.mem_cons_of_mem _ iw3_204)) d_Md_lookElement_245 ?_
        exact cRl (nI a4) hx hb hr hlocks d_Md_lookElement_248 hS hP hD (by rw [lkS, if_pos (show 8 ≤ wh by omega), if_pos rfl, lst_out (z := vp_updL (vp_updL (vp_updL (vp_updL (vp_updL (vp_updL (vp_updL c_1 0 (elM 7)) 2 0) 1 (lN (b a1))) 6 (elS 7)) 3 (lN n)) 7 (lN nl)) 8 (lN n)) (cs := 7) (cn := 8) (M := n) rfl (by omega) (by omega) (by have := (pk_lLE (a := n) (b := wh - 8) (by omega) (by omega)).mp (Int64.not_lt.mp (fun q => c_242 ((lg_cmp_lt _ _).mpr q))); omega)]) (Nat.le_refl _) (Nat.le_refl _)
