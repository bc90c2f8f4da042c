set_option maxHeartbeats 4000000 in
set_option maxRecDepth 100000 in
/-- lookData(t, what) -/
theorem c_Md_lookData (l : Launch) (hl9 : l.stackTraces = false) (D : va_G) (cA : Nat → ClassId) (ad : Nat → Nat) (sz : Nat) (m0 : Nat) (g : Nat → Nat) (K : MK) (A0 : A3) (e np : Int32) (B : MB) (yb : Nat → Int32) (b : Nat → Nat) (lm : Nat) (hlm : lm ≤ 2000) (hyb : ∀ i, i < lm → yb i = nI (b i)) (hb9 : ∀ i, b i < 256) (ow fi be : Nat → Int32) (X : XL) (hXH : XH ow fi be X) (hXf : ∀ x ∈ X, x.1 < 2000 ∧ x.2.1 ≤ 2000 ∧ ∃ z : Nat, x.2.2 = some z ∧ z ≤ 2000) (hX : X.length ≤ 2000) (a a' : Nat) (z : Nat → Int64) (ha : a ≤ lm) (LL : List Int64) (t : Nat) (ht : t < 2000) (hd0 : ∃ (m a1 : Nat), pNChoice b lm 2 a = .inr (m, a1) ∧ (m = 1 → pDatB b lm (vp_updL (vp_updL c_1 0 0) 2 0) a1 = .inr (z, a')) ∧ (¬ m = 1 → ∃ (v a2 x2 : Nat), (m = 2 → pU32 b lm a1 = .inr (v, a2)) ∧ (¬ m = 2 → a2 = a1 ∧ v = 0) ∧ exO t X = [(a2, x2)] ∧ a2 ≤ lm ∧ x2 ≤ lm ∧ pDatB b lm (vp_updL (vp_updL (vp_updL (vp_updL c_1 0 1) 2 (lN v)) 4 (lN a2)) 5 (lN x2)) x2 = .inr (z, a'))) (wh : Nat) (hwh : wh < 2 ^ 31) :
    cM l y_Md_lookData (.code y_Md_lookData b_Md_lookData 9 (some .long) :: wAll) ({ frames := 2, cells := 0, slots := 0, locals := 48 }) D cA ad [.ref m0, .int (nI t), .int (nI wh)] [(m0, .inr (6, mF g (K.1, K.2.1, K.2.2.1, K.2.2.2.1, nI X.length, K.2.2.2.2.2.1, K.2.2.2.2.2.2.1, K.2.2.2.2.2.2.2.1, nI a) A0 e np B)), ((g 30), .inl (cA 3, 2000, .inl yb)), ((g 38), .inl (cA 3, 2000, .inl ow)), ((g 39), .inl (cA 3, 2000, .inl fi)), ((g 40), .inl (cA 3, 2000, .inl be))] sz (fun v (_ : Int32) => v = some (.long (lkS 9 z LL wh))) (fun _ => False) (fun (q : Int32) => [(m0, .inr (6, mF g (K.1, K.2.1, K.2.2.1, K.2.2.2.1, nI X.length, K.2.2.2.2.2.1, K.2.2.2.2.2.2.1, K.2.2.2.2.2.2.2.1, q) A0 e np B)), ((g 30), .inl (cA 3, 2000, .inl yb)), ((g 38), .inl (cA 3, 2000, .inl ow)), ((g 39), .inl (cA 3, 2000, .inl fi)), ((g 40), .inl (cA 3, 2000, .inl be))]) (fun _ => (0, 0)) := by
  refine cM.ofW (cc := b_Md_lookData) (maxL := 9) (ret := (some .long)) (by decide) (Nat.le_of_ble_eq_true rfl) ?_
  intro pg ev s m bw meth cdx A ls hF hsz hA hE hP hD hl
  obtain ⟨⟨hx, hb, hml, hown, hts⟩, hr, hno, hlocks, hin⟩ := hF
  subst hsz
  have hown : s.vm.findClass "ModuleBytesModel" = some m.cls := hown
  have hS : va_S A s.heap s.heap [] := va_S.rf
  have hl : lv_has ls 9 [(0, .ref m0), (1, .int (nI t)), (2, .int (nI wh))] := hl
  have hP : va_P D cls [(m0, .inr (6, mF g (K.1, K.2.1, K.2.2.1, K.2.2.2.1, nI X.length, K.2.2.2.2.2.1, K.2.2.2.2.2.2.1, K.2.2.2.2.2.2.2.1, nI a) A0 e np B)), ((g 30), .inl (cA 3, 2000, .inl yb)), ((g 38), .inl (cA 3, 2000, .inl ow)), ((g 39), .inl (cA 3, 2000, .inl fi)), ((g 40), .inl (cA 3, 2000, .inl be))] s.heap := hP
  have hD : va_D A [(m0, .inr (6, mF g (K.1, K.2.1, K.2.2.1, K.2.2.2.1, nI X.length, K.2.2.2.2.2.1, K.2.2.2.2.2.2.1, K.2.2.2.2.2.2.2.1, nI a) A0 e np B)), ((g 30), .inl (cA 3, 2000, .inl yb)), ((g 38), .inl (cA 3, 2000, .inl ow)), ((g 39), .inl (cA 3, 2000, .inl fi)), ((g 40), .inl (cA 3, 2000, .inl be))] := hD
  obtain ⟨m_, a1, hm0, hm1, hm2⟩ := hd0
  obtain ⟨hmu, hm9⟩ := pNChoice_inv hm0
  have hu1 := pU32_ok ha hmu
  rcases (show m_ = 0 ∨ m_ = 1 ∨ m_ = 2 by omega) with rfl | rfl | rfl
  · obtain ⟨v, a2, x2, hv2, hv0, hexx, hb2, hbx, hdb⟩ := hm2 (by decide)
    obtain ⟨e21, rfl⟩ := hv0 (by decide)
    have e12 := e21.symm
    subst e12
    obtain ⟨n_, a3, hnn, rfl⟩ := pDatB_inv hdb
    have hu3 := pU32_ok (by omega) hnn
    rcases (show wh = 0 ∨ wh = 1 ∨ wh = 2 ∨ wh = 3 ∨ wh = 4 ∨ wh = 5 ∨ wh = 6 ∨ wh = 7 ∨ 8 ≤ wh by omega) with rfl | rfl | rfl | rfl | rfl | rfl | rfl | rfl | hw8
    · have hl : lv_has ls 9 [(0, .ref m0), (1, .int (nI t)), (2, .int 0)] := hl
      refine lv_aload_n hx hb d_Md_lookData_0 rfl (lv_at hl 0 rfl) ?_
      refine cV (As := []) (rest := []) (n := 0) (wc := [(m0, .inr (6, mF g (K.1, K.2.1, K.2.2.1, K.2.2.2.1, nI X.length, K.2.2.2.2.2.1, K.2.2.2.2.2.2.1, K.2.2.2.2.2.2.2.1, nI a) A0 e np B)), ((g 30), .inl (cA 3, 2000, .inl yb))]) (wr := [((g 38), .inl (cA 3, 2000, .inl ow)), ((g 39), .inl (cA 3, 2000, .inl fi)), ((g 40), .inl (cA 3, 2000, .inl be))]) ⟨hx, hb, hml, hown, hts⟩ hno hlocks hl.1 (c_Md_number l hl9 D cA ad s.heap.size m0 g (K.1, K.2.1, K.2.2.1, K.2.2.2.1, nI X.length, K.2.2.2.2.2.1, K.2.2.2.2.2.2.1, K.2.2.2.2.2.2.2.1, nI a) A0 e np B yb b lm hlm hyb hb9 a 0 a1 (by omega) hmu) iw4_132 iw4_134 sel_Md_number iw1_7 iw4_135 (by decide +kernel) rfl ⟨Nat.le_of_ble_eq_true rfl, Nat.le_of_ble_eq_true rfl⟩ ⟨Nat.le_of_ble_eq_true rfl, Nat.le_of_ble_eq_true rfl⟩ rfl (Nat.le_of_ble_eq_true rfl) d_Md_lookData_1 hE hP hD hS hA [0, 1] [2, 3, 4] rfl rfl rfl rfl (by decide) (ci := 6) rfl rfl 0 rfl (fun _ h => h.elim) (fun v_1 u_1 H locs hp_1 hP hD hS => ?_)
      obtain rfl := hp_1
      have hP : va_P D cls [(m0, .inr (6, mF g (K.1, K.2.1, K.2.2.1, K.2.2.2.1, nI X.length, K.2.2.2.2.2.1, K.2.2.2.2.2.2.1, K.2.2.2.2.2.2.2.1, nI a1) A0 e np B)), ((g 30), .inl (cA 3, 2000, .inl yb)), ((g 38), .inl (cA 3, 2000, .inl ow)), ((g 39), .inl (cA 3, 2000, .inl fi)), ((g 40), .inl (cA 3, 2000, .inl be))] H := hP.sub [3, 4, 0, 1, 2] rfl
      have hD : va_D A [(m0, .inr (6, mF g (K.1, K.2.1, K.2.2.1, K.2.2.2.1, nI X.length, K.2.2.2.2.2.1, K.2.2.2.2.2.2.1, K.2.2.2.2.2.2.2.1, nI a1) A0 e np B)), ((g 30), .inl (cA 3, 2000, .inl yb)), ((g 38), .inl (cA 3, 2000, .inl ow)), ((g 39), .inl (cA 3, 2000, .inl fi)), ((g 40), .inl (cA 3, 2000, .inl be))] := hD.sub [3, 4, 0, 1, 2] (by decide) rfl
      refine W.cs (cells' := 0) (slots' := 0) rfl rfl ?_
      refine W.eq (g2 := F0 m 4 ls [.long (lN 0)]) rfl ?_
      refine lv_lstore_n (lv' := [(3, .long (lN 0)), (0, .ref m0), (1, .int (nI t)), (2, .int 0)]) hx hb d_Md_lookData_4 rfl hl (by decide) rfl (fun ls hl => ?_)
      refine lv_iload_n hx hb d_Md_lookData_5 rfl (lv_at hl 3 rfl) ?_
      refine lv_if_ne (tgt := 21) hx hb d_Md_lookData_6 (by decide) (fun c_6 => absurd (by decide) c_6) (fun c_6 => ?_)
      refine lv_lload_n hx hb d_Md_lookData_9 rfl (lv_at hl 0 rfl) ?_
      refine lv_lconst (v := 1) hx hb d_Md_lookData_10 (by decide) ?_
      refine W.lcmp hx hb d_Md_lookData_11 ?_
      refine lv_if_ne (tgt := 19) hx hb d_Md_lookData_12 (by decide) (fun c_12 => ?_) (fun c_12 => absurd c_12 (by decide +kernel))
      refine lv_lconst (v := 1) hx hb d_Md_lookData_19 (by decide) ?_
      exact cRl (nI a1) hx hb hr hlocks d_Md_lookData_20 hS hP hD (rfl) (Nat.le_refl _) (Nat.le_refl _)
    · have hl : lv_has ls 9 [(0, .ref m0), (1, .int (nI t)), (2, .int 1)] := hl
      refine lv_aload_n hx hb d_Md_lookData_0 rfl (lv_at hl 0 rfl) ?_
      refine cV (As := []) (rest := []) (n := 0) (wc := [(m0, .inr (6, mF g (K.1, K.2.1, K.2.2.1, K.2.2.2.1, nI X.length, K.2.2.2.2.2.1, K.2.2.2.2.2.2.1, K.2.2.2.2.2.2.2.1, nI a) A0 e np B)), ((g 30), .inl (cA 3, 2000, .inl yb))]) (wr := [((g 38), .inl (cA 3, 2000, .inl ow)), ((g 39), .inl (cA 3, 2000, .inl fi)), ((g 40), .inl (cA 3, 2000, .inl be))]) ⟨hx, hb, hml, hown, hts⟩ hno hlocks hl.1 (c_Md_number l hl9 D cA ad s.heap.size m0 g (K.1, K.2.1, K.2.2.1, K.2.2.2.1, nI X.length, K.2.2.2.2.2.1, K.2.2.2.2.2.2.1, K.2.2.2.2.2.2.2.1, nI a) A0 e np B yb b lm hlm hyb hb9 a 0 a1 (by omega) hmu) iw4_132 iw4_134 sel_Md_number iw1_7 iw4_135 (by decide +kernel) rfl ⟨Nat.le_of_ble_eq_true rfl, Nat.le_of_ble_eq_true rfl⟩ ⟨Nat.le_of_ble_eq_true rfl, Nat.le_of_ble_eq_true rfl⟩ rfl (Nat.le_of_ble_eq_true rfl) d_Md_lookData_1 hE hP hD hS hA [0, 1] [2, 3, 4] rfl rfl rfl rfl (by decide) (ci := 6) rfl rfl 0 rfl (fun _ h => h.elim) (fun v_1 u_1 H locs hp_1 hP hD hS => ?_)
      obtain rfl := hp_1
      have hP : va_P D cls [(m0, .inr (6, mF g (K.1, K.2.1, K.2.2.1, K.2.2.2.1, nI X.length, K.2.2.2.2.2.1, K.2.2.2.2.2.2.1, K.2.2.2.2.2.2.2.1, nI a1) A0 e np B)), ((g 30), .inl (cA 3, 2000, .inl yb)), ((g 38), .inl (cA 3, 2000, .inl ow)), ((g 39), .inl (cA 3, 2000, .inl fi)), ((g 40), .inl (cA 3, 2000, .inl be))] H := hP.sub [3, 4, 0, 1, 2] rfl
      have hD : va_D A [(m0, .inr (6, mF g (K.1, K.2.1, K.2.2.1, K.2.2.2.1, nI X.length, K.2.2.2.2.2.1, K.2.2.2.2.2.2.1, K.2.2.2.2.2.2.2.1, nI a1) A0 e np B)), ((g 30), .inl (cA 3, 2000, .inl yb)), ((g 38), .inl (cA 3, 2000, .inl ow)), ((g 39), .inl (cA 3, 2000, .inl fi)), ((g 40), .inl (cA 3, 2000, .inl be))] := hD.sub [3, 4, 0, 1, 2] (by decide) rfl
      refine W.cs (cells' := 0) (slots' := 0) rfl rfl ?_
      refine W.eq (g2 := F0 m 4 ls [.long (lN 0)]) rfl ?_
      refine lv_lstore_n (lv' := [(3, .long (lN 0)), (0, .ref m0), (1, .int (nI t)), (2, .int 1)]) hx hb d_Md_lookData_4 rfl hl (by decide) rfl (fun ls hl => ?_)
      refine lv_iload_n hx hb d_Md_lookData_5 rfl (lv_at hl 3 rfl) ?_
      refine lv_if_ne (tgt := 21) hx hb d_Md_lookData_6 (by decide) (fun c_6 => ?_) (fun c_6 => absurd c_6 (by decide))
      refine lv_lload_n hx hb d_Md_lookData_21 rfl (lv_at hl 0 rfl) ?_
      refine lv_ldc2 hx hb hown (hts _ (List.mem_cons_of_mem _ iw4_51)) d_Md_lookData_22 ?_
      refine W.lcmp hx hb d_Md_lookData_25 ?_
      refine lv_if_ne (tgt := 36) hx hb d_Md_lookData_26 (by decide) (fun c_26 => ?_) (fun c_26 => absurd c_26 (by decide +kernel))
      refine lv_lconst (v := 0) hx hb d_Md_lookData_36 (by decide) ?_
      refine lv_lstore (lv' := [(5, .long 0), (3, .long (lN 0)), (0, .ref m0), (1, .int (nI t)), (2, .int 1)]) hx hb d_Md_lookData_37 hl (by decide) rfl (fun ls hl => ?_)
      refine lv_iload_n hx hb d_Md_lookData_39 rfl (lv_at hl 4 rfl) ?_
      refine lv_iconst (v := 2) hx hb d_Md_lookData_40 (by decide) ?_
      refine lv_icmp_ne (tgt := 47) hx hb d_Md_lookData_41 (by decide) (fun c_41 => ?_) (fun c_41 => absurd c_41 (by decide))
      refine lv_iload_n hx hb d_Md_lookData_47 rfl (lv_at hl 4 rfl) ?_
      refine lv_iconst (v := 4) hx hb d_Md_lookData_48 (by decide) ?_
      refine lv_icmp_eq (tgt := 57) hx hb d_Md_lookData_49 (by decide) (fun c_49 => absurd c_49 (by decide)) (fun c_49 => ?_)
      refine lv_iload_n hx hb d_Md_lookData_52 rfl (lv_at hl 4 rfl) ?_
      refine lv_iconst (v := 5) hx hb d_Md_lookData_53 (by decide) ?_
      refine lv_icmp_ne (tgt := 77) hx hb d_Md_lookData_54 (by decide) (fun c_54 => ?_) (fun c_54 => absurd c_54 (by decide))
      refine lv_lload_n hx hb d_Md_lookData_77 rfl (lv_at hl 1 rfl) ?_
      refine lv_lconst (v := 1) hx hb d_Md_lookData_78 (by decide) ?_
      refine W.lcmp hx hb d_Md_lookData_79 ?_
      refine lv_if_eq (tgt := 98) hx hb d_Md_lookData_80 (by decide) (fun c_80 => absurd c_80 (by decide +kernel)) (fun c_80 => ?_)
      refine lv_aload_n hx hb d_Md_lookData_83 rfl (lv_at hl 2 rfl) ?_
      refine lv_aload_n hx hb d_Md_lookData_84 rfl (lv_at hl 2 rfl) ?_
      refine va_get (D := D) (ci := 6) (v := .ref (g 40)) (C := R_Md) (T := F_Md) (N := 44) hx hb hts (fun w h => List.mem_cons_of_mem _ (i_Md w h)) hown hE.1 hP 0 rfl rfl 40 (by decide) (hts _ (List.mem_cons_of_mem _ iw3_94)) (fun _ h9 => h9) rfl d_Md_lookData_85 ?_
      refine lv_aload_n hx hb d_Md_lookData_88 rfl (lv_at hl 2 rfl) ?_
      refine lv_iload_n hx hb d_Md_lookData_89 rfl (lv_at hl 3 rfl) ?_
      refine lv_iconst (v := 0) hx hb d_Md_lookData_90 (by decide) ?_
      refine cV (As := [.int (nI t), .int 0]) (rest := [.ref (g 40), .ref m0]) (n := 2) (wc := [(m0, .inr (6, mF g (K.1, K.2.1, K.2.2.1, K.2.2.2.1, nI X.length, K.2.2.2.2.2.1, K.2.2.2.2.2.2.1, K.2.2.2.2.2.2.2.1, nI a1) A0 e np B)), ((g 38), .inl (cA 3, 2000, .inl ow))]) (wr := [((g 30), .inl (cA 3, 2000, .inl yb)), ((g 39), .inl (cA 3, 2000, .inl fi)), ((g 40), .inl (cA 3, 2000, .inl be))]) ⟨hx, hb, hml, hown, hts⟩ hno hlocks hl.1 (c_Md_expressionOf l hl9 D cA ad H.size m0 g (K.1, K.2.1, K.2.2.1, K.2.2.2.1, nI X.length, K.2.2.2.2.2.1, K.2.2.2.2.2.2.1, K.2.2.2.2.2.2.2.1, nI a1) A0 e np B ow fi be X hXH hXf hX t (by omega) 0 (by omega)) iw4_156 iw4_158 sel_Md_expressionOf iw1_7 iw4_159 (by decide +kernel) rfl ⟨Nat.le_of_ble_eq_true rfl, Nat.le_of_ble_eq_true rfl⟩ ⟨Nat.le_of_ble_eq_true rfl, Nat.le_of_ble_eq_true rfl⟩ rfl (Nat.le_of_ble_eq_true rfl) d_Md_lookData_91 hE hP hD hS hA [0, 2] [1, 3, 4] rfl rfl rfl rfl (by decide) (ci := 6) rfl rfl 0 rfl (fun _ h => h.elim) (fun v_91 u_91 H locs hp_91 hP hD hS => ?_)
      rcases hp_91 with ⟨rfl, hno239⟩ | ⟨e239_, f239_, z239_, he239, rfl, hg239, hfi239, hbe239, hfb239, hzb239⟩
      · exact absurd hno239 (by rw [hexx]; simp)
      have hP : va_P D cls [(m0, .inr (6, mF g (K.1, K.2.1, K.2.2.1, K.2.2.2.1, nI X.length, K.2.2.2.2.2.1, K.2.2.2.2.2.2.1, K.2.2.2.2.2.2.2.1, nI a1) A0 e np B)), ((g 30), .inl (cA 3, 2000, .inl yb)), ((g 38), .inl (cA 3, 2000, .inl ow)), ((g 39), .inl (cA 3, 2000, .inl fi)), ((g 40), .inl (cA 3, 2000, .inl be))] H := hP.sub [3, 0, 4, 1, 2] rfl
      have hD : va_D A [(m0, .inr (6, mF g (K.1, K.2.1, K.2.2.1, K.2.2.2.1, nI X.length, K.2.2.2.2.2.1, K.2.2.2.2.2.2.1, K.2.2.2.2.2.2.2.1, nI a1) A0 e np B)), ((g 30), .inl (cA 3, 2000, .inl yb)), ((g 38), .inl (cA 3, 2000, .inl ow)), ((g 39), .inl (cA 3, 2000, .inl fi)), ((g 40), .inl (cA 3, 2000, .inl be))] := hD.sub [3, 0, 4, 1, 2] (by decide) rfl
      refine W.cs (cells' := 0) (slots' := 0) rfl rfl ?_
      refine W.eq (g2 := F0 m 94 ls [.int (nI e239_), .ref (g 40), .ref m0]) rfl ?_
      refine va_iald hx hb hE.1 hP 4 3 rfl rfl (vp_in_nI (by omega) (by omega)) d_Md_lookData_94 ?_
      rw [nI_clamp (n := e239_) (by omega), hbe239, show z239_ = x2 from by rw [hexx] at hg239; exact (congrArg Prod.snd (Option.some.inj hg239)).symm]
      refine va_put (D := D) (ci := 6) (v := .int (nI x2)) (ty := .int) (C := R_Md) (T := F_Md) (N := 44) hx hb hts (fun w h => List.mem_cons_of_mem _ (i_Md w h)) t_Md tk_Md n_Md hown hE.1 hP hD hS 0 rfl rfl 43 (by decide) (hts _ (List.mem_cons_of_mem _ iw3_97)) (fun _ h9 => h9) rfl (by decide +kernel) rfl rfl (Nat.le_of_ble_eq_true rfl) d_Md_lookData_95 (fun H locs hP hD hS => ?_)
      have hP : va_P D cls [(m0, .inr (6, mF g (K.1, K.2.1, K.2.2.1, K.2.2.2.1, nI X.length, K.2.2.2.2.2.1, K.2.2.2.2.2.2.1, K.2.2.2.2.2.2.2.1, nI x2) A0 e np B)), ((g 30), .inl (cA 3, 2000, .inl yb)), ((g 38), .inl (cA 3, 2000, .inl ow)), ((g 39), .inl (cA 3, 2000, .inl fi)), ((g 40), .inl (cA 3, 2000, .inl be))] H := hP
      have hD : va_D A [(m0, .inr (6, mF g (K.1, K.2.1, K.2.2.1, K.2.2.2.1, nI X.length, K.2.2.2.2.2.1, K.2.2.2.2.2.2.1, K.2.2.2.2.2.2.2.1, nI x2) A0 e np B)), ((g 30), .inl (cA 3, 2000, .inl yb)), ((g 38), .inl (cA 3, 2000, .inl ow)), ((g 39), .inl (cA 3, 2000, .inl fi)), ((g 40), .inl (cA 3, 2000, .inl be))] := hD
      refine lv_aload_n hx hb d_Md_lookData_98 rfl (lv_at hl 2 rfl) ?_
      refine cV (As := []) (rest := []) (n := 0) (wc := [(m0, .inr (6, mF g (K.1, K.2.1, K.2.2.1, K.2.2.2.1, nI X.length, K.2.2.2.2.2.1, K.2.2.2.2.2.2.1, K.2.2.2.2.2.2.2.1, nI x2) A0 e np B)), ((g 30), .inl (cA 3, 2000, .inl yb))]) (wr := [((g 38), .inl (cA 3, 2000, .inl ow)), ((g 39), .inl (cA 3, 2000, .inl fi)), ((g 40), .inl (cA 3, 2000, .inl be))]) ⟨hx, hb, hml, hown, hts⟩ hno hlocks hl.1 (c_Md_number l hl9 D cA ad H.size m0 g (K.1, K.2.1, K.2.2.1, K.2.2.2.1, nI X.length, K.2.2.2.2.2.1, K.2.2.2.2.2.2.1, K.2.2.2.2.2.2.2.1, nI x2) A0 e np B yb b lm hlm hyb hb9 x2 n_ a3 (by omega) hnn) iw4_132 iw4_134 sel_Md_number iw1_7 iw4_135 (by decide +kernel) rfl ⟨Nat.le_of_ble_eq_true rfl, Nat.le_of_ble_eq_true rfl⟩ ⟨Nat.le_of_ble_eq_true rfl, Nat.le_of_ble_eq_true rfl⟩ rfl (Nat.le_of_ble_eq_true rfl) d_Md_lookData_99 hE hP hD hS hA [0, 1] [2, 3, 4] rfl rfl rfl rfl (by decide) (ci := 6) rfl rfl 0 rfl (fun _ h => h.elim) (fun v_99 u_99 H locs hp_99 hP hD hS => ?_)
      obtain rfl := hp_99
      have hP : va_P D cls [(m0, .inr (6, mF g (K.1, K.2.1, K.2.2.1, K.2.2.2.1, nI X.length, K.2.2.2.2.2.1, K.2.2.2.2.2.2.1, K.2.2.2.2.2.2.2.1, nI a3) A0 e np B)), ((g 30), .inl (cA 3, 2000, .inl yb)), ((g 38), .inl (cA 3, 2000, .inl ow)), ((g 39), .inl (cA 3, 2000, .inl fi)), ((g 40), .inl (cA 3, 2000, .inl be))] H := hP.sub [3, 4, 0, 1, 2] rfl
      have hD : va_D A [(m0, .inr (6, mF g (K.1, K.2.1, K.2.2.1, K.2.2.2.1, nI X.length, K.2.2.2.2.2.1, K.2.2.2.2.2.2.1, K.2.2.2.2.2.2.2.1, nI a3) A0 e np B)), ((g 30), .inl (cA 3, 2000, .inl yb)), ((g 38), .inl (cA 3, 2000, .inl ow)), ((g 39), .inl (cA 3, 2000, .inl fi)), ((g 40), .inl (cA 3, 2000, .inl be))] := hD.sub [3, 4, 0, 1, 2] (by decide) rfl
      refine W.cs (cells' := 0) (slots' := 0) rfl rfl ?_
      refine W.eq (g2 := F0 m 102 ls [.long (lN n_)]) rfl ?_
      refine lv_lstore (lv' := [(7, .long (lN n_)), (5, .long 0), (3, .long (lN 0)), (0, .ref m0), (1, .int (nI t)), (2, .int 1)]) hx hb d_Md_lookData_102 hl (by decide) rfl (fun ls hl => ?_)
      refine lv_iload_n hx hb d_Md_lookData_104 rfl (lv_at hl 5 rfl) ?_
      refine lv_iconst (v := 3) hx hb d_Md_lookData_105 (by decide) ?_
      refine lv_icmp_ne (tgt := 114) hx hb d_Md_lookData_106 (by decide) (fun c_106 => ?_) (fun c_106 => absurd c_106 (by decide))
      refine lv_iload_n hx hb d_Md_lookData_114 rfl (lv_at hl 5 rfl) ?_
      refine lv_bipush (v := 6) hx hb d_Md_lookData_115 (by decide) ?_
      refine lv_icmp_ne (tgt := 128) hx hb d_Md_lookData_117 (by decide) (fun c_117 => ?_) (fun c_117 => absurd c_117 (by decide))
      refine lv_ldc2 hx hb hown (hts _ (List.mem_cons_of_mem _ iw3_204)) d_Md_lookData_128 ?_
      exact cRl (nI a3) hx hb hr hlocks d_Md_lookData_131 hS hP hD (rfl) (Nat.le_refl _) (Nat.le_refl _)
    · have hl : lv_has ls 9 [(0, .ref m0), (1, .int (nI t)), (2, .int 2)] := hl
      refine lv_aload_n hx hb d_Md_lookData_0 rfl (lv_at hl 0 rfl) ?_
      refine cV (As := []) (rest := []) (n := 0) (wc := [(m0, .inr (6, mF g (K.1, K.2.1, K.2.2.1, K.2.2.2.1, nI X.length, K.2.2.2.2.2.1, K.2.2.2.2.2.2.1, K.2.2.2.2.2.2.2.1, nI a) A0 e np B)), ((g 30), .inl (cA 3, 2000, .inl yb))]) (wr := [((g 38), .inl (cA 3, 2000, .inl ow)), ((g 39), .inl (cA 3, 2000, .inl fi)), ((g 40), .inl (cA 3, 2000, .inl be))]) ⟨hx, hb, hml, hown, hts⟩ hno hlocks hl.1 (c_Md_number l hl9 D cA ad s.heap.size m0 g (K.1, K.2.1, K.2.2.1, K.2.2.2.1, nI X.length, K.2.2.2.2.2.1, K.2.2.2.2.2.2.1, K.2.2.2.2.2.2.2.1, nI a) A0 e np B yb b lm hlm hyb hb9 a 0 a1 (by omega) hmu) iw4_132 iw4_134 sel_Md_number iw1_7 iw4_135 (by decide +kernel) rfl ⟨Nat.le_of_ble_eq_true rfl, Nat.le_of_ble_eq_true rfl⟩ ⟨Nat.le_of_ble_eq_true rfl, Nat.le_of_ble_eq_true rfl⟩ rfl (Nat.le_of_ble_eq_true rfl) d_Md_lookData_1 hE hP hD hS hA [0, 1] [2, 3, 4] rfl rfl rfl rfl (by decide) (ci := 6) rfl rfl 0 rfl (fun _ h => h.elim) (fun v_1 u_1 H locs hp_1 hP hD hS => ?_)
      obtain rfl := hp_1
      have hP : va_P D cls [(m0, .inr (6, mF g (K.1, K.2.1, K.2.2.1, K.2.2.2.1, nI X.length, K.2.2.2.2.2.1, K.2.2.2.2.2.2.1, K.2.2.2.2.2.2.2.1, nI a1) A0 e np B)), ((g 30), .inl (cA 3, 2000, .inl yb)), ((g 38), .inl (cA 3, 2000, .inl ow)), ((g 39), .inl (cA 3, 2000, .inl fi)), ((g 40), .inl (cA 3, 2000, .inl be))] H := hP.sub [3, 4, 0, 1, 2] rfl
      have hD : va_D A [(m0, .inr (6, mF g (K.1, K.2.1, K.2.2.1, K.2.2.2.1, nI X.length, K.2.2.2.2.2.1, K.2.2.2.2.2.2.1, K.2.2.2.2.2.2.2.1, nI a1) A0 e np B)), ((g 30), .inl (cA 3, 2000, .inl yb)), ((g 38), .inl (cA 3, 2000, .inl ow)), ((g 39), .inl (cA 3, 2000, .inl fi)), ((g 40), .inl (cA 3, 2000, .inl be))] := hD.sub [3, 4, 0, 1, 2] (by decide) rfl
      refine W.cs (cells' := 0) (slots' := 0) rfl rfl ?_
      refine W.eq (g2 := F0 m 4 ls [.long (lN 0)]) rfl ?_
      refine lv_lstore_n (lv' := [(3, .long (lN 0)), (0, .ref m0), (1, .int (nI t)), (2, .int 2)]) hx hb d_Md_lookData_4 rfl hl (by decide) rfl (fun ls hl => ?_)
      refine lv_iload_n hx hb d_Md_lookData_5 rfl (lv_at hl 3 rfl) ?_
      refine lv_if_ne (tgt := 21) hx hb d_Md_lookData_6 (by decide) (fun c_6 => ?_) (fun c_6 => absurd c_6 (by decide))
      refine lv_lload_n hx hb d_Md_lookData_21 rfl (lv_at hl 0 rfl) ?_
      refine lv_ldc2 hx hb hown (hts _ (List.mem_cons_of_mem _ iw4_51)) d_Md_lookData_22 ?_
      refine W.lcmp hx hb d_Md_lookData_25 ?_
      refine lv_if_ne (tgt := 36) hx hb d_Md_lookData_26 (by decide) (fun c_26 => ?_) (fun c_26 => absurd c_26 (by decide +kernel))
      refine lv_lconst (v := 0) hx hb d_Md_lookData_36 (by decide) ?_
      refine lv_lstore (lv' := [(5, .long 0), (3, .long (lN 0)), (0, .ref m0), (1, .int (nI t)), (2, .int 2)]) hx hb d_Md_lookData_37 hl (by decide) rfl (fun ls hl => ?_)
      refine lv_iload_n hx hb d_Md_lookData_39 rfl (lv_at hl 4 rfl) ?_
      refine lv_iconst (v := 2) hx hb d_Md_lookData_40 (by decide) ?_
      refine lv_icmp_ne (tgt := 47) hx hb d_Md_lookData_41 (by decide) (fun c_41 => absurd (by decide) c_41) (fun c_41 => ?_)
      refine lv_lload hx hb d_Md_lookData_44 (lv_at hl 0 rfl) ?_
      exact cRl (nI a1) hx hb hr hlocks d_Md_lookData_46 hS hP hD (rfl) (Nat.le_refl _) (Nat.le_refl _)
    · have hl : lv_has ls 9 [(0, .ref m0), (1, .int (nI t)), (2, .int 3)] := hl
      refine lv_aload_n hx hb d_Md_lookData_0 rfl (lv_at hl 0 rfl) ?_
      refine cV (As := []) (rest := []) (n := 0) (wc := [(m0, .inr (6, mF g (K.1, K.2.1, K.2.2.1, K.2.2.2.1, nI X.length, K.2.2.2.2.2.1, K.2.2.2.2.2.2.1, K.2.2.2.2.2.2.2.1, nI a) A0 e np B)), ((g 30), .inl (cA 3, 2000, .inl yb))]) (wr := [((g 38), .inl (cA 3, 2000, .inl ow)), ((g 39), .inl (cA 3, 2000, .inl fi)), ((g 40), .inl (cA 3, 2000, .inl be))]) ⟨hx, hb, hml, hown, hts⟩ hno hlocks hl.1 (c_Md_number l hl9 D cA ad s.heap.size m0 g (K.1, K.2.1, K.2.2.1, K.2.2.2.1, nI X.length, K.2.2.2.2.2.1, K.2.2.2.2.2.2.1, K.2.2.2.2.2.2.2.1, nI a) A0 e np B yb b lm hlm hyb hb9 a 0 a1 (by omega) hmu) iw4_132 iw4_134 sel_Md_number iw1_7 iw4_135 (by decide +kernel) rfl ⟨Nat.le_of_ble_eq_true rfl, Nat.le_of_ble_eq_true rfl⟩ ⟨Nat.le_of_ble_eq_true rfl, Nat.le_of_ble_eq_true rfl⟩ rfl (Nat.le_of_ble_eq_true rfl) d_Md_lookData_1 hE hP hD hS hA [0, 1] [2, 3, 4] rfl rfl rfl rfl (by decide) (ci := 6) rfl rfl 0 rfl (fun _ h => h.elim) (fun v_1 u_1 H locs hp_1 hP hD hS => ?_)
      obtain rfl := hp_1
      have hP : va_P D cls [(m0, .inr (6, mF g (K.1, K.2.1, K.2.2.1, K.2.2.2.1, nI X.length, K.2.2.2.2.2.1, K.2.2.2.2.2.2.1, K.2.2.2.2.2.2.2.1, nI a1) A0 e np B)), ((g 30), .inl (cA 3, 2000, .inl yb)), ((g 38), .inl (cA 3, 2000, .inl ow)), ((g 39), .inl (cA 3, 2000, .inl fi)), ((g 40), .inl (cA 3, 2000, .inl be))] H := hP.sub [3, 4, 0, 1, 2] rfl
      have hD : va_D A [(m0, .inr (6, mF g (K.1, K.2.1, K.2.2.1, K.2.2.2.1, nI X.length, K.2.2.2.2.2.1, K.2.2.2.2.2.2.1, K.2.2.2.2.2.2.2.1, nI a1) A0 e np B)), ((g 30), .inl (cA 3, 2000, .inl yb)), ((g 38), .inl (cA 3, 2000, .inl ow)), ((g 39), .inl (cA 3, 2000, .inl fi)), ((g 40), .inl (cA 3, 2000, .inl be))] := hD.sub [3, 4, 0, 1, 2] (by decide) rfl
      refine W.cs (cells' := 0) (slots' := 0) rfl rfl ?_
      refine W.eq (g2 := F0 m 4 ls [.long (lN 0)]) rfl ?_
      refine lv_lstore_n (lv' := [(3, .long (lN 0)), (0, .ref m0), (1, .int (nI t)), (2, .int 3)]) hx hb d_Md_lookData_4 rfl hl (by decide) rfl (fun ls hl => ?_)
      refine lv_iload_n hx hb d_Md_lookData_5 rfl (lv_at hl 3 rfl) ?_
      refine lv_if_ne (tgt := 21) hx hb d_Md_lookData_6 (by decide) (fun c_6 => ?_) (fun c_6 => absurd c_6 (by decide))
      refine lv_lload_n hx hb d_Md_lookData_21 rfl (lv_at hl 0 rfl) ?_
      refine lv_ldc2 hx hb hown (hts _ (List.mem_cons_of_mem _ iw4_51)) d_Md_lookData_22 ?_
      refine W.lcmp hx hb d_Md_lookData_25 ?_
      refine lv_if_ne (tgt := 36) hx hb d_Md_lookData_26 (by decide) (fun c_26 => ?_) (fun c_26 => absurd c_26 (by decide +kernel))
      refine lv_lconst (v := 0) hx hb d_Md_lookData_36 (by decide) ?_
      refine lv_lstore (lv' := [(5, .long 0), (3, .long (lN 0)), (0, .ref m0), (1, .int (nI t)), (2, .int 3)]) hx hb d_Md_lookData_37 hl (by decide) rfl (fun ls hl => ?_)
      refine lv_iload_n hx hb d_Md_lookData_39 rfl (lv_at hl 4 rfl) ?_
      refine lv_iconst (v := 2) hx hb d_Md_lookData_40 (by decide) ?_
      refine lv_icmp_ne (tgt := 47) hx hb d_Md_lookData_41 (by decide) (fun c_41 => ?_) (fun c_41 => absurd c_41 (by decide))
      refine lv_iload_n hx hb d_Md_lookData_47 rfl (lv_at hl 4 rfl) ?_
      refine lv_iconst (v := 4) hx hb d_Md_lookData_48 (by decide) ?_
      refine lv_icmp_eq (tgt := 57) hx hb d_Md_lookData_49 (by decide) (fun c_49 => absurd c_49 (by decide)) (fun c_49 => ?_)
      refine lv_iload_n hx hb d_Md_lookData_52 rfl (lv_at hl 4 rfl) ?_
      refine lv_iconst (v := 5) hx hb d_Md_lookData_53 (by decide) ?_
      refine lv_icmp_ne (tgt := 77) hx hb d_Md_lookData_54 (by decide) (fun c_54 => ?_) (fun c_54 => absurd c_54 (by decide))
      refine lv_lload_n hx hb d_Md_lookData_77 rfl (lv_at hl 1 rfl) ?_
      refine lv_lconst (v := 1) hx hb d_Md_lookData_78 (by decide) ?_
      refine W.lcmp hx hb d_Md_lookData_79 ?_
      refine lv_if_eq (tgt := 98) hx hb d_Md_lookData_80 (by decide) (fun c_80 => absurd c_80 (by decide +kernel)) (fun c_80 => ?_)
      refine lv_aload_n hx hb d_Md_lookData_83 rfl (lv_at hl 2 rfl) ?_
      refine lv_aload_n hx hb d_Md_lookData_84 rfl (lv_at hl 2 rfl) ?_
      refine va_get (D := D) (ci := 6) (v := .ref (g 40)) (C := R_Md) (T := F_Md) (N := 44) hx hb hts (fun w h => List.mem_cons_of_mem _ (i_Md w h)) hown hE.1 hP 0 rfl rfl 40 (by decide) (hts _ (List.mem_cons_of_mem _ iw3_94)) (fun _ h9 => h9) rfl d_Md_lookData_85 ?_
      refine lv_aload_n hx hb d_Md_lookData_88 rfl (lv_at hl 2 rfl) ?_
      refine lv_iload_n hx hb d_Md_lookData_89 rfl (lv_at hl 3 rfl) ?_
      refine lv_iconst (v := 0) hx hb d_Md_lookData_90 (by decide) ?_
      refine cV (As := [.int (nI t), .int 0]) (rest := [.ref (g 40), .ref m0]) (n := 2) (wc := [(m0, .inr (6, mF g (K.1, K.2.1, K.2.2.1, K.2.2.2.1, nI X.length, K.2.2.2.2.2.1, K.2.2.2.2.2.2.1, K.2.2.2.2.2.2.2.1, nI a1) A0 e np B)), ((g 38), .inl (cA 3, 2000, .inl ow))]) (wr := [((g 30), .inl (cA 3, 2000, .inl yb)), ((g 39), .inl (cA 3, 2000, .inl fi)), ((g 40), .inl (cA 3, 2000, .inl be))]) ⟨hx, hb, hml, hown, hts⟩ hno hlocks hl.1 (c_Md_expressionOf l hl9 D cA ad H.size m0 g (K.1, K.2.1, K.2.2.1, K.2.2.2.1, nI X.length, K.2.2.2.2.2.1, K.2.2.2.2.2.2.1, K.2.2.2.2.2.2.2.1, nI a1) A0 e np B ow fi be X hXH hXf hX t (by omega) 0 (by omega)) iw4_156 iw4_158 sel_Md_expressionOf iw1_7 iw4_159 (by decide +kernel) rfl ⟨Nat.le_of_ble_eq_true rfl, Nat.le_of_ble_eq_true rfl⟩ ⟨Nat.le_of_ble_eq_true rfl, Nat.le_of_ble_eq_true rfl⟩ rfl (Nat.le_of_ble_eq_true rfl) d_Md_lookData_91 hE hP hD hS hA [0, 2] [1, 3, 4] rfl rfl rfl rfl (by decide) (ci := 6) rfl rfl 0 rfl (fun _ h => h.elim) (fun v_91 u_91 H locs hp_91 hP hD hS => ?_)
      rcases hp_91 with ⟨rfl, hno240⟩ | ⟨e240_, f240_, z240_, he240, rfl, hg240, hfi240, hbe240, hfb240, hzb240⟩
      · exact absurd hno240 (by rw [hexx]; simp)
      have hP : va_P D cls [(m0, .inr (6, mF g (K.1, K.2.1, K.2.2.1, K.2.2.2.1, nI X.length, K.2.2.2.2.2.1, K.2.2.2.2.2.2.1, K.2.2.2.2.2.2.2.1, nI a1) A0 e np B)), ((g 30), .inl (cA 3, 2000, .inl yb)), ((g 38), .inl (cA 3, 2000, .inl ow)), ((g 39), .inl (cA 3, 2000, .inl fi)), ((g 40), .inl (cA 3, 2000, .inl be))] H := hP.sub [3, 0, 4, 1, 2] rfl
      have hD : va_D A [(m0, .inr (6, mF g (K.1, K.2.1, K.2.2.1, K.2.2.2.1, nI X.length, K.2.2.2.2.2.1, K.2.2.2.2.2.2.1, K.2.2.2.2.2.2.2.1, nI a1) A0 e np B)), ((g 30), .inl (cA 3, 2000, .inl yb)), ((g 38), .inl (cA 3, 2000, .inl ow)), ((g 39), .inl (cA 3, 2000, .inl fi)), ((g 40), .inl (cA 3, 2000, .inl be))] := hD.sub [3, 0, 4, 1, 2] (by decide) rfl
      refine W.cs (cells' := 0) (slots' := 0) rfl rfl ?_
      refine W.eq (g2 := F0 m 94 ls [.int (nI e240_), .ref (g 40), .ref m0]) rfl ?_
      refine va_iald hx hb hE.1 hP 4 3 rfl rfl (vp_in_nI (by omega) (by omega)) d_Md_lookData_94 ?_
      rw [nI_clamp (n := e240_) (by omega), hbe240, show z240_ = x2 from by rw [hexx] at hg240; exact (congrArg Prod.snd (Option.some.inj hg240)).symm]
      refine va_put (D := D) (ci := 6) (v := .int (nI x2)) (ty := .int) (C := R_Md) (T := F_Md) (N := 44) hx hb hts (fun w h => List.mem_cons_of_mem _ (i_Md w h)) t_Md tk_Md n_Md hown hE.1 hP hD hS 0 rfl rfl 43 (by decide) (hts _ (List.mem_cons_of_mem _ iw3_97)) (fun _ h9 => h9) rfl (by decide +kernel) rfl rfl (Nat.le_of_ble_eq_true rfl) d_Md_lookData_95 (fun H locs hP hD hS => ?_)
      have hP : va_P D cls [(m0, .inr (6, mF g (K.1, K.2.1, K.2.2.1, K.2.2.2.1, nI X.length, K.2.2.2.2.2.1, K.2.2.2.2.2.2.1, K.2.2.2.2.2.2.2.1, nI x2) A0 e np B)), ((g 30), .inl (cA 3, 2000, .inl yb)), ((g 38), .inl (cA 3, 2000, .inl ow)), ((g 39), .inl (cA 3, 2000, .inl fi)), ((g 40), .inl (cA 3, 2000, .inl be))] H := hP
      have hD : va_D A [(m0, .inr (6, mF g (K.1, K.2.1, K.2.2.1, K.2.2.2.1, nI X.length, K.2.2.2.2.2.1, K.2.2.2.2.2.2.1, K.2.2.2.2.2.2.2.1, nI x2) A0 e np B)), ((g 30), .inl (cA 3, 2000, .inl yb)), ((g 38), .inl (cA 3, 2000, .inl ow)), ((g 39), .inl (cA 3, 2000, .inl fi)), ((g 40), .inl (cA 3, 2000, .inl be))] := hD
      refine lv_aload_n hx hb d_Md_lookData_98 rfl (lv_at hl 2 rfl) ?_
      refine cV (As := []) (rest := []) (n := 0) (wc := [(m0, .inr (6, mF g (K.1, K.2.1, K.2.2.1, K.2.2.2.1, nI X.length, K.2.2.2.2.2.1, K.2.2.2.2.2.2.1, K.2.2.2.2.2.2.2.1, nI x2) A0 e np B)), ((g 30), .inl (cA 3, 2000, .inl yb))]) (wr := [((g 38), .inl (cA 3, 2000, .inl ow)), ((g 39), .inl (cA 3, 2000, .inl fi)), ((g 40), .inl (cA 3, 2000, .inl be))]) ⟨hx, hb, hml, hown, hts⟩ hno hlocks hl.1 (c_Md_number l hl9 D cA ad H.size m0 g (K.1, K.2.1, K.2.2.1, K.2.2.2.1, nI X.length, K.2.2.2.2.2.1, K.2.2.2.2.2.2.1, K.2.2.2.2.2.2.2.1, nI x2) A0 e np B yb b lm hlm hyb hb9 x2 n_ a3 (by omega) hnn) iw4_132 iw4_134 sel_Md_number iw1_7 iw4_135 (by decide +kernel) rfl ⟨Nat.le_of_ble_eq_true rfl, Nat.le_of_ble_eq_true rfl⟩ ⟨Nat.le_of_ble_eq_true rfl, Nat.le_of_ble_eq_true rfl⟩ rfl (Nat.le_of_ble_eq_true rfl) d_Md_lookData_99 hE hP hD hS hA [0, 1] [2, 3, 4] rfl rfl rfl rfl (by decide) (ci := 6) rfl rfl 0 rfl (fun _ h => h.elim) (fun v_99 u_99 H locs hp_99 hP hD hS => ?_)
      obtain rfl := hp_99
      have hP : va_P D cls [(m0, .inr (6, mF g (K.1, K.2.1, K.2.2.1, K.2.2.2.1, nI X.length, K.2.2.2.2.2.1, K.2.2.2.2.2.2.1, K.2.2.2.2.2.2.2.1, nI a3) A0 e np B)), ((g 30), .inl (cA 3, 2000, .inl yb)), ((g 38), .inl (cA 3, 2000, .inl ow)), ((g 39), .inl (cA 3, 2000, .inl fi)), ((g 40), .inl (cA 3, 2000, .inl be))] H := hP.sub [3, 4, 0, 1, 2] rfl
      have hD : va_D A [(m0, .inr (6, mF g (K.1, K.2.1, K.2.2.1, K.2.2.2.1, nI X.length, K.2.2.2.2.2.1, K.2.2.2.2.2.2.1, K.2.2.2.2.2.2.2.1, nI a3) A0 e np B)), ((g 30), .inl (cA 3, 2000, .inl yb)), ((g 38), .inl (cA 3, 2000, .inl ow)), ((g 39), .inl (cA 3, 2000, .inl fi)), ((g 40), .inl (cA 3, 2000, .inl be))] := hD.sub [3, 4, 0, 1, 2] (by decide) rfl
      refine W.cs (cells' := 0) (slots' := 0) rfl rfl ?_
      refine W.eq (g2 := F0 m 102 ls [.long (lN n_)]) rfl ?_
      refine lv_lstore (lv' := [(7, .long (lN n_)), (5, .long 0), (3, .long (lN 0)), (0, .ref m0), (1, .int (nI t)), (2, .int 3)]) hx hb d_Md_lookData_102 hl (by decide) rfl (fun ls hl => ?_)
      refine lv_iload_n hx hb d_Md_lookData_104 rfl (lv_at hl 5 rfl) ?_
      refine lv_iconst (v := 3) hx hb d_Md_lookData_105 (by decide) ?_
      refine lv_icmp_ne (tgt := 114) hx hb d_Md_lookData_106 (by decide) (fun c_106 => absurd (by decide) c_106) (fun c_106 => ?_)
      refine lv_lload hx hb d_Md_lookData_109 (lv_at hl 0 rfl) ?_
      refine lv_goto (tgt := 131) hx hb d_Md_lookData_111 (by decide) ?_
      exact cRl (nI a3) hx hb hr hlocks d_Md_lookData_131 hS hP hD (rfl) (Nat.le_refl _) (Nat.le_refl _)
    · have hl : lv_has ls 9 [(0, .ref m0), (1, .int (nI t)), (2, .int 4)] := hl
      refine lv_aload_n hx hb d_Md_lookData_0 rfl (lv_at hl 0 rfl) ?_
      refine cV (As := []) (rest := []) (n := 0) (wc := [(m0, .inr (6, mF g (K.1, K.2.1, K.2.2.1, K.2.2.2.1, nI X.length, K.2.2.2.2.2.1, K.2.2.2.2.2.2.1, K.2.2.2.2.2.2.2.1, nI a) A0 e np B)), ((g 30), .inl (cA 3, 2000, .inl yb))]) (wr := [((g 38), .inl (cA 3, 2000, .inl ow)), ((g 39), .inl (cA 3, 2000, .inl fi)), ((g 40), .inl (cA 3, 2000, .inl be))]) ⟨hx, hb, hml, hown, hts⟩ hno hlocks hl.1 (c_Md_number l hl9 D cA ad s.heap.size m0 g (K.1, K.2.1, K.2.2.1, K.2.2.2.1, nI X.length, K.2.2.2.2.2.1, K.2.2.2.2.2.2.1, K.2.2.2.2.2.2.2.1, nI a) A0 e np B yb b lm hlm hyb hb9 a 0 a1 (by omega) hmu) iw4_132 iw4_134 sel_Md_number iw1_7 iw4_135 (by decide +kernel) rfl ⟨Nat.le_of_ble_eq_true rfl, Nat.le_of_ble_eq_true rfl⟩ ⟨Nat.le_of_ble_eq_true rfl, Nat.le_of_ble_eq_true rfl⟩ rfl (Nat.le_of_ble_eq_true rfl) d_Md_lookData_1 hE hP hD hS hA [0, 1] [2, 3, 4] rfl rfl rfl rfl (by decide) (ci := 6) rfl rfl 0 rfl (fun _ h => h.elim) (fun v_1 u_1 H locs hp_1 hP hD hS => ?_)
      obtain rfl := hp_1
      have hP : va_P D cls [(m0, .inr (6, mF g (K.1, K.2.1, K.2.2.1, K.2.2.2.1, nI X.length, K.2.2.2.2.2.1, K.2.2.2.2.2.2.1, K.2.2.2.2.2.2.2.1, nI a1) A0 e np B)), ((g 30), .inl (cA 3, 2000, .inl yb)), ((g 38), .inl (cA 3, 2000, .inl ow)), ((g 39), .inl (cA 3, 2000, .inl fi)), ((g 40), .inl (cA 3, 2000, .inl be))] H := hP.sub [3, 4, 0, 1, 2] rfl
      have hD : va_D A [(m0, .inr (6, mF g (K.1, K.2.1, K.2.2.1, K.2.2.2.1, nI X.length, K.2.2.2.2.2.1, K.2.2.2.2.2.2.1, K.2.2.2.2.2.2.2.1, nI a1) A0 e np B)), ((g 30), .inl (cA 3, 2000, .inl yb)), ((g 38), .inl (cA 3, 2000, .inl ow)), ((g 39), .inl (cA 3, 2000, .inl fi)), ((g 40), .inl (cA 3, 2000, .inl be))] := hD.sub [3, 4, 0, 1, 2] (by decide) rfl
      refine W.cs (cells' := 0) (slots' := 0) rfl rfl ?_
      refine W.eq (g2 := F0 m 4 ls [.long (lN 0)]) rfl ?_
      refine lv_lstore_n (lv' := [(3, .long (lN 0)), (0, .ref m0), (1, .int (nI t)), (2, .int 4)]) hx hb d_Md_lookData_4 rfl hl (by decide) rfl (fun ls hl => ?_)
      refine lv_iload_n hx hb d_Md_lookData_5 rfl (lv_at hl 3 rfl) ?_
      refine lv_if_ne (tgt := 21) hx hb d_Md_lookData_6 (by decide) (fun c_6 => ?_) (fun c_6 => absurd c_6 (by decide))
      refine lv_lload_n hx hb d_Md_lookData_21 rfl (lv_at hl 0 rfl) ?_
      refine lv_ldc2 hx hb hown (hts _ (List.mem_cons_of_mem _ iw4_51)) d_Md_lookData_22 ?_
      refine W.lcmp hx hb d_Md_lookData_25 ?_
      refine lv_if_ne (tgt := 36) hx hb d_Md_lookData_26 (by decide) (fun c_26 => ?_) (fun c_26 => absurd c_26 (by decide +kernel))
      refine lv_lconst (v := 0) hx hb d_Md_lookData_36 (by decide) ?_
      refine lv_lstore (lv' := [(5, .long 0), (3, .long (lN 0)), (0, .ref m0), (1, .int (nI t)), (2, .int 4)]) hx hb d_Md_lookData_37 hl (by decide) rfl (fun ls hl => ?_)
      refine lv_iload_n hx hb d_Md_lookData_39 rfl (lv_at hl 4 rfl) ?_
      refine lv_iconst (v := 2) hx hb d_Md_lookData_40 (by decide) ?_
      refine lv_icmp_ne (tgt := 47) hx hb d_Md_lookData_41 (by decide) (fun c_41 => ?_) (fun c_41 => absurd c_41 (by decide))
      refine lv_iload_n hx hb d_Md_lookData_47 rfl (lv_at hl 4 rfl) ?_
      refine lv_iconst (v := 4) hx hb d_Md_lookData_48 (by decide) ?_
      refine lv_icmp_eq (tgt := 57) hx hb d_Md_lookData_49 (by decide) (fun c_49 => ?_) (fun c_49 => absurd (by decide) c_49)
      refine lv_lload_n hx hb d_Md_lookData_57 rfl (lv_at hl 1 rfl) ?_
      refine lv_lconst (v := 1) hx hb d_Md_lookData_58 (by decide) ?_
      refine W.lcmp hx hb d_Md_lookData_59 ?_
      refine lv_if_ne (tgt := 69) hx hb d_Md_lookData_60 (by decide) (fun c_60 => ?_) (fun c_60 => absurd c_60 (by decide +kernel))
      refine lv_aload_n hx hb d_Md_lookData_69 rfl (lv_at hl 2 rfl) ?_
      refine lv_iload_n hx hb d_Md_lookData_70 rfl (lv_at hl 3 rfl) ?_
      refine lv_iload_n hx hb d_Md_lookData_71 rfl (lv_at hl 4 rfl) ?_
      refine cV (As := [.int (nI t), .int 4]) (rest := []) (n := 2) (wc := [(m0, .inr (6, mF g (K.1, K.2.1, K.2.2.1, K.2.2.2.1, nI X.length, K.2.2.2.2.2.1, K.2.2.2.2.2.2.1, K.2.2.2.2.2.2.2.1, nI a1) A0 e np B)), ((g 38), .inl (cA 3, 2000, .inl ow)), ((g 39), .inl (cA 3, 2000, .inl fi)), ((g 40), .inl (cA 3, 2000, .inl be))]) (wr := [((g 30), .inl (cA 3, 2000, .inl yb))]) ⟨hx, hb, hml, hown, hts⟩ hno hlocks hl.1 (c_Md_placeOf l hl9 D cA ad H.size m0 g (K.1, K.2.1, K.2.2.1, K.2.2.2.1, nI X.length, K.2.2.2.2.2.1, K.2.2.2.2.2.2.1, K.2.2.2.2.2.2.2.1, nI a1) A0 e np B ow fi be X hXH hXf hX t (by omega) a1 x2 [] hexx (4 : Int32)) iw4_152 iw4_154 sel_Md_placeOf iw1_7 iw4_155 (by decide +kernel) rfl ⟨Nat.le_of_ble_eq_true rfl, Nat.le_of_ble_eq_true rfl⟩ ⟨Nat.le_of_ble_eq_true rfl, Nat.le_of_ble_eq_true rfl⟩ rfl (Nat.le_of_ble_eq_true rfl) d_Md_lookData_72 hE hP hD hS hA [0, 2, 3, 4] [1] rfl rfl rfl rfl (by decide) (ci := 6) rfl rfl 0 rfl (fun _ h => h.elim) (fun v_72 u_72 H locs hp_72 hP hD hS => ?_)
      obtain rfl := hp_72
      have hP : va_P D cls [(m0, .inr (6, mF g (K.1, K.2.1, K.2.2.1, K.2.2.2.1, nI X.length, K.2.2.2.2.2.1, K.2.2.2.2.2.2.1, K.2.2.2.2.2.2.2.1, nI a1) A0 e np B)), ((g 30), .inl (cA 3, 2000, .inl yb)), ((g 38), .inl (cA 3, 2000, .inl ow)), ((g 39), .inl (cA 3, 2000, .inl fi)), ((g 40), .inl (cA 3, 2000, .inl be))] H := hP.sub [1, 0, 2, 3, 4] rfl
      have hD : va_D A [(m0, .inr (6, mF g (K.1, K.2.1, K.2.2.1, K.2.2.2.1, nI X.length, K.2.2.2.2.2.1, K.2.2.2.2.2.2.1, K.2.2.2.2.2.2.2.1, nI a1) A0 e np B)), ((g 30), .inl (cA 3, 2000, .inl yb)), ((g 38), .inl (cA 3, 2000, .inl ow)), ((g 39), .inl (cA 3, 2000, .inl fi)), ((g 40), .inl (cA 3, 2000, .inl be))] := hD.sub [1, 0, 2, 3, 4] (by decide) rfl
      refine W.cs (cells' := 0) (slots' := 0) rfl rfl ?_
      refine W.eq (g2 := F0 m 75 ls [.int (if (4 : Int32) = 4 then nI a1 else nI x2)]) rfl ?_
      refine lv_i2l hx hb d_Md_lookData_75 rfl ?_
      rw [if_pos rfl, nI_l (n := a1) (by omega)]
      exact cRl (nI a1) hx hb hr hlocks d_Md_lookData_76 hS hP hD (rfl) (Nat.le_refl _) (Nat.le_refl _)
    · have hl : lv_has ls 9 [(0, .ref m0), (1, .int (nI t)), (2, .int 5)] := hl
      refine lv_aload_n hx hb d_Md_lookData_0 rfl (lv_at hl 0 rfl) ?_
      refine cV (As := []) (rest := []) (n := 0) (wc := [(m0, .inr (6, mF g (K.1, K.2.1, K.2.2.1, K.2.2.2.1, nI X.length, K.2.2.2.2.2.1, K.2.2.2.2.2.2.1, K.2.2.2.2.2.2.2.1, nI a) A0 e np B)), ((g 30), .inl (cA 3, 2000, .inl yb))]) (wr := [((g 38), .inl (cA 3, 2000, .inl ow)), ((g 39), .inl (cA 3, 2000, .inl fi)), ((g 40), .inl (cA 3, 2000, .inl be))]) ⟨hx, hb, hml, hown, hts⟩ hno hlocks hl.1 (c_Md_number l hl9 D cA ad s.heap.size m0 g (K.1, K.2.1, K.2.2.1, K.2.2.2.1, nI X.length, K.2.2.2.2.2.1, K.2.2.2.2.2.2.1, K.2.2.2.2.2.2.2.1, nI a) A0 e np B yb b lm hlm hyb hb9 a 0 a1 (by omega) hmu) iw4_132 iw4_134 sel_Md_number iw1_7 iw4_135 (by decide +kernel) rfl ⟨Nat.le_of_ble_eq_true rfl, Nat.le_of_ble_eq_true rfl⟩ ⟨Nat.le_of_ble_eq_true rfl, Nat.le_of_ble_eq_true rfl⟩ rfl (Nat.le_of_ble_eq_true rfl) d_Md_lookData_1 hE hP hD hS hA [0, 1] [2, 3, 4] rfl rfl rfl rfl (by decide) (ci := 6) rfl rfl 0 rfl (fun _ h => h.elim) (fun v_1 u_1 H locs hp_1 hP hD hS => ?_)
      obtain rfl := hp_1
      have hP : va_P D cls [(m0, .inr (6, mF g (K.1, K.2.1, K.2.2.1, K.2.2.2.1, nI X.length, K.2.2.2.2.2.1, K.2.2.2.2.2.2.1, K.2.2.2.2.2.2.2.1, nI a1) A0 e np B)), ((g 30), .inl (cA 3, 2000, .inl yb)), ((g 38), .inl (cA 3, 2000, .inl ow)), ((g 39), .inl (cA 3, 2000, .inl fi)), ((g 40), .inl (cA 3, 2000, .inl be))] H := hP.sub [3, 4, 0, 1, 2] rfl
      have hD : va_D A [(m0, .inr (6, mF g (K.1, K.2.1, K.2.2.1, K.2.2.2.1, nI X.length, K.2.2.2.2.2.1, K.2.2.2.2.2.2.1, K.2.2.2.2.2.2.2.1, nI a1) A0 e np B)), ((g 30), .inl (cA 3, 2000, .inl yb)), ((g 38), .inl (cA 3, 2000, .inl ow)), ((g 39), .inl (cA 3, 2000, .inl fi)), ((g 40), .inl (cA 3, 2000, .inl be))] := hD.sub [3, 4, 0, 1, 2] (by decide) rfl
      refine W.cs (cells' := 0) (slots' := 0) rfl rfl ?_
      refine W.eq (g2 := F0 m 4 ls [.long (lN 0)]) rfl ?_
      refine lv_lstore_n (lv' := [(3, .long (lN 0)), (0, .ref m0), (1, .int (nI t)), (2, .int 5)]) hx hb d_Md_lookData_4 rfl hl (by decide) rfl (fun ls hl => ?_)
      refine lv_iload_n hx hb d_Md_lookData_5 rfl (lv_at hl 3 rfl) ?_
      refine lv_if_ne (tgt := 21) hx hb d_Md_lookData_6 (by decide) (fun c_6 => ?_) (fun c_6 => absurd c_6 (by decide))
      refine lv_lload_n hx hb d_Md_lookData_21 rfl (lv_at hl 0 rfl) ?_
      refine lv_ldc2 hx hb hown (hts _ (List.mem_cons_of_mem _ iw4_51)) d_Md_lookData_22 ?_
      refine W.lcmp hx hb d_Md_lookData_25 ?_
      refine lv_if_ne (tgt := 36) hx hb d_Md_lookData_26 (by decide) (fun c_26 => ?_) (fun c_26 => absurd c_26 (by decide +kernel))
      refine lv_lconst (v := 0) hx hb d_Md_lookData_36 (by decide) ?_
      refine lv_lstore (lv' := [(5, .long 0), (3, .long (lN 0)), (0, .ref m0), (1, .int (nI t)), (2, .int 5)]) hx hb d_Md_lookData_37 hl (by decide) rfl (fun ls hl => ?_)
      refine lv_iload_n hx hb d_Md_lookData_39 rfl (lv_at hl 4 rfl) ?_
      refine lv_iconst (v := 2) hx hb d_Md_lookData_40 (by decide) ?_
      refine lv_icmp_ne (tgt := 47) hx hb d_Md_lookData_41 (by decide) (fun c_41 => ?_) (fun c_41 => absurd c_41 (by decide))
      refine lv_iload_n hx hb d_Md_lookData_47 rfl (lv_at hl 4 rfl) ?_
      refine lv_iconst (v := 4) hx hb d_Md_lookData_48 (by decide) ?_
      refine lv_icmp_eq (tgt := 57) hx hb d_Md_lookData_49 (by decide) (fun c_49 => absurd c_49 (by decide)) (fun c_49 => ?_)
      refine lv_iload_n hx hb d_Md_lookData_52 rfl (lv_at hl 4 rfl) ?_
      refine lv_iconst (v := 5) hx hb d_Md_lookData_53 (by decide) ?_
      refine lv_icmp_ne (tgt := 77) hx hb d_Md_lookData_54 (by decide) (fun c_54 => absurd (by decide) c_54) (fun c_54 => ?_)
      refine lv_lload_n hx hb d_Md_lookData_57 rfl (lv_at hl 1 rfl) ?_
      refine lv_lconst (v := 1) hx hb d_Md_lookData_58 (by decide) ?_
      refine W.lcmp hx hb d_Md_lookData_59 ?_
      refine lv_if_ne (tgt := 69) hx hb d_Md_lookData_60 (by decide) (fun c_60 => ?_) (fun c_60 => absurd c_60 (by decide +kernel))
      refine lv_aload_n hx hb d_Md_lookData_69 rfl (lv_at hl 2 rfl) ?_
      refine lv_iload_n hx hb d_Md_lookData_70 rfl (lv_at hl 3 rfl) ?_
      refine lv_iload_n hx hb d_Md_lookData_71 rfl (lv_at hl 4 rfl) ?_
      refine cV (As := [.int (nI t), .int 5]) (rest := []) (n := 2) (wc := [(m0, .inr (6, mF g (K.1, K.2.1, K.2.2.1, K.2.2.2.1, nI X.length, K.2.2.2.2.2.1, K.2.2.2.2.2.2.1, K.2.2.2.2.2.2.2.1, nI a1) A0 e np B)), ((g 38), .inl (cA 3, 2000, .inl ow)), ((g 39), .inl (cA 3, 2000, .inl fi)), ((g 40), .inl (cA 3, 2000, .inl be))]) (wr := [((g 30), .inl (cA 3, 2000, .inl yb))]) ⟨hx, hb, hml, hown, hts⟩ hno hlocks hl.1 (c_Md_placeOf l hl9 D cA ad H.size m0 g (K.1, K.2.1, K.2.2.1, K.2.2.2.1, nI X.length, K.2.2.2.2.2.1, K.2.2.2.2.2.2.1, K.2.2.2.2.2.2.2.1, nI a1) A0 e np B ow fi be X hXH hXf hX t (by omega) a1 x2 [] hexx (5 : Int32)) iw4_152 iw4_154 sel_Md_placeOf iw1_7 iw4_155 (by decide +kernel) rfl ⟨Nat.le_of_ble_eq_true rfl, Nat.le_of_ble_eq_true rfl⟩ ⟨Nat.le_of_ble_eq_true rfl, Nat.le_of_ble_eq_true rfl⟩ rfl (Nat.le_of_ble_eq_true rfl) d_Md_lookData_72 hE hP hD hS hA [0, 2, 3, 4] [1] rfl rfl rfl rfl (by decide) (ci := 6) rfl rfl 0 rfl (fun _ h => h.elim) (fun v_72 u_72 H locs hp_72 hP hD hS => ?_)
      obtain rfl := hp_72
      have hP : va_P D cls [(m0, .inr (6, mF g (K.1, K.2.1, K.2.2.1, K.2.2.2.1, nI X.length, K.2.2.2.2.2.1, K.2.2.2.2.2.2.1, K.2.2.2.2.2.2.2.1, nI a1) A0 e np B)), ((g 30), .inl (cA 3, 2000, .inl yb)), ((g 38), .inl (cA 3, 2000, .inl ow)), ((g 39), .inl (cA 3, 2000, .inl fi)), ((g 40), .inl (cA 3, 2000, .inl be))] H := hP.sub [1, 0, 2, 3, 4] rfl
      have hD : va_D A [(m0, .inr (6, mF g (K.1, K.2.1, K.2.2.1, K.2.2.2.1, nI X.length, K.2.2.2.2.2.1, K.2.2.2.2.2.2.1, K.2.2.2.2.2.2.2.1, nI a1) A0 e np B)), ((g 30), .inl (cA 3, 2000, .inl yb)), ((g 38), .inl (cA 3, 2000, .inl ow)), ((g 39), .inl (cA 3, 2000, .inl fi)), ((g 40), .inl (cA 3, 2000, .inl be))] := hD.sub [1, 0, 2, 3, 4] (by decide) rfl
      refine W.cs (cells' := 0) (slots' := 0) rfl rfl ?_
      refine W.eq (g2 := F0 m 75 ls [.int (if (5 : Int32) = 4 then nI a1 else nI x2)]) rfl ?_
      refine lv_i2l hx hb d_Md_lookData_75 rfl ?_
      rw [if_neg (by decide), nI_l (n := x2) (by omega)]
      exact cRl (nI a1) hx hb hr hlocks d_Md_lookData_76 hS hP hD (rfl) (Nat.le_refl _) (Nat.le_refl _)
    · have hl : lv_has ls 9 [(0, .ref m0), (1, .int (nI t)), (2, .int 6)] := hl
      refine lv_aload_n hx hb d_Md_lookData_0 rfl (lv_at hl 0 rfl) ?_
      refine cV (As := []) (rest := []) (n := 0) (wc := [(m0, .inr (6, mF g (K.1, K.2.1, K.2.2.1, K.2.2.2.1, nI X.length, K.2.2.2.2.2.1, K.2.2.2.2.2.2.1, K.2.2.2.2.2.2.2.1, nI a) A0 e np B)), ((g 30), .inl (cA 3, 2000, .inl yb))]) (wr := [((g 38), .inl (cA 3, 2000, .inl ow)), ((g 39), .inl (cA 3, 2000, .inl fi)), ((g 40), .inl (cA 3, 2000, .inl be))]) ⟨hx, hb, hml, hown, hts⟩ hno hlocks hl.1 (c_Md_number l hl9 D cA ad s.heap.size m0 g (K.1, K.2.1, K.2.2.1, K.2.2.2.1, nI X.length, K.2.2.2.2.2.1, K.2.2.2.2.2.2.1, K.2.2.2.2.2.2.2.1, nI a) A0 e np B yb b lm hlm hyb hb9 a 0 a1 (by omega) hmu) iw4_132 iw4_134 sel_Md_number iw1_7 iw4_135 (by decide +kernel) rfl ⟨Nat.le_of_ble_eq_true rfl, Nat.le_of_ble_eq_true rfl⟩ ⟨Nat.le_of_ble_eq_true rfl, Nat.le_of_ble_eq_true rfl⟩ rfl (Nat.le_of_ble_eq_true rfl) d_Md_lookData_1 hE hP hD hS hA [0, 1] [2, 3, 4] rfl rfl rfl rfl (by decide) (ci := 6) rfl rfl 0 rfl (fun _ h => h.elim) (fun v_1 u_1 H locs hp_1 hP hD hS => ?_)
      obtain rfl := hp_1
      have hP : va_P D cls [(m0, .inr (6, mF g (K.1, K.2.1, K.2.2.1, K.2.2.2.1, nI X.length, K.2.2.2.2.2.1, K.2.2.2.2.2.2.1, K.2.2.2.2.2.2.2.1, nI a1) A0 e np B)), ((g 30), .inl (cA 3, 2000, .inl yb)), ((g 38), .inl (cA 3, 2000, .inl ow)), ((g 39), .inl (cA 3, 2000, .inl fi)), ((g 40), .inl (cA 3, 2000, .inl be))] H := hP.sub [3, 4, 0, 1, 2] rfl
      have hD : va_D A [(m0, .inr (6, mF g (K.1, K.2.1, K.2.2.1, K.2.2.2.1, nI X.length, K.2.2.2.2.2.1, K.2.2.2.2.2.2.1, K.2.2.2.2.2.2.2.1, nI a1) A0 e np B)), ((g 30), .inl (cA 3, 2000, .inl yb)), ((g 38), .inl (cA 3, 2000, .inl ow)), ((g 39), .inl (cA 3, 2000, .inl fi)), ((g 40), .inl (cA 3, 2000, .inl be))] := hD.sub [3, 4, 0, 1, 2] (by decide) rfl
      refine W.cs (cells' := 0) (slots' := 0) rfl rfl ?_
      refine W.eq (g2 := F0 m 4 ls [.long (lN 0)]) rfl ?_
      refine lv_lstore_n (lv' := [(3, .long (lN 0)), (0, .ref m0), (1, .int (nI t)), (2, .int 6)]) hx hb d_Md_lookData_4 rfl hl (by decide) rfl (fun ls hl => ?_)
      refine lv_iload_n hx hb d_Md_lookData_5 rfl (lv_at hl 3 rfl) ?_
      refine lv_if_ne (tgt := 21) hx hb d_Md_lookData_6 (by decide) (fun c_6 => ?_) (fun c_6 => absurd c_6 (by decide))
      refine lv_lload_n hx hb d_Md_lookData_21 rfl (lv_at hl 0 rfl) ?_
      refine lv_ldc2 hx hb hown (hts _ (List.mem_cons_of_mem _ iw4_51)) d_Md_lookData_22 ?_
      refine W.lcmp hx hb d_Md_lookData_25 ?_
      refine lv_if_ne (tgt := 36) hx hb d_Md_lookData_26 (by decide) (fun c_26 => ?_) (fun c_26 => absurd c_26 (by decide +kernel))
      refine lv_lconst (v := 0) hx hb d_Md_lookData_36 (by decide) ?_
      refine lv_lstore (lv' := [(5, .long 0), (3, .long (lN 0)), (0, .ref m0), (1, .int (nI t)), (2, .int 6)]) hx hb d_Md_lookData_37 hl (by decide) rfl (fun ls hl => ?_)
      refine lv_iload_n hx hb d_Md_lookData_39 rfl (lv_at hl 4 rfl) ?_
      refine lv_iconst (v := 2) hx hb d_Md_lookData_40 (by decide) ?_
      refine lv_icmp_ne (tgt := 47) hx hb d_Md_lookData_41 (by decide) (fun c_41 => ?_) (fun c_41 => absurd c_41 (by decide))
      refine lv_iload_n hx hb d_Md_lookData_47 rfl (lv_at hl 4 rfl) ?_
      refine lv_iconst (v := 4) hx hb d_Md_lookData_48 (by decide) ?_
      refine lv_icmp_eq (tgt := 57) hx hb d_Md_lookData_49 (by decide) (fun c_49 => absurd c_49 (by decide)) (fun c_49 => ?_)
      refine lv_iload_n hx hb d_Md_lookData_52 rfl (lv_at hl 4 rfl) ?_
      refine lv_iconst (v := 5) hx hb d_Md_lookData_53 (by decide) ?_
      refine lv_icmp_ne (tgt := 77) hx hb d_Md_lookData_54 (by decide) (fun c_54 => ?_) (fun c_54 => absurd c_54 (by decide))
      refine lv_lload_n hx hb d_Md_lookData_77 rfl (lv_at hl 1 rfl) ?_
      refine lv_lconst (v := 1) hx hb d_Md_lookData_78 (by decide) ?_
      refine W.lcmp hx hb d_Md_lookData_79 ?_
      refine lv_if_eq (tgt := 98) hx hb d_Md_lookData_80 (by decide) (fun c_80 => absurd c_80 (by decide +kernel)) (fun c_80 => ?_)
      refine lv_aload_n hx hb d_Md_lookData_83 rfl (lv_at hl 2 rfl) ?_
      refine lv_aload_n hx hb d_Md_lookData_84 rfl (lv_at hl 2 rfl) ?_
      refine va_get (D := D) (ci := 6) (v := .ref (g 40)) (C := R_Md) (T := F_Md) (N := 44) hx hb hts (fun w h => List.mem_cons_of_mem _ (i_Md w h)) hown hE.1 hP 0 rfl rfl 40 (by decide) (hts _ (List.mem_cons_of_mem _ iw3_94)) (fun _ h9 => h9) rfl d_Md_lookData_85 ?_
      refine lv_aload_n hx hb d_Md_lookData_88 rfl (lv_at hl 2 rfl) ?_
      refine lv_iload_n hx hb d_Md_lookData_89 rfl (lv_at hl 3 rfl) ?_
      refine lv_iconst (v := 0) hx hb d_Md_lookData_90 (by decide) ?_
      refine cV (As := [.int (nI t), .int 0]) (rest := [.ref (g 40), .ref m0]) (n := 2) (wc := [(m0, .inr (6, mF g (K.1, K.2.1, K.2.2.1, K.2.2.2.1, nI X.length, K.2.2.2.2.2.1, K.2.2.2.2.2.2.1, K.2.2.2.2.2.2.2.1, nI a1) A0 e np B)), ((g 38), .inl (cA 3, 2000, .inl ow))]) (wr := [((g 30), .inl (cA 3, 2000, .inl yb)), ((g 39), .inl (cA 3, 2000, .inl fi)), ((g 40), .inl (cA 3, 2000, .inl be))]) ⟨hx, hb, hml, hown, hts⟩ hno hlocks hl.1 (c_Md_expressionOf l hl9 D cA ad H.size m0 g (K.1, K.2.1, K.2.2.1, K.2.2.2.1, nI X.length, K.2.2.2.2.2.1, K.2.2.2.2.2.2.1, K.2.2.2.2.2.2.2.1, nI a1) A0 e np B ow fi be X hXH hXf hX t (by omega) 0 (by omega)) iw4_156 iw4_158 sel_Md_expressionOf iw1_7 iw4_159 (by decide +kernel) rfl ⟨Nat.le_of_ble_eq_true rfl, Nat.le_of_ble_eq_true rfl⟩ ⟨Nat.le_of_ble_eq_true rfl, Nat.le_of_ble_eq_true rfl⟩ rfl (Nat.le_of_ble_eq_true rfl) d_Md_lookData_91 hE hP hD hS hA [0, 2] [1, 3, 4] rfl rfl rfl rfl (by decide) (ci := 6) rfl rfl 0 rfl (fun _ h => h.elim) (fun v_91 u_91 H locs hp_91 hP hD hS => ?_)
      rcases hp_91 with ⟨rfl, hno241⟩ | ⟨e241_, f241_, z241_, he241, rfl, hg241, hfi241, hbe241, hfb241, hzb241⟩
      · exact absurd hno241 (by rw [hexx]; simp)
      have hP : va_P D cls [(m0, .inr (6, mF g (K.1, K.2.1, K.2.2.1, K.2.2.2.1, nI X.length, K.2.2.2.2.2.1, K.2.2.2.2.2.2.1, K.2.2.2.2.2.2.2.1, nI a1) A0 e np B)), ((g 30), .inl (cA 3, 2000, .inl yb)), ((g 38), .inl (cA 3, 2000, .inl ow)), ((g 39), .inl (cA 3, 2000, .inl fi)), ((g 40), .inl (cA 3, 2000, .inl be))] H := hP.sub [3, 0, 4, 1, 2] rfl
      have hD : va_D A [(m0, .inr (6, mF g (K.1, K.2.1, K.2.2.1, K.2.2.2.1, nI X.length, K.2.2.2.2.2.1, K.2.2.2.2.2.2.1, K.2.2.2.2.2.2.2.1, nI a1) A0 e np B)), ((g 30), .inl (cA 3, 2000, .inl yb)), ((g 38), .inl (cA 3, 2000, .inl ow)), ((g 39), .inl (cA 3, 2000, .inl fi)), ((g 40), .inl (cA 3, 2000, .inl be))] := hD.sub [3, 0, 4, 1, 2] (by decide) rfl
      refine W.cs (cells' := 0) (slots' := 0) rfl rfl ?_
      refine W.eq (g2 := F0 m 94 ls [.int (nI e241_), .ref (g 40), .ref m0]) rfl ?_
      refine va_iald hx hb hE.1 hP 4 3 rfl rfl (vp_in_nI (by omega) (by omega)) d_Md_lookData_94 ?_
      rw [nI_clamp (n := e241_) (by omega), hbe241, show z241_ = x2 from by rw [hexx] at hg241; exact (congrArg Prod.snd (Option.some.inj hg241)).symm]
      refine va_put (D := D) (ci := 6) (v := .int (nI x2)) (ty := .int) (C := R_Md) (T := F_Md) (N := 44) hx hb hts (fun w h => List.mem_cons_of_mem _ (i_Md w h)) t_Md tk_Md n_Md hown hE.1 hP hD hS 0 rfl rfl 43 (by decide) (hts _ (List.mem_cons_of_mem _ iw3_97)) (fun _ h9 => h9) rfl (by decide +kernel) rfl rfl (Nat.le_of_ble_eq_true rfl) d_Md_lookData_95 (fun H locs hP hD hS => ?_)
      have hP : va_P D cls [(m0, .inr (6, mF g (K.1, K.2.1, K.2.2.1, K.2.2.2.1, nI X.length, K.2.2.2.2.2.1, K.2.2.2.2.2.2.1, K.2.2.2.2.2.2.2.1, nI x2) A0 e np B)), ((g 30), .inl (cA 3, 2000, .inl yb)), ((g 38), .inl (cA 3, 2000, .inl ow)), ((g 39), .inl (cA 3, 2000, .inl fi)), ((g 40), .inl (cA 3, 2000, .inl be))] H := hP
      have hD : va_D A [(m0, .inr (6, mF g (K.1, K.2.1, K.2.2.1, K.2.2.2.1, nI X.length, K.2.2.2.2.2.1, K.2.2.2.2.2.2.1, K.2.2.2.2.2.2.2.1, nI x2) A0 e np B)), ((g 30), .inl (cA 3, 2000, .inl yb)), ((g 38), .inl (cA 3, 2000, .inl ow)), ((g 39), .inl (cA 3, 2000, .inl fi)), ((g 40), .inl (cA 3, 2000, .inl be))] := hD
      refine lv_aload_n hx hb d_Md_lookData_98 rfl (lv_at hl 2 rfl) ?_
      refine cV (As := []) (rest := []) (n := 0) (wc := [(m0, .inr (6, mF g (K.1, K.2.1, K.2.2.1, K.2.2.2.1, nI X.length, K.2.2.2.2.2.1, K.2.2.2.2.2.2.1, K.2.2.2.2.2.2.2.1, nI x2) A0 e np B)), ((g 30), .inl (cA 3, 2000, .inl yb))]) (wr := [((g 38), .inl (cA 3, 2000, .inl ow)), ((g 39), .inl (cA 3, 2000, .inl fi)), ((g 40), .inl (cA 3, 2000, .inl be))]) ⟨hx, hb, hml, hown, hts⟩ hno hlocks hl.1 (c_Md_number l hl9 D cA ad H.size m0 g (K.1, K.2.1, K.2.2.1, K.2.2.2.1, nI X.length, K.2.2.2.2.2.1, K.2.2.2.2.2.2.1, K.2.2.2.2.2.2.2.1, nI x2) A0 e np B yb b lm hlm hyb hb9 x2 n_ a3 (by omega) hnn) iw4_132 iw4_134 sel_Md_number iw1_7 iw4_135 (by decide +kernel) rfl ⟨Nat.le_of_ble_eq_true rfl, Nat.le_of_ble_eq_true rfl⟩ ⟨Nat.le_of_ble_eq_true rfl, Nat.le_of_ble_eq_true rfl⟩ rfl (Nat.le_of_ble_eq_true rfl) d_Md_lookData_99 hE hP hD hS hA [0, 1] [2, 3, 4] rfl rfl rfl rfl (by decide) (ci := 6) rfl rfl 0 rfl (fun _ h => h.elim) (fun v_99 u_99 H locs hp_99 hP hD hS => ?_)
      obtain rfl := hp_99
      have hP : va_P D cls [(m0, .inr (6, mF g (K.1, K.2.1, K.2.2.1, K.2.2.2.1, nI X.length, K.2.2.2.2.2.1, K.2.2.2.2.2.2.1, K.2.2.2.2.2.2.2.1, nI a3) A0 e np B)), ((g 30), .inl (cA 3, 2000, .inl yb)), ((g 38), .inl (cA 3, 2000, .inl ow)), ((g 39), .inl (cA 3, 2000, .inl fi)), ((g 40), .inl (cA 3, 2000, .inl be))] H := hP.sub [3, 4, 0, 1, 2] rfl
      have hD : va_D A [(m0, .inr (6, mF g (K.1, K.2.1, K.2.2.1, K.2.2.2.1, nI X.length, K.2.2.2.2.2.1, K.2.2.2.2.2.2.1, K.2.2.2.2.2.2.2.1, nI a3) A0 e np B)), ((g 30), .inl (cA 3, 2000, .inl yb)), ((g 38), .inl (cA 3, 2000, .inl ow)), ((g 39), .inl (cA 3, 2000, .inl fi)), ((g 40), .inl (cA 3, 2000, .inl be))] := hD.sub [3, 4, 0, 1, 2] (by decide) rfl
      refine W.cs (cells' := 0) (slots' := 0) rfl rfl ?_
      refine W.eq (g2 := F0 m 102 ls [.long (lN n_)]) rfl ?_
      refine lv_lstore (lv' := [(7, .long (lN n_)), (5, .long 0), (3, .long (lN 0)), (0, .ref m0), (1, .int (nI t)), (2, .int 6)]) hx hb d_Md_lookData_102 hl (by decide) rfl (fun ls hl => ?_)
      refine lv_iload_n hx hb d_Md_lookData_104 rfl (lv_at hl 5 rfl) ?_
      refine lv_iconst (v := 3) hx hb d_Md_lookData_105 (by decide) ?_
      refine lv_icmp_ne (tgt := 114) hx hb d_Md_lookData_106 (by decide) (fun c_106 => ?_) (fun c_106 => absurd c_106 (by decide))
      refine lv_iload_n hx hb d_Md_lookData_114 rfl (lv_at hl 5 rfl) ?_
      refine lv_bipush (v := 6) hx hb d_Md_lookData_115 (by decide) ?_
      refine lv_icmp_ne (tgt := 128) hx hb d_Md_lookData_117 (by decide) (fun c_117 => absurd (by decide) c_117) (fun c_117 => ?_)
      refine lv_aload_n hx hb d_Md_lookData_120 rfl (lv_at hl 3 rfl) ?_
      refine va_get (D := D) (ci := 6) (v := .int (nI a3)) (C := R_Md) (T := F_Md) (N := 44) hx hb hts (fun w h => List.mem_cons_of_mem _ (i_Md w h)) hown hE.1 hP 0 rfl rfl 43 (by decide) (hts _ (List.mem_cons_of_mem _ iw3_97)) (fun _ h9 => h9) rfl d_Md_lookData_121 ?_
      refine lv_i2l hx hb d_Md_lookData_124 rfl ?_
      rw [nI_l (n := a3) (by omega)]
      refine lv_goto (tgt := 131) hx hb d_Md_lookData_125 (by decide) ?_
      exact cRl (nI a3) hx hb hr hlocks d_Md_lookData_131 hS hP hD (rfl) (Nat.le_refl _) (Nat.le_refl _)
    · have hl : lv_has ls 9 [(0, .ref m0), (1, .int (nI t)), (2, .int 7)] := hl
      refine lv_aload_n hx hb d_Md_lookData_0 rfl (lv_at hl 0 rfl) ?_
      refine cV (As := []) (rest := []) (n := 0) (wc := [(m0, .inr (6, mF g (K.1, K.2.1, K.2.2.1, K.2.2.2.1, nI X.length, K.2.2.2.2.2.1, K.2.2.2.2.2.2.1, K.2.2.2.2.2.2.2.1, nI a) A0 e np B)), ((g 30), .inl (cA 3, 2000, .inl yb))]) (wr := [((g 38), .inl (cA 3, 2000, .inl ow)), ((g 39), .inl (cA 3, 2000, .inl fi)), ((g 40), .inl (cA 3, 2000, .inl be))]) ⟨hx, hb, hml, hown, hts⟩ hno hlocks hl.1 (c_Md_number l hl9 D cA ad s.heap.size m0 g (K.1, K.2.1, K.2.2.1, K.2.2.2.1, nI X.length, K.2.2.2.2.2.1, K.2.2.2.2.2.2.1, K.2.2.2.2.2.2.2.1, nI a) A0 e np B yb b lm hlm hyb hb9 a 0 a1 (by omega) hmu) iw4_132 iw4_134 sel_Md_number iw1_7 iw4_135 (by decide +kernel) rfl ⟨Nat.le_of_ble_eq_true rfl, Nat.le_of_ble_eq_true rfl⟩ ⟨Nat.le_of_ble_eq_true rfl, Nat.le_of_ble_eq_true rfl⟩ rfl (Nat.le_of_ble_eq_true rfl) d_Md_lookData_1 hE hP hD hS hA [0, 1] [2, 3, 4] rfl rfl rfl rfl (by decide) (ci := 6) rfl rfl 0 rfl (fun _ h => h.elim) (fun v_1 u_1 H locs hp_1 hP hD hS => ?_)
      obtain rfl := hp_1
      have hP : va_P D cls [(m0, .inr (6, mF g (K.1, K.2.1, K.2.2.1, K.2.2.2.1, nI X.length, K.2.2.2.2.2.1, K.2.2.2.2.2.2.1, K.2.2.2.2.2.2.2.1, nI a1) A0 e np B)), ((g 30), .inl (cA 3, 2000, .inl yb)), ((g 38), .inl (cA 3, 2000, .inl ow)), ((g 39), .inl (cA 3, 2000, .inl fi)), ((g 40), .inl (cA 3, 2000, .inl be))] H := hP.sub [3, 4, 0, 1, 2] rfl
      have hD : va_D A [(m0, .inr (6, mF g (K.1, K.2.1, K.2.2.1, K.2.2.2.1, nI X.length, K.2.2.2.2.2.1, K.2.2.2.2.2.2.1, K.2.2.2.2.2.2.2.1, nI a1) A0 e np B)), ((g 30), .inl (cA 3, 2000, .inl yb)), ((g 38), .inl (cA 3, 2000, .inl ow)), ((g 39), .inl (cA 3, 2000, .inl fi)), ((g 40), .inl (cA 3, 2000, .inl be))] := hD.sub [3, 4, 0, 1, 2] (by decide) rfl
      refine W.cs (cells' := 0) (slots' := 0) rfl rfl ?_
      refine W.eq (g2 := F0 m 4 ls [.long (lN 0)]) rfl ?_
      refine lv_lstore_n (lv' := [(3, .long (lN 0)), (0, .ref m0), (1, .int (nI t)), (2, .int 7)]) hx hb d_Md_lookData_4 rfl hl (by decide) rfl (fun ls hl => ?_)
      refine lv_iload_n hx hb d_Md_lookData_5 rfl (lv_at hl 3 rfl) ?_
      refine lv_if_ne (tgt := 21) hx hb d_Md_lookData_6 (by decide) (fun c_6 => ?_) (fun c_6 => absurd c_6 (by decide))
      refine lv_lload_n hx hb d_Md_lookData_21 rfl (lv_at hl 0 rfl) ?_
      refine lv_ldc2 hx hb hown (hts _ (List.mem_cons_of_mem _ iw4_51)) d_Md_lookData_22 ?_
      refine W.lcmp hx hb d_Md_lookData_25 ?_
      refine lv_if_ne (tgt := 36) hx hb d_Md_lookData_26 (by decide) (fun c_26 => ?_) (fun c_26 => absurd c_26 (by decide +kernel))
      refine lv_lconst (v := 0) hx hb d_Md_lookData_36 (by decide) ?_
      refine lv_lstore (lv' := [(5, .long 0), (3, .long (lN 0)), (0, .ref m0), (1, .int (nI t)), (2, .int 7)]) hx hb d_Md_lookData_37 hl (by decide) rfl (fun ls hl => ?_)
      refine lv_iload_n hx hb d_Md_lookData_39 rfl (lv_at hl 4 rfl) ?_
      refine lv_iconst (v := 2) hx hb d_Md_lookData_40 (by decide) ?_
      refine lv_icmp_ne (tgt := 47) hx hb d_Md_lookData_41 (by decide) (fun c_41 => ?_) (fun c_41 => absurd c_41 (by decide))
      refine lv_iload_n hx hb d_Md_lookData_47 rfl (lv_at hl 4 rfl) ?_
      refine lv_iconst (v := 4) hx hb d_Md_lookData_48 (by decide) ?_
      refine lv_icmp_eq (tgt := 57) hx hb d_Md_lookData_49 (by decide) (fun c_49 => absurd c_49 (by decide)) (fun c_49 => ?_)
      refine lv_iload_n hx hb d_Md_lookData_52 rfl (lv_at hl 4 rfl) ?_
      refine lv_iconst (v := 5) hx hb d_Md_lookData_53 (by decide) ?_
      refine lv_icmp_ne (tgt := 77) hx hb d_Md_lookData_54 (by decide) (fun c_54 => ?_) (fun c_54 => absurd c_54 (by decide))
      refine lv_lload_n hx hb d_Md_lookData_77 rfl (lv_at hl 1 rfl) ?_
      refine lv_lconst (v := 1) hx hb d_Md_lookData_78 (by decide) ?_
      refine W.lcmp hx hb d_Md_lookData_79 ?_
      refine lv_if_eq (tgt := 98) hx hb d_Md_lookData_80 (by decide) (fun c_80 => absurd c_80 (by decide +kernel)) (fun c_80 => ?_)
      refine lv_aload_n hx hb d_Md_lookData_83 rfl (lv_at hl 2 rfl) ?_
      refine lv_aload_n hx hb d_Md_lookData_84 rfl (lv_at hl 2 rfl) ?_
      refine va_get (D := D) (ci := 6) (v := .ref (g 40)) (C := R_Md) (T := F_Md) (N := 44) hx hb hts (fun w h => List.mem_cons_of_mem _ (i_Md w h)) hown hE.1 hP 0 rfl rfl 40 (by decide) (hts _ (List.mem_cons_of_mem _ iw3_94)) (fun _ h9 => h9) rfl d_Md_lookData_85 ?_
      refine lv_aload_n hx hb d_Md_lookData_88 rfl (lv_at hl 2 rfl) ?_
      refine lv_iload_n hx hb d_Md_lookData_89 rfl (lv_at hl 3 rfl) ?_
      refine lv_iconst (v := 0) hx hb d_Md_lookData_90 (by decide) ?_
      refine cV (As := [.int (nI t), .int 0]) (rest := [.ref (g 40), .ref m0]) (n := 2) (wc := [(m0, .inr (6, mF g (K.1, K.2.1, K.2.2.1, K.2.2.2.1, nI X.length, K.2.2.2.2.2.1, K.2.2.2.2.2.2.1, K.2.2.2.2.2.2.2.1, nI a1) A0 e np B)), ((g 38), .inl (cA 3, 2000, .inl ow))]) (wr := [((g 30), .inl (cA 3, 2000, .inl yb)), ((g 39), .inl (cA 3, 2000, .inl fi)), ((g 40), .inl (cA 3, 2000, .inl be))]) ⟨hx, hb, hml, hown, hts⟩ hno hlocks hl.1 (c_Md_expressionOf l hl9 D cA ad H.size m0 g (K.1, K.2.1, K.2.2.1, K.2.2.2.1, nI X.length, K.2.2.2.2.2.1, K.2.2.2.2.2.2.1, K.2.2.2.2.2.2.2.1, nI a1) A0 e np B ow fi be X hXH hXf hX t (by omega) 0 (by omega)) iw4_156 iw4_158 sel_Md_expressionOf iw1_7 iw4_159 (by decide +kernel) rfl ⟨Nat.le_of_ble_eq_true rfl, Nat.le_of_ble_eq_true rfl⟩ ⟨Nat.le_of_ble_eq_true rfl, Nat.le_of_ble_eq_true rfl⟩ rfl (Nat.le_of_ble_eq_true rfl) d_Md_lookData_91 hE hP hD hS hA [0, 2] [1, 3, 4] rfl rfl rfl rfl (by decide) (ci := 6) rfl rfl 0 rfl (fun _ h => h.elim) (fun v_91 u_91 H locs hp_91 hP hD hS => ?_)
      rcases hp_91 with ⟨rfl, hno242⟩ | ⟨e242_, f242_, z242_, he242, rfl, hg242, hfi242, hbe242, hfb242, hzb242⟩
      · exact absurd hno242 (by rw [hexx]; simp)
      have hP : va_P D cls [(m0, .inr (6, mF g (K.1, K.2.1, K.2.2.1, K.2.2.2.1, nI X.length, K.2.2.2.2.2.1, K.2.2.2.2.2.2.1, K.2.2.2.2.2.2.2.1, nI a1) A0 e np B)), ((g 30), .inl (cA 3, 2000, .inl yb)), ((g 38), .inl (cA 3, 2000, .inl ow)), ((g 39), .inl (cA 3, 2000, .inl fi)), ((g 40), .inl (cA 3, 2000, .inl be))] H := hP.sub [3, 0, 4, 1, 2] rfl
      have hD : va_D A [(m0, .inr (6, mF g (K.1, K.2.1, K.2.2.1, K.2.2.2.1, nI X.length, K.2.2.2.2.2.1, K.2.2.2.2.2.2.1, K.2.2.2.2.2.2.2.1, nI a1) A0 e np B)), ((g 30), .inl (cA 3, 2000, .inl yb)), ((g 38), .inl (cA 3, 2000, .inl ow)), ((g 39), .inl (cA 3, 2000, .inl fi)), ((g 40), .inl (cA 3, 2000, .inl be))] := hD.sub [3, 0, 4, 1, 2] (by decide) rfl
      refine W.cs (cells' := 0) (slots' := 0) rfl rfl ?_
      refine W.eq (g2 := F0 m 94 ls [.int (nI e242_), .ref (g 40), .ref m0]) rfl ?_
      refine va_iald hx hb hE.1 hP 4 3 rfl rfl (vp_in_nI (by omega) (by omega)) d_Md_lookData_94 ?_
      rw [nI_clamp (n := e242_) (by omega), hbe242, show z242_ = x2 from by rw [hexx] at hg242; exact (congrArg Prod.snd (Option.some.inj hg242)).symm]
      refine va_put (D := D) (ci := 6) (v := .int (nI x2)) (ty := .int) (C := R_Md) (T := F_Md) (N := 44) hx hb hts (fun w h => List.mem_cons_of_mem _ (i_Md w h)) t_Md tk_Md n_Md hown hE.1 hP hD hS 0 rfl rfl 43 (by decide) (hts _ (List.mem_cons_of_mem _ iw3_97)) (fun _ h9 => h9) rfl (by decide +kernel) rfl rfl (Nat.le_of_ble_eq_true rfl) d_Md_lookData_95 (fun H locs hP hD hS => ?_)
      have hP : va_P D cls [(m0, .inr (6, mF g (K.1, K.2.1, K.2.2.1, K.2.2.2.1, nI X.length, K.2.2.2.2.2.1, K.2.2.2.2.2.2.1, K.2.2.2.2.2.2.2.1, nI x2) A0 e np B)), ((g 30), .inl (cA 3, 2000, .inl yb)), ((g 38), .inl (cA 3, 2000, .inl ow)), ((g 39), .inl (cA 3, 2000, .inl fi)), ((g 40), .inl (cA 3, 2000, .inl be))] H := hP
      have hD : va_D A [(m0, .inr (6, mF g (K.1, K.2.1, K.2.2.1, K.2.2.2.1, nI X.length, K.2.2.2.2.2.1, K.2.2.2.2.2.2.1, K.2.2.2.2.2.2.2.1, nI x2) A0 e np B)), ((g 30), .inl (cA 3, 2000, .inl yb)), ((g 38), .inl (cA 3, 2000, .inl ow)), ((g 39), .inl (cA 3, 2000, .inl fi)), ((g 40), .inl (cA 3, 2000, .inl be))] := hD
      refine lv_aload_n hx hb d_Md_lookData_98 rfl (lv_at hl 2 rfl) ?_
      refine cV (As := []) (rest := []) (n := 0) (wc := [(m0, .inr (6, mF g (K.1, K.2.1, K.2.2.1, K.2.2.2.1, nI X.length, K.2.2.2.2.2.1, K.2.2.2.2.2.2.1, K.2.2.2.2.2.2.2.1, nI x2) A0 e np B)), ((g 30), .inl (cA 3, 2000, .inl yb))]) (wr := [((g 38), .inl (cA 3, 2000, .inl ow)), ((g 39), .inl (cA 3, 2000, .inl fi)), ((g 40), .inl (cA 3, 2000, .inl be))]) ⟨hx, hb, hml, hown, hts⟩ hno hlocks hl.1 (c_Md_number l hl9 D cA ad H.size m0 g (K.1, K.2.1, K.2.2.1, K.2.2.2.1, nI X.length, K.2.2.2.2.2.1, K.2.2.2.2.2.2.1, K.2.2.2.2.2.2.2.1, nI x2) A0 e np B yb b lm hlm hyb hb9 x2 n_ a3 (by omega) hnn) iw4_132 iw4_134 sel_Md_number iw1_7 iw4_135 (by decide +kernel) rfl ⟨Nat.le_of_ble_eq_true rfl, Nat.le_of_ble_eq_true rfl⟩ ⟨Nat.le_of_ble_eq_true rfl, Nat.le_of_ble_eq_true rfl⟩ rfl (Nat.le_of_ble_eq_true rfl) d_Md_lookData_99 hE hP hD hS hA [0, 1] [2, 3, 4] rfl rfl rfl rfl (by decide) (ci := 6) rfl rfl 0 rfl (fun _ h => h.elim) (fun v_99 u_99 H locs hp_99 hP hD hS => ?_)
      obtain rfl := hp_99
      have hP : va_P D cls [(m0, .inr (6, mF g (K.1, K.2.1, K.2.2.1, K.2.2.2.1, nI X.length, K.2.2.2.2.2.1, K.2.2.2.2.2.2.1, K.2.2.2.2.2.2.2.1, nI a3) A0 e np B)), ((g 30), .inl (cA 3, 2000, .inl yb)), ((g 38), .inl (cA 3, 2000, .inl ow)), ((g 39), .inl (cA 3, 2000, .inl fi)), ((g 40), .inl (cA 3, 2000, .inl be))] H := hP.sub [3, 4, 0, 1, 2] rfl
      have hD : va_D A [(m0, .inr (6, mF g (K.1, K.2.1, K.2.2.1, K.2.2.2.1, nI X.length, K.2.2.2.2.2.1, K.2.2.2.2.2.2.1, K.2.2.2.2.2.2.2.1, nI a3) A0 e np B)), ((g 30), .inl (cA 3, 2000, .inl yb)), ((g 38), .inl (cA 3, 2000, .inl ow)), ((g 39), .inl (cA 3, 2000, .inl fi)), ((g 40), .inl (cA 3, 2000, .inl be))] := hD.sub [3, 4, 0, 1, 2] (by decide) rfl
      refine W.cs (cells' := 0) (slots' := 0) rfl rfl ?_
      refine W.eq (g2 := F0 m 102 ls [.long (lN n_)]) rfl ?_
      refine lv_lstore (lv' := [(7, .long (lN n_)), (5, .long 0), (3, .long (lN 0)), (0, .ref m0), (1, .int (nI t)), (2, .int 7)]) hx hb d_Md_lookData_102 hl (by decide) rfl (fun ls hl => ?_)
      refine lv_iload_n hx hb d_Md_lookData_104 rfl (lv_at hl 5 rfl) ?_
      refine lv_iconst (v := 3) hx hb d_Md_lookData_105 (by decide) ?_
      refine lv_icmp_ne (tgt := 114) hx hb d_Md_lookData_106 (by decide) (fun c_106 => ?_) (fun c_106 => absurd c_106 (by decide))
      refine lv_iload_n hx hb d_Md_lookData_114 rfl (lv_at hl 5 rfl) ?_
      refine lv_bipush (v := 6) hx hb d_Md_lookData_115 (by decide) ?_
      refine lv_icmp_ne (tgt := 128) hx hb d_Md_lookData_117 (by decide) (fun c_117 => ?_) (fun c_117 => absurd c_117 (by decide))
      refine lv_ldc2 hx hb hown (hts _ (List.mem_cons_of_mem _ iw3_204)) d_Md_lookData_128 ?_
      exact cRl (nI a3) hx hb hr hlocks d_Md_lookData_131 hS hP hD (rfl) (Nat.le_refl _) (Nat.le_refl _)
    · have hl := hl
      refine lv_aload_n hx hb d_Md_lookData_0 rfl (lv_at hl 0 rfl) ?_
      refine cV (As := []) (rest := []) (n := 0) (wc := [(m0, .inr (6, mF g (K.1, K.2.1, K.2.2.1, K.2.2.2.1, nI X.length, K.2.2.2.2.2.1, K.2.2.2.2.2.2.1, K.2.2.2.2.2.2.2.1, nI a) A0 e np B)), ((g 30), .inl (cA 3, 2000, .inl yb))]) (wr := [((g 38), .inl (cA 3, 2000, .inl ow)), ((g 39), .inl (cA 3, 2000, .inl fi)), ((g 40), .inl (cA 3, 2000, .inl be))]) ⟨hx, hb, hml, hown, hts⟩ hno hlocks hl.1 (c_Md_number l hl9 D cA ad s.heap.size m0 g (K.1, K.2.1, K.2.2.1, K.2.2.2.1, nI X.length, K.2.2.2.2.2.1, K.2.2.2.2.2.2.1, K.2.2.2.2.2.2.2.1, nI a) A0 e np B yb b lm hlm hyb hb9 a 0 a1 (by omega) hmu) iw4_132 iw4_134 sel_Md_number iw1_7 iw4_135 (by decide +kernel) rfl ⟨Nat.le_of_ble_eq_true rfl, Nat.le_of_ble_eq_true rfl⟩ ⟨Nat.le_of_ble_eq_true rfl, Nat.le_of_ble_eq_true rfl⟩ rfl (Nat.le_of_ble_eq_true rfl) d_Md_lookData_1 hE hP hD hS hA [0, 1] [2, 3, 4] rfl rfl rfl rfl (by decide) (ci := 6) rfl rfl 0 rfl (fun _ h => h.elim) (fun v_1 u_1 H locs hp_1 hP hD hS => ?_)
      obtain rfl := hp_1
      have hP : va_P D cls [(m0, .inr (6, mF g (K.1, K.2.1, K.2.2.1, K.2.2.2.1, nI X.length, K.2.2.2.2.2.1, K.2.2.2.2.2.2.1, K.2.2.2.2.2.2.2.1, nI a1) A0 e np B)), ((g 30), .inl (cA 3, 2000, .inl yb)), ((g 38), .inl (cA 3, 2000, .inl ow)), ((g 39), .inl (cA 3, 2000, .inl fi)), ((g 40), .inl (cA 3, 2000, .inl be))] H := hP.sub [3, 4, 0, 1, 2] rfl
      have hD : va_D A [(m0, .inr (6, mF g (K.1, K.2.1, K.2.2.1, K.2.2.2.1, nI X.length, K.2.2.2.2.2.1, K.2.2.2.2.2.2.1, K.2.2.2.2.2.2.2.1, nI a1) A0 e np B)), ((g 30), .inl (cA 3, 2000, .inl yb)), ((g 38), .inl (cA 3, 2000, .inl ow)), ((g 39), .inl (cA 3, 2000, .inl fi)), ((g 40), .inl (cA 3, 2000, .inl be))] := hD.sub [3, 4, 0, 1, 2] (by decide) rfl
      refine W.cs (cells' := 0) (slots' := 0) rfl rfl ?_
      refine W.eq (g2 := F0 m 4 ls [.long (lN 0)]) rfl ?_
      refine lv_lstore_n (lv' := [(3, .long (lN 0)), (0, .ref m0), (1, .int (nI t)), (2, .int (nI wh))]) hx hb d_Md_lookData_4 rfl hl (by decide) rfl (fun ls hl => ?_)
      refine lv_iload_n hx hb d_Md_lookData_5 rfl (lv_at hl 3 rfl) ?_
      refine lv_if_ne (tgt := 21) hx hb d_Md_lookData_6 (by decide) (fun c_6 => ?_) (fun c_6 => absurd c_6 (fun q => absurd ((nI_eq (a := wh) (b := 0) (by omega) (by decide)).mp q) (by omega)))
      refine lv_lload_n hx hb d_Md_lookData_21 rfl (lv_at hl 0 rfl) ?_
      refine lv_ldc2 hx hb hown (hts _ (List.mem_cons_of_mem _ iw4_51)) d_Md_lookData_22 ?_
      refine W.lcmp hx hb d_Md_lookData_25 ?_
      refine lv_if_ne (tgt := 36) hx hb d_Md_lookData_26 (by decide) (fun c_26 => ?_) (fun c_26 => absurd c_26 (by decide +kernel))
      refine lv_lconst (v := 0) hx hb d_Md_lookData_36 (by decide) ?_
      refine lv_lstore (lv' := [(5, .long 0), (3, .long (lN 0)), (0, .ref m0), (1, .int (nI t)), (2, .int (nI wh))]) hx hb d_Md_lookData_37 hl (by decide) rfl (fun ls hl => ?_)
      refine lv_iload_n hx hb d_Md_lookData_39 rfl (lv_at hl 4 rfl) ?_
      refine lv_iconst (v := 2) hx hb d_Md_lookData_40 (by decide) ?_
      refine lv_icmp_ne (tgt := 47) hx hb d_Md_lookData_41 (by decide) (fun c_41 => ?_) (fun c_41 => absurd c_41 (fun q => absurd ((nI_eq (a := wh) (b := 2) (by omega) (by decide)).mp q) (by omega)))
      refine lv_iload_n hx hb d_Md_lookData_47 rfl (lv_at hl 4 rfl) ?_
      refine lv_iconst (v := 4) hx hb d_Md_lookData_48 (by decide) ?_
      refine lv_icmp_eq (tgt := 57) hx hb d_Md_lookData_49 (by decide) (fun c_49 => absurd c_49 (fun q => absurd ((nI_eq (a := wh) (b := 4) (by omega) (by decide)).mp q) (by omega))) (fun c_49 => ?_)
      refine lv_iload_n hx hb d_Md_lookData_52 rfl (lv_at hl 4 rfl) ?_
      refine lv_iconst (v := 5) hx hb d_Md_lookData_53 (by decide) ?_
      refine lv_icmp_ne (tgt := 77) hx hb d_Md_lookData_54 (by decide) (fun c_54 => ?_) (fun c_54 => absurd c_54 (fun q => absurd ((nI_eq (a := wh) (b := 5) (by omega) (by decide)).mp q) (by omega)))
      refine lv_lload_n hx hb d_Md_lookData_77 rfl (lv_at hl 1 rfl) ?_
      refine lv_lconst (v := 1) hx hb d_Md_lookData_78 (by decide) ?_
      refine W.lcmp hx hb d_Md_lookData_79 ?_
      refine lv_if_eq (tgt := 98) hx hb d_Md_lookData_80 (by decide) (fun c_80 => absurd c_80 (by decide +kernel)) (fun c_80 => ?_)
      refine lv_aload_n hx hb d_Md_lookData_83 rfl (lv_at hl 2 rfl) ?_
      refine lv_aload_n hx hb d_Md_lookData_84 rfl (lv_at hl 2 rfl) ?_
      refine va_get (D := D) (ci := 6) (v := .ref (g 40)) (C := R_Md) (T := F_Md) (N := 44) hx hb hts (fun w h => List.mem_cons_of_mem _ (i_Md w h)) hown hE.1 hP 0 rfl rfl 40 (by decide) (hts _ (List.mem_cons_of_mem _ iw3_94)) (fun _ h9 => h9) rfl d_Md_lookData_85 ?_
      refine lv_aload_n hx hb d_Md_lookData_88 rfl (lv_at hl 2 rfl) ?_
      refine lv_iload_n hx hb d_Md_lookData_89 rfl (lv_at hl 3 rfl) ?_
      refine lv_iconst (v := 0) hx hb d_Md_lookData_90 (by decide) ?_
      refine cV (As := [.int (nI t), .int 0]) (rest := [.ref (g 40), .ref m0]) (n := 2) (wc := [(m0, .inr (6, mF g (K.1, K.2.1, K.2.2.1, K.2.2.2.1, nI X.length, K.2.2.2.2.2.1, K.2.2.2.2.2.2.1, K.2.2.2.2.2.2.2.1, nI a1) A0 e np B)), ((g 38), .inl (cA 3, 2000, .inl ow))]) (wr := [((g 30), .inl (cA 3, 2000, .inl yb)), ((g 39), .inl (cA 3, 2000, .inl fi)), ((g 40), .inl (cA 3, 2000, .inl be))]) ⟨hx, hb, hml, hown, hts⟩ hno hlocks hl.1 (c_Md_expressionOf l hl9 D cA ad H.size m0 g (K.1, K.2.1, K.2.2.1, K.2.2.2.1, nI X.length, K.2.2.2.2.2.1, K.2.2.2.2.2.2.1, K.2.2.2.2.2.2.2.1, nI a1) A0 e np B ow fi be X hXH hXf hX t (by omega) 0 (by omega)) iw4_156 iw4_158 sel_Md_expressionOf iw1_7 iw4_159 (by decide +kernel) rfl ⟨Nat.le_of_ble_eq_true rfl, Nat.le_of_ble_eq_true rfl⟩ ⟨Nat.le_of_ble_eq_true rfl, Nat.le_of_ble_eq_true rfl⟩ rfl (Nat.le_of_ble_eq_true rfl) d_Md_lookData_91 hE hP hD hS hA [0, 2] [1, 3, 4] rfl rfl rfl rfl (by decide) (ci := 6) rfl rfl 0 rfl (fun _ h => h.elim) (fun v_91 u_91 H locs hp_91 hP hD hS => ?_)
      rcases hp_91 with ⟨rfl, hno243⟩ | ⟨e243_, f243_, z243_, he243, rfl, hg243, hfi243, hbe243, hfb243, hzb243⟩
      · exact absurd hno243 (by rw [hexx]; simp)
      have hP : va_P D cls [(m0, .inr (6, mF g (K.1, K.2.1, K.2.2.1, K.2.2.2.1, nI X.length, K.2.2.2.2.2.1, K.2.2.2.2.2.2.1, K.2.2.2.2.2.2.2.1, nI a1) A0 e np B)), ((g 30), .inl (cA 3, 2000, .inl yb)), ((g 38), .inl (cA 3, 2000, .inl ow)), ((g 39), .inl (cA 3, 2000, .inl fi)), ((g 40), .inl (cA 3, 2000, .inl be))] H := hP.sub [3, 0, 4, 1, 2] rfl
      have hD : va_D A [(m0, .inr (6, mF g (K.1, K.2.1, K.2.2.1, K.2.2.2.1, nI X.length, K.2.2.2.2.2.1, K.2.2.2.2.2.2.1, K.2.2.2.2.2.2.2.1, nI a1) A0 e np B)), ((g 30), .inl (cA 3, 2000, .inl yb)), ((g 38), .inl (cA 3, 2000, .inl ow)), ((g 39), .inl (cA 3, 2000, .inl fi)), ((g 40), .inl (cA 3, 2000, .inl be))] := hD.sub [3, 0, 4, 1, 2] (by decide) rfl
      refine W.cs (cells' := 0) (slots' := 0) rfl rfl ?_
      refine W.eq (g2 := F0 m 94 ls [.int (nI e243_), .ref (g 40), .ref m0]) rfl ?_
      refine va_iald hx hb hE.1 hP 4 3 rfl rfl (vp_in_nI (by omega) (by omega)) d_Md_lookData_94 ?_
      rw [nI_clamp (n := e243_) (by omega), hbe243, show z243_ = x2 from by rw [hexx] at hg243; exact (congrArg Prod.snd (Option.some.inj hg243)).symm]
      refine va_put (D := D) (ci := 6) (v := .int (nI x2)) (ty := .int) (C := R_Md) (T := F_Md) (N := 44) hx hb hts (fun w h => List.mem_cons_of_mem _ (i_Md w h)) t_Md tk_Md n_Md hown hE.1 hP hD hS 0 rfl rfl 43 (by decide) (hts _ (List.mem_cons_of_mem _ iw3_97)) (fun _ h9 => h9) rfl (by decide +kernel) rfl rfl (Nat.le_of_ble_eq_true rfl) d_Md_lookData_95 (fun H locs hP hD hS => ?_)
      have hP : va_P D cls [(m0, .inr (6, mF g (K.1, K.2.1, K.2.2.1, K.2.2.2.1, nI X.length, K.2.2.2.2.2.1, K.2.2.2.2.2.2.1, K.2.2.2.2.2.2.2.1, nI x2) A0 e np B)), ((g 30), .inl (cA 3, 2000, .inl yb)), ((g 38), .inl (cA 3, 2000, .inl ow)), ((g 39), .inl (cA 3, 2000, .inl fi)), ((g 40), .inl (cA 3, 2000, .inl be))] H := hP
      have hD : va_D A [(m0, .inr (6, mF g (K.1, K.2.1, K.2.2.1, K.2.2.2.1, nI X.length, K.2.2.2.2.2.1, K.2.2.2.2.2.2.1, K.2.2.2.2.2.2.2.1, nI x2) A0 e np B)), ((g 30), .inl (cA 3, 2000, .inl yb)), ((g 38), .inl (cA 3, 2000, .inl ow)), ((g 39), .inl (cA 3, 2000, .inl fi)), ((g 40), .inl (cA 3, 2000, .inl be))] := hD
      refine lv_aload_n hx hb d_Md_lookData_98 rfl (lv_at hl 2 rfl) ?_
      refine cV (As := []) (rest := []) (n := 0) (wc := [(m0, .inr (6, mF g (K.1, K.2.1, K.2.2.1, K.2.2.2.1, nI X.length, K.2.2.2.2.2.1, K.2.2.2.2.2.2.1, K.2.2.2.2.2.2.2.1, nI x2) A0 e np B)), ((g 30), .inl (cA 3, 2000, .inl yb))]) (wr := [((g 38), .inl (cA 3, 2000, .inl ow)), ((g 39), .inl (cA 3, 2000, .inl fi)), ((g 40), .inl (cA 3, 2000, .inl be))]) ⟨hx, hb, hml, hown, hts⟩ hno hlocks hl.1 (c_Md_number l hl9 D cA ad H.size m0 g (K.1, K.2.1, K.2.2.1, K.2.2.2.1, nI X.length, K.2.2.2.2.2.1, K.2.2.2.2.2.2.1, K.2.2.2.2.2.2.2.1, nI x2) A0 e np B yb b lm hlm hyb hb9 x2 n_ a3 (by omega) hnn) iw4_132 iw4_134 sel_Md_number iw1_7 iw4_135 (by decide +kernel) rfl ⟨Nat.le_of_ble_eq_true rfl, Nat.le_of_ble_eq_true rfl⟩ ⟨Nat.le_of_ble_eq_true rfl, Nat.le_of_ble_eq_true rfl⟩ rfl (Nat.le_of_ble_eq_true rfl) d_Md_lookData_99 hE hP hD hS hA [0, 1] [2, 3, 4] rfl rfl rfl rfl (by decide) (ci := 6) rfl rfl 0 rfl (fun _ h => h.elim) (fun v_99 u_99 H locs hp_99 hP hD hS => ?_)
      obtain rfl := hp_99
      have hP : va_P D cls [(m0, .inr (6, mF g (K.1, K.2.1, K.2.2.1, K.2.2.2.1, nI X.length, K.2.2.2.2.2.1, K.2.2.2.2.2.2.1, K.2.2.2.2.2.2.2.1, nI a3) A0 e np B)), ((g 30), .inl (cA 3, 2000, .inl yb)), ((g 38), .inl (cA 3, 2000, .inl ow)), ((g 39), .inl (cA 3, 2000, .inl fi)), ((g 40), .inl (cA 3, 2000, .inl be))] H := hP.sub [3, 4, 0, 1, 2] rfl
      have hD : va_D A [(m0, .inr (6, mF g (K.1, K.2.1, K.2.2.1, K.2.2.2.1, nI X.length, K.2.2.2.2.2.1, K.2.2.2.2.2.2.1, K.2.2.2.2.2.2.2.1, nI a3) A0 e np B)), ((g 30), .inl (cA 3, 2000, .inl yb)), ((g 38), .inl (cA 3, 2000, .inl ow)), ((g 39), .inl (cA 3, 2000, .inl fi)), ((g 40), .inl (cA 3, 2000, .inl be))] := hD.sub [3, 4, 0, 1, 2] (by decide) rfl
      refine W.cs (cells' := 0) (slots' := 0) rfl rfl ?_
      refine W.eq (g2 := F0 m 102 ls [.long (lN n_)]) rfl ?_
      refine lv_lstore (lv' := [(7, .long (lN n_)), (5, .long 0), (3, .long (lN 0)), (0, .ref m0), (1, .int (nI t)), (2, .int (nI wh))]) hx hb d_Md_lookData_102 hl (by decide) rfl (fun ls hl => ?_)
      refine lv_iload_n hx hb d_Md_lookData_104 rfl (lv_at hl 5 rfl) ?_
      refine lv_iconst (v := 3) hx hb d_Md_lookData_105 (by decide) ?_
      refine lv_icmp_ne (tgt := 114) hx hb d_Md_lookData_106 (by decide) (fun c_106 => ?_) (fun c_106 => absurd c_106 (fun q => absurd ((nI_eq (a := wh) (b := 3) (by omega) (by decide)).mp q) (by omega)))
      refine lv_iload_n hx hb d_Md_lookData_114 rfl (lv_at hl 5 rfl) ?_
      refine lv_bipush (v := 6) hx hb d_Md_lookData_115 (by decide) ?_
      refine lv_icmp_ne (tgt := 128) hx hb d_Md_lookData_117 (by decide) (fun c_117 => ?_) (fun c_117 => absurd c_117 (fun q => absurd ((nI_eq (a := wh) (b := 6) (by omega) (by decide)).mp q) (by omega)))
      refine lv_ldc2 hx hb hown (hts _ (List.mem_cons_of_mem _ iw3_204)) d_Md_lookData_128 ?_
      exact cRl (nI a3) hx hb hr hlocks d_Md_lookData_131 hS hP hD (by rw [lkS, if_pos hw8]; rfl) (Nat.le_refl _) (Nat.le_refl _)
  · obtain ⟨n_, a3, hnn, rfl⟩ := pDatB_inv (hm1 rfl)
    have hu3 := pU32_ok (by omega) hnn
    rcases (show wh = 0 ∨ wh = 1 ∨ wh = 2 ∨ wh = 3 ∨ wh = 4 ∨ wh = 5 ∨ wh = 6 ∨ wh = 7 ∨ 8 ≤ wh by omega) with rfl | rfl | rfl | rfl | rfl | rfl | rfl | rfl | hw8
    · have hl : lv_has ls 9 [(0, .ref m0), (1, .int (nI t)), (2, .int 0)] := hl
      refine lv_aload_n hx hb d_Md_lookData_0 rfl (lv_at hl 0 rfl) ?_
      refine cV (As := []) (rest := []) (n := 0) (wc := [(m0, .inr (6, mF g (K.1, K.2.1, K.2.2.1, K.2.2.2.1, nI X.length, K.2.2.2.2.2.1, K.2.2.2.2.2.2.1, K.2.2.2.2.2.2.2.1, nI a) A0 e np B)), ((g 30), .inl (cA 3, 2000, .inl yb))]) (wr := [((g 38), .inl (cA 3, 2000, .inl ow)), ((g 39), .inl (cA 3, 2000, .inl fi)), ((g 40), .inl (cA 3, 2000, .inl be))]) ⟨hx, hb, hml, hown, hts⟩ hno hlocks hl.1 (c_Md_number l hl9 D cA ad s.heap.size m0 g (K.1, K.2.1, K.2.2.1, K.2.2.2.1, nI X.length, K.2.2.2.2.2.1, K.2.2.2.2.2.2.1, K.2.2.2.2.2.2.2.1, nI a) A0 e np B yb b lm hlm hyb hb9 a 1 a1 (by omega) hmu) iw4_132 iw4_134 sel_Md_number iw1_7 iw4_135 (by decide +kernel) rfl ⟨Nat.le_of_ble_eq_true rfl, Nat.le_of_ble_eq_true rfl⟩ ⟨Nat.le_of_ble_eq_true rfl, Nat.le_of_ble_eq_true rfl⟩ rfl (Nat.le_of_ble_eq_true rfl) d_Md_lookData_1 hE hP hD hS hA [0, 1] [2, 3, 4] rfl rfl rfl rfl (by decide) (ci := 6) rfl rfl 0 rfl (fun _ h => h.elim) (fun v_1 u_1 H locs hp_1 hP hD hS => ?_)
      obtain rfl := hp_1
      have hP : va_P D cls [(m0, .inr (6, mF g (K.1, K.2.1, K.2.2.1, K.2.2.2.1, nI X.length, K.2.2.2.2.2.1, K.2.2.2.2.2.2.1, K.2.2.2.2.2.2.2.1, nI a1) A0 e np B)), ((g 30), .inl (cA 3, 2000, .inl yb)), ((g 38), .inl (cA 3, 2000, .inl ow)), ((g 39), .inl (cA 3, 2000, .inl fi)), ((g 40), .inl (cA 3, 2000, .inl be))] H := hP.sub [3, 4, 0, 1, 2] rfl
      have hD : va_D A [(m0, .inr (6, mF g (K.1, K.2.1, K.2.2.1, K.2.2.2.1, nI X.length, K.2.2.2.2.2.1, K.2.2.2.2.2.2.1, K.2.2.2.2.2.2.2.1, nI a1) A0 e np B)), ((g 30), .inl (cA 3, 2000, .inl yb)), ((g 38), .inl (cA 3, 2000, .inl ow)), ((g 39), .inl (cA 3, 2000, .inl fi)), ((g 40), .inl (cA 3, 2000, .inl be))] := hD.sub [3, 4, 0, 1, 2] (by decide) rfl
      refine W.cs (cells' := 0) (slots' := 0) rfl rfl ?_
      refine W.eq (g2 := F0 m 4 ls [.long (lN 1)]) rfl ?_
      refine lv_lstore_n (lv' := [(3, .long (lN 1)), (0, .ref m0), (1, .int (nI t)), (2, .int 0)]) hx hb d_Md_lookData_4 rfl hl (by decide) rfl (fun ls hl => ?_)
      refine lv_iload_n hx hb d_Md_lookData_5 rfl (lv_at hl 3 rfl) ?_
      refine lv_if_ne (tgt := 21) hx hb d_Md_lookData_6 (by decide) (fun c_6 => absurd (by decide) c_6) (fun c_6 => ?_)
      refine lv_lload_n hx hb d_Md_lookData_9 rfl (lv_at hl 0 rfl) ?_
      refine lv_lconst (v := 1) hx hb d_Md_lookData_10 (by decide) ?_
      refine W.lcmp hx hb d_Md_lookData_11 ?_
      refine lv_if_ne (tgt := 19) hx hb d_Md_lookData_12 (by decide) (fun c_12 => absurd (by decide +kernel) c_12) (fun c_12 => ?_)
      refine lv_lconst (v := 0) hx hb d_Md_lookData_15 (by decide) ?_
      refine lv_goto (tgt := 20) hx hb d_Md_lookData_16 (by decide) ?_
      exact cRl (nI a1) hx hb hr hlocks d_Md_lookData_20 hS hP hD (rfl) (Nat.le_refl _) (Nat.le_refl _)
    · have hl : lv_has ls 9 [(0, .ref m0), (1, .int (nI t)), (2, .int 1)] := hl
      refine lv_aload_n hx hb d_Md_lookData_0 rfl (lv_at hl 0 rfl) ?_
      refine cV (As := []) (rest := []) (n := 0) (wc := [(m0, .inr (6, mF g (K.1, K.2.1, K.2.2.1, K.2.2.2.1, nI X.length, K.2.2.2.2.2.1, K.2.2.2.2.2.2.1, K.2.2.2.2.2.2.2.1, nI a) A0 e np B)), ((g 30), .inl (cA 3, 2000, .inl yb))]) (wr := [((g 38), .inl (cA 3, 2000, .inl ow)), ((g 39), .inl (cA 3, 2000, .inl fi)), ((g 40), .inl (cA 3, 2000, .inl be))]) ⟨hx, hb, hml, hown, hts⟩ hno hlocks hl.1 (c_Md_number l hl9 D cA ad s.heap.size m0 g (K.1, K.2.1, K.2.2.1, K.2.2.2.1, nI X.length, K.2.2.2.2.2.1, K.2.2.2.2.2.2.1, K.2.2.2.2.2.2.2.1, nI a) A0 e np B yb b lm hlm hyb hb9 a 1 a1 (by omega) hmu) iw4_132 iw4_134 sel_Md_number iw1_7 iw4_135 (by decide +kernel) rfl ⟨Nat.le_of_ble_eq_true rfl, Nat.le_of_ble_eq_true rfl⟩ ⟨Nat.le_of_ble_eq_true rfl, Nat.le_of_ble_eq_true rfl⟩ rfl (Nat.le_of_ble_eq_true rfl) d_Md_lookData_1 hE hP hD hS hA [0, 1] [2, 3, 4] rfl rfl rfl rfl (by decide) (ci := 6) rfl rfl 0 rfl (fun _ h => h.elim) (fun v_1 u_1 H locs hp_1 hP hD hS => ?_)
      obtain rfl := hp_1
      have hP : va_P D cls [(m0, .inr (6, mF g (K.1, K.2.1, K.2.2.1, K.2.2.2.1, nI X.length, K.2.2.2.2.2.1, K.2.2.2.2.2.2.1, K.2.2.2.2.2.2.2.1, nI a1) A0 e np B)), ((g 30), .inl (cA 3, 2000, .inl yb)), ((g 38), .inl (cA 3, 2000, .inl ow)), ((g 39), .inl (cA 3, 2000, .inl fi)), ((g 40), .inl (cA 3, 2000, .inl be))] H := hP.sub [3, 4, 0, 1, 2] rfl
      have hD : va_D A [(m0, .inr (6, mF g (K.1, K.2.1, K.2.2.1, K.2.2.2.1, nI X.length, K.2.2.2.2.2.1, K.2.2.2.2.2.2.1, K.2.2.2.2.2.2.2.1, nI a1) A0 e np B)), ((g 30), .inl (cA 3, 2000, .inl yb)), ((g 38), .inl (cA 3, 2000, .inl ow)), ((g 39), .inl (cA 3, 2000, .inl fi)), ((g 40), .inl (cA 3, 2000, .inl be))] := hD.sub [3, 4, 0, 1, 2] (by decide) rfl
      refine W.cs (cells' := 0) (slots' := 0) rfl rfl ?_
      refine W.eq (g2 := F0 m 4 ls [.long (lN 1)]) rfl ?_
      refine lv_lstore_n (lv' := [(3, .long (lN 1)), (0, .ref m0), (1, .int (nI t)), (2, .int 1)]) hx hb d_Md_lookData_4 rfl hl (by decide) rfl (fun ls hl => ?_)
      refine lv_iload_n hx hb d_Md_lookData_5 rfl (lv_at hl 3 rfl) ?_
      refine lv_if_ne (tgt := 21) hx hb d_Md_lookData_6 (by decide) (fun c_6 => ?_) (fun c_6 => absurd c_6 (by decide))
      refine lv_lload_n hx hb d_Md_lookData_21 rfl (lv_at hl 0 rfl) ?_
      refine lv_ldc2 hx hb hown (hts _ (List.mem_cons_of_mem _ iw4_51)) d_Md_lookData_22 ?_
      refine W.lcmp hx hb d_Md_lookData_25 ?_
      refine lv_if_ne (tgt := 36) hx hb d_Md_lookData_26 (by decide) (fun c_26 => ?_) (fun c_26 => absurd c_26 (by decide +kernel))
      refine lv_lconst (v := 0) hx hb d_Md_lookData_36 (by decide) ?_
      refine lv_lstore (lv' := [(5, .long 0), (3, .long (lN 1)), (0, .ref m0), (1, .int (nI t)), (2, .int 1)]) hx hb d_Md_lookData_37 hl (by decide) rfl (fun ls hl => ?_)
      refine lv_iload_n hx hb d_Md_lookData_39 rfl (lv_at hl 4 rfl) ?_
      refine lv_iconst (v := 2) hx hb d_Md_lookData_40 (by decide) ?_
      refine lv_icmp_ne (tgt := 47) hx hb d_Md_lookData_41 (by decide) (fun c_41 => ?_) (fun c_41 => absurd c_41 (by decide))
      refine lv_iload_n hx hb d_Md_lookData_47 rfl (lv_at hl 4 rfl) ?_
      refine lv_iconst (v := 4) hx hb d_Md_lookData_48 (by decide) ?_
      refine lv_icmp_eq (tgt := 57) hx hb d_Md_lookData_49 (by decide) (fun c_49 => absurd c_49 (by decide)) (fun c_49 => ?_)
      refine lv_iload_n hx hb d_Md_lookData_52 rfl (lv_at hl 4 rfl) ?_
      refine lv_iconst (v := 5) hx hb d_Md_lookData_53 (by decide) ?_
      refine lv_icmp_ne (tgt := 77) hx hb d_Md_lookData_54 (by decide) (fun c_54 => ?_) (fun c_54 => absurd c_54 (by decide))
      refine lv_lload_n hx hb d_Md_lookData_77 rfl (lv_at hl 1 rfl) ?_
      refine lv_lconst (v := 1) hx hb d_Md_lookData_78 (by decide) ?_
      refine W.lcmp hx hb d_Md_lookData_79 ?_
      refine lv_if_eq (tgt := 98) hx hb d_Md_lookData_80 (by decide) (fun c_80 => ?_) (fun c_80 => absurd (by decide +kernel) c_80)
      refine lv_aload_n hx hb d_Md_lookData_98 rfl (lv_at hl 2 rfl) ?_
      refine cV (As := []) (rest := []) (n := 0) (wc := [(m0, .inr (6, mF g (K.1, K.2.1, K.2.2.1, K.2.2.2.1, nI X.length, K.2.2.2.2.2.1, K.2.2.2.2.2.2.1, K.2.2.2.2.2.2.2.1, nI a1) A0 e np B)), ((g 30), .inl (cA 3, 2000, .inl yb))]) (wr := [((g 38), .inl (cA 3, 2000, .inl ow)), ((g 39), .inl (cA 3, 2000, .inl fi)), ((g 40), .inl (cA 3, 2000, .inl be))]) ⟨hx, hb, hml, hown, hts⟩ hno hlocks hl.1 (c_Md_number l hl9 D cA ad H.size m0 g (K.1, K.2.1, K.2.2.1, K.2.2.2.1, nI X.length, K.2.2.2.2.2.1, K.2.2.2.2.2.2.1, K.2.2.2.2.2.2.2.1, nI a1) A0 e np B yb b lm hlm hyb hb9 a1 n_ a3 (by omega) hnn) iw4_132 iw4_134 sel_Md_number iw1_7 iw4_135 (by decide +kernel) rfl ⟨Nat.le_of_ble_eq_true rfl, Nat.le_of_ble_eq_true rfl⟩ ⟨Nat.le_of_ble_eq_true rfl, Nat.le_of_ble_eq_true rfl⟩ rfl (Nat.le_of_ble_eq_true rfl) d_Md_lookData_99 hE hP hD hS hA [0, 1] [2, 3, 4] rfl rfl rfl rfl (by decide) (ci := 6) rfl rfl 0 rfl (fun _ h => h.elim) (fun v_99 u_99 H locs hp_99 hP hD hS => ?_)
      obtain rfl := hp_99
      have hP : va_P D cls [(m0, .inr (6, mF g (K.1, K.2.1, K.2.2.1, K.2.2.2.1, nI X.length, K.2.2.2.2.2.1, K.2.2.2.2.2.2.1, K.2.2.2.2.2.2.2.1, nI a3) A0 e np B)), ((g 30), .inl (cA 3, 2000, .inl yb)), ((g 38), .inl (cA 3, 2000, .inl ow)), ((g 39), .inl (cA 3, 2000, .inl fi)), ((g 40), .inl (cA 3, 2000, .inl be))] H := hP.sub [3, 4, 0, 1, 2] rfl
      have hD : va_D A [(m0, .inr (6, mF g (K.1, K.2.1, K.2.2.1, K.2.2.2.1, nI X.length, K.2.2.2.2.2.1, K.2.2.2.2.2.2.1, K.2.2.2.2.2.2.2.1, nI a3) A0 e np B)), ((g 30), .inl (cA 3, 2000, .inl yb)), ((g 38), .inl (cA 3, 2000, .inl ow)), ((g 39), .inl (cA 3, 2000, .inl fi)), ((g 40), .inl (cA 3, 2000, .inl be))] := hD.sub [3, 4, 0, 1, 2] (by decide) rfl
      refine W.cs (cells' := 0) (slots' := 0) rfl rfl ?_
      refine W.eq (g2 := F0 m 102 ls [.long (lN n_)]) rfl ?_
      refine lv_lstore (lv' := [(7, .long (lN n_)), (5, .long 0), (3, .long (lN 1)), (0, .ref m0), (1, .int (nI t)), (2, .int 1)]) hx hb d_Md_lookData_102 hl (by decide) rfl (fun ls hl => ?_)
      refine lv_iload_n hx hb d_Md_lookData_104 rfl (lv_at hl 5 rfl) ?_
      refine lv_iconst (v := 3) hx hb d_Md_lookData_105 (by decide) ?_
      refine lv_icmp_ne (tgt := 114) hx hb d_Md_lookData_106 (by decide) (fun c_106 => ?_) (fun c_106 => absurd c_106 (by decide))
      refine lv_iload_n hx hb d_Md_lookData_114 rfl (lv_at hl 5 rfl) ?_
      refine lv_bipush (v := 6) hx hb d_Md_lookData_115 (by decide) ?_
      refine lv_icmp_ne (tgt := 128) hx hb d_Md_lookData_117 (by decide) (fun c_117 => ?_) (fun c_117 => absurd c_117 (by decide))
      refine lv_ldc2 hx hb hown (hts _ (List.mem_cons_of_mem _ iw3_204)) d_Md_lookData_128 ?_
      exact cRl (nI a3) hx hb hr hlocks d_Md_lookData_131 hS hP hD (rfl) (Nat.le_refl _) (Nat.le_refl _)
    · have hl : lv_has ls 9 [(0, .ref m0), (1, .int (nI t)), (2, .int 2)] := hl
      refine lv_aload_n hx hb d_Md_lookData_0 rfl (lv_at hl 0 rfl) ?_
      refine cV (As := []) (rest := []) (n := 0) (wc := [(m0, .inr (6, mF g (K.1, K.2.1, K.2.2.1, K.2.2.2.1, nI X.length, K.2.2.2.2.2.1, K.2.2.2.2.2.2.1, K.2.2.2.2.2.2.2.1, nI a) A0 e np B)), ((g 30), .inl (cA 3, 2000, .inl yb))]) (wr := [((g 38), .inl (cA 3, 2000, .inl ow)), ((g 39), .inl (cA 3, 2000, .inl fi)), ((g 40), .inl (cA 3, 2000, .inl be))]) ⟨hx, hb, hml, hown, hts⟩ hno hlocks hl.1 (c_Md_number l hl9 D cA ad s.heap.size m0 g (K.1, K.2.1, K.2.2.1, K.2.2.2.1, nI X.length, K.2.2.2.2.2.1, K.2.2.2.2.2.2.1, K.2.2.2.2.2.2.2.1, nI a) A0 e np B yb b lm hlm hyb hb9 a 1 a1 (by omega) hmu) iw4_132 iw4_134 sel_Md_number iw1_7 iw4_135 (by decide +kernel) rfl ⟨Nat.le_of_ble_eq_true rfl, Nat.le_of_ble_eq_true rfl⟩ ⟨Nat.le_of_ble_eq_true rfl, Nat.le_of_ble_eq_true rfl⟩ rfl (Nat.le_of_ble_eq_true rfl) d_Md_lookData_1 hE hP hD hS hA [0, 1] [2, 3, 4] rfl rfl rfl rfl (by decide) (ci := 6) rfl rfl 0 rfl (fun _ h => h.elim) (fun v_1 u_1 H locs hp_1 hP hD hS => ?_)
      obtain rfl := hp_1
      have hP : va_P D cls [(m0, .inr (6, mF g (K.1, K.2.1, K.2.2.1, K.2.2.2.1, nI X.length, K.2.2.2.2.2.1, K.2.2.2.2.2.2.1, K.2.2.2.2.2.2.2.1, nI a1) A0 e np B)), ((g 30), .inl (cA 3, 2000, .inl yb)), ((g 38), .inl (cA 3, 2000, .inl ow)), ((g 39), .inl (cA 3, 2000, .inl fi)), ((g 40), .inl (cA 3, 2000, .inl be))] H := hP.sub [3, 4, 0, 1, 2] rfl
      have hD : va_D A [(m0, .inr (6, mF g (K.1, K.2.1, K.2.2.1, K.2.2.2.1, nI X.length, K.2.2.2.2.2.1, K.2.2.2.2.2.2.1, K.2.2.2.2.2.2.2.1, nI a1) A0 e np B)), ((g 30), .inl (cA 3, 2000, .inl yb)), ((g 38), .inl (cA 3, 2000, .inl ow)), ((g 39), .inl (cA 3, 2000, .inl fi)), ((g 40), .inl (cA 3, 2000, .inl be))] := hD.sub [3, 4, 0, 1, 2] (by decide) rfl
      refine W.cs (cells' := 0) (slots' := 0) rfl rfl ?_
      refine W.eq (g2 := F0 m 4 ls [.long (lN 1)]) rfl ?_
      refine lv_lstore_n (lv' := [(3, .long (lN 1)), (0, .ref m0), (1, .int (nI t)), (2, .int 2)]) hx hb d_Md_lookData_4 rfl hl (by decide) rfl (fun ls hl => ?_)
      refine lv_iload_n hx hb d_Md_lookData_5 rfl (lv_at hl 3 rfl) ?_
      refine lv_if_ne (tgt := 21) hx hb d_Md_lookData_6 (by decide) (fun c_6 => ?_) (fun c_6 => absurd c_6 (by decide))
      refine lv_lload_n hx hb d_Md_lookData_21 rfl (lv_at hl 0 rfl) ?_
      refine lv_ldc2 hx hb hown (hts _ (List.mem_cons_of_mem _ iw4_51)) d_Md_lookData_22 ?_
      refine W.lcmp hx hb d_Md_lookData_25 ?_
      refine lv_if_ne (tgt := 36) hx hb d_Md_lookData_26 (by decide) (fun c_26 => ?_) (fun c_26 => absurd c_26 (by decide +kernel))
      refine lv_lconst (v := 0) hx hb d_Md_lookData_36 (by decide) ?_
      refine lv_lstore (lv' := [(5, .long 0), (3, .long (lN 1)), (0, .ref m0), (1, .int (nI t)), (2, .int 2)]) hx hb d_Md_lookData_37 hl (by decide) rfl (fun ls hl => ?_)
      refine lv_iload_n hx hb d_Md_lookData_39 rfl (lv_at hl 4 rfl) ?_
      refine lv_iconst (v := 2) hx hb d_Md_lookData_40 (by decide) ?_
      refine lv_icmp_ne (tgt := 47) hx hb d_Md_lookData_41 (by decide) (fun c_41 => absurd (by decide) c_41) (fun c_41 => ?_)
      refine lv_lload hx hb d_Md_lookData_44 (lv_at hl 0 rfl) ?_
      exact cRl (nI a1) hx hb hr hlocks d_Md_lookData_46 hS hP hD (rfl) (Nat.le_refl _) (Nat.le_refl _)
    · have hl : lv_has ls 9 [(0, .ref m0), (1, .int (nI t)), (2, .int 3)] := hl
      refine lv_aload_n hx hb d_Md_lookData_0 rfl (lv_at hl 0 rfl) ?_
      refine cV (As := []) (rest := []) (n := 0) (wc := [(m0, .inr (6, mF g (K.1, K.2.1, K.2.2.1, K.2.2.2.1, nI X.length, K.2.2.2.2.2.1, K.2.2.2.2.2.2.1, K.2.2.2.2.2.2.2.1, nI a) A0 e np B)), ((g 30), .inl (cA 3, 2000, .inl yb))]) (wr := [((g 38), .inl (cA 3, 2000, .inl ow)), ((g 39), .inl (cA 3, 2000, .inl fi)), ((g 40), .inl (cA 3, 2000, .inl be))]) ⟨hx, hb, hml, hown, hts⟩ hno hlocks hl.1 (c_Md_number l hl9 D cA ad s.heap.size m0 g (K.1, K.2.1, K.2.2.1, K.2.2.2.1, nI X.length, K.2.2.2.2.2.1, K.2.2.2.2.2.2.1, K.2.2.2.2.2.2.2.1, nI a) A0 e np B yb b lm hlm hyb hb9 a 1 a1 (by omega) hmu) iw4_132 iw4_134 sel_Md_number iw1_7 iw4_135 (by decide +kernel) rfl ⟨Nat.le_of_ble_eq_true rfl, Nat.le_of_ble_eq_true rfl⟩ ⟨Nat.le_of_ble_eq_true rfl, Nat.le_of_ble_eq_true rfl⟩ rfl (Nat.le_of_ble_eq_true rfl) d_Md_lookData_1 hE hP hD hS hA [0, 1] [2, 3, 4] rfl rfl rfl rfl (by decide) (ci := 6) rfl rfl 0 rfl (fun _ h => h.elim) (fun v_1 u_1 H locs hp_1 hP hD hS => ?_)
      obtain rfl := hp_1
      have hP : va_P D cls [(m0, .inr (6, mF g (K.1, K.2.1, K.2.2.1, K.2.2.2.1, nI X.length, K.2.2.2.2.2.1, K.2.2.2.2.2.2.1, K.2.2.2.2.2.2.2.1, nI a1) A0 e np B)), ((g 30), .inl (cA 3, 2000, .inl yb)), ((g 38), .inl (cA 3, 2000, .inl ow)), ((g 39), .inl (cA 3, 2000, .inl fi)), ((g 40), .inl (cA 3, 2000, .inl be))] H := hP.sub [3, 4, 0, 1, 2] rfl
      have hD : va_D A [(m0, .inr (6, mF g (K.1, K.2.1, K.2.2.1, K.2.2.2.1, nI X.length, K.2.2.2.2.2.1, K.2.2.2.2.2.2.1, K.2.2.2.2.2.2.2.1, nI a1) A0 e np B)), ((g 30), .inl (cA 3, 2000, .inl yb)), ((g 38), .inl (cA 3, 2000, .inl ow)), ((g 39), .inl (cA 3, 2000, .inl fi)), ((g 40), .inl (cA 3, 2000, .inl be))] := hD.sub [3, 4, 0, 1, 2] (by decide) rfl
      refine W.cs (cells' := 0) (slots' := 0) rfl rfl ?_
      refine W.eq (g2 := F0 m 4 ls [.long (lN 1)]) rfl ?_
      refine lv_lstore_n (lv' := [(3, .long (lN 1)), (0, .ref m0), (1, .int (nI t)), (2, .int 3)]) hx hb d_Md_lookData_4 rfl hl (by decide) rfl (fun ls hl => ?_)
      refine lv_iload_n hx hb d_Md_lookData_5 rfl (lv_at hl 3 rfl) ?_
      refine lv_if_ne (tgt := 21) hx hb d_Md_lookData_6 (by decide) (fun c_6 => ?_) (fun c_6 => absurd c_6 (by decide))
      refine lv_lload_n hx hb d_Md_lookData_21 rfl (lv_at hl 0 rfl) ?_
      refine lv_ldc2 hx hb hown (hts _ (List.mem_cons_of_mem _ iw4_51)) d_Md_lookData_22 ?_
      refine W.lcmp hx hb d_Md_lookData_25 ?_
      refine lv_if_ne (tgt := 36) hx hb d_Md_lookData_26 (by decide) (fun c_26 => ?_) (fun c_26 => absurd c_26 (by decide +kernel))
      refine lv_lconst (v := 0) hx hb d_Md_lookData_36 (by decide) ?_
      refine lv_lstore (lv' := [(5, .long 0), (3, .long (lN 1)), (0, .ref m0), (1, .int (nI t)), (2, .int 3)]) hx hb d_Md_lookData_37 hl (by decide) rfl (fun ls hl => ?_)
      refine lv_iload_n hx hb d_Md_lookData_39 rfl (lv_at hl 4 rfl) ?_
      refine lv_iconst (v := 2) hx hb d_Md_lookData_40 (by decide) ?_
      refine lv_icmp_ne (tgt := 47) hx hb d_Md_lookData_41 (by decide) (fun c_41 => ?_) (fun c_41 => absurd c_41 (by decide))
      refine lv_iload_n hx hb d_Md_lookData_47 rfl (lv_at hl 4 rfl) ?_
      refine lv_iconst (v := 4) hx hb d_Md_lookData_48 (by decide) ?_
      refine lv_icmp_eq (tgt := 57) hx hb d_Md_lookData_49 (by decide) (fun c_49 => absurd c_49 (by decide)) (fun c_49 => ?_)
      refine lv_iload_n hx hb d_Md_lookData_52 rfl (lv_at hl 4 rfl) ?_
      refine lv_iconst (v := 5) hx hb d_Md_lookData_53 (by decide) ?_
      refine lv_icmp_ne (tgt := 77) hx hb d_Md_lookData_54 (by decide) (fun c_54 => ?_) (fun c_54 => absurd c_54 (by decide))
      refine lv_lload_n hx hb d_Md_lookData_77 rfl (lv_at hl 1 rfl) ?_
      refine lv_lconst (v := 1) hx hb d_Md_lookData_78 (by decide) ?_
      refine W.lcmp hx hb d_Md_lookData_79 ?_
      refine lv_if_eq (tgt := 98) hx hb d_Md_lookData_80 (by decide) (fun c_80 => ?_) (fun c_80 => absurd (by decide +kernel) c_80)
      refine lv_aload_n hx hb d_Md_lookData_98 rfl (lv_at hl 2 rfl) ?_
      refine cV (As := []) (rest := []) (n := 0) (wc := [(m0, .inr (6, mF g (K.1, K.2.1, K.2.2.1, K.2.2.2.1, nI X.length, K.2.2.2.2.2.1, K.2.2.2.2.2.2.1, K.2.2.2.2.2.2.2.1, nI a1) A0 e np B)), ((g 30), .inl (cA 3, 2000, .inl yb))]) (wr := [((g 38), .inl (cA 3, 2000, .inl ow)), ((g 39), .inl (cA 3, 2000, .inl fi)), ((g 40), .inl (cA 3, 2000, .inl be))]) ⟨hx, hb, hml, hown, hts⟩ hno hlocks hl.1 (c_Md_number l hl9 D cA ad H.size m0 g (K.1, K.2.1, K.2.2.1, K.2.2.2.1, nI X.length, K.2.2.2.2.2.1, K.2.2.2.2.2.2.1, K.2.2.2.2.2.2.2.1, nI a1) A0 e np B yb b lm hlm hyb hb9 a1 n_ a3 (by omega) hnn) iw4_132 iw4_134 sel_Md_number iw1_7 iw4_135 (by decide +kernel) rfl ⟨Nat.le_of_ble_eq_true rfl, Nat.le_of_ble_eq_true rfl⟩ ⟨Nat.le_of_ble_eq_true rfl, Nat.le_of_ble_eq_true rfl⟩ rfl (Nat.le_of_ble_eq_true rfl) d_Md_lookData_99 hE hP hD hS hA [0, 1] [2, 3, 4] rfl rfl rfl rfl (by decide) (ci := 6) rfl rfl 0 rfl (fun _ h => h.elim) (fun v_99 u_99 H locs hp_99 hP hD hS => ?_)
      obtain rfl := hp_99
      have hP : va_P D cls [(m0, .inr (6, mF g (K.1, K.2.1, K.2.2.1, K.2.2.2.1, nI X.length, K.2.2.2.2.2.1, K.2.2.2.2.2.2.1, K.2.2.2.2.2.2.2.1, nI a3) A0 e np B)), ((g 30), .inl (cA 3, 2000, .inl yb)), ((g 38), .inl (cA 3, 2000, .inl ow)), ((g 39), .inl (cA 3, 2000, .inl fi)), ((g 40), .inl (cA 3, 2000, .inl be))] H := hP.sub [3, 4, 0, 1, 2] rfl
      have hD : va_D A [(m0, .inr (6, mF g (K.1, K.2.1, K.2.2.1, K.2.2.2.1, nI X.length, K.2.2.2.2.2.1, K.2.2.2.2.2.2.1, K.2.2.2.2.2.2.2.1, nI a3) A0 e np B)), ((g 30), .inl (cA 3, 2000, .inl yb)), ((g 38), .inl (cA 3, 2000, .inl ow)), ((g 39), .inl (cA 3, 2000, .inl fi)), ((g 40), .inl (cA 3, 2000, .inl be))] := hD.sub [3, 4, 0, 1, 2] (by decide) rfl
      refine W.cs (cells' := 0) (slots' := 0) rfl rfl ?_
      refine W.eq (g2 := F0 m 102 ls [.long (lN n_)]) rfl ?_
      refine lv_lstore (lv' := [(7, .long (lN n_)), (5, .long 0), (3, .long (lN 1)), (0, .ref m0), (1, .int (nI t)), (2, .int 3)]) hx hb d_Md_lookData_102 hl (by decide) rfl (fun ls hl => ?_)
      refine lv_iload_n hx hb d_Md_lookData_104 rfl (lv_at hl 5 rfl) ?_
      refine lv_iconst (v := 3) hx hb d_Md_lookData_105 (by decide) ?_
      refine lv_icmp_ne (tgt := 114) hx hb d_Md_lookData_106 (by decide) (fun c_106 => absurd (by decide) c_106) (fun c_106 => ?_)
      refine lv_lload hx hb d_Md_lookData_109 (lv_at hl 0 rfl) ?_
      refine lv_goto (tgt := 131) hx hb d_Md_lookData_111 (by decide) ?_
      exact cRl (nI a3) hx hb hr hlocks d_Md_lookData_131 hS hP hD (rfl) (Nat.le_refl _) (Nat.le_refl _)
    · have hl : lv_has ls 9 [(0, .ref m0), (1, .int (nI t)), (2, .int 4)] := hl
      refine lv_aload_n hx hb d_Md_lookData_0 rfl (lv_at hl 0 rfl) ?_
      refine cV (As := []) (rest := []) (n := 0) (wc := [(m0, .inr (6, mF g (K.1, K.2.1, K.2.2.1, K.2.2.2.1, nI X.length, K.2.2.2.2.2.1, K.2.2.2.2.2.2.1, K.2.2.2.2.2.2.2.1, nI a) A0 e np B)), ((g 30), .inl (cA 3, 2000, .inl yb))]) (wr := [((g 38), .inl (cA 3, 2000, .inl ow)), ((g 39), .inl (cA 3, 2000, .inl fi)), ((g 40), .inl (cA 3, 2000, .inl be))]) ⟨hx, hb, hml, hown, hts⟩ hno hlocks hl.1 (c_Md_number l hl9 D cA ad s.heap.size m0 g (K.1, K.2.1, K.2.2.1, K.2.2.2.1, nI X.length, K.2.2.2.2.2.1, K.2.2.2.2.2.2.1, K.2.2.2.2.2.2.2.1, nI a) A0 e np B yb b lm hlm hyb hb9 a 1 a1 (by omega) hmu) iw4_132 iw4_134 sel_Md_number iw1_7 iw4_135 (by decide +kernel) rfl ⟨Nat.le_of_ble_eq_true rfl, Nat.le_of_ble_eq_true rfl⟩ ⟨Nat.le_of_ble_eq_true rfl, Nat.le_of_ble_eq_true rfl⟩ rfl (Nat.le_of_ble_eq_true rfl) d_Md_lookData_1 hE hP hD hS hA [0, 1] [2, 3, 4] rfl rfl rfl rfl (by decide) (ci := 6) rfl rfl 0 rfl (fun _ h => h.elim) (fun v_1 u_1 H locs hp_1 hP hD hS => ?_)
      obtain rfl := hp_1
      have hP : va_P D cls [(m0, .inr (6, mF g (K.1, K.2.1, K.2.2.1, K.2.2.2.1, nI X.length, K.2.2.2.2.2.1, K.2.2.2.2.2.2.1, K.2.2.2.2.2.2.2.1, nI a1) A0 e np B)), ((g 30), .inl (cA 3, 2000, .inl yb)), ((g 38), .inl (cA 3, 2000, .inl ow)), ((g 39), .inl (cA 3, 2000, .inl fi)), ((g 40), .inl (cA 3, 2000, .inl be))] H := hP.sub [3, 4, 0, 1, 2] rfl
      have hD : va_D A [(m0, .inr (6, mF g (K.1, K.2.1, K.2.2.1, K.2.2.2.1, nI X.length, K.2.2.2.2.2.1, K.2.2.2.2.2.2.1, K.2.2.2.2.2.2.2.1, nI a1) A0 e np B)), ((g 30), .inl (cA 3, 2000, .inl yb)), ((g 38), .inl (cA 3, 2000, .inl ow)), ((g 39), .inl (cA 3, 2000, .inl fi)), ((g 40), .inl (cA 3, 2000, .inl be))] := hD.sub [3, 4, 0, 1, 2] (by decide) rfl
      refine W.cs (cells' := 0) (slots' := 0) rfl rfl ?_
      refine W.eq (g2 := F0 m 4 ls [.long (lN 1)]) rfl ?_
      refine lv_lstore_n (lv' := [(3, .long (lN 1)), (0, .ref m0), (1, .int (nI t)), (2, .int 4)]) hx hb d_Md_lookData_4 rfl hl (by decide) rfl (fun ls hl => ?_)
      refine lv_iload_n hx hb d_Md_lookData_5 rfl (lv_at hl 3 rfl) ?_
      refine lv_if_ne (tgt := 21) hx hb d_Md_lookData_6 (by decide) (fun c_6 => ?_) (fun c_6 => absurd c_6 (by decide))
      refine lv_lload_n hx hb d_Md_lookData_21 rfl (lv_at hl 0 rfl) ?_
      refine lv_ldc2 hx hb hown (hts _ (List.mem_cons_of_mem _ iw4_51)) d_Md_lookData_22 ?_
      refine W.lcmp hx hb d_Md_lookData_25 ?_
      refine lv_if_ne (tgt := 36) hx hb d_Md_lookData_26 (by decide) (fun c_26 => ?_) (fun c_26 => absurd c_26 (by decide +kernel))
      refine lv_lconst (v := 0) hx hb d_Md_lookData_36 (by decide) ?_
      refine lv_lstore (lv' := [(5, .long 0), (3, .long (lN 1)), (0, .ref m0), (1, .int (nI t)), (2, .int 4)]) hx hb d_Md_lookData_37 hl (by decide) rfl (fun ls hl => ?_)
      refine lv_iload_n hx hb d_Md_lookData_39 rfl (lv_at hl 4 rfl) ?_
      refine lv_iconst (v := 2) hx hb d_Md_lookData_40 (by decide) ?_
      refine lv_icmp_ne (tgt := 47) hx hb d_Md_lookData_41 (by decide) (fun c_41 => ?_) (fun c_41 => absurd c_41 (by decide))
      refine lv_iload_n hx hb d_Md_lookData_47 rfl (lv_at hl 4 rfl) ?_
      refine lv_iconst (v := 4) hx hb d_Md_lookData_48 (by decide) ?_
      refine lv_icmp_eq (tgt := 57) hx hb d_Md_lookData_49 (by decide) (fun c_49 => ?_) (fun c_49 => absurd (by decide) c_49)
      refine lv_lload_n hx hb d_Md_lookData_57 rfl (lv_at hl 1 rfl) ?_
      refine lv_lconst (v := 1) hx hb d_Md_lookData_58 (by decide) ?_
      refine W.lcmp hx hb d_Md_lookData_59 ?_
      refine lv_if_ne (tgt := 69) hx hb d_Md_lookData_60 (by decide) (fun c_60 => absurd (by decide +kernel) c_60) (fun c_60 => ?_)
      refine lv_ldc2 hx hb hown (hts _ (List.mem_cons_of_mem _ iw3_204)) d_Md_lookData_63 ?_
      refine lv_goto (tgt := 76) hx hb d_Md_lookData_66 (by decide) ?_
      exact cRl (nI a1) hx hb hr hlocks d_Md_lookData_76 hS hP hD (rfl) (Nat.le_refl _) (Nat.le_refl _)
    · have hl : lv_has ls 9 [(0, .ref m0), (1, .int (nI t)), (2, .int 5)] := hl
      refine lv_aload_n hx hb d_Md_lookData_0 rfl (lv_at hl 0 rfl) ?_
      refine cV (As := []) (rest := []) (n := 0) (wc := [(m0, .inr (6, mF g (K.1, K.2.1, K.2.2.1, K.2.2.2.1, nI X.length, K.2.2.2.2.2.1, K.2.2.2.2.2.2.1, K.2.2.2.2.2.2.2.1, nI a) A0 e np B)), ((g 30), .inl (cA 3, 2000, .inl yb))]) (wr := [((g 38), .inl (cA 3, 2000, .inl ow)), ((g 39), .inl (cA 3, 2000, .inl fi)), ((g 40), .inl (cA 3, 2000, .inl be))]) ⟨hx, hb, hml, hown, hts⟩ hno hlocks hl.1 (c_Md_number l hl9 D cA ad s.heap.size m0 g (K.1, K.2.1, K.2.2.1, K.2.2.2.1, nI X.length, K.2.2.2.2.2.1, K.2.2.2.2.2.2.1, K.2.2.2.2.2.2.2.1, nI a) A0 e np B yb b lm hlm hyb hb9 a 1 a1 (by omega) hmu) iw4_132 iw4_134 sel_Md_number iw1_7 iw4_135 (by decide +kernel) rfl ⟨Nat.le_of_ble_eq_true rfl, Nat.le_of_ble_eq_true rfl⟩ ⟨Nat.le_of_ble_eq_true rfl, Nat.le_of_ble_eq_true rfl⟩ rfl (Nat.le_of_ble_eq_true rfl) d_Md_lookData_1 hE hP hD hS hA [0, 1] [2, 3, 4] rfl rfl rfl rfl (by decide) (ci := 6) rfl rfl 0 rfl (fun _ h => h.elim) (fun v_1 u_1 H locs hp_1 hP hD hS => ?_)
      obtain rfl := hp_1
      have hP : va_P D cls [(m0, .inr (6, mF g (K.1, K.2.1, K.2.2.1, K.2.2.2.1, nI X.length, K.2.2.2.2.2.1, K.2.2.2.2.2.2.1, K.2.2.2.2.2.2.2.1, nI a1) A0 e np B)), ((g 30), .inl (cA 3, 2000, .inl yb)), ((g 38), .inl (cA 3, 2000, .inl ow)), ((g 39), .inl (cA 3, 2000, .inl fi)), ((g 40), .inl (cA 3, 2000, .inl be))] H := hP.sub [3, 4, 0, 1, 2] rfl
      have hD : va_D A [(m0, .inr (6, mF g (K.1, K.2.1, K.2.2.1, K.2.2.2.1, nI X.length, K.2.2.2.2.2.1, K.2.2.2.2.2.2.1, K.2.2.2.2.2.2.2.1, nI a1) A0 e np B)), ((g 30), .inl (cA 3, 2000, .inl yb)), ((g 38), .inl (cA 3, 2000, .inl ow)), ((g 39), .inl (cA 3, 2000, .inl fi)), ((g 40), .inl (cA 3, 2000, .inl be))] := hD.sub [3, 4, 0, 1, 2] (by decide) rfl
      refine W.cs (cells' := 0) (slots' := 0) rfl rfl ?_
      refine W.eq (g2 := F0 m 4 ls [.long (lN 1)]) rfl ?_
      refine lv_lstore_n (lv' := [(3, .long (lN 1)), (0, .ref m0), (1, .int (nI t)), (2, .int 5)]) hx hb d_Md_lookData_4 rfl hl (by decide) rfl (fun ls hl => ?_)
      refine lv_iload_n hx hb d_Md_lookData_5 rfl (lv_at hl 3 rfl) ?_
      refine lv_if_ne (tgt := 21) hx hb d_Md_lookData_6 (by decide) (fun c_6 => ?_) (fun c_6 => absurd c_6 (by decide))
      refine lv_lload_n hx hb d_Md_lookData_21 rfl (lv_at hl 0 rfl) ?_
      refine lv_ldc2 hx hb hown (hts _ (List.mem_cons_of_mem _ iw4_51)) d_Md_lookData_22 ?_
      refine W.lcmp hx hb d_Md_lookData_25 ?_
      refine lv_if_ne (tgt := 36) hx hb d_Md_lookData_26 (by decide) (fun c_26 => ?_) (fun c_26 => absurd c_26 (by decide +kernel))
      refine lv_lconst (v := 0) hx hb d_Md_lookData_36 (by decide) ?_
      refine lv_lstore (lv' := [(5, .long 0), (3, .long (lN 1)), (0, .ref m0), (1, .int (nI t)), (2, .int 5)]) hx hb d_Md_lookData_37 hl (by decide) rfl (fun ls hl => ?_)
      refine lv_iload_n hx hb d_Md_lookData_39 rfl (lv_at hl 4 rfl) ?_
      refine lv_iconst (v := 2) hx hb d_Md_lookData_40 (by decide) ?_
      refine lv_icmp_ne (tgt := 47) hx hb d_Md_lookData_41 (by decide) (fun c_41 => ?_) (fun c_41 => absurd c_41 (by decide))
      refine lv_iload_n hx hb d_Md_lookData_47 rfl (lv_at hl 4 rfl) ?_
      refine lv_iconst (v := 4) hx hb d_Md_lookData_48 (by decide) ?_
      refine lv_icmp_eq (tgt := 57) hx hb d_Md_lookData_49 (by decide) (fun c_49 => absurd c_49 (by decide)) (fun c_49 => ?_)
      refine lv_iload_n hx hb d_Md_lookData_52 rfl (lv_at hl 4 rfl) ?_
      refine lv_iconst (v := 5) hx hb d_Md_lookData_53 (by decide) ?_
      refine lv_icmp_ne (tgt := 77) hx hb d_Md_lookData_54 (by decide) (fun c_54 => absurd (by decide) c_54) (fun c_54 => ?_)
      refine lv_lload_n hx hb d_Md_lookData_57 rfl (lv_at hl 1 rfl) ?_
      refine lv_lconst (v := 1) hx hb d_Md_lookData_58 (by decide) ?_
      refine W.lcmp hx hb d_Md_lookData_59 ?_
      refine lv_if_ne (tgt := 69) hx hb d_Md_lookData_60 (by decide) (fun c_60 => absurd (by decide +kernel) c_60) (fun c_60 => ?_)
      refine lv_ldc2 hx hb hown (hts _ (List.mem_cons_of_mem _ iw3_204)) d_Md_lookData_63 ?_
      refine lv_goto (tgt := 76) hx hb d_Md_lookData_66 (by decide) ?_
      exact cRl (nI a1) hx hb hr hlocks d_Md_lookData_76 hS hP hD (rfl) (Nat.le_refl _) (Nat.le_refl _)
    · have hl : lv_has ls 9 [(0, .ref m0), (1, .int (nI t)), (2, .int 6)] := hl
      refine lv_aload_n hx hb d_Md_lookData_0 rfl (lv_at hl 0 rfl) ?_
      refine cV (As := []) (rest := []) (n := 0) (wc := [(m0, .inr (6, mF g (K.1, K.2.1, K.2.2.1, K.2.2.2.1, nI X.length, K.2.2.2.2.2.1, K.2.2.2.2.2.2.1, K.2.2.2.2.2.2.2.1, nI a) A0 e np B)), ((g 30), .inl (cA 3, 2000, .inl yb))]) (wr := [((g 38), .inl (cA 3, 2000, .inl ow)), ((g 39), .inl (cA 3, 2000, .inl fi)), ((g 40), .inl (cA 3, 2000, .inl be))]) ⟨hx, hb, hml, hown, hts⟩ hno hlocks hl.1 (c_Md_number l hl9 D cA ad s.heap.size m0 g (K.1, K.2.1, K.2.2.1, K.2.2.2.1, nI X.length, K.2.2.2.2.2.1, K.2.2.2.2.2.2.1, K.2.2.2.2.2.2.2.1, nI a) A0 e np B yb b lm hlm hyb hb9 a 1 a1 (by omega) hmu) iw4_132 iw4_134 sel_Md_number iw1_7 iw4_135 (by decide +kernel) rfl ⟨Nat.le_of_ble_eq_true rfl, Nat.le_of_ble_eq_true rfl⟩ ⟨Nat.le_of_ble_eq_true rfl, Nat.le_of_ble_eq_true rfl⟩ rfl (Nat.le_of_ble_eq_true rfl) d_Md_lookData_1 hE hP hD hS hA [0, 1] [2, 3, 4] rfl rfl rfl rfl (by decide) (ci := 6) rfl rfl 0 rfl (fun _ h => h.elim) (fun v_1 u_1 H locs hp_1 hP hD hS => ?_)
      obtain rfl := hp_1
      have hP : va_P D cls [(m0, .inr (6, mF g (K.1, K.2.1, K.2.2.1, K.2.2.2.1, nI X.length, K.2.2.2.2.2.1, K.2.2.2.2.2.2.1, K.2.2.2.2.2.2.2.1, nI a1) A0 e np B)), ((g 30), .inl (cA 3, 2000, .inl yb)), ((g 38), .inl (cA 3, 2000, .inl ow)), ((g 39), .inl (cA 3, 2000, .inl fi)), ((g 40), .inl (cA 3, 2000, .inl be))] H := hP.sub [3, 4, 0, 1, 2] rfl
      have hD : va_D A [(m0, .inr (6, mF g (K.1, K.2.1, K.2.2.1, K.2.2.2.1, nI X.length, K.2.2.2.2.2.1, K.2.2.2.2.2.2.1, K.2.2.2.2.2.2.2.1, nI a1) A0 e np B)), ((g 30), .inl (cA 3, 2000, .inl yb)), ((g 38), .inl (cA 3, 2000, .inl ow)), ((g 39), .inl (cA 3, 2000, .inl fi)), ((g 40), .inl (cA 3, 2000, .inl be))] := hD.sub [3, 4, 0, 1, 2] (by decide) rfl
      refine W.cs (cells' := 0) (slots' := 0) rfl rfl ?_
      refine W.eq (g2 := F0 m 4 ls [.long (lN 1)]) rfl ?_
      refine lv_lstore_n (lv' := [(3, .long (lN 1)), (0, .ref m0), (1, .int (nI t)), (2, .int 6)]) hx hb d_Md_lookData_4 rfl hl (by decide) rfl (fun ls hl => ?_)
      refine lv_iload_n hx hb d_Md_lookData_5 rfl (lv_at hl 3 rfl) ?_
      refine lv_if_ne (tgt := 21) hx hb d_Md_lookData_6 (by decide) (fun c_6 => ?_) (fun c_6 => absurd c_6 (by decide))
      refine lv_lload_n hx hb d_Md_lookData_21 rfl (lv_at hl 0 rfl) ?_
      refine lv_ldc2 hx hb hown (hts _ (List.mem_cons_of_mem _ iw4_51)) d_Md_lookData_22 ?_
      refine W.lcmp hx hb d_Md_lookData_25 ?_
      refine lv_if_ne (tgt := 36) hx hb d_Md_lookData_26 (by decide) (fun c_26 => ?_) (fun c_26 => absurd c_26 (by decide +kernel))
      refine lv_lconst (v := 0) hx hb d_Md_lookData_36 (by decide) ?_
      refine lv_lstore (lv' := [(5, .long 0), (3, .long (lN 1)), (0, .ref m0), (1, .int (nI t)), (2, .int 6)]) hx hb d_Md_lookData_37 hl (by decide) rfl (fun ls hl => ?_)
      refine lv_iload_n hx hb d_Md_lookData_39 rfl (lv_at hl 4 rfl) ?_
      refine lv_iconst (v := 2) hx hb d_Md_lookData_40 (by decide) ?_
      refine lv_icmp_ne (tgt := 47) hx hb d_Md_lookData_41 (by decide) (fun c_41 => ?_) (fun c_41 => absurd c_41 (by decide))
      refine lv_iload_n hx hb d_Md_lookData_47 rfl (lv_at hl 4 rfl) ?_
      refine lv_iconst (v := 4) hx hb d_Md_lookData_48 (by decide) ?_
      refine lv_icmp_eq (tgt := 57) hx hb d_Md_lookData_49 (by decide) (fun c_49 => absurd c_49 (by decide)) (fun c_49 => ?_)
      refine lv_iload_n hx hb d_Md_lookData_52 rfl (lv_at hl 4 rfl) ?_
      refine lv_iconst (v := 5) hx hb d_Md_lookData_53 (by decide) ?_
      refine lv_icmp_ne (tgt := 77) hx hb d_Md_lookData_54 (by decide) (fun c_54 => ?_) (fun c_54 => absurd c_54 (by decide))
      refine lv_lload_n hx hb d_Md_lookData_77 rfl (lv_at hl 1 rfl) ?_
      refine lv_lconst (v := 1) hx hb d_Md_lookData_78 (by decide) ?_
      refine W.lcmp hx hb d_Md_lookData_79 ?_
      refine lv_if_eq (tgt := 98) hx hb d_Md_lookData_80 (by decide) (fun c_80 => ?_) (fun c_80 => absurd (by decide +kernel) c_80)
      refine lv_aload_n hx hb d_Md_lookData_98 rfl (lv_at hl 2 rfl) ?_
      refine cV (As := []) (rest := []) (n := 0) (wc := [(m0, .inr (6, mF g (K.1, K.2.1, K.2.2.1, K.2.2.2.1, nI X.length, K.2.2.2.2.2.1, K.2.2.2.2.2.2.1, K.2.2.2.2.2.2.2.1, nI a1) A0 e np B)), ((g 30), .inl (cA 3, 2000, .inl yb))]) (wr := [((g 38), .inl (cA 3, 2000, .inl ow)), ((g 39), .inl (cA 3, 2000, .inl fi)), ((g 40), .inl (cA 3, 2000, .inl be))]) ⟨hx, hb, hml, hown, hts⟩ hno hlocks hl.1 (c_Md_number l hl9 D cA ad H.size m0 g (K.1, K.2.1, K.2.2.1, K.2.2.2.1, nI X.length, K.2.2.2.2.2.1, K.2.2.2.2.2.2.1, K.2.2.2.2.2.2.2.1, nI a1) A0 e np B yb b lm hlm hyb hb9 a1 n_ a3 (by omega) hnn) iw4_132 iw4_134 sel_Md_number iw1_7 iw4_135 (by decide +kernel) rfl ⟨Nat.le_of_ble_eq_true rfl, Nat.le_of_ble_eq_true rfl⟩ ⟨Nat.le_of_ble_eq_true rfl, Nat.le_of_ble_eq_true rfl⟩ rfl (Nat.le_of_ble_eq_true rfl) d_Md_lookData_99 hE hP hD hS hA [0, 1] [2, 3, 4] rfl rfl rfl rfl (by decide) (ci := 6) rfl rfl 0 rfl (fun _ h => h.elim) (fun v_99 u_99 H locs hp_99 hP hD hS => ?_)
      obtain rfl := hp_99
      have hP : va_P D cls [(m0, .inr (6, mF g (K.1, K.2.1, K.2.2.1, K.2.2.2.1, nI X.length, K.2.2.2.2.2.1, K.2.2.2.2.2.2.1, K.2.2.2.2.2.2.2.1, nI a3) A0 e np B)), ((g 30), .inl (cA 3, 2000, .inl yb)), ((g 38), .inl (cA 3, 2000, .inl ow)), ((g 39), .inl (cA 3, 2000, .inl fi)), ((g 40), .inl (cA 3, 2000, .inl be))] H := hP.sub [3, 4, 0, 1, 2] rfl
      have hD : va_D A [(m0, .inr (6, mF g (K.1, K.2.1, K.2.2.1, K.2.2.2.1, nI X.length, K.2.2.2.2.2.1, K.2.2.2.2.2.2.1, K.2.2.2.2.2.2.2.1, nI a3) A0 e np B)), ((g 30), .inl (cA 3, 2000, .inl yb)), ((g 38), .inl (cA 3, 2000, .inl ow)), ((g 39), .inl (cA 3, 2000, .inl fi)), ((g 40), .inl (cA 3, 2000, .inl be))] := hD.sub [3, 4, 0, 1, 2] (by decide) rfl
      refine W.cs (cells' := 0) (slots' := 0) rfl rfl ?_
      refine W.eq (g2 := F0 m 102 ls [.long (lN n_)]) rfl ?_
      refine lv_lstore (lv' := [(7, .long (lN n_)), (5, .long 0), (3, .long (lN 1)), (0, .ref m0), (1, .int (nI t)), (2, .int 6)]) hx hb d_Md_lookData_102 hl (by decide) rfl (fun ls hl => ?_)
      refine lv_iload_n hx hb d_Md_lookData_104 rfl (lv_at hl 5 rfl) ?_
      refine lv_iconst (v := 3) hx hb d_Md_lookData_105 (by decide) ?_
      refine lv_icmp_ne (tgt := 114) hx hb d_Md_lookData_106 (by decide) (fun c_106 => ?_) (fun c_106 => absurd c_106 (by decide))
      refine lv_iload_n hx hb d_Md_lookData_114 rfl (lv_at hl 5 rfl) ?_
      refine lv_bipush (v := 6) hx hb d_Md_lookData_115 (by decide) ?_
      refine lv_icmp_ne (tgt := 128) hx hb d_Md_lookData_117 (by decide) (fun c_117 => absurd (by decide) c_117) (fun c_117 => ?_)
      refine lv_aload_n hx hb d_Md_lookData_120 rfl (lv_at hl 3 rfl) ?_
      refine va_get (D := D) (ci := 6) (v := .int (nI a3)) (C := R_Md) (T := F_Md) (N := 44) hx hb hts (fun w h => List.mem_cons_of_mem _ (i_Md w h)) hown hE.1 hP 0 rfl rfl 43 (by decide) (hts _ (List.mem_cons_of_mem _ iw3_97)) (fun _ h9 => h9) rfl d_Md_lookData_121 ?_
      refine lv_i2l hx hb d_Md_lookData_124 rfl ?_
      rw [nI_l (n := a3) (by omega)]
      refine lv_goto (tgt := 131) hx hb d_Md_lookData_125 (by decide) ?_
      exact cRl (nI a3) hx hb hr hlocks d_Md_lookData_131 hS hP hD (rfl) (Nat.le_refl _) (Nat.le_refl _)
    · have hl : lv_has ls 9 [(0, .ref m0), (1, .int (nI t)), (2, .int 7)] := hl
      refine lv_aload_n hx hb d_Md_lookData_0 rfl (lv_at hl 0 rfl) ?_
      refine cV (As := []) (rest := []) (n := 0) (wc := [(m0, .inr (6, mF g (K.1, K.2.1, K.2.2.1, K.2.2.2.1, nI X.length, K.2.2.2.2.2.1, K.2.2.2.2.2.2.1, K.2.2.2.2.2.2.2.1, nI a) A0 e np B)), ((g 30), .inl (cA 3, 2000, .inl yb))]) (wr := [((g 38), .inl (cA 3, 2000, .inl ow)), ((g 39), .inl (cA 3, 2000, .inl fi)), ((g 40), .inl (cA 3, 2000, .inl be))]) ⟨hx, hb, hml, hown, hts⟩ hno hlocks hl.1 (c_Md_number l hl9 D cA ad s.heap.size m0 g (K.1, K.2.1, K.2.2.1, K.2.2.2.1, nI X.length, K.2.2.2.2.2.1, K.2.2.2.2.2.2.1, K.2.2.2.2.2.2.2.1, nI a) A0 e np B yb b lm hlm hyb hb9 a 1 a1 (by omega) hmu) iw4_132 iw4_134 sel_Md_number iw1_7 iw4_135 (by decide +kernel) rfl ⟨Nat.le_of_ble_eq_true rfl, Nat.le_of_ble_eq_true rfl⟩ ⟨Nat.le_of_ble_eq_true rfl, Nat.le_of_ble_eq_true rfl⟩ rfl (Nat.le_of_ble_eq_true rfl) d_Md_lookData_1 hE hP hD hS hA [0, 1] [2, 3, 4] rfl rfl rfl rfl (by decide) (ci := 6) rfl rfl 0 rfl (fun _ h => h.elim) (fun v_1 u_1 H locs hp_1 hP hD hS => ?_)
      obtain rfl := hp_1
      have hP : va_P D cls [(m0, .inr (6, mF g (K.1, K.2.1, K.2.2.1, K.2.2.2.1, nI X.length, K.2.2.2.2.2.1, K.2.2.2.2.2.2.1, K.2.2.2.2.2.2.2.1, nI a1) A0 e np B)), ((g 30), .inl (cA 3, 2000, .inl yb)), ((g 38), .inl (cA 3, 2000, .inl ow)), ((g 39), .inl (cA 3, 2000, .inl fi)), ((g 40), .inl (cA 3, 2000, .inl be))] H := hP.sub [3, 4, 0, 1, 2] rfl
      have hD : va_D A [(m0, .inr (6, mF g (K.1, K.2.1, K.2.2.1, K.2.2.2.1, nI X.length, K.2.2.2.2.2.1, K.2.2.2.2.2.2.1, K.2.2.2.2.2.2.2.1, nI a1) A0 e np B)), ((g 30), .inl (cA 3, 2000, .inl yb)), ((g 38), .inl (cA 3, 2000, .inl ow)), ((g 39), .inl (cA 3, 2000, .inl fi)), ((g 40), .inl (cA 3, 2000, .inl be))] := hD.sub [3, 4, 0, 1, 2] (by decide) rfl
      refine W.cs (cells' := 0) (slots' := 0) rfl rfl ?_
      refine W.eq (g2 := F0 m 4 ls [.long (lN 1)]) rfl ?_
      refine lv_lstore_n (lv' := [(3, .long (lN 1)), (0, .ref m0), (1, .int (nI t)), (2, .int 7)]) hx hb d_Md_lookData_4 rfl hl (by decide) rfl (fun ls hl => ?_)
      refine lv_iload_n hx hb d_Md_lookData_5 rfl (lv_at hl 3 rfl) ?_
      refine lv_if_ne (tgt := 21) hx hb d_Md_lookData_6 (by decide) (fun c_6 => ?_) (fun c_6 => absurd c_6 (by decide))
      refine lv_lload_n hx hb d_Md_lookData_21 rfl (lv_at hl 0 rfl) ?_
      refine lv_ldc2 hx hb hown (hts _ (List.mem_cons_of_mem _ iw4_51)) d_Md_lookData_22 ?_
      refine W.lcmp hx hb d_Md_lookData_25 ?_
      refine lv_if_ne (tgt := 36) hx hb d_Md_lookData_26 (by decide) (fun c_26 => ?_) (fun c_26 => absurd c_26 (by decide +kernel))
      refine lv_lconst (v := 0) hx hb d_Md_lookData_36 (by decide) ?_
      refine lv_lstore (lv' := [(5, .long 0), (3, .long (lN 1)), (0, .ref m0), (1, .int (nI t)), (2, .int 7)]) hx hb d_Md_lookData_37 hl (by decide) rfl (fun ls hl => ?_)
      refine lv_iload_n hx hb d_Md_lookData_39 rfl (lv_at hl 4 rfl) ?_
      refine lv_iconst (v := 2) hx hb d_Md_lookData_40 (by decide) ?_
      refine lv_icmp_ne (tgt := 47) hx hb d_Md_lookData_41 (by decide) (fun c_41 => ?_) (fun c_41 => absurd c_41 (by decide))
      refine lv_iload_n hx hb d_Md_lookData_47 rfl (lv_at hl 4 rfl) ?_
      refine lv_iconst (v := 4) hx hb d_Md_lookData_48 (by decide) ?_
      refine lv_icmp_eq (tgt := 57) hx hb d_Md_lookData_49 (by decide) (fun c_49 => absurd c_49 (by decide)) (fun c_49 => ?_)
      refine lv_iload_n hx hb d_Md_lookData_52 rfl (lv_at hl 4 rfl) ?_
      refine lv_iconst (v := 5) hx hb d_Md_lookData_53 (by decide) ?_
      refine lv_icmp_ne (tgt := 77) hx hb d_Md_lookData_54 (by decide) (fun c_54 => ?_) (fun c_54 => absurd c_54 (by decide))
      refine lv_lload_n hx hb d_Md_lookData_77 rfl (lv_at hl 1 rfl) ?_
      refine lv_lconst (v := 1) hx hb d_Md_lookData_78 (by decide) ?_
      refine W.lcmp hx hb d_Md_lookData_79 ?_
      refine lv_if_eq (tgt := 98) hx hb d_Md_lookData_80 (by decide) (fun c_80 => ?_) (fun c_80 => absurd (by decide +kernel) c_80)
      refine lv_aload_n hx hb d_Md_lookData_98 rfl (lv_at hl 2 rfl) ?_
      refine cV (As := []) (rest := []) (n := 0) (wc := [(m0, .inr (6, mF g (K.1, K.2.1, K.2.2.1, K.2.2.2.1, nI X.length, K.2.2.2.2.2.1, K.2.2.2.2.2.2.1, K.2.2.2.2.2.2.2.1, nI a1) A0 e np B)), ((g 30), .inl (cA 3, 2000, .inl yb))]) (wr := [((g 38), .inl (cA 3, 2000, .inl ow)), ((g 39), .inl (cA 3, 2000, .inl fi)), ((g 40), .inl (cA 3, 2000, .inl be))]) ⟨hx, hb, hml, hown, hts⟩ hno hlocks hl.1 (c_Md_number l hl9 D cA ad H.size m0 g (K.1, K.2.1, K.2.2.1, K.2.2.2.1, nI X.length, K.2.2.2.2.2.1, K.2.2.2.2.2.2.1, K.2.2.2.2.2.2.2.1, nI a1) A0 e np B yb b lm hlm hyb hb9 a1 n_ a3 (by omega) hnn) iw4_132 iw4_134 sel_Md_number iw1_7 iw4_135 (by decide +kernel) rfl ⟨Nat.le_of_ble_eq_true rfl, Nat.le_of_ble_eq_true rfl⟩ ⟨Nat.le_of_ble_eq_true rfl, Nat.le_of_ble_eq_true rfl⟩ rfl (Nat.le_of_ble_eq_true rfl) d_Md_lookData_99 hE hP hD hS hA [0, 1] [2, 3, 4] rfl rfl rfl rfl (by decide) (ci := 6) rfl rfl 0 rfl (fun _ h => h.elim) (fun v_99 u_99 H locs hp_99 hP hD hS => ?_)
      obtain rfl := hp_99
      have hP : va_P D cls [(m0, .inr (6, mF g (K.1, K.2.1, K.2.2.1, K.2.2.2.1, nI X.length, K.2.2.2.2.2.1, K.2.2.2.2.2.2.1, K.2.2.2.2.2.2.2.1, nI a3) A0 e np B)), ((g 30), .inl (cA 3, 2000, .inl yb)), ((g 38), .inl (cA 3, 2000, .inl ow)), ((g 39), .inl (cA 3, 2000, .inl fi)), ((g 40), .inl (cA 3, 2000, .inl be))] H := hP.sub [3, 4, 0, 1, 2] rfl
      have hD : va_D A [(m0, .inr (6, mF g (K.1, K.2.1, K.2.2.1, K.2.2.2.1, nI X.length, K.2.2.2.2.2.1, K.2.2.2.2.2.2.1, K.2.2.2.2.2.2.2.1, nI a3) A0 e np B)), ((g 30), .inl (cA 3, 2000, .inl yb)), ((g 38), .inl (cA 3, 2000, .inl ow)), ((g 39), .inl (cA 3, 2000, .inl fi)), ((g 40), .inl (cA 3, 2000, .inl be))] := hD.sub [3, 4, 0, 1, 2] (by decide) rfl
      refine W.cs (cells' := 0) (slots' := 0) rfl rfl ?_
      refine W.eq (g2 := F0 m 102 ls [.long (lN n_)]) rfl ?_
      refine lv_lstore (lv' := [(7, .long (lN n_)), (5, .long 0), (3, .long (lN 1)), (0, .ref m0), (1, .int (nI t)), (2, .int 7)]) hx hb d_Md_lookData_102 hl (by decide) rfl (fun ls hl => ?_)
      refine lv_iload_n hx hb d_Md_lookData_104 rfl (lv_at hl 5 rfl) ?_
      refine lv_iconst (v := 3) hx hb d_Md_lookData_105 (by decide) ?_
      refine lv_icmp_ne (tgt := 114) hx hb d_Md_lookData_106 (by decide) (fun c_106 => ?_) (fun c_106 => absurd c_106 (by decide))
      refine lv_iload_n hx hb d_Md_lookData_114 rfl (lv_at hl 5 rfl) ?_
      refine lv_bipush (v := 6) hx hb d_Md_lookData_115 (by decide) ?_
      refine lv_icmp_ne (tgt := 128) hx hb d_Md_lookData_117 (by decide) (fun c_117 => ?_) (fun c_117 => absurd c_117 (by decide))
      refine lv_ldc2 hx hb hown (hts _ (List.mem_cons_of_mem _ iw3_204)) d_Md_lookData_128 ?_
      exact cRl (nI a3) hx hb hr hlocks d_Md_lookData_131 hS hP hD (rfl) (Nat.le_refl _) (Nat.le_refl _)
    · have hl := hl
      refine lv_aload_n hx hb d_Md_lookData_0 rfl (lv_at hl 0 rfl) ?_
      refine cV (As := []) (rest := []) (n := 0) (wc := [(m0, .inr (6, mF g (K.1, K.2.1, K.2.2.1, K.2.2.2.1, nI X.length, K.2.2.2.2.2.1, K.2.2.2.2.2.2.1, K.2.2.2.2.2.2.2.1, nI a) A0 e np B)), ((g 30), .inl (cA 3, 2000, .inl yb))]) (wr := [((g 38), .inl (cA 3, 2000, .inl ow)), ((g 39), .inl (cA 3, 2000, .inl fi)), ((g 40), .inl (cA 3, 2000, .inl be))]) ⟨hx, hb, hml, hown, hts⟩ hno hlocks hl.1 (c_Md_number l hl9 D cA ad s.heap.size m0 g (K.1, K.2.1, K.2.2.1, K.2.2.2.1, nI X.length, K.2.2.2.2.2.1, K.2.2.2.2.2.2.1, K.2.2.2.2.2.2.2.1, nI a) A0 e np B yb b lm hlm hyb hb9 a 1 a1 (by omega) hmu) iw4_132 iw4_134 sel_Md_number iw1_7 iw4_135 (by decide +kernel) rfl ⟨Nat.le_of_ble_eq_true rfl, Nat.le_of_ble_eq_true rfl⟩ ⟨Nat.le_of_ble_eq_true rfl, Nat.le_of_ble_eq_true rfl⟩ rfl (Nat.le_of_ble_eq_true rfl) d_Md_lookData_1 hE hP hD hS hA [0, 1] [2, 3, 4] rfl rfl rfl rfl (by decide) (ci := 6) rfl rfl 0 rfl (fun _ h => h.elim) (fun v_1 u_1 H locs hp_1 hP hD hS => ?_)
      obtain rfl := hp_1
      have hP : va_P D cls [(m0, .inr (6, mF g (K.1, K.2.1, K.2.2.1, K.2.2.2.1, nI X.length, K.2.2.2.2.2.1, K.2.2.2.2.2.2.1, K.2.2.2.2.2.2.2.1, nI a1) A0 e np B)), ((g 30), .inl (cA 3, 2000, .inl yb)), ((g 38), .inl (cA 3, 2000, .inl ow)), ((g 39), .inl (cA 3, 2000, .inl fi)), ((g 40), .inl (cA 3, 2000, .inl be))] H := hP.sub [3, 4, 0, 1, 2] rfl
      have hD : va_D A [(m0, .inr (6, mF g (K.1, K.2.1, K.2.2.1, K.2.2.2.1, nI X.length, K.2.2.2.2.2.1, K.2.2.2.2.2.2.1, K.2.2.2.2.2.2.2.1, nI a1) A0 e np B)), ((g 30), .inl (cA 3, 2000, .inl yb)), ((g 38), .inl (cA 3, 2000, .inl ow)), ((g 39), .inl (cA 3, 2000, .inl fi)), ((g 40), .inl (cA 3, 2000, .inl be))] := hD.sub [3, 4, 0, 1, 2] (by decide) rfl
      refine W.cs (cells' := 0) (slots' := 0) rfl rfl ?_
      refine W.eq (g2 := F0 m 4 ls [.long (lN 1)]) rfl ?_
      refine lv_lstore_n (lv' := [(3, .long (lN 1)), (0, .ref m0), (1, .int (nI t)), (2, .int (nI wh))]) hx hb d_Md_lookData_4 rfl hl (by decide) rfl (fun ls hl => ?_)
      refine lv_iload_n hx hb d_Md_lookData_5 rfl (lv_at hl 3 rfl) ?_
      refine lv_if_ne (tgt := 21) hx hb d_Md_lookData_6 (by decide) (fun c_6 => ?_) (fun c_6 => absurd c_6 (fun q => absurd ((nI_eq (a := wh) (b := 0) (by omega) (by decide)).mp q) (by omega)))
      refine lv_lload_n hx hb d_Md_lookData_21 rfl (lv_at hl 0 rfl) ?_
      refine lv_ldc2 hx hb hown (hts _ (List.mem_cons_of_mem _ iw4_51)) d_Md_lookData_22 ?_
      refine W.lcmp hx hb d_Md_lookData_25 ?_
      refine lv_if_ne (tgt := 36) hx hb d_Md_lookData_26 (by decide) (fun c_26 => ?_) (fun c_26 => absurd c_26 (by decide +kernel))
      refine lv_lconst (v := 0) hx hb d_Md_lookData_36 (by decide) ?_
      refine lv_lstore (lv' := [(5, .long 0), (3, .long (lN 1)), (0, .ref m0), (1, .int (nI t)), (2, .int (nI wh))]) hx hb d_Md_lookData_37 hl (by decide) rfl (fun ls hl => ?_)
      refine lv_iload_n hx hb d_Md_lookData_39 rfl (lv_at hl 4 rfl) ?_
      refine lv_iconst (v := 2) hx hb d_Md_lookData_40 (by decide) ?_
      refine lv_icmp_ne (tgt := 47) hx hb d_Md_lookData_41 (by decide) (fun c_41 => ?_) (fun c_41 => absurd c_41 (fun q => absurd ((nI_eq (a := wh) (b := 2) (by omega) (by decide)).mp q) (by omega)))
      refine lv_iload_n hx hb d_Md_lookData_47 rfl (lv_at hl 4 rfl) ?_
      refine lv_iconst (v := 4) hx hb d_Md_lookData_48 (by decide) ?_
      refine lv_icmp_eq (tgt := 57) hx hb d_Md_lookData_49 (by decide) (fun c_49 => absurd c_49 (fun q => absurd ((nI_eq (a := wh) (b := 4) (by omega) (by decide)).mp q) (by omega))) (fun c_49 => ?_)
      refine lv_iload_n hx hb d_Md_lookData_52 rfl (lv_at hl 4 rfl) ?_
      refine lv_iconst (v := 5) hx hb d_Md_lookData_53 (by decide) ?_
      refine lv_icmp_ne (tgt := 77) hx hb d_Md_lookData_54 (by decide) (fun c_54 => ?_) (fun c_54 => absurd c_54 (fun q => absurd ((nI_eq (a := wh) (b := 5) (by omega) (by decide)).mp q) (by omega)))
      refine lv_lload_n hx hb d_Md_lookData_77 rfl (lv_at hl 1 rfl) ?_
      refine lv_lconst (v := 1) hx hb d_Md_lookData_78 (by decide) ?_
      refine W.lcmp hx hb d_Md_lookData_79 ?_
      refine lv_if_eq (tgt := 98) hx hb d_Md_lookData_80 (by decide) (fun c_80 => ?_) (fun c_80 => absurd (by decide +kernel) c_80)
      refine lv_aload_n hx hb d_Md_lookData_98 rfl (lv_at hl 2 rfl) ?_
      refine cV (As := []) (rest := []) (n := 0) (wc := [(m0, .inr (6, mF g (K.1, K.2.1, K.2.2.1, K.2.2.2.1, nI X.length, K.2.2.2.2.2.1, K.2.2.2.2.2.2.1, K.2.2.2.2.2.2.2.1, nI a1) A0 e np B)), ((g 30), .inl (cA 3, 2000, .inl yb))]) (wr := [((g 38), .inl (cA 3, 2000, .inl ow)), ((g 39), .inl (cA 3, 2000, .inl fi)), ((g 40), .inl (cA 3, 2000, .inl be))]) ⟨hx, hb, hml, hown, hts⟩ hno hlocks hl.1 (c_Md_number l hl9 D cA ad H.size m0 g (K.1, K.2.1, K.2.2.1, K.2.2.2.1, nI X.length, K.2.2.2.2.2.1, K.2.2.2.2.2.2.1, K.2.2.2.2.2.2.2.1, nI a1) A0 e np B yb b lm hlm hyb hb9 a1 n_ a3 (by omega) hnn) iw4_132 iw4_134 sel_Md_number iw1_7 iw4_135 (by decide +kernel) rfl ⟨Nat.le_of_ble_eq_true rfl, Nat.le_of_ble_eq_true rfl⟩ ⟨Nat.le_of_ble_eq_true rfl, Nat.le_of_ble_eq_true rfl⟩ rfl (Nat.le_of_ble_eq_true rfl) d_Md_lookData_99 hE hP hD hS hA [0, 1] [2, 3, 4] rfl rfl rfl rfl (by decide) (ci := 6) rfl rfl 0 rfl (fun _ h => h.elim) (fun v_99 u_99 H locs hp_99 hP hD hS => ?_)
      obtain rfl := hp_99
      have hP : va_P D cls [(m0, .inr (6, mF g (K.1, K.2.1, K.2.2.1, K.2.2.2.1, nI X.length, K.2.2.2.2.2.1, K.2.2.2.2.2.2.1, K.2.2.2.2.2.2.2.1, nI a3) A0 e np B)), ((g 30), .inl (cA 3, 2000, .inl yb)), ((g 38), .inl (cA 3, 2000, .inl ow)), ((g 39), .inl (cA 3, 2000, .inl fi)), ((g 40), .inl (cA 3, 2000, .inl be))] H := hP.sub [3, 4, 0, 1, 2] rfl
      have hD : va_D A [(m0, .inr (6, mF g (K.1, K.2.1, K.2.2.1, K.2.2.2.1, nI X.length, K.2.2.2.2.2.1, K.2.2.2.2.2.2.1, K.2.2.2.2.2.2.2.1, nI a3) A0 e np B)), ((g 30), .inl (cA 3, 2000, .inl yb)), ((g 38), .inl (cA 3, 2000, .inl ow)), ((g 39), .inl (cA 3, 2000, .inl fi)), ((g 40), .inl (cA 3, 2000, .inl be))] := hD.sub [3, 4, 0, 1, 2] (by decide) rfl
      refine W.cs (cells' := 0) (slots' := 0) rfl rfl ?_
      refine W.eq (g2 := F0 m 102 ls [.long (lN n_)]) rfl ?_
      refine lv_lstore (lv' := [(7, .long (lN n_)), (5, .long 0), (3, .long (lN 1)), (0, .ref m0), (1, .int (nI t)), (2, .int (nI wh))]) hx hb d_Md_lookData_102 hl (by decide) rfl (fun ls hl => ?_)
      refine lv_iload_n hx hb d_Md_lookData_104 rfl (lv_at hl 5 rfl) ?_
      refine lv_iconst (v := 3) hx hb d_Md_lookData_105 (by decide) ?_
      refine lv_icmp_ne (tgt := 114) hx hb d_Md_lookData_106 (by decide) (fun c_106 => ?_) (fun c_106 => absurd c_106 (fun q => absurd ((nI_eq (a := wh) (b := 3) (by omega) (by decide)).mp q) (by omega)))
      refine lv_iload_n hx hb d_Md_lookData_114 rfl (lv_at hl 5 rfl) ?_
      refine lv_bipush (v := 6) hx hb d_Md_lookData_115 (by decide) ?_
      refine lv_icmp_ne (tgt := 128) hx hb d_Md_lookData_117 (by decide) (fun c_117 => ?_) (fun c_117 => absurd c_117 (fun q => absurd ((nI_eq (a := wh) (b := 6) (by omega) (by decide)).mp q) (by omega)))
      refine lv_ldc2 hx hb hown (hts _ (List.mem_cons_of_mem _ iw3_204)) d_Md_lookData_128 ?_
      exact cRl (nI a3) hx hb hr hlocks d_Md_lookData_131 hS hP hD (by rw [lkS, if_pos hw8]; rfl) (Nat.le_refl _) (Nat.le_refl _)
  · obtain ⟨v, a2, x2, hv2, hv0, hexx, hb2, hbx, hdb⟩ := hm2 (by decide)
    obtain ⟨n_, a3, hnn, rfl⟩ := pDatB_inv hdb
    have hu3 := pU32_ok (by omega) hnn
    rcases (show wh = 0 ∨ wh = 1 ∨ wh = 2 ∨ wh = 3 ∨ wh = 4 ∨ wh = 5 ∨ wh = 6 ∨ wh = 7 ∨ 8 ≤ wh by omega) with rfl | rfl | rfl | rfl | rfl | rfl | rfl | rfl | hw8
    · have hl : lv_has ls 9 [(0, .ref m0), (1, .int (nI t)), (2, .int 0)] := hl
      refine lv_aload_n hx hb d_Md_lookData_0 rfl (lv_at hl 0 rfl) ?_
      refine cV (As := []) (rest := []) (n := 0) (wc := [(m0, .inr (6, mF g (K.1, K.2.1, K.2.2.1, K.2.2.2.1, nI X.length, K.2.2.2.2.2.1, K.2.2.2.2.2.2.1, K.2.2.2.2.2.2.2.1, nI a) A0 e np B)), ((g 30), .inl (cA 3, 2000, .inl yb))]) (wr := [((g 38), .inl (cA 3, 2000, .inl ow)), ((g 39), .inl (cA 3, 2000, .inl fi)), ((g 40), .inl (cA 3, 2000, .inl be))]) ⟨hx, hb, hml, hown, hts⟩ hno hlocks hl.1 (c_Md_number l hl9 D cA ad s.heap.size m0 g (K.1, K.2.1, K.2.2.1, K.2.2.2.1, nI X.length, K.2.2.2.2.2.1, K.2.2.2.2.2.2.1, K.2.2.2.2.2.2.2.1, nI a) A0 e np B yb b lm hlm hyb hb9 a 2 a1 (by omega) hmu) iw4_132 iw4_134 sel_Md_number iw1_7 iw4_135 (by decide +kernel) rfl ⟨Nat.le_of_ble_eq_true rfl, Nat.le_of_ble_eq_true rfl⟩ ⟨Nat.le_of_ble_eq_true rfl, Nat.le_of_ble_eq_true rfl⟩ rfl (Nat.le_of_ble_eq_true rfl) d_Md_lookData_1 hE hP hD hS hA [0, 1] [2, 3, 4] rfl rfl rfl rfl (by decide) (ci := 6) rfl rfl 0 rfl (fun _ h => h.elim) (fun v_1 u_1 H locs hp_1 hP hD hS => ?_)
      obtain rfl := hp_1
      have hP : va_P D cls [(m0, .inr (6, mF g (K.1, K.2.1, K.2.2.1, K.2.2.2.1, nI X.length, K.2.2.2.2.2.1, K.2.2.2.2.2.2.1, K.2.2.2.2.2.2.2.1, nI a1) A0 e np B)), ((g 30), .inl (cA 3, 2000, .inl yb)), ((g 38), .inl (cA 3, 2000, .inl ow)), ((g 39), .inl (cA 3, 2000, .inl fi)), ((g 40), .inl (cA 3, 2000, .inl be))] H := hP.sub [3, 4, 0, 1, 2] rfl
      have hD : va_D A [(m0, .inr (6, mF g (K.1, K.2.1, K.2.2.1, K.2.2.2.1, nI X.length, K.2.2.2.2.2.1, K.2.2.2.2.2.2.1, K.2.2.2.2.2.2.2.1, nI a1) A0 e np B)), ((g 30), .inl (cA 3, 2000, .inl yb)), ((g 38), .inl (cA 3, 2000, .inl ow)), ((g 39), .inl (cA 3, 2000, .inl fi)), ((g 40), .inl (cA 3, 2000, .inl be))] := hD.sub [3, 4, 0, 1, 2] (by decide) rfl
      refine W.cs (cells' := 0) (slots' := 0) rfl rfl ?_
      refine W.eq (g2 := F0 m 4 ls [.long (lN 2)]) rfl ?_
      refine lv_lstore_n (lv' := [(3, .long (lN 2)), (0, .ref m0), (1, .int (nI t)), (2, .int 0)]) hx hb d_Md_lookData_4 rfl hl (by decide) rfl (fun ls hl => ?_)
      refine lv_iload_n hx hb d_Md_lookData_5 rfl (lv_at hl 3 rfl) ?_
      refine lv_if_ne (tgt := 21) hx hb d_Md_lookData_6 (by decide) (fun c_6 => absurd (by decide) c_6) (fun c_6 => ?_)
      refine lv_lload_n hx hb d_Md_lookData_9 rfl (lv_at hl 0 rfl) ?_
      refine lv_lconst (v := 1) hx hb d_Md_lookData_10 (by decide) ?_
      refine W.lcmp hx hb d_Md_lookData_11 ?_
      refine lv_if_ne (tgt := 19) hx hb d_Md_lookData_12 (by decide) (fun c_12 => ?_) (fun c_12 => absurd c_12 (by decide +kernel))
      refine lv_lconst (v := 1) hx hb d_Md_lookData_19 (by decide) ?_
      exact cRl (nI a1) hx hb hr hlocks d_Md_lookData_20 hS hP hD (rfl) (Nat.le_refl _) (Nat.le_refl _)
    · have hl : lv_has ls 9 [(0, .ref m0), (1, .int (nI t)), (2, .int 1)] := hl
      refine lv_aload_n hx hb d_Md_lookData_0 rfl (lv_at hl 0 rfl) ?_
      refine cV (As := []) (rest := []) (n := 0) (wc := [(m0, .inr (6, mF g (K.1, K.2.1, K.2.2.1, K.2.2.2.1, nI X.length, K.2.2.2.2.2.1, K.2.2.2.2.2.2.1, K.2.2.2.2.2.2.2.1, nI a) A0 e np B)), ((g 30), .inl (cA 3, 2000, .inl yb))]) (wr := [((g 38), .inl (cA 3, 2000, .inl ow)), ((g 39), .inl (cA 3, 2000, .inl fi)), ((g 40), .inl (cA 3, 2000, .inl be))]) ⟨hx, hb, hml, hown, hts⟩ hno hlocks hl.1 (c_Md_number l hl9 D cA ad s.heap.size m0 g (K.1, K.2.1, K.2.2.1, K.2.2.2.1, nI X.length, K.2.2.2.2.2.1, K.2.2.2.2.2.2.1, K.2.2.2.2.2.2.2.1, nI a) A0 e np B yb b lm hlm hyb hb9 a 2 a1 (by omega) hmu) iw4_132 iw4_134 sel_Md_number iw1_7 iw4_135 (by decide +kernel) rfl ⟨Nat.le_of_ble_eq_true rfl, Nat.le_of_ble_eq_true rfl⟩ ⟨Nat.le_of_ble_eq_true rfl, Nat.le_of_ble_eq_true rfl⟩ rfl (Nat.le_of_ble_eq_true rfl) d_Md_lookData_1 hE hP hD hS hA [0, 1] [2, 3, 4] rfl rfl rfl rfl (by decide) (ci := 6) rfl rfl 0 rfl (fun _ h => h.elim) (fun v_1 u_1 H locs hp_1 hP hD hS => ?_)
      obtain rfl := hp_1
      have hP : va_P D cls [(m0, .inr (6, mF g (K.1, K.2.1, K.2.2.1, K.2.2.2.1, nI X.length, K.2.2.2.2.2.1, K.2.2.2.2.2.2.1, K.2.2.2.2.2.2.2.1, nI a1) A0 e np B)), ((g 30), .inl (cA 3, 2000, .inl yb)), ((g 38), .inl (cA 3, 2000, .inl ow)), ((g 39), .inl (cA 3, 2000, .inl fi)), ((g 40), .inl (cA 3, 2000, .inl be))] H := hP.sub [3, 4, 0, 1, 2] rfl
      have hD : va_D A [(m0, .inr (6, mF g (K.1, K.2.1, K.2.2.1, K.2.2.2.1, nI X.length, K.2.2.2.2.2.1, K.2.2.2.2.2.2.1, K.2.2.2.2.2.2.2.1, nI a1) A0 e np B)), ((g 30), .inl (cA 3, 2000, .inl yb)), ((g 38), .inl (cA 3, 2000, .inl ow)), ((g 39), .inl (cA 3, 2000, .inl fi)), ((g 40), .inl (cA 3, 2000, .inl be))] := hD.sub [3, 4, 0, 1, 2] (by decide) rfl
      refine W.cs (cells' := 0) (slots' := 0) rfl rfl ?_
      refine W.eq (g2 := F0 m 4 ls [.long (lN 2)]) rfl ?_
      refine lv_lstore_n (lv' := [(3, .long (lN 2)), (0, .ref m0), (1, .int (nI t)), (2, .int 1)]) hx hb d_Md_lookData_4 rfl hl (by decide) rfl (fun ls hl => ?_)
      refine lv_iload_n hx hb d_Md_lookData_5 rfl (lv_at hl 3 rfl) ?_
      refine lv_if_ne (tgt := 21) hx hb d_Md_lookData_6 (by decide) (fun c_6 => ?_) (fun c_6 => absurd c_6 (by decide))
      refine lv_lload_n hx hb d_Md_lookData_21 rfl (lv_at hl 0 rfl) ?_
      refine lv_ldc2 hx hb hown (hts _ (List.mem_cons_of_mem _ iw4_51)) d_Md_lookData_22 ?_
      refine W.lcmp hx hb d_Md_lookData_25 ?_
      refine lv_if_ne (tgt := 36) hx hb d_Md_lookData_26 (by decide) (fun c_26 => absurd (by decide +kernel) c_26) (fun c_26 => ?_)
      refine lv_aload_n hx hb d_Md_lookData_29 rfl (lv_at hl 1 rfl) ?_
      refine cV (As := []) (rest := []) (n := 0) (wc := [(m0, .inr (6, mF g (K.1, K.2.1, K.2.2.1, K.2.2.2.1, nI X.length, K.2.2.2.2.2.1, K.2.2.2.2.2.2.1, K.2.2.2.2.2.2.2.1, nI a1) A0 e np B)), ((g 30), .inl (cA 3, 2000, .inl yb))]) (wr := [((g 38), .inl (cA 3, 2000, .inl ow)), ((g 39), .inl (cA 3, 2000, .inl fi)), ((g 40), .inl (cA 3, 2000, .inl be))]) ⟨hx, hb, hml, hown, hts⟩ hno hlocks hl.1 (c_Md_number l hl9 D cA ad H.size m0 g (K.1, K.2.1, K.2.2.1, K.2.2.2.1, nI X.length, K.2.2.2.2.2.1, K.2.2.2.2.2.2.1, K.2.2.2.2.2.2.2.1, nI a1) A0 e np B yb b lm hlm hyb hb9 a1 v a2 (by omega) (hv2 rfl)) iw4_132 iw4_134 sel_Md_number iw1_7 iw4_135 (by decide +kernel) rfl ⟨Nat.le_of_ble_eq_true rfl, Nat.le_of_ble_eq_true rfl⟩ ⟨Nat.le_of_ble_eq_true rfl, Nat.le_of_ble_eq_true rfl⟩ rfl (Nat.le_of_ble_eq_true rfl) d_Md_lookData_30 hE hP hD hS hA [0, 1] [2, 3, 4] rfl rfl rfl rfl (by decide) (ci := 6) rfl rfl 0 rfl (fun _ h => h.elim) (fun v_30 u_30 H locs hp_30 hP hD hS => ?_)
      obtain rfl := hp_30
      have hP : va_P D cls [(m0, .inr (6, mF g (K.1, K.2.1, K.2.2.1, K.2.2.2.1, nI X.length, K.2.2.2.2.2.1, K.2.2.2.2.2.2.1, K.2.2.2.2.2.2.2.1, nI a2) A0 e np B)), ((g 30), .inl (cA 3, 2000, .inl yb)), ((g 38), .inl (cA 3, 2000, .inl ow)), ((g 39), .inl (cA 3, 2000, .inl fi)), ((g 40), .inl (cA 3, 2000, .inl be))] H := hP.sub [3, 4, 0, 1, 2] rfl
      have hD : va_D A [(m0, .inr (6, mF g (K.1, K.2.1, K.2.2.1, K.2.2.2.1, nI X.length, K.2.2.2.2.2.1, K.2.2.2.2.2.2.1, K.2.2.2.2.2.2.2.1, nI a2) A0 e np B)), ((g 30), .inl (cA 3, 2000, .inl yb)), ((g 38), .inl (cA 3, 2000, .inl ow)), ((g 39), .inl (cA 3, 2000, .inl fi)), ((g 40), .inl (cA 3, 2000, .inl be))] := hD.sub [3, 4, 0, 1, 2] (by decide) rfl
      refine W.cs (cells' := 0) (slots' := 0) rfl rfl ?_
      refine W.eq (g2 := F0 m 33 ls [.long (lN v)]) rfl ?_
      refine lv_goto (tgt := 37) hx hb d_Md_lookData_33 (by decide) ?_
      refine lv_lstore (lv' := [(5, .long (lN v)), (3, .long (lN 2)), (0, .ref m0), (1, .int (nI t)), (2, .int 1)]) hx hb d_Md_lookData_37 hl (by decide) rfl (fun ls hl => ?_)
      refine lv_iload_n hx hb d_Md_lookData_39 rfl (lv_at hl 4 rfl) ?_
      refine lv_iconst (v := 2) hx hb d_Md_lookData_40 (by decide) ?_
      refine lv_icmp_ne (tgt := 47) hx hb d_Md_lookData_41 (by decide) (fun c_41 => ?_) (fun c_41 => absurd c_41 (by decide))
      refine lv_iload_n hx hb d_Md_lookData_47 rfl (lv_at hl 4 rfl) ?_
      refine lv_iconst (v := 4) hx hb d_Md_lookData_48 (by decide) ?_
      refine lv_icmp_eq (tgt := 57) hx hb d_Md_lookData_49 (by decide) (fun c_49 => absurd c_49 (by decide)) (fun c_49 => ?_)
      refine lv_iload_n hx hb d_Md_lookData_52 rfl (lv_at hl 4 rfl) ?_
      refine lv_iconst (v := 5) hx hb d_Md_lookData_53 (by decide) ?_
      refine lv_icmp_ne (tgt := 77) hx hb d_Md_lookData_54 (by decide) (fun c_54 => ?_) (fun c_54 => absurd c_54 (by decide))
      refine lv_lload_n hx hb d_Md_lookData_77 rfl (lv_at hl 1 rfl) ?_
      refine lv_lconst (v := 1) hx hb d_Md_lookData_78 (by decide) ?_
      refine W.lcmp hx hb d_Md_lookData_79 ?_
      refine lv_if_eq (tgt := 98) hx hb d_Md_lookData_80 (by decide) (fun c_80 => absurd c_80 (by decide +kernel)) (fun c_80 => ?_)
      refine lv_aload_n hx hb d_Md_lookData_83 rfl (lv_at hl 2 rfl) ?_
      refine lv_aload_n hx hb d_Md_lookData_84 rfl (lv_at hl 2 rfl) ?_
      refine va_get (D := D) (ci := 6) (v := .ref (g 40)) (C := R_Md) (T := F_Md) (N := 44) hx hb hts (fun w h => List.mem_cons_of_mem _ (i_Md w h)) hown hE.1 hP 0 rfl rfl 40 (by decide) (hts _ (List.mem_cons_of_mem _ iw3_94)) (fun _ h9 => h9) rfl d_Md_lookData_85 ?_
      refine lv_aload_n hx hb d_Md_lookData_88 rfl (lv_at hl 2 rfl) ?_
      refine lv_iload_n hx hb d_Md_lookData_89 rfl (lv_at hl 3 rfl) ?_
      refine lv_iconst (v := 0) hx hb d_Md_lookData_90 (by decide) ?_
      refine cV (As := [.int (nI t), .int 0]) (rest := [.ref (g 40), .ref m0]) (n := 2) (wc := [(m0, .inr (6, mF g (K.1, K.2.1, K.2.2.1, K.2.2.2.1, nI X.length, K.2.2.2.2.2.1, K.2.2.2.2.2.2.1, K.2.2.2.2.2.2.2.1, nI a2) A0 e np B)), ((g 38), .inl (cA 3, 2000, .inl ow))]) (wr := [((g 30), .inl (cA 3, 2000, .inl yb)), ((g 39), .inl (cA 3, 2000, .inl fi)), ((g 40), .inl (cA 3, 2000, .inl be))]) ⟨hx, hb, hml, hown, hts⟩ hno hlocks hl.1 (c_Md_expressionOf l hl9 D cA ad H.size m0 g (K.1, K.2.1, K.2.2.1, K.2.2.2.1, nI X.length, K.2.2.2.2.2.1, K.2.2.2.2.2.2.1, K.2.2.2.2.2.2.2.1, nI a2) A0 e np B ow fi be X hXH hXf hX t (by omega) 0 (by omega)) iw4_156 iw4_158 sel_Md_expressionOf iw1_7 iw4_159 (by decide +kernel) rfl ⟨Nat.le_of_ble_eq_true rfl, Nat.le_of_ble_eq_true rfl⟩ ⟨Nat.le_of_ble_eq_true rfl, Nat.le_of_ble_eq_true rfl⟩ rfl (Nat.le_of_ble_eq_true rfl) d_Md_lookData_91 hE hP hD hS hA [0, 2] [1, 3, 4] rfl rfl rfl rfl (by decide) (ci := 6) rfl rfl 0 rfl (fun _ h => h.elim) (fun v_91 u_91 H locs hp_91 hP hD hS => ?_)
      rcases hp_91 with ⟨rfl, hno244⟩ | ⟨e244_, f244_, z244_, he244, rfl, hg244, hfi244, hbe244, hfb244, hzb244⟩
      · exact absurd hno244 (by rw [hexx]; simp)
      have hP : va_P D cls [(m0, .inr (6, mF g (K.1, K.2.1, K.2.2.1, K.2.2.2.1, nI X.length, K.2.2.2.2.2.1, K.2.2.2.2.2.2.1, K.2.2.2.2.2.2.2.1, nI a2) A0 e np B)), ((g 30), .inl (cA 3, 2000, .inl yb)), ((g 38), .inl (cA 3, 2000, .inl ow)), ((g 39), .inl (cA 3, 2000, .inl fi)), ((g 40), .inl (cA 3, 2000, .inl be))] H := hP.sub [3, 0, 4, 1, 2] rfl
      have hD : va_D A [(m0, .inr (6, mF g (K.1, K.2.1, K.2.2.1, K.2.2.2.1, nI X.length, K.2.2.2.2.2.1, K.2.2.2.2.2.2.1, K.2.2.2.2.2.2.2.1, nI a2) A0 e np B)), ((g 30), .inl (cA 3, 2000, .inl yb)), ((g 38), .inl (cA 3, 2000, .inl ow)), ((g 39), .inl (cA 3, 2000, .inl fi)), ((g 40), .inl (cA 3, 2000, .inl be))] := hD.sub [3, 0, 4, 1, 2] (by decide) rfl
      refine W.cs (cells' := 0) (slots' := 0) rfl rfl ?_
      refine W.eq (g2 := F0 m 94 ls [.int (nI e244_), .ref (g 40), .ref m0]) rfl ?_
      refine va_iald hx hb hE.1 hP 4 3 rfl rfl (vp_in_nI (by omega) (by omega)) d_Md_lookData_94 ?_
      rw [nI_clamp (n := e244_) (by omega), hbe244, show z244_ = x2 from by rw [hexx] at hg244; exact (congrArg Prod.snd (Option.some.inj hg244)).symm]
      refine va_put (D := D) (ci := 6) (v := .int (nI x2)) (ty := .int) (C := R_Md) (T := F_Md) (N := 44) hx hb hts (fun w h => List.mem_cons_of_mem _ (i_Md w h)) t_Md tk_Md n_Md hown hE.1 hP hD hS 0 rfl rfl 43 (by decide) (hts _ (List.mem_cons_of_mem _ iw3_97)) (fun _ h9 => h9) rfl (by decide +kernel) rfl rfl (Nat.le_of_ble_eq_true rfl) d_Md_lookData_95 (fun H locs hP hD hS => ?_)
      have hP : va_P D cls [(m0, .inr (6, mF g (K.1, K.2.1, K.2.2.1, K.2.2.2.1, nI X.length, K.2.2.2.2.2.1, K.2.2.2.2.2.2.1, K.2.2.2.2.2.2.2.1, nI x2) A0 e np B)), ((g 30), .inl (cA 3, 2000, .inl yb)), ((g 38), .inl (cA 3, 2000, .inl ow)), ((g 39), .inl (cA 3, 2000, .inl fi)), ((g 40), .inl (cA 3, 2000, .inl be))] H := hP
      have hD : va_D A [(m0, .inr (6, mF g (K.1, K.2.1, K.2.2.1, K.2.2.2.1, nI X.length, K.2.2.2.2.2.1, K.2.2.2.2.2.2.1, K.2.2.2.2.2.2.2.1, nI x2) A0 e np B)), ((g 30), .inl (cA 3, 2000, .inl yb)), ((g 38), .inl (cA 3, 2000, .inl ow)), ((g 39), .inl (cA 3, 2000, .inl fi)), ((g 40), .inl (cA 3, 2000, .inl be))] := hD
      refine lv_aload_n hx hb d_Md_lookData_98 rfl (lv_at hl 2 rfl) ?_
      refine cV (As := []) (rest := []) (n := 0) (wc := [(m0, .inr (6, mF g (K.1, K.2.1, K.2.2.1, K.2.2.2.1, nI X.length, K.2.2.2.2.2.1, K.2.2.2.2.2.2.1, K.2.2.2.2.2.2.2.1, nI x2) A0 e np B)), ((g 30), .inl (cA 3, 2000, .inl yb))]) (wr := [((g 38), .inl (cA 3, 2000, .inl ow)), ((g 39), .inl (cA 3, 2000, .inl fi)), ((g 40), .inl (cA 3, 2000, .inl be))]) ⟨hx, hb, hml, hown, hts⟩ hno hlocks hl.1 (c_Md_number l hl9 D cA ad H.size m0 g (K.1, K.2.1, K.2.2.1, K.2.2.2.1, nI X.length, K.2.2.2.2.2.1, K.2.2.2.2.2.2.1, K.2.2.2.2.2.2.2.1, nI x2) A0 e np B yb b lm hlm hyb hb9 x2 n_ a3 (by omega) hnn) iw4_132 iw4_134 sel_Md_number iw1_7 iw4_135 (by decide +kernel) rfl ⟨Nat.le_of_ble_eq_true rfl, Nat.le_of_ble_eq_true rfl⟩ ⟨Nat.le_of_ble_eq_true rfl, Nat.le_of_ble_eq_true rfl⟩ rfl (Nat.le_of_ble_eq_true rfl) d_Md_lookData_99 hE hP hD hS hA [0, 1] [2, 3, 4] rfl rfl rfl rfl (by decide) (ci := 6) rfl rfl 0 rfl (fun _ h => h.elim) (fun v_99 u_99 H locs hp_99 hP hD hS => ?_)
      obtain rfl := hp_99
      have hP : va_P D cls [(m0, .inr (6, mF g (K.1, K.2.1, K.2.2.1, K.2.2.2.1, nI X.length, K.2.2.2.2.2.1, K.2.2.2.2.2.2.1, K.2.2.2.2.2.2.2.1, nI a3) A0 e np B)), ((g 30), .inl (cA 3, 2000, .inl yb)), ((g 38), .inl (cA 3, 2000, .inl ow)), ((g 39), .inl (cA 3, 2000, .inl fi)), ((g 40), .inl (cA 3, 2000, .inl be))] H := hP.sub [3, 4, 0, 1, 2] rfl
      have hD : va_D A [(m0, .inr (6, mF g (K.1, K.2.1, K.2.2.1, K.2.2.2.1, nI X.length, K.2.2.2.2.2.1, K.2.2.2.2.2.2.1, K.2.2.2.2.2.2.2.1, nI a3) A0 e np B)), ((g 30), .inl (cA 3, 2000, .inl yb)), ((g 38), .inl (cA 3, 2000, .inl ow)), ((g 39), .inl (cA 3, 2000, .inl fi)), ((g 40), .inl (cA 3, 2000, .inl be))] := hD.sub [3, 4, 0, 1, 2] (by decide) rfl
      refine W.cs (cells' := 0) (slots' := 0) rfl rfl ?_
      refine W.eq (g2 := F0 m 102 ls [.long (lN n_)]) rfl ?_
      refine lv_lstore (lv' := [(7, .long (lN n_)), (5, .long (lN v)), (3, .long (lN 2)), (0, .ref m0), (1, .int (nI t)), (2, .int 1)]) hx hb d_Md_lookData_102 hl (by decide) rfl (fun ls hl => ?_)
      refine lv_iload_n hx hb d_Md_lookData_104 rfl (lv_at hl 5 rfl) ?_
      refine lv_iconst (v := 3) hx hb d_Md_lookData_105 (by decide) ?_
      refine lv_icmp_ne (tgt := 114) hx hb d_Md_lookData_106 (by decide) (fun c_106 => ?_) (fun c_106 => absurd c_106 (by decide))
      refine lv_iload_n hx hb d_Md_lookData_114 rfl (lv_at hl 5 rfl) ?_
      refine lv_bipush (v := 6) hx hb d_Md_lookData_115 (by decide) ?_
      refine lv_icmp_ne (tgt := 128) hx hb d_Md_lookData_117 (by decide) (fun c_117 => ?_) (fun c_117 => absurd c_117 (by decide))
      refine lv_ldc2 hx hb hown (hts _ (List.mem_cons_of_mem _ iw3_204)) d_Md_lookData_128 ?_
      exact cRl (nI a3) hx hb hr hlocks d_Md_lookData_131 hS hP hD (rfl) (Nat.le_refl _) (Nat.le_refl _)
    · have hl : lv_has ls 9 [(0, .ref m0), (1, .int (nI t)), (2, .int 2)] := hl
      refine lv_aload_n hx hb d_Md_lookData_0 rfl (lv_at hl 0 rfl) ?_
      refine cV (As := []) (rest := []) (n := 0) (wc := [(m0, .inr (6, mF g (K.1, K.2.1, K.2.2.1, K.2.2.2.1, nI X.length, K.2.2.2.2.2.1, K.2.2.2.2.2.2.1, K.2.2.2.2.2.2.2.1, nI a) A0 e np B)), ((g 30), .inl (cA 3, 2000, .inl yb))]) (wr := [((g 38), .inl (cA 3, 2000, .inl ow)), ((g 39), .inl (cA 3, 2000, .inl fi)), ((g 40), .inl (cA 3, 2000, .inl be))]) ⟨hx, hb, hml, hown, hts⟩ hno hlocks hl.1 (c_Md_number l hl9 D cA ad s.heap.size m0 g (K.1, K.2.1, K.2.2.1, K.2.2.2.1, nI X.length, K.2.2.2.2.2.1, K.2.2.2.2.2.2.1, K.2.2.2.2.2.2.2.1, nI a) A0 e np B yb b lm hlm hyb hb9 a 2 a1 (by omega) hmu) iw4_132 iw4_134 sel_Md_number iw1_7 iw4_135 (by decide +kernel) rfl ⟨Nat.le_of_ble_eq_true rfl, Nat.le_of_ble_eq_true rfl⟩ ⟨Nat.le_of_ble_eq_true rfl, Nat.le_of_ble_eq_true rfl⟩ rfl (Nat.le_of_ble_eq_true rfl) d_Md_lookData_1 hE hP hD hS hA [0, 1] [2, 3, 4] rfl rfl rfl rfl (by decide) (ci := 6) rfl rfl 0 rfl (fun _ h => h.elim) (fun v_1 u_1 H locs hp_1 hP hD hS => ?_)
      obtain rfl := hp_1
      have hP : va_P D cls [(m0, .inr (6, mF g (K.1, K.2.1, K.2.2.1, K.2.2.2.1, nI X.length, K.2.2.2.2.2.1, K.2.2.2.2.2.2.1, K.2.2.2.2.2.2.2.1, nI a1) A0 e np B)), ((g 30), .inl (cA 3, 2000, .inl yb)), ((g 38), .inl (cA 3, 2000, .inl ow)), ((g 39), .inl (cA 3, 2000, .inl fi)), ((g 40), .inl (cA 3, 2000, .inl be))] H := hP.sub [3, 4, 0, 1, 2] rfl
      have hD : va_D A [(m0, .inr (6, mF g (K.1, K.2.1, K.2.2.1, K.2.2.2.1, nI X.length, K.2.2.2.2.2.1, K.2.2.2.2.2.2.1, K.2.2.2.2.2.2.2.1, nI a1) A0 e np B)), ((g 30), .inl (cA 3, 2000, .inl yb)), ((g 38), .inl (cA 3, 2000, .inl ow)), ((g 39), .inl (cA 3, 2000, .inl fi)), ((g 40), .inl (cA 3, 2000, .inl be))] := hD.sub [3, 4, 0, 1, 2] (by decide) rfl
      refine W.cs (cells' := 0) (slots' := 0) rfl rfl ?_
      refine W.eq (g2 := F0 m 4 ls [.long (lN 2)]) rfl ?_
      refine lv_lstore_n (lv' := [(3, .long (lN 2)), (0, .ref m0), (1, .int (nI t)), (2, .int 2)]) hx hb d_Md_lookData_4 rfl hl (by decide) rfl (fun ls hl => ?_)
      refine lv_iload_n hx hb d_Md_lookData_5 rfl (lv_at hl 3 rfl) ?_
      refine lv_if_ne (tgt := 21) hx hb d_Md_lookData_6 (by decide) (fun c_6 => ?_) (fun c_6 => absurd c_6 (by decide))
      refine lv_lload_n hx hb d_Md_lookData_21 rfl (lv_at hl 0 rfl) ?_
      refine lv_ldc2 hx hb hown (hts _ (List.mem_cons_of_mem _ iw4_51)) d_Md_lookData_22 ?_
      refine W.lcmp hx hb d_Md_lookData_25 ?_
      refine lv_if_ne (tgt := 36) hx hb d_Md_lookData_26 (by decide) (fun c_26 => absurd (by decide +kernel) c_26) (fun c_26 => ?_)
      refine lv_aload_n hx hb d_Md_lookData_29 rfl (lv_at hl 1 rfl) ?_
      refine cV (As := []) (rest := []) (n := 0) (wc := [(m0, .inr (6, mF g (K.1, K.2.1, K.2.2.1, K.2.2.2.1, nI X.length, K.2.2.2.2.2.1, K.2.2.2.2.2.2.1, K.2.2.2.2.2.2.2.1, nI a1) A0 e np B)), ((g 30), .inl (cA 3, 2000, .inl yb))]) (wr := [((g 38), .inl (cA 3, 2000, .inl ow)), ((g 39), .inl (cA 3, 2000, .inl fi)), ((g 40), .inl (cA 3, 2000, .inl be))]) ⟨hx, hb, hml, hown, hts⟩ hno hlocks hl.1 (c_Md_number l hl9 D cA ad H.size m0 g (K.1, K.2.1, K.2.2.1, K.2.2.2.1, nI X.length, K.2.2.2.2.2.1, K.2.2.2.2.2.2.1, K.2.2.2.2.2.2.2.1, nI a1) A0 e np B yb b lm hlm hyb hb9 a1 v a2 (by omega) (hv2 rfl)) iw4_132 iw4_134 sel_Md_number iw1_7 iw4_135 (by decide +kernel) rfl ⟨Nat.le_of_ble_eq_true rfl, Nat.le_of_ble_eq_true rfl⟩ ⟨Nat.le_of_ble_eq_true rfl, Nat.le_of_ble_eq_true rfl⟩ rfl (Nat.le_of_ble_eq_true rfl) d_Md_lookData_30 hE hP hD hS hA [0, 1] [2, 3, 4] rfl rfl rfl rfl (by decide) (ci := 6) rfl rfl 0 rfl (fun _ h => h.elim) (fun v_30 u_30 H locs hp_30 hP hD hS => ?_)
      obtain rfl := hp_30
      have hP : va_P D cls [(m0, .inr (6, mF g (K.1, K.2.1, K.2.2.1, K.2.2.2.1, nI X.length, K.2.2.2.2.2.1, K.2.2.2.2.2.2.1, K.2.2.2.2.2.2.2.1, nI a2) A0 e np B)), ((g 30), .inl (cA 3, 2000, .inl yb)), ((g 38), .inl (cA 3, 2000, .inl ow)), ((g 39), .inl (cA 3, 2000, .inl fi)), ((g 40), .inl (cA 3, 2000, .inl be))] H := hP.sub [3, 4, 0, 1, 2] rfl
      have hD : va_D A [(m0, .inr (6, mF g (K.1, K.2.1, K.2.2.1, K.2.2.2.1, nI X.length, K.2.2.2.2.2.1, K.2.2.2.2.2.2.1, K.2.2.2.2.2.2.2.1, nI a2) A0 e np B)), ((g 30), .inl (cA 3, 2000, .inl yb)), ((g 38), .inl (cA 3, 2000, .inl ow)), ((g 39), .inl (cA 3, 2000, .inl fi)), ((g 40), .inl (cA 3, 2000, .inl be))] := hD.sub [3, 4, 0, 1, 2] (by decide) rfl
      refine W.cs (cells' := 0) (slots' := 0) rfl rfl ?_
      refine W.eq (g2 := F0 m 33 ls [.long (lN v)]) rfl ?_
      refine lv_goto (tgt := 37) hx hb d_Md_lookData_33 (by decide) ?_
      refine lv_lstore (lv' := [(5, .long (lN v)), (3, .long (lN 2)), (0, .ref m0), (1, .int (nI t)), (2, .int 2)]) hx hb d_Md_lookData_37 hl (by decide) rfl (fun ls hl => ?_)
      refine lv_iload_n hx hb d_Md_lookData_39 rfl (lv_at hl 4 rfl) ?_
      refine lv_iconst (v := 2) hx hb d_Md_lookData_40 (by decide) ?_
      refine lv_icmp_ne (tgt := 47) hx hb d_Md_lookData_41 (by decide) (fun c_41 => absurd (by decide) c_41) (fun c_41 => ?_)
      refine lv_lload hx hb d_Md_lookData_44 (lv_at hl 0 rfl) ?_
      exact cRl (nI a2) hx hb hr hlocks d_Md_lookData_46 hS hP hD (rfl) (Nat.le_refl _) (Nat.le_refl _)
    · have hl : lv_has ls 9 [(0, .ref m0), (1, .int (nI t)), (2, .int 3)] := hl
      refine lv_aload_n hx hb d_Md_lookData_0 rfl (lv_at hl 0 rfl) ?_
      refine cV (As := []) (rest := []) (n := 0) (wc := [(m0, .inr (6, mF g (K.1, K.2.1, K.2.2.1, K.2.2.2.1, nI X.length, K.2.2.2.2.2.1, K.2.2.2.2.2.2.1, K.2.2.2.2.2.2.2.1, nI a) A0 e np B)), ((g 30), .inl (cA 3, 2000, .inl yb))]) (wr := [((g 38), .inl (cA 3, 2000, .inl ow)), ((g 39), .inl (cA 3, 2000, .inl fi)), ((g 40), .inl (cA 3, 2000, .inl be))]) ⟨hx, hb, hml, hown, hts⟩ hno hlocks hl.1 (c_Md_number l hl9 D cA ad s.heap.size m0 g (K.1, K.2.1, K.2.2.1, K.2.2.2.1, nI X.length, K.2.2.2.2.2.1, K.2.2.2.2.2.2.1, K.2.2.2.2.2.2.2.1, nI a) A0 e np B yb b lm hlm hyb hb9 a 2 a1 (by omega) hmu) iw4_132 iw4_134 sel_Md_number iw1_7 iw4_135 (by decide +kernel) rfl ⟨Nat.le_of_ble_eq_true rfl, Nat.le_of_ble_eq_true rfl⟩ ⟨Nat.le_of_ble_eq_true rfl, Nat.le_of_ble_eq_true rfl⟩ rfl (Nat.le_of_ble_eq_true rfl) d_Md_lookData_1 hE hP hD hS hA [0, 1] [2, 3, 4] rfl rfl rfl rfl (by decide) (ci := 6) rfl rfl 0 rfl (fun _ h => h.elim) (fun v_1 u_1 H locs hp_1 hP hD hS => ?_)
      obtain rfl := hp_1
      have hP : va_P D cls [(m0, .inr (6, mF g (K.1, K.2.1, K.2.2.1, K.2.2.2.1, nI X.length, K.2.2.2.2.2.1, K.2.2.2.2.2.2.1, K.2.2.2.2.2.2.2.1, nI a1) A0 e np B)), ((g 30), .inl (cA 3, 2000, .inl yb)), ((g 38), .inl (cA 3, 2000, .inl ow)), ((g 39), .inl (cA 3, 2000, .inl fi)), ((g 40), .inl (cA 3, 2000, .inl be))] H := hP.sub [3, 4, 0, 1, 2] rfl
      have hD : va_D A [(m0, .inr (6, mF g (K.1, K.2.1, K.2.2.1, K.2.2.2.1, nI X.length, K.2.2.2.2.2.1, K.2.2.2.2.2.2.1, K.2.2.2.2.2.2.2.1, nI a1) A0 e np B)), ((g 30), .inl (cA 3, 2000, .inl yb)), ((g 38), .inl (cA 3, 2000, .inl ow)), ((g 39), .inl (cA 3, 2000, .inl fi)), ((g 40), .inl (cA 3, 2000, .inl be))] := hD.sub [3, 4, 0, 1, 2] (by decide) rfl
      refine W.cs (cells' := 0) (slots' := 0) rfl rfl ?_
      refine W.eq (g2 := F0 m 4 ls [.long (lN 2)]) rfl ?_
      refine lv_lstore_n (lv' := [(3, .long (lN 2)), (0, .ref m0), (1, .int (nI t)), (2, .int 3)]) hx hb d_Md_lookData_4 rfl hl (by decide) rfl (fun ls hl => ?_)
      refine lv_iload_n hx hb d_Md_lookData_5 rfl (lv_at hl 3 rfl) ?_
      refine lv_if_ne (tgt := 21) hx hb d_Md_lookData_6 (by decide) (fun c_6 => ?_) (fun c_6 => absurd c_6 (by decide))
      refine lv_lload_n hx hb d_Md_lookData_21 rfl (lv_at hl 0 rfl) ?_
      refine lv_ldc2 hx hb hown (hts _ (List.mem_cons_of_mem _ iw4_51)) d_Md_lookData_22 ?_
      refine W.lcmp hx hb d_Md_lookData_25 ?_
      refine lv_if_ne (tgt := 36) hx hb d_Md_lookData_26 (by decide) (fun c_26 => absurd (by decide +kernel) c_26) (fun c_26 => ?_)
      refine lv_aload_n hx hb d_Md_lookData_29 rfl (lv_at hl 1 rfl) ?_
      refine cV (As := []) (rest := []) (n := 0) (wc := [(m0, .inr (6, mF g (K.1, K.2.1, K.2.2.1, K.2.2.2.1, nI X.length, K.2.2.2.2.2.1, K.2.2.2.2.2.2.1, K.2.2.2.2.2.2.2.1, nI a1) A0 e np B)), ((g 30), .inl (cA 3, 2000, .inl yb))]) (wr := [((g 38), .inl (cA 3, 2000, .inl ow)), ((g 39), .inl (cA 3, 2000, .inl fi)), ((g 40), .inl (cA 3, 2000, .inl be))]) ⟨hx, hb, hml, hown, hts⟩ hno hlocks hl.1 (c_Md_number l hl9 D cA ad H.size m0 g (K.1, K.2.1, K.2.2.1, K.2.2.2.1, nI X.length, K.2.2.2.2.2.1, K.2.2.2.2.2.2.1, K.2.2.2.2.2.2.2.1, nI a1) A0 e np B yb b lm hlm hyb hb9 a1 v a2 (by omega) (hv2 rfl)) iw4_132 iw4_134 sel_Md_number iw1_7 iw4_135 (by decide +kernel) rfl ⟨Nat.le_of_ble_eq_true rfl, Nat.le_of_ble_eq_true rfl⟩ ⟨Nat.le_of_ble_eq_true rfl, Nat.le_of_ble_eq_true rfl⟩ rfl (Nat.le_of_ble_eq_true rfl) d_Md_lookData_30 hE hP hD hS hA [0, 1] [2, 3, 4] rfl rfl rfl rfl (by decide) (ci := 6) rfl rfl 0 rfl (fun _ h => h.elim) (fun v_30 u_30 H locs hp_30 hP hD hS => ?_)
      obtain rfl := hp_30
      have hP : va_P D cls [(m0, .inr (6, mF g (K.1, K.2.1, K.2.2.1, K.2.2.2.1, nI X.length, K.2.2.2.2.2.1, K.2.2.2.2.2.2.1, K.2.2.2.2.2.2.2.1, nI a2) A0 e np B)), ((g 30), .inl (cA 3, 2000, .inl yb)), ((g 38), .inl (cA 3, 2000, .inl ow)), ((g 39), .inl (cA 3, 2000, .inl fi)), ((g 40), .inl (cA 3, 2000, .inl be))] H := hP.sub [3, 4, 0, 1, 2] rfl
      have hD : va_D A [(m0, .inr (6, mF g (K.1, K.2.1, K.2.2.1, K.2.2.2.1, nI X.length, K.2.2.2.2.2.1, K.2.2.2.2.2.2.1, K.2.2.2.2.2.2.2.1, nI a2) A0 e np B)), ((g 30), .inl (cA 3, 2000, .inl yb)), ((g 38), .inl (cA 3, 2000, .inl ow)), ((g 39), .inl (cA 3, 2000, .inl fi)), ((g 40), .inl (cA 3, 2000, .inl be))] := hD.sub [3, 4, 0, 1, 2] (by decide) rfl
      refine W.cs (cells' := 0) (slots' := 0) rfl rfl ?_
      refine W.eq (g2 := F0 m 33 ls [.long (lN v)]) rfl ?_
      refine lv_goto (tgt := 37) hx hb d_Md_lookData_33 (by decide) ?_
      refine lv_lstore (lv' := [(5, .long (lN v)), (3, .long (lN 2)), (0, .ref m0), (1, .int (nI t)), (2, .int 3)]) hx hb d_Md_lookData_37 hl (by decide) rfl (fun ls hl => ?_)
      refine lv_iload_n hx hb d_Md_lookData_39 rfl (lv_at hl 4 rfl) ?_
      refine lv_iconst (v := 2) hx hb d_Md_lookData_40 (by decide) ?_
      refine lv_icmp_ne (tgt := 47) hx hb d_Md_lookData_41 (by decide) (fun c_41 => ?_) (fun c_41 => absurd c_41 (by decide))
      refine lv_iload_n hx hb d_Md_lookData_47 rfl (lv_at hl 4 rfl) ?_
      refine lv_iconst (v := 4) hx hb d_Md_lookData_48 (by decide) ?_
      refine lv_icmp_eq (tgt := 57) hx hb d_Md_lookData_49 (by decide) (fun c_49 => absurd c_49 (by decide)) (fun c_49 => ?_)
      refine lv_iload_n hx hb d_Md_lookData_52 rfl (lv_at hl 4 rfl) ?_
      refine lv_iconst (v := 5) hx hb d_Md_lookData_53 (by decide) ?_
      refine lv_icmp_ne (tgt := 77) hx hb d_Md_lookData_54 (by decide) (fun c_54 => ?_) (fun c_54 => absurd c_54 (by decide))
      refine lv_lload_n hx hb d_Md_lookData_77 rfl (lv_at hl 1 rfl) ?_
      refine lv_lconst (v := 1) hx hb d_Md_lookData_78 (by decide) ?_
      refine W.lcmp hx hb d_Md_lookData_79 ?_
      refine lv_if_eq (tgt := 98) hx hb d_Md_lookData_80 (by decide) (fun c_80 => absurd c_80 (by decide +kernel)) (fun c_80 => ?_)
      refine lv_aload_n hx hb d_Md_lookData_83 rfl (lv_at hl 2 rfl) ?_
      refine lv_aload_n hx hb d_Md_lookData_84 rfl (lv_at hl 2 rfl) ?_
      refine va_get (D := D) (ci := 6) (v := .ref (g 40)) (C := R_Md) (T := F_Md) (N := 44) hx hb hts (fun w h => List.mem_cons_of_mem _ (i_Md w h)) hown hE.1 hP 0 rfl rfl 40 (by decide) (hts _ (List.mem_cons_of_mem _ iw3_94)) (fun _ h9 => h9) rfl d_Md_lookData_85 ?_
      refine lv_aload_n hx hb d_Md_lookData_88 rfl (lv_at hl 2 rfl) ?_
      refine lv_iload_n hx hb d_Md_lookData_89 rfl (lv_at hl 3 rfl) ?_
      refine lv_iconst (v := 0) hx hb d_Md_lookData_90 (by decide) ?_
      refine cV (As := [.int (nI t), .int 0]) (rest := [.ref (g 40), .ref m0]) (n := 2) (wc := [(m0, .inr (6, mF g (K.1, K.2.1, K.2.2.1, K.2.2.2.1, nI X.length, K.2.2.2.2.2.1, K.2.2.2.2.2.2.1, K.2.2.2.2.2.2.2.1, nI a2) A0 e np B)), ((g 38), .inl (cA 3, 2000, .inl ow))]) (wr := [((g 30), .inl (cA 3, 2000, .inl yb)), ((g 39), .inl (cA 3, 2000, .inl fi)), ((g 40), .inl (cA 3, 2000, .inl be))]) ⟨hx, hb, hml, hown, hts⟩ hno hlocks hl.1 (c_Md_expressionOf l hl9 D cA ad H.size m0 g (K.1, K.2.1, K.2.2.1, K.2.2.2.1, nI X.length, K.2.2.2.2.2.1, K.2.2.2.2.2.2.1, K.2.2.2.2.2.2.2.1, nI a2) A0 e np B ow fi be X hXH hXf hX t (by omega) 0 (by omega)) iw4_156 iw4_158 sel_Md_expressionOf iw1_7 iw4_159 (by decide +kernel) rfl ⟨Nat.le_of_ble_eq_true rfl, Nat.le_of_ble_eq_true rfl⟩ ⟨Nat.le_of_ble_eq_true rfl, Nat.le_of_ble_eq_true rfl⟩ rfl (Nat.le_of_ble_eq_true rfl) d_Md_lookData_91 hE hP hD hS hA [0, 2] [1, 3, 4] rfl rfl rfl rfl (by decide) (ci := 6) rfl rfl 0 rfl (fun _ h => h.elim) (fun v_91 u_91 H locs hp_91 hP hD hS => ?_)
      rcases hp_91 with ⟨rfl, hno245⟩ | ⟨e245_, f245_, z245_, he245, rfl, hg245, hfi245, hbe245, hfb245, hzb245⟩
      · exact absurd hno245 (by rw [hexx]; simp)
      have hP : va_P D cls [(m0, .inr (6, mF g (K.1, K.2.1, K.2.2.1, K.2.2.2.1, nI X.length, K.2.2.2.2.2.1, K.2.2.2.2.2.2.1, K.2.2.2.2.2.2.2.1, nI a2) A0 e np B)), ((g 30), .inl (cA 3, 2000, .inl yb)), ((g 38), .inl (cA 3, 2000, .inl ow)), ((g 39), .inl (cA 3, 2000, .inl fi)), ((g 40), .inl (cA 3, 2000, .inl be))] H := hP.sub [3, 0, 4, 1, 2] rfl
      have hD : va_D A [(m0, .inr (6, mF g (K.1, K.2.1, K.2.2.1, K.2.2.2.1, nI X.length, K.2.2.2.2.2.1, K.2.2.2.2.2.2.1, K.2.2.2.2.2.2.2.1, nI a2) A0 e np B)), ((g 30), .inl (cA 3, 2000, .inl yb)), ((g 38), .inl (cA 3, 2000, .inl ow)), ((g 39), .inl (cA 3, 2000, .inl fi)), ((g 40), .inl (cA 3, 2000, .inl be))] := hD.sub [3, 0, 4, 1, 2] (by decide) rfl
      refine W.cs (cells' := 0) (slots' := 0) rfl rfl ?_
      refine W.eq (g2 := F0 m 94 ls [.int (nI e245_), .ref (g 40), .ref m0]) rfl ?_
      refine va_iald hx hb hE.1 hP 4 3 rfl rfl (vp_in_nI (by omega) (by omega)) d_Md_lookData_94 ?_
      rw [nI_clamp (n := e245_) (by omega), hbe245, show z245_ = x2 from by rw [hexx] at hg245; exact (congrArg Prod.snd (Option.some.inj hg245)).symm]
      refine va_put (D := D) (ci := 6) (v := .int (nI x2)) (ty := .int) (C := R_Md) (T := F_Md) (N := 44) hx hb hts (fun w h => List.mem_cons_of_mem _ (i_Md w h)) t_Md tk_Md n_Md hown hE.1 hP hD hS 0 rfl rfl 43 (by decide) (hts _ (List.mem_cons_of_mem _ iw3_97)) (fun _ h9 => h9) rfl (by decide +kernel) rfl rfl (Nat.le_of_ble_eq_true rfl) d_Md_lookData_95 (fun H locs hP hD hS => ?_)
      have hP : va_P D cls [(m0, .inr (6, mF g (K.1, K.2.1, K.2.2.1, K.2.2.2.1, nI X.length, K.2.2.2.2.2.1, K.2.2.2.2.2.2.1, K.2.2.2.2.2.2.2.1, nI x2) A0 e np B)), ((g 30), .inl (cA 3, 2000, .inl yb)), ((g 38), .inl (cA 3, 2000, .inl ow)), ((g 39), .inl (cA 3, 2000, .inl fi)), ((g 40), .inl (cA 3, 2000, .inl be))] H := hP
      have hD : va_D A [(m0, .inr (6, mF g (K.1, K.2.1, K.2.2.1, K.2.2.2.1, nI X.length, K.2.2.2.2.2.1, K.2.2.2.2.2.2.1, K.2.2.2.2.2.2.2.1, nI x2) A0 e np B)), ((g 30), .inl (cA 3, 2000, .inl yb)), ((g 38), .inl (cA 3, 2000, .inl ow)), ((g 39), .inl (cA 3, 2000, .inl fi)), ((g 40), .inl (cA 3, 2000, .inl be))] := hD
      refine lv_aload_n hx hb d_Md_lookData_98 rfl (lv_at hl 2 rfl) ?_
      refine cV (As := []) (rest := []) (n := 0) (wc := [(m0, .inr (6, mF g (K.1, K.2.1, K.2.2.1, K.2.2.2.1, nI X.length, K.2.2.2.2.2.1, K.2.2.2.2.2.2.1, K.2.2.2.2.2.2.2.1, nI x2) A0 e np B)), ((g 30), .inl (cA 3, 2000, .inl yb))]) (wr := [((g 38), .inl (cA 3, 2000, .inl ow)), ((g 39), .inl (cA 3, 2000, .inl fi)), ((g 40), .inl (cA 3, 2000, .inl be))]) ⟨hx, hb, hml, hown, hts⟩ hno hlocks hl.1 (c_Md_number l hl9 D cA ad H.size m0 g (K.1, K.2.1, K.2.2.1, K.2.2.2.1, nI X.length, K.2.2.2.2.2.1, K.2.2.2.2.2.2.1, K.2.2.2.2.2.2.2.1, nI x2) A0 e np B yb b lm hlm hyb hb9 x2 n_ a3 (by omega) hnn) iw4_132 iw4_134 sel_Md_number iw1_7 iw4_135 (by decide +kernel) rfl ⟨Nat.le_of_ble_eq_true rfl, Nat.le_of_ble_eq_true rfl⟩ ⟨Nat.le_of_ble_eq_true rfl, Nat.le_of_ble_eq_true rfl⟩ rfl (Nat.le_of_ble_eq_true rfl) d_Md_lookData_99 hE hP hD hS hA [0, 1] [2, 3, 4] rfl rfl rfl rfl (by decide) (ci := 6) rfl rfl 0 rfl (fun _ h => h.elim) (fun v_99 u_99 H locs hp_99 hP hD hS => ?_)
      obtain rfl := hp_99
      have hP : va_P D cls [(m0, .inr (6, mF g (K.1, K.2.1, K.2.2.1, K.2.2.2.1, nI X.length, K.2.2.2.2.2.1, K.2.2.2.2.2.2.1, K.2.2.2.2.2.2.2.1, nI a3) A0 e np B)), ((g 30), .inl (cA 3, 2000, .inl yb)), ((g 38), .inl (cA 3, 2000, .inl ow)), ((g 39), .inl (cA 3, 2000, .inl fi)), ((g 40), .inl (cA 3, 2000, .inl be))] H := hP.sub [3, 4, 0, 1, 2] rfl
      have hD : va_D A [(m0, .inr (6, mF g (K.1, K.2.1, K.2.2.1, K.2.2.2.1, nI X.length, K.2.2.2.2.2.1, K.2.2.2.2.2.2.1, K.2.2.2.2.2.2.2.1, nI a3) A0 e np B)), ((g 30), .inl (cA 3, 2000, .inl yb)), ((g 38), .inl (cA 3, 2000, .inl ow)), ((g 39), .inl (cA 3, 2000, .inl fi)), ((g 40), .inl (cA 3, 2000, .inl be))] := hD.sub [3, 4, 0, 1, 2] (by decide) rfl
      refine W.cs (cells' := 0) (slots' := 0) rfl rfl ?_
      refine W.eq (g2 := F0 m 102 ls [.long (lN n_)]) rfl ?_
      refine lv_lstore (lv' := [(7, .long (lN n_)), (5, .long (lN v)), (3, .long (lN 2)), (0, .ref m0), (1, .int (nI t)), (2, .int 3)]) hx hb d_Md_lookData_102 hl (by decide) rfl (fun ls hl => ?_)
      refine lv_iload_n hx hb d_Md_lookData_104 rfl (lv_at hl 5 rfl) ?_
      refine lv_iconst (v := 3) hx hb d_Md_lookData_105 (by decide) ?_
      refine lv_icmp_ne (tgt := 114) hx hb d_Md_lookData_106 (by decide) (fun c_106 => absurd (by decide) c_106) (fun c_106 => ?_)
      refine lv_lload hx hb d_Md_lookData_109 (lv_at hl 0 rfl) ?_
      refine lv_goto (tgt := 131) hx hb d_Md_lookData_111 (by decide) ?_
      exact cRl (nI a3) hx hb hr hlocks d_Md_lookData_131 hS hP hD (rfl) (Nat.le_refl _) (Nat.le_refl _)
    · have hl : lv_has ls 9 [(0, .ref m0), (1, .int (nI t)), (2, .int 4)] := hl
      refine lv_aload_n hx hb d_Md_lookData_0 rfl (lv_at hl 0 rfl) ?_
      refine cV (As := []) (rest := []) (n := 0) (wc := [(m0, .inr (6, mF g (K.1, K.2.1, K.2.2.1, K.2.2.2.1, nI X.length, K.2.2.2.2.2.1, K.2.2.2.2.2.2.1, K.2.2.2.2.2.2.2.1, nI a) A0 e np B)), ((g 30), .inl (cA 3, 2000, .inl yb))]) (wr := [((g 38), .inl (cA 3, 2000, .inl ow)), ((g 39), .inl (cA 3, 2000, .inl fi)), ((g 40), .inl (cA 3, 2000, .inl be))]) ⟨hx, hb, hml, hown, hts⟩ hno hlocks hl.1 (c_Md_number l hl9 D cA ad s.heap.size m0 g (K.1, K.2.1, K.2.2.1, K.2.2.2.1, nI X.length, K.2.2.2.2.2.1, K.2.2.2.2.2.2.1, K.2.2.2.2.2.2.2.1, nI a) A0 e np B yb b lm hlm hyb hb9 a 2 a1 (by omega) hmu) iw4_132 iw4_134 sel_Md_number iw1_7 iw4_135 (by decide +kernel) rfl ⟨Nat.le_of_ble_eq_true rfl, Nat.le_of_ble_eq_true rfl⟩ ⟨Nat.le_of_ble_eq_true rfl, Nat.le_of_ble_eq_true rfl⟩ rfl (Nat.le_of_ble_eq_true rfl) d_Md_lookData_1 hE hP hD hS hA [0, 1] [2, 3, 4] rfl rfl rfl rfl (by decide) (ci := 6) rfl rfl 0 rfl (fun _ h => h.elim) (fun v_1 u_1 H locs hp_1 hP hD hS => ?_)
      obtain rfl := hp_1
      have hP : va_P D cls [(m0, .inr (6, mF g (K.1, K.2.1, K.2.2.1, K.2.2.2.1, nI X.length, K.2.2.2.2.2.1, K.2.2.2.2.2.2.1, K.2.2.2.2.2.2.2.1, nI a1) A0 e np B)), ((g 30), .inl (cA 3, 2000, .inl yb)), ((g 38), .inl (cA 3, 2000, .inl ow)), ((g 39), .inl (cA 3, 2000, .inl fi)), ((g 40), .inl (cA 3, 2000, .inl be))] H := hP.sub [3, 4, 0, 1, 2] rfl
      have hD : va_D A [(m0, .inr (6, mF g (K.1, K.2.1, K.2.2.1, K.2.2.2.1, nI X.length, K.2.2.2.2.2.1, K.2.2.2.2.2.2.1, K.2.2.2.2.2.2.2.1, nI a1) A0 e np B)), ((g 30), .inl (cA 3, 2000, .inl yb)), ((g 38), .inl (cA 3, 2000, .inl ow)), ((g 39), .inl (cA 3, 2000, .inl fi)), ((g 40), .inl (cA 3, 2000, .inl be))] := hD.sub [3, 4, 0, 1, 2] (by decide) rfl
      refine W.cs (cells' := 0) (slots' := 0) rfl rfl ?_
      refine W.eq (g2 := F0 m 4 ls [.long (lN 2)]) rfl ?_
      refine lv_lstore_n (lv' := [(3, .long (lN 2)), (0, .ref m0), (1, .int (nI t)), (2, .int 4)]) hx hb d_Md_lookData_4 rfl hl (by decide) rfl (fun ls hl => ?_)
      refine lv_iload_n hx hb d_Md_lookData_5 rfl (lv_at hl 3 rfl) ?_
      refine lv_if_ne (tgt := 21) hx hb d_Md_lookData_6 (by decide) (fun c_6 => ?_) (fun c_6 => absurd c_6 (by decide))
      refine lv_lload_n hx hb d_Md_lookData_21 rfl (lv_at hl 0 rfl) ?_
      refine lv_ldc2 hx hb hown (hts _ (List.mem_cons_of_mem _ iw4_51)) d_Md_lookData_22 ?_
      refine W.lcmp hx hb d_Md_lookData_25 ?_
      refine lv_if_ne (tgt := 36) hx hb d_Md_lookData_26 (by decide) (fun c_26 => absurd (by decide +kernel) c_26) (fun c_26 => ?_)
      refine lv_aload_n hx hb d_Md_lookData_29 rfl (lv_at hl 1 rfl) ?_
      refine cV (As := []) (rest := []) (n := 0) (wc := [(m0, .inr (6, mF g (K.1, K.2.1, K.2.2.1, K.2.2.2.1, nI X.length, K.2.2.2.2.2.1, K.2.2.2.2.2.2.1, K.2.2.2.2.2.2.2.1, nI a1) A0 e np B)), ((g 30), .inl (cA 3, 2000, .inl yb))]) (wr := [((g 38), .inl (cA 3, 2000, .inl ow)), ((g 39), .inl (cA 3, 2000, .inl fi)), ((g 40), .inl (cA 3, 2000, .inl be))]) ⟨hx, hb, hml, hown, hts⟩ hno hlocks hl.1 (c_Md_number l hl9 D cA ad H.size m0 g (K.1, K.2.1, K.2.2.1, K.2.2.2.1, nI X.length, K.2.2.2.2.2.1, K.2.2.2.2.2.2.1, K.2.2.2.2.2.2.2.1, nI a1) A0 e np B yb b lm hlm hyb hb9 a1 v a2 (by omega) (hv2 rfl)) iw4_132 iw4_134 sel_Md_number iw1_7 iw4_135 (by decide +kernel) rfl ⟨Nat.le_of_ble_eq_true rfl, Nat.le_of_ble_eq_true rfl⟩ ⟨Nat.le_of_ble_eq_true rfl, Nat.le_of_ble_eq_true rfl⟩ rfl (Nat.le_of_ble_eq_true rfl) d_Md_lookData_30 hE hP hD hS hA [0, 1] [2, 3, 4] rfl rfl rfl rfl (by decide) (ci := 6) rfl rfl 0 rfl (fun _ h => h.elim) (fun v_30 u_30 H locs hp_30 hP hD hS => ?_)
      obtain rfl := hp_30
      have hP : va_P D cls [(m0, .inr (6, mF g (K.1, K.2.1, K.2.2.1, K.2.2.2.1, nI X.length, K.2.2.2.2.2.1, K.2.2.2.2.2.2.1, K.2.2.2.2.2.2.2.1, nI a2) A0 e np B)), ((g 30), .inl (cA 3, 2000, .inl yb)), ((g 38), .inl (cA 3, 2000, .inl ow)), ((g 39), .inl (cA 3, 2000, .inl fi)), ((g 40), .inl (cA 3, 2000, .inl be))] H := hP.sub [3, 4, 0, 1, 2] rfl
      have hD : va_D A [(m0, .inr (6, mF g (K.1, K.2.1, K.2.2.1, K.2.2.2.1, nI X.length, K.2.2.2.2.2.1, K.2.2.2.2.2.2.1, K.2.2.2.2.2.2.2.1, nI a2) A0 e np B)), ((g 30), .inl (cA 3, 2000, .inl yb)), ((g 38), .inl (cA 3, 2000, .inl ow)), ((g 39), .inl (cA 3, 2000, .inl fi)), ((g 40), .inl (cA 3, 2000, .inl be))] := hD.sub [3, 4, 0, 1, 2] (by decide) rfl
      refine W.cs (cells' := 0) (slots' := 0) rfl rfl ?_
      refine W.eq (g2 := F0 m 33 ls [.long (lN v)]) rfl ?_
      refine lv_goto (tgt := 37) hx hb d_Md_lookData_33 (by decide) ?_
      refine lv_lstore (lv' := [(5, .long (lN v)), (3, .long (lN 2)), (0, .ref m0), (1, .int (nI t)), (2, .int 4)]) hx hb d_Md_lookData_37 hl (by decide) rfl (fun ls hl => ?_)
      refine lv_iload_n hx hb d_Md_lookData_39 rfl (lv_at hl 4 rfl) ?_
      refine lv_iconst (v := 2) hx hb d_Md_lookData_40 (by decide) ?_
      refine lv_icmp_ne (tgt := 47) hx hb d_Md_lookData_41 (by decide) (fun c_41 => ?_) (fun c_41 => absurd c_41 (by decide))
      refine lv_iload_n hx hb d_Md_lookData_47 rfl (lv_at hl 4 rfl) ?_
      refine lv_iconst (v := 4) hx hb d_Md_lookData_48 (by decide) ?_
      refine lv_icmp_eq (tgt := 57) hx hb d_Md_lookData_49 (by decide) (fun c_49 => ?_) (fun c_49 => absurd (by decide) c_49)
      refine lv_lload_n hx hb d_Md_lookData_57 rfl (lv_at hl 1 rfl) ?_
      refine lv_lconst (v := 1) hx hb d_Md_lookData_58 (by decide) ?_
      refine W.lcmp hx hb d_Md_lookData_59 ?_
      refine lv_if_ne (tgt := 69) hx hb d_Md_lookData_60 (by decide) (fun c_60 => ?_) (fun c_60 => absurd c_60 (by decide +kernel))
      refine lv_aload_n hx hb d_Md_lookData_69 rfl (lv_at hl 2 rfl) ?_
      refine lv_iload_n hx hb d_Md_lookData_70 rfl (lv_at hl 3 rfl) ?_
      refine lv_iload_n hx hb d_Md_lookData_71 rfl (lv_at hl 4 rfl) ?_
      refine cV (As := [.int (nI t), .int 4]) (rest := []) (n := 2) (wc := [(m0, .inr (6, mF g (K.1, K.2.1, K.2.2.1, K.2.2.2.1, nI X.length, K.2.2.2.2.2.1, K.2.2.2.2.2.2.1, K.2.2.2.2.2.2.2.1, nI a2) A0 e np B)), ((g 38), .inl (cA 3, 2000, .inl ow)), ((g 39), .inl (cA 3, 2000, .inl fi)), ((g 40), .inl (cA 3, 2000, .inl be))]) (wr := [((g 30), .inl (cA 3, 2000, .inl yb))]) ⟨hx, hb, hml, hown, hts⟩ hno hlocks hl.1 (c_Md_placeOf l hl9 D cA ad H.size m0 g (K.1, K.2.1, K.2.2.1, K.2.2.2.1, nI X.length, K.2.2.2.2.2.1, K.2.2.2.2.2.2.1, K.2.2.2.2.2.2.2.1, nI a2) A0 e np B ow fi be X hXH hXf hX t (by omega) a2 x2 [] hexx (4 : Int32)) iw4_152 iw4_154 sel_Md_placeOf iw1_7 iw4_155 (by decide +kernel) rfl ⟨Nat.le_of_ble_eq_true rfl, Nat.le_of_ble_eq_true rfl⟩ ⟨Nat.le_of_ble_eq_true rfl, Nat.le_of_ble_eq_true rfl⟩ rfl (Nat.le_of_ble_eq_true rfl) d_Md_lookData_72 hE hP hD hS hA [0, 2, 3, 4] [1] rfl rfl rfl rfl (by decide) (ci := 6) rfl rfl 0 rfl (fun _ h => h.elim) (fun v_72 u_72 H locs hp_72 hP hD hS => ?_)
      obtain rfl := hp_72
      have hP : va_P D cls [(m0, .inr (6, mF g (K.1, K.2.1, K.2.2.1, K.2.2.2.1, nI X.length, K.2.2.2.2.2.1, K.2.2.2.2.2.2.1, K.2.2.2.2.2.2.2.1, nI a2) A0 e np B)), ((g 30), .inl (cA 3, 2000, .inl yb)), ((g 38), .inl (cA 3, 2000, .inl ow)), ((g 39), .inl (cA 3, 2000, .inl fi)), ((g 40), .inl (cA 3, 2000, .inl be))] H := hP.sub [1, 0, 2, 3, 4] rfl
      have hD : va_D A [(m0, .inr (6, mF g (K.1, K.2.1, K.2.2.1, K.2.2.2.1, nI X.length, K.2.2.2.2.2.1, K.2.2.2.2.2.2.1, K.2.2.2.2.2.2.2.1, nI a2) A0 e np B)), ((g 30), .inl (cA 3, 2000, .inl yb)), ((g 38), .inl (cA 3, 2000, .inl ow)), ((g 39), .inl (cA 3, 2000, .inl fi)), ((g 40), .inl (cA 3, 2000, .inl be))] := hD.sub [1, 0, 2, 3, 4] (by decide) rfl
      refine W.cs (cells' := 0) (slots' := 0) rfl rfl ?_
      refine W.eq (g2 := F0 m 75 ls [.int (if (4 : Int32) = 4 then nI a2 else nI x2)]) rfl ?_
      refine lv_i2l hx hb d_Md_lookData_75 rfl ?_
      rw [if_pos rfl, nI_l (n := a2) (by omega)]
      exact cRl (nI a2) hx hb hr hlocks d_Md_lookData_76 hS hP hD (rfl) (Nat.le_refl _) (Nat.le_refl _)
    · have hl : lv_has ls 9 [(0, .ref m0), (1, .int (nI t)), (2, .int 5)] := hl
      refine lv_aload_n hx hb d_Md_lookData_0 rfl (lv_at hl 0 rfl) ?_
      refine cV (As := []) (rest := []) (n := 0) (wc := [(m0, .inr (6, mF g (K.1, K.2.1, K.2.2.1, K.2.2.2.1, nI X.length, K.2.2.2.2.2.1, K.2.2.2.2.2.2.1, K.2.2.2.2.2.2.2.1, nI a) A0 e np B)), ((g 30), .inl (cA 3, 2000, .inl yb))]) (wr := [((g 38), .inl (cA 3, 2000, .inl ow)), ((g 39), .inl (cA 3, 2000, .inl fi)), ((g 40), .inl (cA 3, 2000, .inl be))]) ⟨hx, hb, hml, hown, hts⟩ hno hlocks hl.1 (c_Md_number l hl9 D cA ad s.heap.size m0 g (K.1, K.2.1, K.2.2.1, K.2.2.2.1, nI X.length, K.2.2.2.2.2.1, K.2.2.2.2.2.2.1, K.2.2.2.2.2.2.2.1, nI a) A0 e np B yb b lm hlm hyb hb9 a 2 a1 (by omega) hmu) iw4_132 iw4_134 sel_Md_number iw1_7 iw4_135 (by decide +kernel) rfl ⟨Nat.le_of_ble_eq_true rfl, Nat.le_of_ble_eq_true rfl⟩ ⟨Nat.le_of_ble_eq_true rfl, Nat.le_of_ble_eq_true rfl⟩ rfl (Nat.le_of_ble_eq_true rfl) d_Md_lookData_1 hE hP hD hS hA [0, 1] [2, 3, 4] rfl rfl rfl rfl (by decide) (ci := 6) rfl rfl 0 rfl (fun _ h => h.elim) (fun v_1 u_1 H locs hp_1 hP hD hS => ?_)
      obtain rfl := hp_1
      have hP : va_P D cls [(m0, .inr (6, mF g (K.1, K.2.1, K.2.2.1, K.2.2.2.1, nI X.length, K.2.2.2.2.2.1, K.2.2.2.2.2.2.1, K.2.2.2.2.2.2.2.1, nI a1) A0 e np B)), ((g 30), .inl (cA 3, 2000, .inl yb)), ((g 38), .inl (cA 3, 2000, .inl ow)), ((g 39), .inl (cA 3, 2000, .inl fi)), ((g 40), .inl (cA 3, 2000, .inl be))] H := hP.sub [3, 4, 0, 1, 2] rfl
      have hD : va_D A [(m0, .inr (6, mF g (K.1, K.2.1, K.2.2.1, K.2.2.2.1, nI X.length, K.2.2.2.2.2.1, K.2.2.2.2.2.2.1, K.2.2.2.2.2.2.2.1, nI a1) A0 e np B)), ((g 30), .inl (cA 3, 2000, .inl yb)), ((g 38), .inl (cA 3, 2000, .inl ow)), ((g 39), .inl (cA 3, 2000, .inl fi)), ((g 40), .inl (cA 3, 2000, .inl be))] := hD.sub [3, 4, 0, 1, 2] (by decide) rfl
      refine W.cs (cells' := 0) (slots' := 0) rfl rfl ?_
      refine W.eq (g2 := F0 m 4 ls [.long (lN 2)]) rfl ?_
      refine lv_lstore_n (lv' := [(3, .long (lN 2)), (0, .ref m0), (1, .int (nI t)), (2, .int 5)]) hx hb d_Md_lookData_4 rfl hl (by decide) rfl (fun ls hl => ?_)
      refine lv_iload_n hx hb d_Md_lookData_5 rfl (lv_at hl 3 rfl) ?_
      refine lv_if_ne (tgt := 21) hx hb d_Md_lookData_6 (by decide) (fun c_6 => ?_) (fun c_6 => absurd c_6 (by decide))
      refine lv_lload_n hx hb d_Md_lookData_21 rfl (lv_at hl 0 rfl) ?_
      refine lv_ldc2 hx hb hown (hts _ (List.mem_cons_of_mem _ iw4_51)) d_Md_lookData_22 ?_
      refine W.lcmp hx hb d_Md_lookData_25 ?_
      refine lv_if_ne (tgt := 36) hx hb d_Md_lookData_26 (by decide) (fun c_26 => absurd (by decide +kernel) c_26) (fun c_26 => ?_)
      refine lv_aload_n hx hb d_Md_lookData_29 rfl (lv_at hl 1 rfl) ?_
      refine cV (As := []) (rest := []) (n := 0) (wc := [(m0, .inr (6, mF g (K.1, K.2.1, K.2.2.1, K.2.2.2.1, nI X.length, K.2.2.2.2.2.1, K.2.2.2.2.2.2.1, K.2.2.2.2.2.2.2.1, nI a1) A0 e np B)), ((g 30), .inl (cA 3, 2000, .inl yb))]) (wr := [((g 38), .inl (cA 3, 2000, .inl ow)), ((g 39), .inl (cA 3, 2000, .inl fi)), ((g 40), .inl (cA 3, 2000, .inl be))]) ⟨hx, hb, hml, hown, hts⟩ hno hlocks hl.1 (c_Md_number l hl9 D cA ad H.size m0 g (K.1, K.2.1, K.2.2.1, K.2.2.2.1, nI X.length, K.2.2.2.2.2.1, K.2.2.2.2.2.2.1, K.2.2.2.2.2.2.2.1, nI a1) A0 e np B yb b lm hlm hyb hb9 a1 v a2 (by omega) (hv2 rfl)) iw4_132 iw4_134 sel_Md_number iw1_7 iw4_135 (by decide +kernel) rfl ⟨Nat.le_of_ble_eq_true rfl, Nat.le_of_ble_eq_true rfl⟩ ⟨Nat.le_of_ble_eq_true rfl, Nat.le_of_ble_eq_true rfl⟩ rfl (Nat.le_of_ble_eq_true rfl) d_Md_lookData_30 hE hP hD hS hA [0, 1] [2, 3, 4] rfl rfl rfl rfl (by decide) (ci := 6) rfl rfl 0 rfl (fun _ h => h.elim) (fun v_30 u_30 H locs hp_30 hP hD hS => ?_)
      obtain rfl := hp_30
      have hP : va_P D cls [(m0, .inr (6, mF g (K.1, K.2.1, K.2.2.1, K.2.2.2.1, nI X.length, K.2.2.2.2.2.1, K.2.2.2.2.2.2.1, K.2.2.2.2.2.2.2.1, nI a2) A0 e np B)), ((g 30), .inl (cA 3, 2000, .inl yb)), ((g 38), .inl (cA 3, 2000, .inl ow)), ((g 39), .inl (cA 3, 2000, .inl fi)), ((g 40), .inl (cA 3, 2000, .inl be))] H := hP.sub [3, 4, 0, 1, 2] rfl
      have hD : va_D A [(m0, .inr (6, mF g (K.1, K.2.1, K.2.2.1, K.2.2.2.1, nI X.length, K.2.2.2.2.2.1, K.2.2.2.2.2.2.1, K.2.2.2.2.2.2.2.1, nI a2) A0 e np B)), ((g 30), .inl (cA 3, 2000, .inl yb)), ((g 38), .inl (cA 3, 2000, .inl ow)), ((g 39), .inl (cA 3, 2000, .inl fi)), ((g 40), .inl (cA 3, 2000, .inl be))] := hD.sub [3, 4, 0, 1, 2] (by decide) rfl
      refine W.cs (cells' := 0) (slots' := 0) rfl rfl ?_
      refine W.eq (g2 := F0 m 33 ls [.long (lN v)]) rfl ?_
      refine lv_goto (tgt := 37) hx hb d_Md_lookData_33 (by decide) ?_
      refine lv_lstore (lv' := [(5, .long (lN v)), (3, .long (lN 2)), (0, .ref m0), (1, .int (nI t)), (2, .int 5)]) hx hb d_Md_lookData_37 hl (by decide) rfl (fun ls hl => ?_)
      refine lv_iload_n hx hb d_Md_lookData_39 rfl (lv_at hl 4 rfl) ?_
      refine lv_iconst (v := 2) hx hb d_Md_lookData_40 (by decide) ?_
      refine lv_icmp_ne (tgt := 47) hx hb d_Md_lookData_41 (by decide) (fun c_41 => ?_) (fun c_41 => absurd c_41 (by decide))
      refine lv_iload_n hx hb d_Md_lookData_47 rfl (lv_at hl 4 rfl) ?_
      refine lv_iconst (v := 4) hx hb d_Md_lookData_48 (by decide) ?_
      refine lv_icmp_eq (tgt := 57) hx hb d_Md_lookData_49 (by decide) (fun c_49 => absurd c_49 (by decide)) (fun c_49 => ?_)
      refine lv_iload_n hx hb d_Md_lookData_52 rfl (lv_at hl 4 rfl) ?_
      refine lv_iconst (v := 5) hx hb d_Md_lookData_53 (by decide) ?_
      refine lv_icmp_ne (tgt := 77) hx hb d_Md_lookData_54 (by decide) (fun c_54 => absurd (by decide) c_54) (fun c_54 => ?_)
      refine lv_lload_n hx hb d_Md_lookData_57 rfl (lv_at hl 1 rfl) ?_
      refine lv_lconst (v := 1) hx hb d_Md_lookData_58 (by decide) ?_
      refine W.lcmp hx hb d_Md_lookData_59 ?_
      refine lv_if_ne (tgt := 69) hx hb d_Md_lookData_60 (by decide) (fun c_60 => ?_) (fun c_60 => absurd c_60 (by decide +kernel))
      refine lv_aload_n hx hb d_Md_lookData_69 rfl (lv_at hl 2 rfl) ?_
      refine lv_iload_n hx hb d_Md_lookData_70 rfl (lv_at hl 3 rfl) ?_
      refine lv_iload_n hx hb d_Md_lookData_71 rfl (lv_at hl 4 rfl) ?_
      refine cV (As := [.int (nI t), .int 5]) (rest := []) (n := 2) (wc := [(m0, .inr (6, mF g (K.1, K.2.1, K.2.2.1, K.2.2.2.1, nI X.length, K.2.2.2.2.2.1, K.2.2.2.2.2.2.1, K.2.2.2.2.2.2.2.1, nI a2) A0 e np B)), ((g 38), .inl (cA 3, 2000, .inl ow)), ((g 39), .inl (cA 3, 2000, .inl fi)), ((g 40), .inl (cA 3, 2000, .inl be))]) (wr := [((g 30), .inl (cA 3, 2000, .inl yb))]) ⟨hx, hb, hml, hown, hts⟩ hno hlocks hl.1 (c_Md_placeOf l hl9 D cA ad H.size m0 g (K.1, K.2.1, K.2.2.1, K.2.2.2.1, nI X.length, K.2.2.2.2.2.1, K.2.2.2.2.2.2.1, K.2.2.2.2.2.2.2.1, nI a2) A0 e np B ow fi be X hXH hXf hX t (by omega) a2 x2 [] hexx (5 : Int32)) iw4_152 iw4_154 sel_Md_placeOf iw1_7 iw4_155 (by decide +kernel) rfl ⟨Nat.le_of_ble_eq_true rfl, Nat.le_of_ble_eq_true rfl⟩ ⟨Nat.le_of_ble_eq_true rfl, Nat.le_of_ble_eq_true rfl⟩ rfl (Nat.le_of_ble_eq_true rfl) d_Md_lookData_72 hE hP hD hS hA [0, 2, 3, 4] [1] rfl rfl rfl rfl (by decide) (ci := 6) rfl rfl 0 rfl (fun _ h => h.elim) (fun v_72 u_72 H locs hp_72 hP hD hS => ?_)
      obtain rfl := hp_72
      have hP : va_P D cls [(m0, .inr (6, mF g (K.1, K.2.1, K.2.2.1, K.2.2.2.1, nI X.length, K.2.2.2.2.2.1, K.2.2.2.2.2.2.1, K.2.2.2.2.2.2.2.1, nI a2) A0 e np B)), ((g 30), .inl (cA 3, 2000, .inl yb)), ((g 38), .inl (cA 3, 2000, .inl ow)), ((g 39), .inl (cA 3, 2000, .inl fi)), ((g 40), .inl (cA 3, 2000, .inl be))] H := hP.sub [1, 0, 2, 3, 4] rfl
      have hD : va_D A [(m0, .inr (6, mF g (K.1, K.2.1, K.2.2.1, K.2.2.2.1, nI X.length, K.2.2.2.2.2.1, K.2.2.2.2.2.2.1, K.2.2.2.2.2.2.2.1, nI a2) A0 e np B)), ((g 30), .inl (cA 3, 2000, .inl yb)), ((g 38), .inl (cA 3, 2000, .inl ow)), ((g 39), .inl (cA 3, 2000, .inl fi)), ((g 40), .inl (cA 3, 2000, .inl be))] := hD.sub [1, 0, 2, 3, 4] (by decide) rfl
      refine W.cs (cells' := 0) (slots' := 0) rfl rfl ?_
      refine W.eq (g2 := F0 m 75 ls [.int (if (5 : Int32) = 4 then nI a2 else nI x2)]) rfl ?_
      refine lv_i2l hx hb d_Md_lookData_75 rfl ?_
      rw [if_neg (by decide), nI_l (n := x2) (by omega)]
      exact cRl (nI a2) hx hb hr hlocks d_Md_lookData_76 hS hP hD (rfl) (Nat.le_refl _) (Nat.le_refl _)
    · have hl : lv_has ls 9 [(0, .ref m0), (1, .int (nI t)), (2, .int 6)] := hl
      refine lv_aload_n hx hb d_Md_lookData_0 rfl (lv_at hl 0 rfl) ?_
      refine cV (As := []) (rest := []) (n := 0) (wc := [(m0, .inr (6, mF g (K.1, K.2.1, K.2.2.1, K.2.2.2.1, nI X.length, K.2.2.2.2.2.1, K.2.2.2.2.2.2.1, K.2.2.2.2.2.2.2.1, nI a) A0 e np B)), ((g 30), .inl (cA 3, 2000, .inl yb))]) (wr := [((g 38), .inl (cA 3, 2000, .inl ow)), ((g 39), .inl (cA 3, 2000, .inl fi)), ((g 40), .inl (cA 3, 2000, .inl be))]) ⟨hx, hb, hml, hown, hts⟩ hno hlocks hl.1 (c_Md_number l hl9 D cA ad s.heap.size m0 g (K.1, K.2.1, K.2.2.1, K.2.2.2.1, nI X.length, K.2.2.2.2.2.1, K.2.2.2.2.2.2.1, K.2.2.2.2.2.2.2.1, nI a) A0 e np B yb b lm hlm hyb hb9 a 2 a1 (by omega) hmu) iw4_132 iw4_134 sel_Md_number iw1_7 iw4_135 (by decide +kernel) rfl ⟨Nat.le_of_ble_eq_true rfl, Nat.le_of_ble_eq_true rfl⟩ ⟨Nat.le_of_ble_eq_true rfl, Nat.le_of_ble_eq_true rfl⟩ rfl (Nat.le_of_ble_eq_true rfl) d_Md_lookData_1 hE hP hD hS hA [0, 1] [2, 3, 4] rfl rfl rfl rfl (by decide) (ci := 6) rfl rfl 0 rfl (fun _ h => h.elim) (fun v_1 u_1 H locs hp_1 hP hD hS => ?_)
      obtain rfl := hp_1
      have hP : va_P D cls [(m0, .inr (6, mF g (K.1, K.2.1, K.2.2.1, K.2.2.2.1, nI X.length, K.2.2.2.2.2.1, K.2.2.2.2.2.2.1, K.2.2.2.2.2.2.2.1, nI a1) A0 e np B)), ((g 30), .inl (cA 3, 2000, .inl yb)), ((g 38), .inl (cA 3, 2000, .inl ow)), ((g 39), .inl (cA 3, 2000, .inl fi)), ((g 40), .inl (cA 3, 2000, .inl be))] H := hP.sub [3, 4, 0, 1, 2] rfl
      have hD : va_D A [(m0, .inr (6, mF g (K.1, K.2.1, K.2.2.1, K.2.2.2.1, nI X.length, K.2.2.2.2.2.1, K.2.2.2.2.2.2.1, K.2.2.2.2.2.2.2.1, nI a1) A0 e np B)), ((g 30), .inl (cA 3, 2000, .inl yb)), ((g 38), .inl (cA 3, 2000, .inl ow)), ((g 39), .inl (cA 3, 2000, .inl fi)), ((g 40), .inl (cA 3, 2000, .inl be))] := hD.sub [3, 4, 0, 1, 2] (by decide) rfl
      refine W.cs (cells' := 0) (slots' := 0) rfl rfl ?_
      refine W.eq (g2 := F0 m 4 ls [.long (lN 2)]) rfl ?_
      refine lv_lstore_n (lv' := [(3, .long (lN 2)), (0, .ref m0), (1, .int (nI t)), (2, .int 6)]) hx hb d_Md_lookData_4 rfl hl (by decide) rfl (fun ls hl => ?_)
      refine lv_iload_n hx hb d_Md_lookData_5 rfl (lv_at hl 3 rfl) ?_
      refine lv_if_ne (tgt := 21) hx hb d_Md_lookData_6 (by decide) (fun c_6 => ?_) (fun c_6 => absurd c_6 (by decide))
      refine lv_lload_n hx hb d_Md_lookData_21 rfl (lv_at hl 0 rfl) ?_
      refine lv_ldc2 hx hb hown (hts _ (List.mem_cons_of_mem _ iw4_51)) d_Md_lookData_22 ?_
      refine W.lcmp hx hb d_Md_lookData_25 ?_
      refine lv_if_ne (tgt := 36) hx hb d_Md_lookData_26 (by decide) (fun c_26 => absurd (by decide +kernel) c_26) (fun c_26 => ?_)
      refine lv_aload_n hx hb d_Md_lookData_29 rfl (lv_at hl 1 rfl) ?_
      refine cV (As := []) (rest := []) (n := 0) (wc := [(m0, .inr (6, mF g (K.1, K.2.1, K.2.2.1, K.2.2.2.1, nI X.length, K.2.2.2.2.2.1, K.2.2.2.2.2.2.1, K.2.2.2.2.2.2.2.1, nI a1) A0 e np B)), ((g 30), .inl (cA 3, 2000, .inl yb))]) (wr := [((g 38), .inl (cA 3, 2000, .inl ow)), ((g 39), .inl (cA 3, 2000, .inl fi)), ((g 40), .inl (cA 3, 2000, .inl be))]) ⟨hx, hb, hml, hown, hts⟩ hno hlocks hl.1 (c_Md_number l hl9 D cA ad H.size m0 g (K.1, K.2.1, K.2.2.1, K.2.2.2.1, nI X.length, K.2.2.2.2.2.1, K.2.2.2.2.2.2.1, K.2.2.2.2.2.2.2.1, nI a1) A0 e np B yb b lm hlm hyb hb9 a1 v a2 (by omega) (hv2 rfl)) iw4_132 iw4_134 sel_Md_number iw1_7 iw4_135 (by decide +kernel) rfl ⟨Nat.le_of_ble_eq_true rfl, Nat.le_of_ble_eq_true rfl⟩ ⟨Nat.le_of_ble_eq_true rfl, Nat.le_of_ble_eq_true rfl⟩ rfl (Nat.le_of_ble_eq_true rfl) d_Md_lookData_30 hE hP hD hS hA [0, 1] [2, 3, 4] rfl rfl rfl rfl (by decide) (ci := 6) rfl rfl 0 rfl (fun _ h => h.elim) (fun v_30 u_30 H locs hp_30 hP hD hS => ?_)
      obtain rfl := hp_30
      have hP : va_P D cls [(m0, .inr (6, mF g (K.1, K.2.1, K.2.2.1, K.2.2.2.1, nI X.length, K.2.2.2.2.2.1, K.2.2.2.2.2.2.1, K.2.2.2.2.2.2.2.1, nI a2) A0 e np B)), ((g 30), .inl (cA 3, 2000, .inl yb)), ((g 38), .inl (cA 3, 2000, .inl ow)), ((g 39), .inl (cA 3, 2000, .inl fi)), ((g 40), .inl (cA 3, 2000, .inl be))] H := hP.sub [3, 4, 0, 1, 2] rfl
      have hD : va_D A [(m0, .inr (6, mF g (K.1, K.2.1, K.2.2.1, K.2.2.2.1, nI X.length, K.2.2.2.2.2.1, K.2.2.2.2.2.2.1, K.2.2.2.2.2.2.2.1, nI a2) A0 e np B)), ((g 30), .inl (cA 3, 2000, .inl yb)), ((g 38), .inl (cA 3, 2000, .inl ow)), ((g 39), .inl (cA 3, 2000, .inl fi)), ((g 40), .inl (cA 3, 2000, .inl be))] := hD.sub [3, 4, 0, 1, 2] (by decide) rfl
      refine W.cs (cells' := 0) (slots' := 0) rfl rfl ?_
      refine W.eq (g2 := F0 m 33 ls [.long (lN v)]) rfl ?_
      refine lv_goto (tgt := 37) hx hb d_Md_lookData_33 (by decide) ?_
      refine lv_lstore (lv' := [(5, .long (lN v)), (3, .long (lN 2)), (0, .ref m0), (1, .int (nI t)), (2, .int 6)]) hx hb d_Md_lookData_37 hl (by decide) rfl (fun ls hl => ?_)
      refine lv_iload_n hx hb d_Md_lookData_39 rfl (lv_at hl 4 rfl) ?_
      refine lv_iconst (v := 2) hx hb d_Md_lookData_40 (by decide) ?_
      refine lv_icmp_ne (tgt := 47) hx hb d_Md_lookData_41 (by decide) (fun c_41 => ?_) (fun c_41 => absurd c_41 (by decide))
      refine lv_iload_n hx hb d_Md_lookData_47 rfl (lv_at hl 4 rfl) ?_
      refine lv_iconst (v := 4) hx hb d_Md_lookData_48 (by decide) ?_
      refine lv_icmp_eq (tgt := 57) hx hb d_Md_lookData_49 (by decide) (fun c_49 => absurd c_49 (by decide)) (fun c_49 => ?_)
      refine lv_iload_n hx hb d_Md_lookData_52 rfl (lv_at hl 4 rfl) ?_
      refine lv_iconst (v := 5) hx hb d_Md_lookData_53 (by decide) ?_
      refine lv_icmp_ne (tgt := 77) hx hb d_Md_lookData_54 (by decide) (fun c_54 => ?_) (fun c_54 => absurd c_54 (by decide))
      refine lv_lload_n hx hb d_Md_lookData_77 rfl (lv_at hl 1 rfl) ?_
      refine lv_lconst (v := 1) hx hb d_Md_lookData_78 (by decide) ?_
      refine W.lcmp hx hb d_Md_lookData_79 ?_
      refine lv_if_eq (tgt := 98) hx hb d_Md_lookData_80 (by decide) (fun c_80 => absurd c_80 (by decide +kernel)) (fun c_80 => ?_)
      refine lv_aload_n hx hb d_Md_lookData_83 rfl (lv_at hl 2 rfl) ?_
      refine lv_aload_n hx hb d_Md_lookData_84 rfl (lv_at hl 2 rfl) ?_
      refine va_get (D := D) (ci := 6) (v := .ref (g 40)) (C := R_Md) (T := F_Md) (N := 44) hx hb hts (fun w h => List.mem_cons_of_mem _ (i_Md w h)) hown hE.1 hP 0 rfl rfl 40 (by decide) (hts _ (List.mem_cons_of_mem _ iw3_94)) (fun _ h9 => h9) rfl d_Md_lookData_85 ?_
      refine lv_aload_n hx hb d_Md_lookData_88 rfl (lv_at hl 2 rfl) ?_
      refine lv_iload_n hx hb d_Md_lookData_89 rfl (lv_at hl 3 rfl) ?_
      refine lv_iconst (v := 0) hx hb d_Md_lookData_90 (by decide) ?_
      refine cV (As := [.int (nI t), .int 0]) (rest := [.ref (g 40), .ref m0]) (n := 2) (wc := [(m0, .inr (6, mF g (K.1, K.2.1, K.2.2.1, K.2.2.2.1, nI X.length, K.2.2.2.2.2.1, K.2.2.2.2.2.2.1, K.2.2.2.2.2.2.2.1, nI a2) A0 e np B)), ((g 38), .inl (cA 3, 2000, .inl ow))]) (wr := [((g 30), .inl (cA 3, 2000, .inl yb)), ((g 39), .inl (cA 3, 2000, .inl fi)), ((g 40), .inl (cA 3, 2000, .inl be))]) ⟨hx, hb, hml, hown, hts⟩ hno hlocks hl.1 (c_Md_expressionOf l hl9 D cA ad H.size m0 g (K.1, K.2.1, K.2.2.1, K.2.2.2.1, nI X.length, K.2.2.2.2.2.1, K.2.2.2.2.2.2.1, K.2.2.2.2.2.2.2.1, nI a2) A0 e np B ow fi be X hXH hXf hX t (by omega) 0 (by omega)) iw4_156 iw4_158 sel_Md_expressionOf iw1_7 iw4_159 (by decide +kernel) rfl ⟨Nat.le_of_ble_eq_true rfl, Nat.le_of_ble_eq_true rfl⟩ ⟨Nat.le_of_ble_eq_true rfl, Nat.le_of_ble_eq_true rfl⟩ rfl (Nat.le_of_ble_eq_true rfl) d_Md_lookData_91 hE hP hD hS hA [0, 2] [1, 3, 4] rfl rfl rfl rfl (by decide) (ci := 6) rfl rfl 0 rfl (fun _ h => h.elim) (fun v_91 u_91 H locs hp_91 hP hD hS => ?_)
      rcases hp_91 with ⟨rfl, hno246⟩ | ⟨e246_, f246_, z246_, he246, rfl, hg246, hfi246, hbe246, hfb246, hzb246⟩
      · exact absurd hno246 (by rw [hexx]; simp)
      have hP : va_P D cls [(m0, .inr (6, mF g (K.1, K.2.1, K.2.2.1, K.2.2.2.1, nI X.length, K.2.2.2.2.2.1, K.2.2.2.2.2.2.1, K.2.2.2.2.2.2.2.1, nI a2) A0 e np B)), ((g 30), .inl (cA 3, 2000, .inl yb)), ((g 38), .inl (cA 3, 2000, .inl ow)), ((g 39), .inl (cA 3, 2000, .inl fi)), ((g 40), .inl (cA 3, 2000, .inl be))] H := hP.sub [3, 0, 4, 1, 2] rfl
      have hD : va_D A [(m0, .inr (6, mF g (K.1, K.2.1, K.2.2.1, K.2.2.2.1, nI X.length, K.2.2.2.2.2.1, K.2.2.2.2.2.2.1, K.2.2.2.2.2.2.2.1, nI a2) A0 e np B)), ((g 30), .inl (cA 3, 2000, .inl yb)), ((g 38), .inl (cA 3, 2000, .inl ow)), ((g 39), .inl (cA 3, 2000, .inl fi)), ((g 40), .inl (cA 3, 2000, .inl be))] := hD.sub [3, 0, 4, 1, 2] (by decide) rfl
      refine W.cs (cells' := 0) (slots' := 0) rfl rfl ?_
      refine W.eq (g2 := F0 m 94 ls [.int (nI e246_), .ref (g 40), .ref m0]) rfl ?_
      refine va_iald hx hb hE.1 hP 4 3 rfl rfl (vp_in_nI (by omega) (by omega)) d_Md_lookData_94 ?_
      rw [nI_clamp (n := e246_) (by omega), hbe246, show z246_ = x2 from by rw [hexx] at hg246; exact (congrArg Prod.snd (Option.some.inj hg246)).symm]
      refine va_put (D := D) (ci := 6) (v := .int (nI x2)) (ty := .int) (C := R_Md) (T := F_Md) (N := 44) hx hb hts (fun w h => List.mem_cons_of_mem _ (i_Md w h)) t_Md tk_Md n_Md hown hE.1 hP hD hS 0 rfl rfl 43 (by decide) (hts _ (List.mem_cons_of_mem _ iw3_97)) (fun _ h9 => h9) rfl (by decide +kernel) rfl rfl (Nat.le_of_ble_eq_true rfl) d_Md_lookData_95 (fun H locs hP hD hS => ?_)
      have hP : va_P D cls [(m0, .inr (6, mF g (K.1, K.2.1, K.2.2.1, K.2.2.2.1, nI X.length, K.2.2.2.2.2.1, K.2.2.2.2.2.2.1, K.2.2.2.2.2.2.2.1, nI x2) A0 e np B)), ((g 30), .inl (cA 3, 2000, .inl yb)), ((g 38), .inl (cA 3, 2000, .inl ow)), ((g 39), .inl (cA 3, 2000, .inl fi)), ((g 40), .inl (cA 3, 2000, .inl be))] H := hP
      have hD : va_D A [(m0, .inr (6, mF g (K.1, K.2.1, K.2.2.1, K.2.2.2.1, nI X.length, K.2.2.2.2.2.1, K.2.2.2.2.2.2.1, K.2.2.2.2.2.2.2.1, nI x2) A0 e np B)), ((g 30), .inl (cA 3, 2000, .inl yb)), ((g 38), .inl (cA 3, 2000, .inl ow)), ((g 39), .inl (cA 3, 2000, .inl fi)), ((g 40), .inl (cA 3, 2000, .inl be))] := hD
      refine lv_aload_n hx hb d_Md_lookData_98 rfl (lv_at hl 2 rfl) ?_
      refine cV (As := []) (rest := []) (n := 0) (wc := [(m0, .inr (6, mF g (K.1, K.2.1, K.2.2.1, K.2.2.2.1, nI X.length, K.2.2.2.2.2.1, K.2.2.2.2.2.2.1, K.2.2.2.2.2.2.2.1, nI x2) A0 e np B)), ((g 30), .inl (cA 3, 2000, .inl yb))]) (wr := [((g 38), .inl (cA 3, 2000, .inl ow)), ((g 39), .inl (cA 3, 2000, .inl fi)), ((g 40), .inl (cA 3, 2000, .inl be))]) ⟨hx, hb, hml, hown, hts⟩ hno hlocks hl.1 (c_Md_number l hl9 D cA ad H.size m0 g (K.1, K.2.1, K.2.2.1, K.2.2.2.1, nI X.length, K.2.2.2.2.2.1, K.2.2.2.2.2.2.1, K.2.2.2.2.2.2.2.1, nI x2) A0 e np B yb b lm hlm hyb hb9 x2 n_ a3 (by omega) hnn) iw4_132 iw4_134 sel_Md_number iw1_7 iw4_135 (by decide +kernel) rfl ⟨Nat.le_of_ble_eq_true rfl, Nat.le_of_ble_eq_true rfl⟩ ⟨Nat.le_of_ble_eq_true rfl, Nat.le_of_ble_eq_true rfl⟩ rfl (Nat.le_of_ble_eq_true rfl) d_Md_lookData_99 hE hP hD hS hA [0, 1] [2, 3, 4] rfl rfl rfl rfl (by decide) (ci := 6) rfl rfl 0 rfl (fun _ h => h.elim) (fun v_99 u_99 H locs hp_99 hP hD hS => ?_)
      obtain rfl := hp_99
      have hP : va_P D cls [(m0, .inr (6, mF g (K.1, K.2.1, K.2.2.1, K.2.2.2.1, nI X.length, K.2.2.2.2.2.1, K.2.2.2.2.2.2.1, K.2.2.2.2.2.2.2.1, nI a3) A0 e np B)), ((g 30), .inl (cA 3, 2000, .inl yb)), ((g 38), .inl (cA 3, 2000, .inl ow)), ((g 39), .inl (cA 3, 2000, .inl fi)), ((g 40), .inl (cA 3, 2000, .inl be))] H := hP.sub [3, 4, 0, 1, 2] rfl
      have hD : va_D A [(m0, .inr (6, mF g (K.1, K.2.1, K.2.2.1, K.2.2.2.1, nI X.length, K.2.2.2.2.2.1, K.2.2.2.2.2.2.1, K.2.2.2.2.2.2.2.1, nI a3) A0 e np B)), ((g 30), .inl (cA 3, 2000, .inl yb)), ((g 38), .inl (cA 3, 2000, .inl ow)), ((g 39), .inl (cA 3, 2000, .inl fi)), ((g 40), .inl (cA 3, 2000, .inl be))] := hD.sub [3, 4, 0, 1, 2] (by decide) rfl
      refine W.cs (cells' := 0) (slots' := 0) rfl rfl ?_
      refine W.eq (g2 := F0 m 102 ls [.long (lN n_)]) rfl ?_
      refine lv_lstore (lv' := [(7, .long (lN n_)), (5, .long (lN v)), (3, .long (lN 2)), (0, .ref m0), (1, .int (nI t)), (2, .int 6)]) hx hb d_Md_lookData_102 hl (by decide) rfl (fun ls hl => ?_)
      refine lv_iload_n hx hb d_Md_lookData_104 rfl (lv_at hl 5 rfl) ?_
      refine lv_iconst (v := 3) hx hb d_Md_lookData_105 (by decide) ?_
      refine lv_icmp_ne (tgt := 114) hx hb d_Md_lookData_106 (by decide) (fun c_106 => ?_) (fun c_106 => absurd c_106 (by decide))
      refine lv_iload_n hx hb d_Md_lookData_114 rfl (lv_at hl 5 rfl) ?_
      refine lv_bipush (v := 6) hx hb d_Md_lookData_115 (by decide) ?_
      refine lv_icmp_ne (tgt := 128) hx hb d_Md_lookData_117 (by decide) (fun c_117 => absurd (by decide) c_117) (fun c_117 => ?_)
      refine lv_aload_n hx hb d_Md_lookData_120 rfl (lv_at hl 3 rfl) ?_
      refine va_get (D := D) (ci := 6) (v := .int (nI a3)) (C := R_Md) (T := F_Md) (N := 44) hx hb hts (fun w h => List.mem_cons_of_mem _ (i_Md w h)) hown hE.1 hP 0 rfl rfl 43 (by decide) (hts _ (List.mem_cons_of_mem _ iw3_97)) (fun _ h9 => h9) rfl d_Md_lookData_121 ?_
      refine lv_i2l hx hb d_Md_lookData_124 rfl ?_
      rw [nI_l (n := a3) (by omega)]
      refine lv_goto (tgt := 131) hx hb d_Md_lookData_125 (by decide) ?_
      exact cRl (nI a3) hx hb hr hlocks d_Md_lookData_131 hS hP hD (rfl) (Nat.le_refl _) (Nat.le_refl _)
    · have hl : lv_has ls 9 [(0, .ref m0), (1, .int (nI t)), (2, .int 7)] := hl
      refine lv_aload_n hx hb d_Md_lookData_0 rfl (lv_at hl 0 rfl) ?_
      refine cV (As := []) (rest := []) (n := 0) (wc := [(m0, .inr (6, mF g (K.1, K.2.1, K.2.2.1, K.2.2.2.1, nI X.length, K.2.2.2.2.2.1, K.2.2.2.2.2.2.1, K.2.2.2.2.2.2.2.1, nI a) A0 e np B)), ((g 30), .inl (cA 3, 2000, .inl yb))]) (wr := [((g 38), .inl (cA 3, 2000, .inl ow)), ((g 39), .inl (cA 3, 2000, .inl fi)), ((g 40), .inl (cA 3, 2000, .inl be))]) ⟨hx, hb, hml, hown, hts⟩ hno hlocks hl.1 (c_Md_number l hl9 D cA ad s.heap.size m0 g (K.1, K.2.1, K.2.2.1, K.2.2.2.1, nI X.length, K.2.2.2.2.2.1, K.2.2.2.2.2.2.1, K.2.2.2.2.2.2.2.1, nI a) A0 e np B yb b lm hlm hyb hb9 a 2 a1 (by omega) hmu) iw4_132 iw4_134 sel_Md_number iw1_7 iw4_135 (by decide +kernel) rfl ⟨Nat.le_of_ble_eq_true rfl, Nat.le_of_ble_eq_true rfl⟩ ⟨Nat.le_of_ble_eq_true rfl, Nat.le_of_ble_eq_true rfl⟩ rfl (Nat.le_of_ble_eq_true rfl) d_Md_lookData_1 hE hP hD hS hA [0, 1] [2, 3, 4] rfl rfl rfl rfl (by decide) (ci := 6) rfl rfl 0 rfl (fun _ h => h.elim) (fun v_1 u_1 H locs hp_1 hP hD hS => ?_)
      obtain rfl := hp_1
      have hP : va_P D cls [(m0, .inr (6, mF g (K.1, K.2.1, K.2.2.1, K.2.2.2.1, nI X.length, K.2.2.2.2.2.1, K.2.2.2.2.2.2.1, K.2.2.2.2.2.2.2.1, nI a1) A0 e np B)), ((g 30), .inl (cA 3, 2000, .inl yb)), ((g 38), .inl (cA 3, 2000, .inl ow)), ((g 39), .inl (cA 3, 2000, .inl fi)), ((g 40), .inl (cA 3, 2000, .inl be))] H := hP.sub [3, 4, 0, 1, 2] rfl
      have hD : va_D A [(m0, .inr (6, mF g (K.1, K.2.1, K.2.2.1, K.2.2.2.1, nI X.length, K.2.2.2.2.2.1, K.2.2.2.2.2.2.1, K.2.2.2.2.2.2.2.1, nI a1) A0 e np B)), ((g 30), .inl (cA 3, 2000, .inl yb)), ((g 38), .inl (cA 3, 2000, .inl ow)), ((g 39), .inl (cA 3, 2000, .inl fi)), ((g 40), .inl (cA 3, 2000, .inl be))] := hD.sub [3, 4, 0, 1, 2] (by decide) rfl
      refine W.cs (cells' := 0) (slots' := 0) rfl rfl ?_
      refine W.eq (g2 := F0 m 4 ls [.long (lN 2)]) rfl ?_
      refine lv_lstore_n (lv' := [(3, .long (lN 2)), (0, .ref m0), (1, .int (nI t)), (2, .int 7)]) hx hb d_Md_lookData_4 rfl hl (by decide) rfl (fun ls hl => ?_)
      refine lv_iload_n hx hb d_Md_lookData_5 rfl (lv_at hl 3 rfl) ?_
      refine lv_if_ne (tgt := 21) hx hb d_Md_lookData_6 (by decide) (fun c_6 => ?_) (fun c_6 => absurd c_6 (by decide))
      refine lv_lload_n hx hb d_Md_lookData_21 rfl (lv_at hl 0 rfl) ?_
      refine lv_ldc2 hx hb hown (hts _ (List.mem_cons_of_mem _ iw4_51)) d_Md_lookData_22 ?_
      refine W.lcmp hx hb d_Md_lookData_25 ?_
      refine lv_if_ne (tgt := 36) hx hb d_Md_lookData_26 (by decide) (fun c_26 => absurd (by decide +kernel) c_26) (fun c_26 => ?_)
      refine lv_aload_n hx hb d_Md_lookData_29 rfl (lv_at hl 1 rfl) ?_
      refine cV (As := []) (rest := []) (n := 0) (wc := [(m0, .inr (6, mF g (K.1, K.2.1, K.2.2.1, K.2.2.2.1, nI X.length, K.2.2.2.2.2.1, K.2.2.2.2.2.2.1, K.2.2.2.2.2.2.2.1, nI a1) A0 e np B)), ((g 30), .inl (cA 3, 2000, .inl yb))]) (wr := [((g 38), .inl (cA 3, 2000, .inl ow)), ((g 39), .inl (cA 3, 2000, .inl fi)), ((g 40), .inl (cA 3, 2000, .inl be))]) ⟨hx, hb, hml, hown, hts⟩ hno hlocks hl.1 (c_Md_number l hl9 D cA ad H.size m0 g (K.1, K.2.1, K.2.2.1, K.2.2.2.1, nI X.length, K.2.2.2.2.2.1, K.2.2.2.2.2.2.1, K.2.2.2.2.2.2.2.1, nI a1) A0 e np B yb b lm hlm hyb hb9 a1 v a2 (by omega) (hv2 rfl)) iw4_132 iw4_134 sel_Md_number iw1_7 iw4_135 (by decide +kernel) rfl ⟨Nat.le_of_ble_eq_true rfl, Nat.le_of_ble_eq_true rfl⟩ ⟨Nat.le_of_ble_eq_true rfl, Nat.le_of_ble_eq_true rfl⟩ rfl (Nat.le_of_ble_eq_true rfl) d_Md_lookData_30 hE hP hD hS hA [0, 1] [2, 3, 4] rfl rfl rfl rfl (by decide) (ci := 6) rfl rfl 0 rfl (fun _ h => h.elim) (fun v_30 u_30 H locs hp_30 hP hD hS => ?_)
      obtain rfl := hp_30
      have hP : va_P D cls [(m0, .inr (6, mF g (K.1, K.2.1, K.2.2.1, K.2.2.2.1, nI X.length, K.2.2.2.2.2.1, K.2.2.2.2.2.2.1, K.2.2.2.2.2.2.2.1, nI a2) A0 e np B)), ((g 30), .inl (cA 3, 2000, .inl yb)), ((g 38), .inl (cA 3, 2000, .inl ow)), ((g 39), .inl (cA 3, 2000, .inl fi)), ((g 40), .inl (cA 3, 2000, .inl be))] H := hP.sub [3, 4, 0, 1, 2] rfl
      have hD : va_D A [(m0, .inr (6, mF g (K.1, K.2.1, K.2.2.1, K.2.2.2.1, nI X.length, K.2.2.2.2.2.1, K.2.2.2.2.2.2.1, K.2.2.2.2.2.2.2.1, nI a2) A0 e np B)), ((g 30), .inl (cA 3, 2000, .inl yb)), ((g 38), .inl (cA 3, 2000, .inl ow)), ((g 39), .inl (cA 3, 2000, .inl fi)), ((g 40), .inl (cA 3, 2000, .inl be))] := hD.sub [3, 4, 0, 1, 2] (by decide) rfl
      refine W.cs (cells' := 0) (slots' := 0) rfl rfl ?_
      refine W.eq (g2 := F0 m 33 ls [.long (lN v)]) rfl ?_
      refine lv_goto (tgt := 37) hx hb d_Md_lookData_33 (by decide) ?_
      refine lv_lstore (lv' := [(5, .long (lN v)), (3, .long (lN 2)), (0, .ref m0), (1, .int (nI t)), (2, .int 7)]) hx hb d_Md_lookData_37 hl (by decide) rfl (fun ls hl => ?_)
      refine lv_iload_n hx hb d_Md_lookData_39 rfl (lv_at hl 4 rfl) ?_
      refine lv_iconst (v := 2) hx hb d_Md_lookData_40 (by decide) ?_
      refine lv_icmp_ne (tgt := 47) hx hb d_Md_lookData_41 (by decide) (fun c_41 => ?_) (fun c_41 => absurd c_41 (by decide))
      refine lv_iload_n hx hb d_Md_lookData_47 rfl (lv_at hl 4 rfl) ?_
      refine lv_iconst (v := 4) hx hb d_Md_lookData_48 (by decide) ?_
      refine lv_icmp_eq (tgt := 57) hx hb d_Md_lookData_49 (by decide) (fun c_49 => absurd c_49 (by decide)) (fun c_49 => ?_)
      refine lv_iload_n hx hb d_Md_lookData_52 rfl (lv_at hl 4 rfl) ?_
      refine lv_iconst (v := 5) hx hb d_Md_lookData_53 (by decide) ?_
      refine lv_icmp_ne (tgt := 77) hx hb d_Md_lookData_54 (by decide) (fun c_54 => ?_) (fun c_54 => absurd c_54 (by decide))
      refine lv_lload_n hx hb d_Md_lookData_77 rfl (lv_at hl 1 rfl) ?_
      refine lv_lconst (v := 1) hx hb d_Md_lookData_78 (by decide) ?_
      refine W.lcmp hx hb d_Md_lookData_79 ?_
      refine lv_if_eq (tgt := 98) hx hb d_Md_lookData_80 (by decide) (fun c_80 => absurd c_80 (by decide +kernel)) (fun c_80 => ?_)
      refine lv_aload_n hx hb d_Md_lookData_83 rfl (lv_at hl 2 rfl) ?_
      refine lv_aload_n hx hb d_Md_lookData_84 rfl (lv_at hl 2 rfl) ?_
      refine va_get (D := D) (ci := 6) (v := .ref (g 40)) (C := R_Md) (T := F_Md) (N := 44) hx hb hts (fun w h => List.mem_cons_of_mem _ (i_Md w h)) hown hE.1 hP 0 rfl rfl 40 (by decide) (hts _ (List.mem_cons_of_mem _ iw3_94)) (fun _ h9 => h9) rfl d_Md_lookData_85 ?_
      refine lv_aload_n hx hb d_Md_lookData_88 rfl (lv_at hl 2 rfl) ?_
      refine lv_iload_n hx hb d_Md_lookData_89 rfl (lv_at hl 3 rfl) ?_
      refine lv_iconst (v := 0) hx hb d_Md_lookData_90 (by decide) ?_
      refine cV (As := [.int (nI t), .int 0]) (rest := [.ref (g 40), .ref m0]) (n := 2) (wc := [(m0, .inr (6, mF g (K.1, K.2.1, K.2.2.1, K.2.2.2.1, nI X.length, K.2.2.2.2.2.1, K.2.2.2.2.2.2.1, K.2.2.2.2.2.2.2.1, nI a2) A0 e np B)), ((g 38), .inl (cA 3, 2000, .inl ow))]) (wr := [((g 30), .inl (cA 3, 2000, .inl yb)), ((g 39), .inl (cA 3, 2000, .inl fi)), ((g 40), .inl (cA 3, 2000, .inl be))]) ⟨hx, hb, hml, hown, hts⟩ hno hlocks hl.1 (c_Md_expressionOf l hl9 D cA ad H.size m0 g (K.1, K.2.1, K.2.2.1, K.2.2.2.1, nI X.length, K.2.2.2.2.2.1, K.2.2.2.2.2.2.1, K.2.2.2.2.2.2.2.1, nI a2) A0 e np B ow fi be X hXH hXf hX t (by omega) 0 (by omega)) iw4_156 iw4_158 sel_Md_expressionOf iw1_7 iw4_159 (by decide +kernel) rfl ⟨Nat.le_of_ble_eq_true rfl, Nat.le_of_ble_eq_true rfl⟩ ⟨Nat.le_of_ble_eq_true rfl, Nat.le_of_ble_eq_true rfl⟩ rfl (Nat.le_of_ble_eq_true rfl) d_Md_lookData_91 hE hP hD hS hA [0, 2] [1, 3, 4] rfl rfl rfl rfl (by decide) (ci := 6) rfl rfl 0 rfl (fun _ h => h.elim) (fun v_91 u_91 H locs hp_91 hP hD hS => ?_)
      rcases hp_91 with ⟨rfl, hno247⟩ | ⟨e247_, f247_, z247_, he247, rfl, hg247, hfi247, hbe247, hfb247, hzb247⟩
      · exact absurd hno247 (by rw [hexx]; simp)
      have hP : va_P D cls [(m0, .inr (6, mF g (K.1, K.2.1, K.2.2.1, K.2.2.2.1, nI X.length, K.2.2.2.2.2.1, K.2.2.2.2.2.2.1, K.2.2.2.2.2.2.2.1, nI a2) A0 e np B)), ((g 30), .inl (cA 3, 2000, .inl yb)), ((g 38), .inl (cA 3, 2000, .inl ow)), ((g 39), .inl (cA 3, 2000, .inl fi)), ((g 40), .inl (cA 3, 2000, .inl be))] H := hP.sub [3, 0, 4, 1, 2] rfl
      have hD : va_D A [(m0, .inr (6, mF g (K.1, K.2.1, K.2.2.1, K.2.2.2.1, nI X.length, K.2.2.2.2.2.1, K.2.2.2.2.2.2.1, K.2.2.2.2.2.2.2.1, nI a2) A0 e np B)), ((g 30), .inl (cA 3, 2000, .inl yb)), ((g 38), .inl (cA 3, 2000, .inl ow)), ((g 39), .inl (cA 3, 2000, .inl fi)), ((g 40), .inl (cA 3, 2000, .inl be))] := hD.sub [3, 0, 4, 1, 2] (by decide) rfl
      refine W.cs (cells' := 0) (slots' := 0) rfl rfl ?_
      refine W.eq (g2 := F0 m 94 ls [.int (nI e247_), .ref (g 40), .ref m0]) rfl ?_
      refine va_iald hx hb hE.1 hP 4 3 rfl rfl (vp_in_nI (by omega) (by omega)) d_Md_lookData_94 ?_
      rw [nI_clamp (n := e247_) (by omega), hbe247, show z247_ = x2 from by rw [hexx] at hg247; exact (congrArg Prod.snd (Option.some.inj hg247)).symm]
      refine va_put (D := D) (ci := 6) (v := .int (nI x2)) (ty := .int) (C := R_Md) (T := F_Md) (N := 44) hx hb hts (fun w h => List.mem_cons_of_mem _ (i_Md w h)) t_Md tk_Md n_Md hown hE.1 hP hD hS 0 rfl rfl 43 (by decide) (hts _ (List.mem_cons_of_mem _ iw3_97)) (fun _ h9 => h9) rfl (by decide +kernel) rfl rfl (Nat.le_of_ble_eq_true rfl) d_Md_lookData_95 (fun H locs hP hD hS => ?_)
      have hP : va_P D cls [(m0, .inr (6, mF g (K.1, K.2.1, K.2.2.1, K.2.2.2.1, nI X.length, K.2.2.2.2.2.1, K.2.2.2.2.2.2.1, K.2.2.2.2.2.2.2.1, nI x2) A0 e np B)), ((g 30), .inl (cA 3, 2000, .inl yb)), ((g 38), .inl (cA 3, 2000, .inl ow)), ((g 39), .inl (cA 3, 2000, .inl fi)), ((g 40), .inl (cA 3, 2000, .inl be))] H := hP
      have hD : va_D A [(m0, .inr (6, mF g (K.1, K.2.1, K.2.2.1, K.2.2.2.1, nI X.length, K.2.2.2.2.2.1, K.2.2.2.2.2.2.1, K.2.2.2.2.2.2.2.1, nI x2) A0 e np B)), ((g 30), .inl (cA 3, 2000, .inl yb)), ((g 38), .inl (cA 3, 2000, .inl ow)), ((g 39), .inl (cA 3, 2000, .inl fi)), ((g 40), .inl (cA 3, 2000, .inl be))] := hD
      refine lv_aload_n hx hb d_Md_lookData_98 rfl (lv_at hl 2 rfl) ?_
      refine cV (As := []) (rest := []) (n := 0) (wc := [(m0, .inr (6, mF g (K.1, K.2.1, K.2.2.1, K.2.2.2.1, nI X.length, K.2.2.2.2.2.1, K.2.2.2.2.2.2.1, K.2.2.2.2.2.2.2.1, nI x2) A0 e np B)), ((g 30), .inl (cA 3, 2000, .inl yb))]) (wr := [((g 38), .inl (cA 3, 2000, .inl ow)), ((g 39), .inl (cA 3, 2000, .inl fi)), ((g 40), .inl (cA 3, 2000, .inl be))]) ⟨hx, hb, hml, hown, hts⟩ hno hlocks hl.1 (c_Md_number l hl9 D cA ad H.size m0 g (K.1, K.2.1, K.2.2.1, K.2.2.2.1, nI X.length, K.2.2.2.2.2.1, K.2.2.2.2.2.2.1, K.2.2.2.2.2.2.2.1, nI x2) A0 e np B yb b lm hlm hyb hb9 x2 n_ a3 (by omega) hnn) iw4_132 iw4_134 sel_Md_number iw1_7 iw4_135 (by decide +kernel) rfl ⟨Nat.le_of_ble_eq_true rfl, Nat.le_of_ble_eq_true rfl⟩ ⟨Nat.le_of_ble_eq_true rfl, Nat.le_of_ble_eq_true rfl⟩ rfl (Nat.le_of_ble_eq_true rfl) d_Md_lookData_99 hE hP hD hS hA [0, 1] [2, 3, 4] rfl rfl rfl rfl (by decide) (ci := 6) rfl rfl 0 rfl (fun _ h => h.elim) (fun v_99 u_99 H locs hp_99 hP hD hS => ?_)
      obtain rfl := hp_99
      have hP : va_P D cls [(m0, .inr (6, mF g (K.1, K.2.1, K.2.2.1, K.2.2.2.1, nI X.length, K.2.2.2.2.2.1, K.2.2.2.2.2.2.1, K.2.2.2.2.2.2.2.1, nI a3) A0 e np B)), ((g 30), .inl (cA 3, 2000, .inl yb)), ((g 38), .inl (cA 3, 2000, .inl ow)), ((g 39), .inl (cA 3, 2000, .inl fi)), ((g 40), .inl (cA 3, 2000, .inl be))] H := hP.sub [3, 4, 0, 1, 2] rfl
      have hD : va_D A [(m0, .inr (6, mF g (K.1, K.2.1, K.2.2.1, K.2.2.2.1, nI X.length, K.2.2.2.2.2.1, K.2.2.2.2.2.2.1, K.2.2.2.2.2.2.2.1, nI a3) A0 e np B)), ((g 30), .inl (cA 3, 2000, .inl yb)), ((g 38), .inl (cA 3, 2000, .inl ow)), ((g 39), .inl (cA 3, 2000, .inl fi)), ((g 40), .inl (cA 3, 2000, .inl be))] := hD.sub [3, 4, 0, 1, 2] (by decide) rfl
      refine W.cs (cells' := 0) (slots' := 0) rfl rfl ?_
      refine W.eq (g2 := F0 m 102 ls [.long (lN n_)]) rfl ?_
      refine lv_lstore (lv' := [(7, .long (lN n_)), (5, .long (lN v)), (3, .long (lN 2)), (0, .ref m0), (1, .int (nI t)), (2, .int 7)]) hx hb d_Md_lookData_102 hl (by decide) rfl (fun ls hl => ?_)
      refine lv_iload_n hx hb d_Md_lookData_104 rfl (lv_at hl 5 rfl) ?_
      refine lv_iconst (v := 3) hx hb d_Md_lookData_105 (by decide) ?_
      refine lv_icmp_ne (tgt := 114) hx hb d_Md_lookData_106 (by decide) (fun c_106 => ?_) (fun c_106 => absurd c_106 (by decide))
      refine lv_iload_n hx hb d_Md_lookData_114 rfl (lv_at hl 5 rfl) ?_
      refine lv_bipush (v := 6) hx hb d_Md_lookData_115 (by decide) ?_
      refine lv_icmp_ne (tgt := 128) hx hb d_Md_lookData_117 (by decide) (fun c_117 => ?_) (fun c_117 => absurd c_117 (by decide))
      refine lv_ldc2 hx hb hown (hts _ (List.mem_cons_of_mem _ iw3_204)) d_Md_lookData_128 ?_
      exact cRl (nI a3) hx hb hr hlocks d_Md_lookData_131 hS hP hD (rfl) (Nat.le_refl _) (Nat.le_refl _)
    · have hl := hl
      refine lv_aload_n hx hb d_Md_lookData_0 rfl (lv_at hl 0 rfl) ?_
      refine cV (As := []) (rest := []) (n := 0) (wc := [(m0, .inr (6, mF g (K.1, K.2.1, K.2.2.1, K.2.2.2.1, nI X.length, K.2.2.2.2.2.1, K.2.2.2.2.2.2.1, K.2.2.2.2.2.2.2.1, nI a) A0 e np B)), ((g 30), .inl (cA 3, 2000, .inl yb))]) (wr := [((g 38), .inl (cA 3, 2000, .inl ow)), ((g 39), .inl (cA 3, 2000, .inl fi)), ((g 40), .inl (cA 3, 2000, .inl be))]) ⟨hx, hb, hml, hown, hts⟩ hno hlocks hl.1 (c_Md_number l hl9 D cA ad s.heap.size m0 g (K.1, K.2.1, K.2.2.1, K.2.2.2.1, nI X.length, K.2.2.2.2.2.1, K.2.2.2.2.2.2.1, K.2.2.2.2.2.2.2.1, nI a) A0 e np B yb b lm hlm hyb hb9 a 2 a1 (by omega) hmu) iw4_132 iw4_134 sel_Md_number iw1_7 iw4_135 (by decide +kernel) rfl ⟨Nat.le_of_ble_eq_true rfl, Nat.le_of_ble_eq_true rfl⟩ ⟨Nat.le_of_ble_eq_true rfl, Nat.le_of_ble_eq_true rfl⟩ rfl (Nat.le_of_ble_eq_true rfl) d_Md_lookData_1 hE hP hD hS hA [0, 1] [2, 3, 4] rfl rfl rfl rfl (by decide) (ci := 6) rfl rfl 0 rfl (fun _ h => h.elim) (fun v_1 u_1 H locs hp_1 hP hD hS => ?_)
      obtain rfl := hp_1
      have hP : va_P D cls [(m0, .inr (6, mF g (K.1, K.2.1, K.2.2.1, K.2.2.2.1, nI X.length, K.2.2.2.2.2.1, K.2.2.2.2.2.2.1, K.2.2.2.2.2.2.2.1, nI a1) A0 e np B)), ((g 30), .inl (cA 3, 2000, .inl yb)), ((g 38), .inl (cA 3, 2000, .inl ow)), ((g 39), .inl (cA 3, 2000, .inl fi)), ((g 40), .inl (cA 3, 2000, .inl be))] H := hP.sub [3, 4, 0, 1, 2] rfl
      have hD : va_D A [(m0, .inr (6, mF g (K.1, K.2.1, K.2.2.1, K.2.2.2.1, nI X.length, K.2.2.2.2.2.1, K.2.2.2.2.2.2.1, K.2.2.2.2.2.2.2.1, nI a1) A0 e np B)), ((g 30), .inl (cA 3, 2000, .inl yb)), ((g 38), .inl (cA 3, 2000, .inl ow)), ((g 39), .inl (cA 3, 2000, .inl fi)), ((g 40), .inl (cA 3, 2000, .inl be))] := hD.sub [3, 4, 0, 1, 2] (by decide) rfl
      refine W.cs (cells' := 0) (slots' := 0) rfl rfl ?_
      refine W.eq (g2 := F0 m 4 ls [.long (lN 2)]) rfl ?_
      refine lv_lstore_n (lv' := [(3, .long (lN 2)), (0, .ref m0), (1, .int (nI t)), (2, .int (nI wh))]) hx hb d_Md_lookData_4 rfl hl (by decide) rfl (fun ls hl => ?_)
      refine lv_iload_n hx hb d_Md_lookData_5 rfl (lv_at hl 3 rfl) ?_
      refine lv_if_ne (tgt := 21) hx hb d_Md_lookData_6 (by decide) (fun c_6 => ?_) (fun c_6 => absurd c_6 (fun q => absurd ((nI_eq (a := wh) (b := 0) (by omega) (by decide)).mp q) (by omega)))
      refine lv_lload_n hx hb d_Md_lookData_21 rfl (lv_at hl 0 rfl) ?_
      refine lv_ldc2 hx hb hown (hts _ (List.mem_cons_of_mem _ iw4_51)) d_Md_lookData_22 ?_
      refine W.lcmp hx hb d_Md_lookData_25 ?_
      refine lv_if_ne (tgt := 36) hx hb d_Md_lookData_26 (by decide) (fun c_26 => absurd (by decide +kernel) c_26) (fun c_26 => ?_)
      refine lv_aload_n hx hb d_Md_lookData_29 rfl (lv_at hl 1 rfl) ?_
      refine cV (As := []) (rest := []) (n := 0) (wc := [(m0, .inr (6, mF g (K.1, K.2.1, K.2.2.1, K.2.2.2.1, nI X.length, K.2.2.2.2.2.1, K.2.2.2.2.2.2.1, K.2.2.2.2.2.2.2.1, nI a1) A0 e np B)), ((g 30), .inl (cA 3, 2000, .inl yb))]) (wr := [((g 38), .inl (cA 3, 2000, .inl ow)), ((g 39), .inl (cA 3, 2000, .inl fi)), ((g 40), .inl (cA 3, 2000, .inl be))]) ⟨hx, hb, hml, hown, hts⟩ hno hlocks hl.1 (c_Md_number l hl9 D cA ad H.size m0 g (K.1, K.2.1, K.2.2.1, K.2.2.2.1, nI X.length, K.2.2.2.2.2.1, K.2.2.2.2.2.2.1, K.2.2.2.2.2.2.2.1, nI a1) A0 e np B yb b lm hlm hyb hb9 a1 v a2 (by omega) (hv2 rfl)) iw4_132 iw4_134 sel_Md_number iw1_7 iw4_135 (by decide +kernel) rfl ⟨Nat.le_of_ble_eq_true rfl, Nat.le_of_ble_eq_true rfl⟩ ⟨Nat.le_of_ble_eq_true rfl, Nat.le_of_ble_eq_true rfl⟩ rfl (Nat.le_of_ble_eq_true rfl) d_Md_lookData_30 hE hP hD hS hA [0, 1] [2, 3, 4] rfl rfl rfl rfl (by decide) (ci := 6) rfl rfl 0 rfl (fun _ h => h.elim) (fun v_30 u_30 H locs hp_30 hP hD hS => ?_)
      obtain rfl := hp_30
      have hP : va_P D cls [(m0, .inr (6, mF g (K.1, K.2.1, K.2.2.1, K.2.2.2.1, nI X.length, K.2.2.2.2.2.1, K.2.2.2.2.2.2.1, K.2.2.2.2.2.2.2.1, nI a2) A0 e np B)), ((g 30), .inl (cA 3, 2000, .inl yb)), ((g 38), .inl (cA 3, 2000, .inl ow)), ((g 39), .inl (cA 3, 2000, .inl fi)), ((g 40), .inl (cA 3, 2000, .inl be))] H := hP.sub [3, 4, 0, 1, 2] rfl
      have hD : va_D A [(m0, .inr (6, mF g (K.1, K.2.1, K.2.2.1, K.2.2.2.1, nI X.length, K.2.2.2.2.2.1, K.2.2.2.2.2.2.1, K.2.2.2.2.2.2.2.1, nI a2) A0 e np B)), ((g 30), .inl (cA 3, 2000, .inl yb)), ((g 38), .inl (cA 3, 2000, .inl ow)), ((g 39), .inl (cA 3, 2000, .inl fi)), ((g 40), .inl (cA 3, 2000, .inl be))] := hD.sub [3, 4, 0, 1, 2] (by decide) rfl
      refine W.cs (cells' := 0) (slots' := 0) rfl rfl ?_
      refine W.eq (g2 := F0 m 33 ls [.long (lN v)]) rfl ?_
      refine lv_goto (tgt := 37) hx hb d_Md_lookData_33 (by decide) ?_
      refine lv_lstore (lv' := [(5, .long (lN v)), (3, .long (lN 2)), (0, .ref m0), (1, .int (nI t)), (2, .int (nI wh))]) hx hb d_Md_lookData_37 hl (by decide) rfl (fun ls hl => ?_)
      refine lv_iload_n hx hb d_Md_lookData_39 rfl (lv_at hl 4 rfl) ?_
      refine lv_iconst (v := 2) hx hb d_Md_lookData_40 (by decide) ?_
      refine lv_icmp_ne (tgt := 47) hx hb d_Md_lookData_41 (by decide) (fun c_41 => ?_) (fun c_41 => absurd c_41 (fun q => absurd ((nI_eq (a := wh) (b := 2) (by omega) (by decide)).mp q) (by omega)))
      refine lv_iload_n hx hb d_Md_lookData_47 rfl (lv_at hl 4 rfl) ?_
      refine lv_iconst (v := 4) hx hb d_Md_lookData_48 (by decide) ?_
      refine lv_icmp_eq (tgt := 57) hx hb d_Md_lookData_49 (by decide) (fun c_49 => absurd c_49 (fun q => absurd ((nI_eq (a := wh) (b := 4) (by omega) (by decide)).mp q) (by omega))) (fun c_49 => ?_)
      refine lv_iload_n hx hb d_Md_lookData_52 rfl (lv_at hl 4 rfl) ?_
      refine lv_iconst (v := 5) hx hb d_Md_lookData_53 (by decide) ?_
      refine lv_icmp_ne (tgt := 77) hx hb d_Md_lookData_54 (by decide) (fun c_54 => ?_) (fun c_54 => absurd c_54 (fun q => absurd ((nI_eq (a := wh) (b := 5) (by omega) (by decide)).mp q) (by omega)))
      refine lv_lload_n hx hb d_Md_lookData_77 rfl (lv_at hl 1 rfl) ?_
      refine lv_lconst (v := 1) hx hb d_Md_lookData_78 (by decide) ?_
      refine W.lcmp hx hb d_Md_lookData_79 ?_
      refine lv_if_eq (tgt := 98) hx hb d_Md_lookData_80 (by decide) (fun c_80 => absurd c_80 (by decide +kernel)) (fun c_80 => ?_)
      refine lv_aload_n hx hb d_Md_lookData_83 rfl (lv_at hl 2 rfl) ?_
      refine lv_aload_n hx hb d_Md_lookData_84 rfl (lv_at hl 2 rfl) ?_
      refine va_get (D := D) (ci := 6) (v := .ref (g 40)) (C := R_Md) (T := F_Md) (N := 44) hx hb hts (fun w h => List.mem_cons_of_mem _ (i_Md w h)) hown hE.1 hP 0 rfl rfl 40 (by decide) (hts _ (List.mem_cons_of_mem _ iw3_94)) (fun _ h9 => h9) rfl d_Md_lookData_85 ?_
      refine lv_aload_n hx hb d_Md_lookData_88 rfl (lv_at hl 2 rfl) ?_
      refine lv_iload_n hx hb d_Md_lookData_89 rfl (lv_at hl 3 rfl) ?_
      refine lv_iconst (v := 0) hx hb d_Md_lookData_90 (by decide) ?_
      refine cV (As := [.int (nI t), .int 0]) (rest := [.ref (g 40), .ref m0]) (n := 2) (wc := [(m0, .inr (6, mF g (K.1, K.2.1, K.2.2.1, K.2.2.2.1, nI X.length, K.2.2.2.2.2.1, K.2.2.2.2.2.2.1, K.2.2.2.2.2.2.2.1, nI a2) A0 e np B)), ((g 38), .inl (cA 3, 2000, .inl ow))]) (wr := [((g 30), .inl (cA 3, 2000, .inl yb)), ((g 39), .inl (cA 3, 2000, .inl fi)), ((g 40), .inl (cA 3, 2000, .inl be))]) ⟨hx, hb, hml, hown, hts⟩ hno hlocks hl.1 (c_Md_expressionOf l hl9 D cA ad H.size m0 g (K.1, K.2.1, K.2.2.1, K.2.2.2.1, nI X.length, K.2.2.2.2.2.1, K.2.2.2.2.2.2.1, K.2.2.2.2.2.2.2.1, nI a2) A0 e np B ow fi be X hXH hXf hX t (by omega) 0 (by omega)) iw4_156 iw4_158 sel_Md_expressionOf iw1_7 iw4_159 (by decide +kernel) rfl ⟨Nat.le_of_ble_eq_true rfl, Nat.le_of_ble_eq_true rfl⟩ ⟨Nat.le_of_ble_eq_true rfl, Nat.le_of_ble_eq_true rfl⟩ rfl (Nat.le_of_ble_eq_true rfl) d_Md_lookData_91 hE hP hD hS hA [0, 2] [1, 3, 4] rfl rfl rfl rfl (by decide) (ci := 6) rfl rfl 0 rfl (fun _ h => h.elim) (fun v_91 u_91 H locs hp_91 hP hD hS => ?_)
      rcases hp_91 with ⟨rfl, hno248⟩ | ⟨e248_, f248_, z248_, he248, rfl, hg248, hfi248, hbe248, hfb248, hzb248⟩
      · exact absurd hno248 (by rw [hexx]; simp)
      have hP : va_P D cls [(m0, .inr (6, mF g (K.1, K.2.1, K.2.2.1, K.2.2.2.1, nI X.length, K.2.2.2.2.2.1, K.2.2.2.2.2.2.1, K.2.2.2.2.2.2.2.1, nI a2) A0 e np B)), ((g 30), .inl (cA 3, 2000, .inl yb)), ((g 38), .inl (cA 3, 2000, .inl ow)), ((g 39), .inl (cA 3, 2000, .inl fi)), ((g 40), .inl (cA 3, 2000, .inl be))] H := hP.sub [3, 0, 4, 1, 2] rfl
      have hD : va_D A [(m0, .inr (6, mF g (K.1, K.2.1, K.2.2.1, K.2.2.2.1, nI X.length, K.2.2.2.2.2.1, K.2.2.2.2.2.2.1, K.2.2.2.2.2.2.2.1, nI a2) A0 e np B)), ((g 30), .inl (cA 3, 2000, .inl yb)), ((g 38), .inl (cA 3, 2000, .inl ow)), ((g 39), .inl (cA 3, 2000, .inl fi)), ((g 40), .inl (cA 3, 2000, .inl be))] := hD.sub [3, 0, 4, 1, 2] (by decide) rfl
      refine W.cs (cells' := 0) (slots' := 0) rfl rfl ?_
      refine W.eq (g2 := F0 m 94 ls [.int (nI e248_), .ref (g 40), .ref m0]) rfl ?_
      refine va_iald hx hb hE.1 hP 4 3 rfl rfl (vp_in_nI (by omega) (by omega)) d_Md_lookData_94 ?_
      rw [nI_clamp (n := e248_) (by omega), hbe248, show z248_ = x2 from by rw [hexx] at hg248; exact (congrArg Prod.snd (Option.some.inj hg248)).symm]
      refine va_put (D := D) (ci := 6) (v := .int (nI x2)) (ty := .int) (C := R_Md) (T := F_Md) (N := 44) hx hb hts (fun w h => List.mem_cons_of_mem _ (i_Md w h)) t_Md tk_Md n_Md hown hE.1 hP hD hS 0 rfl rfl 43 (by decide) (hts _ (List.mem_cons_of_mem _ iw3_97)) (fun _ h9 => h9) rfl (by decide +kernel) rfl rfl (Nat.le_of_ble_eq_true rfl) d_Md_lookData_95 (fun H locs hP hD hS => ?_)
      have hP : va_P D cls [(m0, .inr (6, mF g (K.1, K.2.1, K.2.2.1, K.2.2.2.1, nI X.length, K.2.2.2.2.2.1, K.2.2.2.2.2.2.1, K.2.2.2.2.2.2.2.1, nI x2) A0 e np B)), ((g 30), .inl (cA 3, 2000, .inl yb)), ((g 38), .inl (cA 3, 2000, .inl ow)), ((g 39), .inl (cA 3, 2000, .inl fi)), ((g 40), .inl (cA 3, 2000, .inl be))] H := hP
      have hD : va_D A [(m0, .inr (6, mF g (K.1, K.2.1, K.2.2.1, K.2.2.2.1, nI X.length, K.2.2.2.2.2.1, K.2.2.2.2.2.2.1, K.2.2.2.2.2.2.2.1, nI x2) A0 e np B)), ((g 30), .inl (cA 3, 2000, .inl yb)), ((g 38), .inl (cA 3, 2000, .inl ow)), ((g 39), .inl (cA 3, 2000, .inl fi)), ((g 40), .inl (cA 3, 2000, .inl be))] := hD
      refine lv_aload_n hx hb d_Md_lookData_98 rfl (lv_at hl 2 rfl) ?_
      refine cV (As := []) (rest := []) (n := 0) (wc := [(m0, .inr (6, mF g (K.1, K.2.1, K.2.2.1, K.2.2.2.1, nI X.length, K.2.2.2.2.2.1, K.2.2.2.2.2.2.1, K.2.2.2.2.2.2.2.1, nI x2) A0 e np B)), ((g 30), .inl (cA 3, 2000, .inl yb))]) (wr := [((g 38), .inl (cA 3, 2000, .inl ow)), ((g 39), .inl (cA 3, 2000, .inl fi)), ((g 40), .inl (cA 3, 2000, .inl be))]) ⟨hx, hb, hml, hown, hts⟩ hno hlocks hl.1 (c_Md_number l hl9 D cA ad H.size m0 g (K.1, K.2.1, K.2.2.1, K.2.2.2.1, nI X.length, K.2.2.2.2.2.1, K.2.2.2.2.2.2.1, K.2.2.2.2.2.2.2.1, nI x2) A0 e np B yb b lm hlm hyb hb9 x2 n_ a3 (by omega) hnn) iw4_132 iw4_134 sel_Md_number iw1_7 iw4_135 (by decide +kernel) rfl ⟨Nat.le_of_ble_eq_true rfl, Nat.le_of_ble_eq_true rfl⟩ ⟨Nat.le_of_ble_eq_true rfl, Nat.le_of_ble_eq_true rfl⟩ rfl (Nat.le_of_ble_eq_true rfl) d_Md_lookData_99 hE hP hD hS hA [0, 1] [2, 3, 4] rfl rfl rfl rfl (by decide) (ci := 6) rfl rfl 0 rfl (fun _ h => h.elim) (fun v_99 u_99 H locs hp_99 hP hD hS => ?_)
      obtain rfl := hp_99
      have hP : va_P D cls [(m0, .inr (6, mF g (K.1, K.2.1, K.2.2.1, K.2.2.2.1, nI X.length, K.2.2.2.2.2.1, K.2.2.2.2.2.2.1, K.2.2.2.2.2.2.2.1, nI a3) A0 e np B)), ((g 30), .inl (cA 3, 2000, .inl yb)), ((g 38), .inl (cA 3, 2000, .inl ow)), ((g 39), .inl (cA 3, 2000, .inl fi)), ((g 40), .inl (cA 3, 2000, .inl be))] H := hP.sub [3, 4, 0, 1, 2] rfl
      have hD : va_D A [(m0, .inr (6, mF g (K.1, K.2.1, K.2.2.1, K.2.2.2.1, nI X.length, K.2.2.2.2.2.1, K.2.2.2.2.2.2.1, K.2.2.2.2.2.2.2.1, nI a3) A0 e np B)), ((g 30), .inl (cA 3, 2000, .inl yb)), ((g 38), .inl (cA 3, 2000, .inl ow)), ((g 39), .inl (cA 3, 2000, .inl fi)), ((g 40), .inl (cA 3, 2000, .inl be))] := hD.sub [3, 4, 0, 1, 2] (by decide) rfl
      refine W.cs (cells' := 0) (slots' := 0) rfl rfl ?_
      refine W.eq (g2 := F0 m 102 ls [.long (lN n_)]) rfl ?_
      refine lv_lstore (lv' := [(7, .long (lN n_)), (5, .long (lN v)), (3, .long (lN 2)), (0, .ref m0), (1, .int (nI t)), (2, .int (nI wh))]) hx hb d_Md_lookData_102 hl (by decide) rfl (fun ls hl => ?_)
      refine lv_iload_n hx hb d_Md_lookData_104 rfl (lv_at hl 5 rfl) ?_
      refine lv_iconst (v := 3) hx hb d_Md_lookData_105 (by decide) ?_
      refine lv_icmp_ne (tgt := 114) hx hb d_Md_lookData_106 (by decide) (fun c_106 => ?_) (fun c_106 => absurd c_106 (fun q => absurd ((nI_eq (a := wh) (b := 3) (by omega) (by decide)).mp q) (by omega)))
      refine lv_iload_n hx hb d_Md_lookData_114 rfl (lv_at hl 5 rfl) ?_
      refine lv_bipush (v := 6) hx hb d_Md_lookData_115 (by decide) ?_
      refine lv_icmp_ne (tgt := 128) hx hb d_Md_lookData_117 (by decide) (fun c_117 => ?_) (fun c_117 => absurd c_117 (fun q => absurd ((nI_eq (a := wh) (b := 6) (by omega) (by decide)).mp q) (by omega)))
      refine lv_ldc2 hx hb hown (hts _ (List.mem_cons_of_mem _ iw3_204)) d_Md_lookData_128 ?_
      exact cRl (nI a3) hx hb hr hlocks d_Md_lookData_131 hS hP hD (by rw [lkS, if_pos hw8]; rfl) (Nat.le_refl _) (Nat.le_refl _)
