set_option maxHeartbeats 4000000 in
set_option maxRecDepth 100000 in
/-- placeOf(t, what) -/
theorem c_Md_placeOf (l : Launch) (hl9 : l.stackTraces = false) (D : va_G) (cA : Nat → ClassId) (ad : Nat → Nat) (sz : Nat) (m0 : Nat) (g : Nat → Nat) (K : MK) (A0 : A3) (e np : Int32) (B : MB) (ow fi be : Nat → Int32) (X : XL) (hXH : XH ow fi be X) (hXf : ∀ x ∈ X, x.1 < 2000 ∧ x.2.1 ≤ 2000 ∧ ∃ z : Nat, x.2.2 = some z ∧ z ≤ 2000) (hX : X.length ≤ 2000) (t : Nat) (ht : t < 2000) (pf pz : Nat) (rs : List (Nat × Nat)) (hex : exO t X = (pf, pz) :: rs) (wh : Int32) :
    cM l y_Md_placeOf (.code y_Md_placeOf b_Md_placeOf 4 (some .int) :: wAll) ({ frames := 1, cells := 0, slots := 0, locals := 25 }) D cA ad [.ref m0, .int (nI t), .int wh] [(m0, .inr (6, mF g (K.1, K.2.1, K.2.2.1, K.2.2.2.1, nI X.length, K.2.2.2.2.2.1, K.2.2.2.2.2.2.1, K.2.2.2.2.2.2.2.1, K.2.2.2.2.2.2.2.2) A0 e np B)), ((g 38), .inl (cA 3, 2000, .inl ow)), ((g 39), .inl (cA 3, 2000, .inl fi)), ((g 40), .inl (cA 3, 2000, .inl be))] sz (fun v (_ : Unit) => v = some (.int (if wh = 4 then nI pf else nI pz))) (fun _ => False) (fun _ => [(m0, .inr (6, mF g (K.1, K.2.1, K.2.2.1, K.2.2.2.1, nI X.length, K.2.2.2.2.2.1, K.2.2.2.2.2.2.1, K.2.2.2.2.2.2.2.1, K.2.2.2.2.2.2.2.2) A0 e np B)), ((g 38), .inl (cA 3, 2000, .inl ow)), ((g 39), .inl (cA 3, 2000, .inl fi)), ((g 40), .inl (cA 3, 2000, .inl be))]) (fun _ => (0, 0)) := by
  refine cM.ofW (cc := b_Md_placeOf) (maxL := 4) (ret := (some .int)) (by decide) (Nat.le_of_ble_eq_true rfl) ?_
  intro pg ev s m bw meth cdx A ls hF hsz hA hE hP hD hl
  obtain ⟨⟨hx, hb, hml, hown, hts⟩, hr, hno, hlocks, hin⟩ := hF
  subst hsz
  have hown : s.vm.findClass "ModuleBytesModel" = some m.cls := hown
  have hS : va_S A s.heap s.heap [] := va_S.rf
  have hl : lv_has ls 4 [(0, .ref m0), (1, .int (nI t)), (2, .int wh)] := hl
  have hP : va_P D cls [(m0, .inr (6, mF g (K.1, K.2.1, K.2.2.1, K.2.2.2.1, nI X.length, K.2.2.2.2.2.1, K.2.2.2.2.2.2.1, K.2.2.2.2.2.2.2.1, K.2.2.2.2.2.2.2.2) A0 e np B)), ((g 38), .inl (cA 3, 2000, .inl ow)), ((g 39), .inl (cA 3, 2000, .inl fi)), ((g 40), .inl (cA 3, 2000, .inl be))] s.heap := hP
  have hD : va_D A [(m0, .inr (6, mF g (K.1, K.2.1, K.2.2.1, K.2.2.2.1, nI X.length, K.2.2.2.2.2.1, K.2.2.2.2.2.2.1, K.2.2.2.2.2.2.2.1, K.2.2.2.2.2.2.2.2) A0 e np B)), ((g 38), .inl (cA 3, 2000, .inl ow)), ((g 39), .inl (cA 3, 2000, .inl fi)), ((g 40), .inl (cA 3, 2000, .inl be))] := hD
  refine lv_aload_n hx hb d_Md_placeOf_0 rfl (lv_at hl 0 rfl) ?_
  refine lv_iload_n hx hb d_Md_placeOf_1 rfl (lv_at hl 1 rfl) ?_
  refine lv_iconst (v := 0) hx hb d_Md_placeOf_2 (by decide) ?_
  refine cV (As := [.int (nI t), .int 0]) (rest := []) (n := 2) (wc := [(m0, .inr (6, mF g (K.1, K.2.1, K.2.2.1, K.2.2.2.1, nI X.length, K.2.2.2.2.2.1, K.2.2.2.2.2.2.1, K.2.2.2.2.2.2.2.1, K.2.2.2.2.2.2.2.2) A0 e np B)), ((g 38), .inl (cA 3, 2000, .inl ow))]) (wr := [((g 39), .inl (cA 3, 2000, .inl fi)), ((g 40), .inl (cA 3, 2000, .inl be))]) ⟨hx, hb, hml, hown, hts⟩ hno hlocks hl.1 (c_Md_expressionOf l hl9 D cA ad s.heap.size m0 g (K.1, K.2.1, K.2.2.1, K.2.2.2.1, nI X.length, K.2.2.2.2.2.1, K.2.2.2.2.2.2.1, K.2.2.2.2.2.2.2.1, K.2.2.2.2.2.2.2.2) A0 e np B ow fi be X hXH hXf hX t (by omega) 0 (by omega)) iw4_156 iw4_158 sel_Md_expressionOf iw1_7 iw4_159 (by decide +kernel) rfl ⟨Nat.le_of_ble_eq_true rfl, Nat.le_of_ble_eq_true rfl⟩ ⟨Nat.le_of_ble_eq_true rfl, Nat.le_of_ble_eq_true rfl⟩ rfl (Nat.le_of_ble_eq_true rfl) d_Md_placeOf_3 hE hP hD hS hA [0, 1] [2, 3] rfl rfl rfl rfl (by decide) (ci := 6) rfl rfl 0 rfl (fun _ h => h.elim) (fun v_3 u_3 H locs hp_3 hP hD hS => ?_)
  rcases hp_3 with ⟨rfl, hno234⟩ | ⟨e234_, f234_, z234_, he234, rfl, hg234, hfi234, hbe234, hfb234, hzb234⟩
  · exact absurd hno234 (by rw [hex]; simp)
  have hP : va_P D cls [(m0, .inr (6, mF g (K.1, K.2.1, K.2.2.1, K.2.2.2.1, nI X.length, K.2.2.2.2.2.1, K.2.2.2.2.2.2.1, K.2.2.2.2.2.2.2.1, K.2.2.2.2.2.2.2.2) A0 e np B)), ((g 38), .inl (cA 3, 2000, .inl ow)), ((g 39), .inl (cA 3, 2000, .inl fi)), ((g 40), .inl (cA 3, 2000, .inl be))] H := hP.sub [2, 3, 0, 1] rfl
  have hD : va_D A [(m0, .inr (6, mF g (K.1, K.2.1, K.2.2.1, K.2.2.2.1, nI X.length, K.2.2.2.2.2.1, K.2.2.2.2.2.2.1, K.2.2.2.2.2.2.2.1, K.2.2.2.2.2.2.2.2) A0 e np B)), ((g 38), .inl (cA 3, 2000, .inl ow)), ((g 39), .inl (cA 3, 2000, .inl fi)), ((g 40), .inl (cA 3, 2000, .inl be))] := hD.sub [2, 3, 0, 1] (by decide) rfl
  refine W.cs (cells' := 0) (slots' := 0) rfl rfl ?_
  refine W.eq (g2 := F0 m 6 ls [.int (nI e234_)]) rfl ?_
  refine lv_istore_n (lv' := [(3, .int (nI e234_)), (0, .ref m0), (1, .int (nI t)), (2, .int wh)]) hx hb d_Md_placeOf_6 rfl hl (by decide) rfl (fun ls hl => ?_)
  refine lv_iload_n hx hb d_Md_placeOf_7 rfl (lv_at hl 0 rfl) ?_
  refine lv_if_ge (tgt := 15) hx hb d_Md_placeOf_8 (by decide) (fun c_8 => ?_) (fun c_8 => absurd (nI_pos' (by omega)) c_8)
  refine lv_iload_n hx hb d_Md_placeOf_15 rfl (lv_at hl 3 rfl) ?_
  refine lv_iconst (v := 4) hx hb d_Md_placeOf_16 (by decide) ?_
  refine lv_icmp_ne (tgt := 29) hx hb d_Md_placeOf_17 (by decide) (fun c_17 => ?_) (fun c_17 => ?_)
  · refine lv_aload_n hx hb d_Md_placeOf_29 rfl (lv_at hl 1 rfl) ?_
    refine va_get (D := D) (ci := 6) (v := .ref (g 40)) (C := R_Md) (T := F_Md) (N := 44) hx hb hts (fun w h => List.mem_cons_of_mem _ (i_Md w h)) hown hE.1 hP 0 rfl rfl 40 (by decide) (hts _ (List.mem_cons_of_mem _ iw3_94)) (fun _ h9 => h9) rfl d_Md_placeOf_30 ?_
    refine lv_iload_n hx hb d_Md_placeOf_33 rfl (lv_at hl 0 rfl) ?_
    refine va_iald hx hb hE.1 hP 3 3 rfl rfl (vp_in_nI (by omega) (by omega)) d_Md_placeOf_34 ?_
    rw [nI_clamp (n := e234_) (by omega), hbe234]
    exact cRi () hx hb hr hlocks d_Md_placeOf_35 hS hP hD (by rw [if_neg c_17, show z234_ = pz from by rw [hex] at hg234; exact (congrArg Prod.snd (Option.some.inj hg234)).symm]) (Nat.le_refl _) (Nat.le_refl _)
  · refine lv_aload_n hx hb d_Md_placeOf_20 rfl (lv_at hl 1 rfl) ?_
    refine va_get (D := D) (ci := 6) (v := .ref (g 39)) (C := R_Md) (T := F_Md) (N := 44) hx hb hts (fun w h => List.mem_cons_of_mem _ (i_Md w h)) hown hE.1 hP 0 rfl rfl 39 (by decide) (hts _ (List.mem_cons_of_mem _ iw3_93)) (fun _ h9 => h9) rfl d_Md_placeOf_21 ?_
    refine lv_iload_n hx hb d_Md_placeOf_24 rfl (lv_at hl 0 rfl) ?_
    refine va_iald hx hb hE.1 hP 2 3 rfl rfl (vp_in_nI (by omega) (by omega)) d_Md_placeOf_25 ?_
    rw [nI_clamp (n := e234_) (by omega), hfi234]
    refine lv_goto (tgt := 35) hx hb d_Md_placeOf_26 (by decide) ?_
    exact cRi () hx hb hr hlocks d_Md_placeOf_35 hS hP hD (by rw [if_pos c_17, show f234_ = pf from by rw [hex] at hg234; exact (congrArg Prod.fst (Option.some.inj hg234)).symm]) (Nat.le_refl _) (Nat.le_refl _)
