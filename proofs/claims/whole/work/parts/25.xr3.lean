set_option maxHeartbeats 4000000 in
set_option maxRecDepth 100000 in
theorem c_Xr_readOperands (l : Launch) (hl9 : l.stackTraces = false) (D : va_G) (cA : Nat → ClassId) (ad : Nat → Nat) (sz : Nat) (x0 z0 h0 h1 : Nat) (bs : Nat → Int32) (dep dcI : Int32) (a lm bg : Nat) (f pl : Int32) (hlm : lm ≤ 2000) (hal : a ≤ lm) (sh : Nat) (hsh : sh ≤ 13) :
    cM l y_Xr_readOperands (.code y_Xr_readOperands b_Xr_readOperands 5 none :: wAll) ({ frames := 8, cells := 1, slots := 6, locals := 128 }) D cA ad [.ref x0, .int (nI sh), .int (nI bg)] (wXs cA x0 z0 h0 h1 bs dep dcI (nI a, nI lm, f, pl)) sz (vP (pShape (bv bs) lm bg sh a) lm f pl) (tP (pShape (bv bs) lm bg sh a)) (wXs cA x0 z0 h0 h1 bs dep dcI) (fun _ => (0, 0)) := by
  rcases (show sh = 0 ∨ sh = 1 ∨ sh = 2 ∨ sh = 3 ∨ sh = 4 ∨ sh = 5 ∨ sh = 6 ∨ sh = 7 ∨ sh = 8 ∨ sh = 9 ∨ sh = 10 ∨ sh = 11 ∨ sh = 12 ∨ sh = 13 by omega) with rfl | rfl | rfl | rfl | rfl | rfl | rfl | rfl | rfl | rfl | rfl | rfl | rfl | rfl
  · exact c_Xr_ops0 l hl9 D cA ad sz x0 z0 h0 h1 bs dep dcI a lm bg f pl hlm hal
  · exact c_Xr_ops1 l hl9 D cA ad sz x0 z0 h0 h1 bs dep dcI a lm bg f pl hlm hal
  · exact c_Xr_ops2 l hl9 D cA ad sz x0 z0 h0 h1 bs dep dcI a lm bg f pl hlm hal
  · exact c_Xr_ops3 l hl9 D cA ad sz x0 z0 h0 h1 bs dep dcI a lm bg f pl hlm hal
  · exact c_Xr_ops4 l hl9 D cA ad sz x0 z0 h0 h1 bs dep dcI a lm bg f pl hlm hal
  · exact c_Xr_ops5 l hl9 D cA ad sz x0 z0 h0 h1 bs dep dcI a lm bg f pl hlm hal
  · exact c_Xr_ops6 l hl9 D cA ad sz x0 z0 h0 h1 bs dep dcI a lm bg f pl hlm hal
  · exact c_Xr_ops7 l hl9 D cA ad sz x0 z0 h0 h1 bs dep dcI a lm bg f pl hlm hal
  · exact c_Xr_ops8 l hl9 D cA ad sz x0 z0 h0 h1 bs dep dcI a lm bg f pl hlm hal
  · exact c_Xr_ops9 l hl9 D cA ad sz x0 z0 h0 h1 bs dep dcI a lm bg f pl hlm hal
  · exact c_Xr_ops10 l hl9 D cA ad sz x0 z0 h0 h1 bs dep dcI a lm bg f pl hlm hal
  · exact c_Xr_ops11 l hl9 D cA ad sz x0 z0 h0 h1 bs dep dcI a lm bg f pl hlm hal
  · exact c_Xr_ops12 l hl9 D cA ad sz x0 z0 h0 h1 bs dep dcI a lm bg f pl hlm hal
  · exact c_Xr_ops13 l hl9 D cA ad sz x0 z0 h0 h1 bs dep dcI a lm bg f pl hlm hal
set_option maxHeartbeats 4000000 in
set_option maxRecDepth 100000 in
/-- openBlock(x) -/
theorem c_Xr_openBlock (l : Launch) (hl9 : l.stackTraces = false) (D : va_G) (cA : Nat → ClassId) (ad : Nat → Nat) (sz : Nat) (x0 z0 h0 : Nat) (dcI : Int32) (d : Nat) (els : Nat → Int32) (x : Bool) (hd : d < 1000) :
    cM l y_Xr_openBlock (.code y_Xr_openBlock b_Xr_openBlock 2 none :: wAll) ({ frames := 0, cells := 0, slots := 0, locals := 0 }) D cA ad [.ref x0, .int (zI x)] (wXb cA x0 z0 h0 dcI (nI d, els)) sz (fun v u => v = none ∧ u = (nI (d + 1), upd els d (zI x))) (fun _ => False) (wXb cA x0 z0 h0 dcI) (fun _ => (0, 0)) := by
  refine cM.ofW (cc := b_Xr_openBlock) (maxL := 2) (ret := none) (by decide) (Nat.le_of_ble_eq_true rfl) ?_
  intro pg ev s m bw meth cdx A ls hF hsz hA hE hP hD hl
  obtain ⟨⟨hx, hb, hml, hown, hts⟩, hr, hno, hlocks, hin⟩ := hF
  subst hsz
  have hown : s.vm.findClass "ModuleBytes$ExpressionReader" = some m.cls := hown
  have hS : va_S A s.heap s.heap [] := va_S.rf
  have hl : lv_has ls 2 [(0, .ref x0), (1, .int (zI x))] := hl
  have hP : va_P D cls [(x0, .inr (3, [.ref h0, .ref z0, .int (nI d), .int dcI])), (z0, .inl (cA 2, 1000, .inl els))] s.heap := hP
  have hD : va_D A [(x0, .inr (3, [.ref h0, .ref z0, .int (nI d), .int dcI])), (z0, .inl (cA 2, 1000, .inl els))] := hD
  refine lv_aload_n hx hb d_Xr_openBlock_0 rfl (lv_at hl 0 rfl) ?_
  refine va_get (D := D) (ci := 3) (v := .int (nI d)) (C := R_Xr) (T := F_Xr) (N := 4) hx hb hts (fun w h => List.mem_cons_of_mem _ (i_Xr w h)) hown hE.1 hP 0 rfl rfl 2 (by decide) (hts _ (List.mem_cons_of_mem _ iw1_125)) (fun _ h9 => h9) rfl d_Xr_openBlock_1 ?_
  refine lv_if_lt (tgt := 29) hx hb d_Xr_openBlock_4 (by decide) (fun c_4 => absurd c_4 (nI_pos (by omega))) (fun c_4 => ?_)
  refine lv_aload_n hx hb d_Xr_openBlock_7 rfl (lv_at hl 0 rfl) ?_
  refine va_get (D := D) (ci := 3) (v := .int (nI d)) (C := R_Xr) (T := F_Xr) (N := 4) hx hb hts (fun w h => List.mem_cons_of_mem _ (i_Xr w h)) hown hE.1 hP 0 rfl rfl 2 (by decide) (hts _ (List.mem_cons_of_mem _ iw1_125)) (fun _ h9 => h9) rfl d_Xr_openBlock_8 ?_
  refine lv_aload_n hx hb d_Xr_openBlock_11 rfl (lv_at hl 0 rfl) ?_
  refine va_get (D := D) (ci := 3) (v := .ref z0) (C := R_Xr) (T := F_Xr) (N := 4) hx hb hts (fun w h => List.mem_cons_of_mem _ (i_Xr w h)) hown hE.1 hP 0 rfl rfl 1 (by decide) (hts _ (List.mem_cons_of_mem _ iw1_124)) (fun _ h9 => h9) rfl d_Xr_openBlock_12 ?_
  refine va_alen hx hb hE.1 hP 1 2 rfl rfl (v := nI 1000) rfl d_Xr_openBlock_15 ?_
  refine lv_icmp_ge (tgt := 29) hx hb d_Xr_openBlock_16 (by decide) (fun c_16 => absurd c_16 (nI_ge hd (by omega))) (fun c_16 => ?_)
  refine lv_aload_n hx hb d_Xr_openBlock_19 rfl (lv_at hl 0 rfl) ?_
  refine va_get (D := D) (ci := 3) (v := .ref z0) (C := R_Xr) (T := F_Xr) (N := 4) hx hb hts (fun w h => List.mem_cons_of_mem _ (i_Xr w h)) hown hE.1 hP 0 rfl rfl 1 (by decide) (hts _ (List.mem_cons_of_mem _ iw1_124)) (fun _ h9 => h9) rfl d_Xr_openBlock_20 ?_
  refine lv_aload_n hx hb d_Xr_openBlock_23 rfl (lv_at hl 0 rfl) ?_
  refine va_get (D := D) (ci := 3) (v := .int (nI d)) (C := R_Xr) (T := F_Xr) (N := 4) hx hb hts (fun w h => List.mem_cons_of_mem _ (i_Xr w h)) hown hE.1 hP 0 rfl rfl 2 (by decide) (hts _ (List.mem_cons_of_mem _ iw1_125)) (fun _ h9 => h9) rfl d_Xr_openBlock_24 ?_
  refine lv_iload_n hx hb d_Xr_openBlock_27 rfl (lv_at hl 1 rfl) ?_
  refine va_zast hx hb hE.1 hP hD hS 1 2 rfl rfl (vp_in_nI hd (by omega)) d_Xr_openBlock_28 (fun H locs hP hD hS => ?_)
  have hP : va_P D cls [(x0, .inr (3, [.ref h0, .ref z0, .int (nI d), .int dcI])), (z0, .inl (cA 2, 1000, .inl (upd els (nI d).toNatClampNeg (vp_nar .boolean (zI x)))))] H := hP
  have hD : va_D A [(x0, .inr (3, [.ref h0, .ref z0, .int (nI d), .int dcI])), (z0, .inl (cA 2, 1000, .inl (upd els (nI d).toNatClampNeg (vp_nar .boolean (zI x)))))] := hD
  rw [nI_clamp (n := d) (by omega), zI_vp] at hP hD
  refine lv_aload_n hx hb d_Xr_openBlock_29 rfl (lv_at hl 0 rfl) ?_
  refine lv_dup hx hb d_Xr_openBlock_30 rfl ?_
  refine va_get (D := D) (ci := 3) (v := .int (nI d)) (C := R_Xr) (T := F_Xr) (N := 4) hx hb hts (fun w h => List.mem_cons_of_mem _ (i_Xr w h)) hown hE.1 hP 0 rfl rfl 2 (by decide) (hts _ (List.mem_cons_of_mem _ iw1_125)) (fun _ h9 => h9) rfl d_Xr_openBlock_31 ?_
  refine lv_iconst (v := 1) hx hb d_Xr_openBlock_34 (by decide) ?_
  refine lv_iadd hx hb d_Xr_openBlock_35 ?_
  refine va_put (D := D) (ci := 3) (v := .int ((nI d) + 1)) (ty := .int) (C := R_Xr) (T := F_Xr) (N := 4) hx hb hts (fun w h => List.mem_cons_of_mem _ (i_Xr w h)) t_Xr tk_Xr n_Xr hown hE.1 hP hD hS 0 rfl rfl 2 (by decide) (hts _ (List.mem_cons_of_mem _ iw1_125)) (fun _ h9 => h9) rfl (by decide +kernel) rfl rfl (Nat.le_of_ble_eq_true rfl) d_Xr_openBlock_36 (fun H locs hP hD hS => ?_)
  have hP : va_P D cls [(x0, .inr (3, [.ref h0, .ref z0, .int ((nI d) + 1), .int dcI])), (z0, .inl (cA 2, 1000, .inl (upd els d (zI x))))] H := hP
  have hD : va_D A [(x0, .inr (3, [.ref h0, .ref z0, .int ((nI d) + 1), .int dcI])), (z0, .inl (cA 2, 1000, .inl (upd els d (zI x))))] := hD
  rw [nI_1] at hP hD
  exact cRv (nI (d + 1), upd els d (zI x)) hx hb hr hlocks d_Xr_openBlock_39 hS hP hD (⟨rfl, rfl⟩) (Nat.le_refl _) (Nat.le_refl _)
set_option maxHeartbeats 4000000 in
set_option maxRecDepth 100000 in
/-- turnToElse(bg) -/
theorem c_Xr_turnToElse (l : Launch) (hl9 : l.stackTraces = false) (D : va_G) (cA : Nat → ClassId) (ad : Nat → Nat) (sz : Nat) (x0 z0 h0 h1 : Nat) (bs : Nat → Int32) (dcI : Int32) (a lm bg : Nat) (f pl : Int32) (d : Nat) (els : Nat → Int32) (hd : d < 1000) :
    cM l y_Xr_turnToElse (.code y_Xr_turnToElse b_Xr_turnToElse 3 none :: wAll) ({ frames := 7, cells := 1, slots := 6, locals := 104 }) D cA ad [.ref x0, .int (nI bg)] (wXf cA x0 z0 h0 h1 bs dcI ((nI a, nI lm, f, pl), nI d, els)) sz (fun v u => 0 < d ∧ ¬ els (d - 1) = 0 ∧ v = none ∧ u = ((nI a, nI lm, f, pl), nI d, upd els (d - 1) 0)) (fun u => ¬ (0 < d ∧ ¬ els (d - 1) = 0) ∧ u.1.2.2 = (10, nI bg)) (wXf cA x0 z0 h0 h1 bs dcI) (fun _ => (0, 0)) := by
  refine cM.ofW (cc := b_Xr_turnToElse) (maxL := 3) (ret := none) (by decide) (Nat.le_of_ble_eq_true rfl) ?_
  intro pg ev s m bw meth cdx A ls hF hsz hA hE hP hD hl
  obtain ⟨⟨hx, hb, hml, hown, hts⟩, hr, hno, hlocks, hin⟩ := hF
  subst hsz
  have hown : s.vm.findClass "ModuleBytes$ExpressionReader" = some m.cls := hown
  have hS : va_S A s.heap s.heap [] := va_S.rf
  have hl : lv_has ls 3 [(0, .ref x0), (1, .int (nI bg))] := hl
  have hP : va_P D cls [(x0, .inr (3, [.ref h0, .ref z0, .int (nI d), .int dcI])), (h0, .inr (2, [.ref h1, .int (nI a), .int (nI lm), .int f, .int pl])), (h1, .inl (cA 0, 2000, .inl bs)), (z0, .inl (cA 2, 1000, .inl els))] s.heap := hP
  have hD : va_D A [(x0, .inr (3, [.ref h0, .ref z0, .int (nI d), .int dcI])), (h0, .inr (2, [.ref h1, .int (nI a), .int (nI lm), .int f, .int pl])), (h1, .inl (cA 0, 2000, .inl bs)), (z0, .inl (cA 2, 1000, .inl els))] := hD
  rcases Nat.eq_zero_or_pos d with rfl | hd1
  · refine lv_aload_n hx hb d_Xr_turnToElse_0 rfl (lv_at hl 0 rfl) ?_
    refine va_get (D := D) (ci := 3) (v := .int (nI 0)) (C := R_Xr) (T := F_Xr) (N := 4) hx hb hts (fun w h => List.mem_cons_of_mem _ (i_Xr w h)) hown hE.1 hP 0 rfl rfl 2 (by decide) (hts _ (List.mem_cons_of_mem _ iw1_125)) (fun _ h9 => h9) rfl d_Xr_turnToElse_1 ?_
    refine lv_iconst (v := 1) hx hb d_Xr_turnToElse_4 (by decide) ?_
    refine lv_isub hx hb d_Xr_turnToElse_5 ?_
    refine lv_istore_n (lv' := [(2, .int ((nI 0) - 1)), (0, .ref x0), (1, .int (nI bg))]) hx hb d_Xr_turnToElse_6 rfl hl (by decide) rfl (fun ls hl => ?_)
    refine lv_iload_n hx hb d_Xr_turnToElse_7 rfl (lv_at hl 0 rfl) ?_
    refine lv_if_lt (tgt := 29) hx hb d_Xr_turnToElse_8 (by decide) (fun c_8 => ?_) (fun c_8 => absurd (by decide +kernel) c_8)
    refine lv_aload_n hx hb d_Xr_turnToElse_29 rfl (lv_at hl 1 rfl) ?_
    refine va_get (D := D) (ci := 3) (v := .ref h0) (C := R_Xr) (T := F_Xr) (N := 4) hx hb hts (fun w h => List.mem_cons_of_mem _ (i_Xr w h)) hown hE.1 hP 0 rfl rfl 0 (by decide) (hts _ (List.mem_cons_of_mem _ iw1_123)) (fun _ h9 => h9) rfl d_Xr_turnToElse_30 ?_
    refine lv_bipush (v := 10) hx hb d_Xr_turnToElse_33 (by decide) ?_
    refine lv_iload_n hx hb d_Xr_turnToElse_35 rfl (lv_at hl 2 rfl) ?_
    refine cV (As := [.int 10, .int (nI bg)]) (rest := []) (n := 2) (wc := [(h0, .inr (2, [.ref h1, .int (nI a), .int (nI lm), .int f, .int pl])), (h1, .inl (cA 0, 2000, .inl bs))]) (wr := [(x0, .inr (3, [.ref h0, .ref z0, .int (nI 0), .int dcI])), (z0, .inl (cA 2, 1000, .inl els))]) ⟨hx, hb, hml, hown, hts⟩ hno hlocks hl.1 (c_Sr_fail l hl9 D cA ad s.heap.size h0 h1 bs (nI a) (nI lm) f pl 10 (nI bg)) iw2_184 iw2_36 iw2_37 iw1_5 iw2_38 (by decide +kernel) rfl ⟨Nat.le_of_ble_eq_true rfl, Nat.le_of_ble_eq_true rfl⟩ ⟨Nat.le_of_ble_eq_true rfl, Nat.le_of_ble_eq_true rfl⟩ rfl (Nat.le_of_ble_eq_true rfl) d_Xr_turnToElse_36 hE hP hD hS hA [1, 2] [0, 3] rfl rfl rfl rfl (by decide) (ci := 2) rfl rfl 1 rfl (fun u h => ⟨(u, nI 0, els), ⟨fun q => absurd q.1 (by decide), by rw [h]⟩, fun _ h => h.sub [0, 2, 3, 1] rfl, fun h => h.sub [0, 2, 3, 1] (by decide) rfl, Nat.le_refl _, Nat.le_refl _⟩) (fun v_36 u_36 H locs hp_36 hP hD hS => ?_)
    exact hp_36.elim
  · refine lv_aload_n hx hb d_Xr_turnToElse_0 rfl (lv_at hl 0 rfl) ?_
    refine va_get (D := D) (ci := 3) (v := .int (nI d)) (C := R_Xr) (T := F_Xr) (N := 4) hx hb hts (fun w h => List.mem_cons_of_mem _ (i_Xr w h)) hown hE.1 hP 0 rfl rfl 2 (by decide) (hts _ (List.mem_cons_of_mem _ iw1_125)) (fun _ h9 => h9) rfl d_Xr_turnToElse_1 ?_
    refine lv_iconst (v := 1) hx hb d_Xr_turnToElse_4 (by decide) ?_
    refine lv_isub hx hb d_Xr_turnToElse_5 ?_
    rw [show nI d - 1 = nI (d - 1) from pk_sub (b := 1) hd1]
    refine lv_istore_n (lv' := [(2, .int (nI (d - 1))), (0, .ref x0), (1, .int (nI bg))]) hx hb d_Xr_turnToElse_6 rfl hl (by decide) rfl (fun ls hl => ?_)
    refine lv_iload_n hx hb d_Xr_turnToElse_7 rfl (lv_at hl 0 rfl) ?_
    refine lv_if_lt (tgt := 29) hx hb d_Xr_turnToElse_8 (by decide) (fun c_8 => absurd c_8 (nI_pos (by omega))) (fun c_8 => ?_)
    refine lv_iload_n hx hb d_Xr_turnToElse_11 rfl (lv_at hl 0 rfl) ?_
    refine lv_aload_n hx hb d_Xr_turnToElse_12 rfl (lv_at hl 1 rfl) ?_
    refine va_get (D := D) (ci := 3) (v := .ref z0) (C := R_Xr) (T := F_Xr) (N := 4) hx hb hts (fun w h => List.mem_cons_of_mem _ (i_Xr w h)) hown hE.1 hP 0 rfl rfl 1 (by decide) (hts _ (List.mem_cons_of_mem _ iw1_124)) (fun _ h9 => h9) rfl d_Xr_turnToElse_13 ?_
    refine va_alen hx hb hE.1 hP 3 2 rfl rfl (v := nI 1000) rfl d_Xr_turnToElse_16 ?_
    refine lv_icmp_ge (tgt := 29) hx hb d_Xr_turnToElse_17 (by decide) (fun c_17 => absurd c_17 (nI_ge (by omega) (by omega))) (fun c_17 => ?_)
    refine lv_aload_n hx hb d_Xr_turnToElse_20 rfl (lv_at hl 1 rfl) ?_
    refine va_get (D := D) (ci := 3) (v := .ref z0) (C := R_Xr) (T := F_Xr) (N := 4) hx hb hts (fun w h => List.mem_cons_of_mem _ (i_Xr w h)) hown hE.1 hP 0 rfl rfl 1 (by decide) (hts _ (List.mem_cons_of_mem _ iw1_124)) (fun _ h9 => h9) rfl d_Xr_turnToElse_21 ?_
    refine lv_iload_n hx hb d_Xr_turnToElse_24 rfl (lv_at hl 0 rfl) ?_
    refine va_zald hx hb hE.1 hP 3 2 rfl rfl (vp_in_nI (by omega) (by omega)) d_Xr_turnToElse_25 ?_
    rw [nI_clamp (n := d - 1) (by omega)]
    refine lv_if_ne (tgt := 40) hx hb d_Xr_turnToElse_26 (by decide) (fun c_26 => ?_) (fun c_26 => ?_)
    · refine lv_aload_n hx hb d_Xr_turnToElse_40 rfl (lv_at hl 1 rfl) ?_
      refine va_get (D := D) (ci := 3) (v := .ref z0) (C := R_Xr) (T := F_Xr) (N := 4) hx hb hts (fun w h => List.mem_cons_of_mem _ (i_Xr w h)) hown hE.1 hP 0 rfl rfl 1 (by decide) (hts _ (List.mem_cons_of_mem _ iw1_124)) (fun _ h9 => h9) rfl d_Xr_turnToElse_41 ?_
      refine lv_iload_n hx hb d_Xr_turnToElse_44 rfl (lv_at hl 0 rfl) ?_
      refine lv_iconst (v := 0) hx hb d_Xr_turnToElse_45 (by decide) ?_
      refine va_zast hx hb hE.1 hP hD hS 3 2 rfl rfl (vp_in_nI (by omega) (by omega)) d_Xr_turnToElse_46 (fun H locs hP hD hS => ?_)
      have hP : va_P D cls [(x0, .inr (3, [.ref h0, .ref z0, .int (nI d), .int dcI])), (h0, .inr (2, [.ref h1, .int (nI a), .int (nI lm), .int f, .int pl])), (h1, .inl (cA 0, 2000, .inl bs)), (z0, .inl (cA 2, 1000, .inl (upd els (nI (d - 1)).toNatClampNeg (vp_nar .boolean 0))))] H := hP
      have hD : va_D A [(x0, .inr (3, [.ref h0, .ref z0, .int (nI d), .int dcI])), (h0, .inr (2, [.ref h1, .int (nI a), .int (nI lm), .int f, .int pl])), (h1, .inl (cA 0, 2000, .inl bs)), (z0, .inl (cA 2, 1000, .inl (upd els (nI (d - 1)).toNatClampNeg (vp_nar .boolean 0))))] := hD
      rw [nI_clamp (n := d - 1) (by omega), show vp_nar .boolean 0 = 0 from by decide +kernel] at hP hD
      exact cRv ((nI a, nI lm, f, pl), nI d, upd els (d - 1) 0) hx hb hr hlocks d_Xr_turnToElse_47 hS hP hD (⟨hd1, c_26, rfl, rfl⟩) (Nat.le_refl _) (Nat.le_refl _)
    · refine lv_aload_n hx hb d_Xr_turnToElse_29 rfl (lv_at hl 1 rfl) ?_
      refine va_get (D := D) (ci := 3) (v := .ref h0) (C := R_Xr) (T := F_Xr) (N := 4) hx hb hts (fun w h => List.mem_cons_of_mem _ (i_Xr w h)) hown hE.1 hP 0 rfl rfl 0 (by decide) (hts _ (List.mem_cons_of_mem _ iw1_123)) (fun _ h9 => h9) rfl d_Xr_turnToElse_30 ?_
      refine lv_bipush (v := 10) hx hb d_Xr_turnToElse_33 (by decide) ?_
      refine lv_iload_n hx hb d_Xr_turnToElse_35 rfl (lv_at hl 2 rfl) ?_
      refine cV (As := [.int 10, .int (nI bg)]) (rest := []) (n := 2) (wc := [(h0, .inr (2, [.ref h1, .int (nI a), .int (nI lm), .int f, .int pl])), (h1, .inl (cA 0, 2000, .inl bs))]) (wr := [(x0, .inr (3, [.ref h0, .ref z0, .int (nI d), .int dcI])), (z0, .inl (cA 2, 1000, .inl els))]) ⟨hx, hb, hml, hown, hts⟩ hno hlocks hl.1 (c_Sr_fail l hl9 D cA ad s.heap.size h0 h1 bs (nI a) (nI lm) f pl 10 (nI bg)) iw2_184 iw2_36 iw2_37 iw1_5 iw2_38 (by decide +kernel) rfl ⟨Nat.le_of_ble_eq_true rfl, Nat.le_of_ble_eq_true rfl⟩ ⟨Nat.le_of_ble_eq_true rfl, Nat.le_of_ble_eq_true rfl⟩ rfl (Nat.le_of_ble_eq_true rfl) d_Xr_turnToElse_36 hE hP hD hS hA [1, 2] [0, 3] rfl rfl rfl rfl (by decide) (ci := 2) rfl rfl 1 rfl (fun u h => ⟨(u, nI d, els), ⟨fun q => q.2 c_26, by rw [h]⟩, fun _ h => h.sub [0, 2, 3, 1] rfl, fun h => h.sub [0, 2, 3, 1] (by decide) rfl, Nat.le_refl _, Nat.le_refl _⟩) (fun v_36 u_36 H locs hp_36 hP hD hS => ?_)
      exact hp_36.elim
set_option maxHeartbeats 4000000 in
set_option maxRecDepth 100000 in
/-- readExpression() -/
theorem c_Xr_readExpression (l : Launch) (hl9 : l.stackTraces = false) (D : va_G) (cA : Nat → ClassId) (ad : Nat → Nat) (sz : Nat) (x0 z0 h0 h1 : Nat) (bs : Nat → Int32) (dc : Bool) (a lm : Nat) (f pl : Int32) (hlm : lm ≤ 2000) (hal : a ≤ lm) (ha0 : 0 < a) (dep0 : Int32) (els0 : Nat → Int32) :
    cM l y_Xr_readExpression (.code y_Xr_readExpression b_Xr_readExpression 5 none :: wAll) ({ frames := 9, cells := 1, slots := 6, locals := 152 }) D cA ad [.ref x0] (wXf cA x0 z0 h0 h1 bs (zI dc) ((nI a, nI lm, f, pl), dep0, els0)) sz (fun v u => ∃ a2, pExpr (bv bs) lm dc a = .inr ((), a2) ∧ v = none ∧ u.1 = (nI a2, nI lm, f, pl)) (fun u => tP (pExpr (bv bs) lm dc a) u.1) (wXf cA x0 z0 h0 h1 bs (zI dc)) (fun _ => (0, 0)) := by
  refine cM.ofW (cc := b_Xr_readExpression) (maxL := 5) (ret := none) (by decide) (Nat.le_of_ble_eq_true rfl) ?_
  intro pg ev s m bw meth cdx A ls hF hsz hA hE hP hD hl
  obtain ⟨⟨hx, hb, hml, hown, hts⟩, hr, hno, hlocks, hin⟩ := hF
  subst hsz
  have hown : s.vm.findClass "ModuleBytes$ExpressionReader" = some m.cls := hown
  have hS : va_S A s.heap s.heap [] := va_S.rf
  have hl : lv_has ls 5 [(0, .ref x0)] := hl
  have hP : va_P D cls [(x0, .inr (3, [.ref h0, .ref z0, .int dep0, .int (zI dc)])), (h0, .inr (2, [.ref h1, .int (nI a), .int (nI lm), .int f, .int pl])), (h1, .inl (cA 0, 2000, .inl bs)), (z0, .inl (cA 2, 1000, .inl els0))] s.heap := hP
  have hD : va_D A [(x0, .inr (3, [.ref h0, .ref z0, .int dep0, .int (zI dc)])), (h0, .inr (2, [.ref h1, .int (nI a), .int (nI lm), .int f, .int pl])), (h1, .inl (cA 0, 2000, .inl bs)), (z0, .inl (cA 2, 1000, .inl els0))] := hD
  refine lv_aload_n hx hb d_Xr_readExpression_0 rfl (lv_at hl 0 rfl) ?_
  refine lv_iconst (v := 0) hx hb d_Xr_readExpression_1 (by decide) ?_
  refine va_put (D := D) (ci := 3) (v := .int 0) (ty := .int) (C := R_Xr) (T := F_Xr) (N := 4) hx hb hts (fun w h => List.mem_cons_of_mem _ (i_Xr w h)) t_Xr tk_Xr n_Xr hown hE.1 hP hD hS 0 rfl rfl 2 (by decide) (hts _ (List.mem_cons_of_mem _ iw1_125)) (fun _ h9 => h9) rfl (by decide +kernel) rfl rfl (Nat.le_of_ble_eq_true rfl) d_Xr_readExpression_2 (fun H locs hP hD hS => ?_)
  have hP : va_P D cls [(x0, .inr (3, [.ref h0, .ref z0, .int 0, .int (zI dc)])), (h0, .inr (2, [.ref h1, .int (nI a), .int (nI lm), .int f, .int pl])), (h1, .inl (cA 0, 2000, .inl bs)), (z0, .inl (cA 2, 1000, .inl els0))] H := hP
  have hD : va_D A [(x0, .inr (3, [.ref h0, .ref z0, .int 0, .int (zI dc)])), (h0, .inr (2, [.ref h1, .int (nI a), .int (nI lm), .int f, .int pl])), (h1, .inl (cA 0, 2000, .inl bs)), (z0, .inl (cA 2, 1000, .inl els0))] := hD
  refine lv_iconst (v := 1) hx hb d_Xr_readExpression_5 (by decide) ?_
  refine lv_istore_n (lv' := [(1, .int 1), (0, .ref x0)]) hx hb d_Xr_readExpression_6 rfl hl (by decide) rfl (fun ls hl => ?_)
  refine lv_iconst (v := 0) hx hb d_Xr_readExpression_7 (by decide) ?_
  refine lv_istore_n (lv' := [(2, .int 0), (1, .int 1), (0, .ref x0)]) hx hb d_Xr_readExpression_8 rfl hl (by decide) rfl (fun ls hl => ?_)
  have key : ∀ (k i d : Nat) (E : Nat → Bool) (els : Nat → Int32) (a1 : Nat) (H : Heap) (locs : List Loc) (ls : Array Slot), i + k = 2000 → a + i ≤ a1 → a + 2 * d ≤ a1 → a1 ≤ lm → eRel d E els → pExpr (bv bs) lm dc a = pExprG (bv bs) lm dc k d E a1 → va_P D cls [(x0, .inr (3, [.ref h0, .ref z0, .int (nI d), .int (zI dc)])), (h0, .inr (2, [.ref h1, .int (nI a1), .int (nI lm), .int f, .int pl])), (h1, .inl (cA 0, 2000, .inl bs)), (z0, .inl (cA 2, 1000, .inl els))] H → va_D A [(x0, .inr (3, [.ref h0, .ref z0, .int (nI d), .int (zI dc)])), (h0, .inr (2, [.ref h1, .int (nI a1), .int (nI lm), .int f, .int pl])), (h1, .inl (cA 0, 2000, .inl bs)), (z0, .inl (cA 2, 1000, .inl els))] → va_S A s.heap H locs → lv_has ls 5 [(0, .ref x0), (1, .int 1), (2, .int (nI i))] → W pg l ev ({ frames := 9, cells := 1, slots := 6, locals := 152 }) s m ([.ref x0] : List Value).toArray bw meth cdx H locs 0 0 (tx_Q bw (cQ D (fun v u => ∃ a2, pExpr (bv bs) lm dc a = .inr ((), a2) ∧ v = none ∧ u.1 = (nI a2, nI lm, f, pl)) (fun u => tP (pExpr (bv bs) lm dc a) u.1) (wXf cA x0 z0 h0 h1 bs (zI dc)) (fun _ => (0, 0)) A) ([.ref x0] : List Value).toArray s A) (F0 m 9 ls []) := by
    intro k
    induction k with
    | zero =>
      intro i d E els a1 H locs ls hi h1 h2 h3
      exact absurd h3 (by omega)
    | succ k ih =>
      intro i d E els a1 H locs ls hi h1a h2a h3a hrel hres hP hD hS hl
      refine lv_iload_n hx hb d_Xr_readExpression_9 rfl (lv_at hl 1 rfl) ?_
      refine lv_if_eq (tgt := 184) hx hb d_Xr_readExpression_10 (by decide) (fun c_10 => absurd c_10 (by decide)) (fun c_10 => ?_)
      refine lv_iload_n hx hb d_Xr_readExpression_13 rfl (lv_at hl 2 rfl) ?_
      refine lv_sipush (v := 2000) hx hb d_Xr_readExpression_14 (by decide) ?_
      refine lv_icmp_ge (tgt := 184) hx hb d_Xr_readExpression_17 (by decide) (fun c_17 => absurd c_17 (nI_ge (b := 2000) (by omega) (by omega))) (fun c_17 => ?_)
      refine lv_aload_n hx hb d_Xr_readExpression_20 rfl (lv_at hl 0 rfl) ?_
      refine va_get (D := D) (ci := 3) (v := .ref h0) (C := R_Xr) (T := F_Xr) (N := 4) hx hb hts (fun w h => List.mem_cons_of_mem _ (i_Xr w h)) hown hE.1 hP 0 rfl rfl 0 (by decide) (hts _ (List.mem_cons_of_mem _ iw1_123)) (fun _ h9 => h9) rfl d_Xr_readExpression_21 ?_
      refine va_get (D := D) (ci := 2) (v := .int (nI a1)) (C := R_Sr) (T := F_Sr) (N := 5) hx hb hts (fun w h => List.mem_cons_of_mem _ (i_Sr w h)) hown hE.1 hP 1 rfl rfl 1 (by decide) (hts _ (List.mem_cons_of_mem _ iw1_98)) (fun _ h9 => h9) rfl d_Xr_readExpression_24 ?_
      refine lv_istore_n (lv' := [(3, .int (nI a1)), (0, .ref x0), (1, .int 1), (2, .int (nI i))]) hx hb d_Xr_readExpression_27 rfl hl (by decide) rfl (fun ls hl => ?_)
      refine lv_aload_n hx hb d_Xr_readExpression_28 rfl (lv_at hl 1 rfl) ?_
      refine va_get (D := D) (ci := 3) (v := .ref h0) (C := R_Xr) (T := F_Xr) (N := 4) hx hb hts (fun w h => List.mem_cons_of_mem _ (i_Xr w h)) hown hE.1 hP 0 rfl rfl 0 (by decide) (hts _ (List.mem_cons_of_mem _ iw1_123)) (fun _ h9 => h9) rfl d_Xr_readExpression_29 ?_
      refine cV (As := []) (rest := []) (n := 0) (wc := [(h0, .inr (2, [.ref h1, .int (nI a1), .int (nI lm), .int f, .int pl])), (h1, .inl (cA 0, 2000, .inl bs))]) (wr := [(x0, .inr (3, [.ref h0, .ref z0, .int (nI d), .int (zI dc)])), (z0, .inl (cA 2, 1000, .inl els))]) ⟨hx, hb, hml, hown, hts⟩ hno hlocks hl.1 (c_Sr_next l hl9 D cA ad H.size h0 h1 bs a1 lm f pl hlm (by omega)) iw2_167 iw1_207 iw1_208 iw1_5 iw1_209 (by decide +kernel) rfl ⟨Nat.le_of_ble_eq_true rfl, Nat.le_of_ble_eq_true rfl⟩ ⟨Nat.le_of_ble_eq_true rfl, Nat.le_of_ble_eq_true rfl⟩ rfl (Nat.le_of_ble_eq_true rfl) d_Xr_readExpression_32 hE hP hD hS hA [1, 2] [0, 3] rfl rfl rfl rfl (by decide) (ci := 2) rfl rfl 1 rfl (fun u h => ⟨(u, nI d, els), h.mono (fun f p q => by rw [hres, eG_T q]), fun _ h => h.sub [0, 2, 3, 1] rfl, fun h => h.sub [0, 2, 3, 1] (by decide) rfl, Nat.le_refl _, Nat.le_refl _⟩) (fun v_32 u_32 H locs hp_32 hP hD hS => ?_)
      obtain ⟨c, a2, hn, rfl, rfl⟩ := hp_32
      have hP : va_P D cls [(x0, .inr (3, [.ref h0, .ref z0, .int (nI d), .int (zI dc)])), (h0, .inr (2, [.ref h1, .int (nI a2), .int (nI lm), .int f, .int pl])), (h1, .inl (cA 0, 2000, .inl bs)), (z0, .inl (cA 2, 1000, .inl els))] H := hP.sub [0, 2, 3, 1] rfl
      have hD : va_D A [(x0, .inr (3, [.ref h0, .ref z0, .int (nI d), .int (zI dc)])), (h0, .inr (2, [.ref h1, .int (nI a2), .int (nI lm), .int f, .int pl])), (h1, .inl (cA 0, 2000, .inl bs)), (z0, .inl (cA 2, 1000, .inl els))] := hD.sub [0, 2, 3, 1] (by decide) rfl
      refine W.cs (cells' := 0) (slots' := 0) rfl rfl ?_
      refine W.eq (g2 := F0 m 35 ls [.int (nI c)]) rfl ?_
      obtain ⟨hq, rfl, hg⟩ := pNext_ok hn
      have hB : c < 256 := by rw [hg]; exact bv_lt _ _
      have hP : va_P D cls [(x0, .inr (3, [.ref h0, .ref z0, .int (nI d), .int (zI dc)])), (h0, .inr (2, [.ref h1, .int (nI (a1 + 1)), .int (nI lm), .int f, .int pl])), (h1, .inl (cA 0, 2000, .inl bs)), (z0, .inl (cA 2, 1000, .inl els))] H := hP
      have hD : va_D A [(x0, .inr (3, [.ref h0, .ref z0, .int (nI d), .int (zI dc)])), (h0, .inr (2, [.ref h1, .int (nI (a1 + 1)), .int (nI lm), .int f, .int pl])), (h1, .inl (cA 0, 2000, .inl bs)), (z0, .inl (cA 2, 1000, .inl els))] := hD
      refine lv_istore (lv' := [(4, .int (nI c)), (3, .int (nI a1)), (0, .ref x0), (1, .int 1), (2, .int (nI i))]) hx hb d_Xr_readExpression_35 hl (by decide) rfl (fun ls hl => ?_)
      refine lv_iload hx hb d_Xr_readExpression_37 (lv_at hl 0 rfl) ?_
      by_cases k_2 : c = 2
      · refine W.eq (g2 := F0 m 39 ls [.int 2]) (by rw [k_2]; rfl) ?_
        refine lv_lookup (off := 57) (tgt := 96) hx hb d_Xr_readExpression_39 (by decide) (by decide) (by decide) ?_
        refine lv_aload_n hx hb d_Xr_readExpression_96 rfl (lv_at hl 2 rfl) ?_
        refine va_get (D := D) (ci := 3) (v := .ref h0) (C := R_Xr) (T := F_Xr) (N := 4) hx hb hts (fun w h => List.mem_cons_of_mem _ (i_Xr w h)) hown hE.1 hP 0 rfl rfl 0 (by decide) (hts _ (List.mem_cons_of_mem _ iw1_123)) (fun _ h9 => h9) rfl d_Xr_readExpression_97 ?_
        refine cV (As := []) (rest := []) (n := 0) (wc := [(h0, .inr (2, [.ref h1, .int (nI (a1 + 1)), .int (nI lm), .int f, .int pl])), (h1, .inl (cA 0, 2000, .inl bs))]) (wr := [(x0, .inr (3, [.ref h0, .ref z0, .int (nI d), .int (zI dc)])), (z0, .inl (cA 2, 1000, .inl els))]) ⟨hx, hb, hml, hown, hts⟩ hno hlocks hl.1 (c_Sr_blockType l hl9 D cA ad H.size h0 h1 bs (a1 + 1) lm f pl hlm (by omega)) iw2_168 iw2_169 iw2_170 iw1_5 iw2_171 (by decide +kernel) rfl ⟨Nat.le_of_ble_eq_true rfl, Nat.le_of_ble_eq_true rfl⟩ ⟨Nat.le_of_ble_eq_true rfl, Nat.le_of_ble_eq_true rfl⟩ rfl (Nat.le_of_ble_eq_true rfl) d_Xr_readExpression_100 hE hP hD hS hA [1, 2] [0, 3] rfl rfl rfl rfl (by decide) (ci := 2) rfl rfl 1 rfl (fun u h => ⟨(u, nI d, els), h.mono (fun f p q => by rw [hres, eG_bT hn (by omega) q]), fun _ h => h.sub [0, 2, 3, 1] rfl, fun h => h.sub [0, 2, 3, 1] (by decide) rfl, Nat.le_refl _, Nat.le_refl _⟩) (fun v_100 u_100 H locs hp_100 hP hD hS => ?_)
        obtain ⟨a3, hb3, rfl, rfl⟩ := hp_100
        have hP : va_P D cls [(x0, .inr (3, [.ref h0, .ref z0, .int (nI d), .int (zI dc)])), (h0, .inr (2, [.ref h1, .int (nI a3), .int (nI lm), .int f, .int pl])), (h1, .inl (cA 0, 2000, .inl bs)), (z0, .inl (cA 2, 1000, .inl els))] H := hP.sub [0, 2, 3, 1] rfl
        have hD : va_D A [(x0, .inr (3, [.ref h0, .ref z0, .int (nI d), .int (zI dc)])), (h0, .inr (2, [.ref h1, .int (nI a3), .int (nI lm), .int f, .int pl])), (h1, .inl (cA 0, 2000, .inl bs)), (z0, .inl (cA 2, 1000, .inl els))] := hD.sub [0, 2, 3, 1] (by decide) rfl
        refine W.cs (cells' := 0) (slots' := 0) rfl rfl ?_
        refine W.eq (g2 := F0 m 103 ls []) rfl ?_
        have ho3 := pBlock_ok (by omega) hb3
        refine lv_aload_n hx hb d_Xr_readExpression_103 rfl (lv_at hl 2 rfl) ?_
        refine lv_iload hx hb d_Xr_readExpression_104 (lv_at hl 0 rfl) ?_
        refine lv_iconst (v := 4) hx hb d_Xr_readExpression_106 (by decide) ?_
        refine lv_icmp_ne (tgt := 114) hx hb d_Xr_readExpression_107 (by decide) (fun c_107 => ?_) (fun c_107 => absurd c_107 ((fun q => absurd (nI_lit_eq (k := 4) (by omega) (by omega) q) (by omega))))
        refine lv_iconst (v := 0) hx hb d_Xr_readExpression_114 (by decide) ?_
        refine cV (As := [.int 0]) (rest := []) (n := 1) (wc := [(x0, .inr (3, [.ref h0, .ref z0, .int (nI d), .int (zI dc)])), (z0, .inl (cA 2, 1000, .inl els))]) (wr := [(h0, .inr (2, [.ref h1, .int (nI a3), .int (nI lm), .int f, .int pl])), (h1, .inl (cA 0, 2000, .inl bs))]) ⟨hx, hb, hml, hown, hts⟩ hno hlocks hl.1 (c_Xr_openBlock l hl9 D cA ad H.size x0 z0 h0 (zI dc) d els false (by omega)) iw2_176 iw2_178 sel_Xr_openBlock iw1_6 iw2_179 (by decide +kernel) rfl ⟨Nat.le_of_ble_eq_true rfl, Nat.le_of_ble_eq_true rfl⟩ ⟨Nat.le_of_ble_eq_true rfl, Nat.le_of_ble_eq_true rfl⟩ rfl (Nat.le_of_ble_eq_true rfl) d_Xr_readExpression_115 hE hP hD hS hA [0, 3] [1, 2] rfl rfl rfl rfl (by decide) (ci := 3) rfl rfl 0 rfl (fun _ h => h.elim) (fun v_115 u_115 H locs hp_115 hP hD hS => ?_)
        obtain ⟨rfl, rfl⟩ := hp_115
        have hP : va_P D cls [(x0, .inr (3, [.ref h0, .ref z0, .int (nI (d + 1)), .int (zI dc)])), (h0, .inr (2, [.ref h1, .int (nI a3), .int (nI lm), .int f, .int pl])), (h1, .inl (cA 0, 2000, .inl bs)), (z0, .inl (cA 2, 1000, .inl (upd els d (zI false))))] H := hP.sub [2, 0, 1, 3] rfl
        have hD : va_D A [(x0, .inr (3, [.ref h0, .ref z0, .int (nI (d + 1)), .int (zI dc)])), (h0, .inr (2, [.ref h1, .int (nI a3), .int (nI lm), .int f, .int pl])), (h1, .inl (cA 0, 2000, .inl bs)), (z0, .inl (cA 2, 1000, .inl (upd els d (zI false))))] := hD.sub [2, 0, 1, 3] (by decide) rfl
        refine W.cs (cells' := 0) (slots' := 0) rfl rfl ?_
        refine W.eq (g2 := F0 m 118 ls []) rfl ?_
        refine lv_goto (tgt := 178) hx hb d_Xr_readExpression_118 (by decide) ?_
        obtain ⟨x2_1, ex2_1⟩ : ∃ y : Int32, y = (nI i) + 1 := ⟨_, rfl⟩
        refine lv_iinc (v := x2_1) (lv' := [(2, .int x2_1), (4, .int (nI c)), (3, .int (nI a1)), (0, .ref x0), (1, .int 1)]) hx hb d_Xr_readExpression_178 hl (k := 4) rfl (by rw [ex2_1]; rfl) (by decide) rfl (fun ls hl => ?_)
        refine lv_goto (tgt := 9) hx hb d_Xr_readExpression_181 (by decide) ?_
        have e9 : x2_1 = nI (i + 1) := by rw [ex2_1]; exact nI_1 i
        subst e9
        exact ih (i + 1) (d + 1) (va_up E d (c == 4)) (upd els d (zI false)) a3 H _ ls (by omega) (by omega) (by omega) (by omega) (by have q := hrel.push false; rw [show (c == 4) = false from by rw [k_2]; rfl]; exact q) (hres.trans (eG_b hn (by omega) hb3)) hP hD hS (lv_sub hl [3, 4, 0] rfl)
      by_cases k_3 : c = 3
      · refine W.eq (g2 := F0 m 39 ls [.int 3]) (by rw [k_3]; rfl) ?_
        refine lv_lookup (off := 57) (tgt := 96) hx hb d_Xr_readExpression_39 (by decide) (by decide) (by decide) ?_
        refine lv_aload_n hx hb d_Xr_readExpression_96 rfl (lv_at hl 2 rfl) ?_
        refine va_get (D := D) (ci := 3) (v := .ref h0) (C := R_Xr) (T := F_Xr) (N := 4) hx hb hts (fun w h => List.mem_cons_of_mem _ (i_Xr w h)) hown hE.1 hP 0 rfl rfl 0 (by decide) (hts _ (List.mem_cons_of_mem _ iw1_123)) (fun _ h9 => h9) rfl d_Xr_readExpression_97 ?_
        refine cV (As := []) (rest := []) (n := 0) (wc := [(h0, .inr (2, [.ref h1, .int (nI (a1 + 1)), .int (nI lm), .int f, .int pl])), (h1, .inl (cA 0, 2000, .inl bs))]) (wr := [(x0, .inr (3, [.ref h0, .ref z0, .int (nI d), .int (zI dc)])), (z0, .inl (cA 2, 1000, .inl els))]) ⟨hx, hb, hml, hown, hts⟩ hno hlocks hl.1 (c_Sr_blockType l hl9 D cA ad H.size h0 h1 bs (a1 + 1) lm f pl hlm (by omega)) iw2_168 iw2_169 iw2_170 iw1_5 iw2_171 (by decide +kernel) rfl ⟨Nat.le_of_ble_eq_true rfl, Nat.le_of_ble_eq_true rfl⟩ ⟨Nat.le_of_ble_eq_true rfl, Nat.le_of_ble_eq_true rfl⟩ rfl (Nat.le_of_ble_eq_true rfl) d_Xr_readExpression_100 hE hP hD hS hA [1, 2] [0, 3] rfl rfl rfl rfl (by decide) (ci := 2) rfl rfl 1 rfl (fun u h => ⟨(u, nI d, els), h.mono (fun f p q => by rw [hres, eG_bT hn (by omega) q]), fun _ h => h.sub [0, 2, 3, 1] rfl, fun h => h.sub [0, 2, 3, 1] (by decide) rfl, Nat.le_refl _, Nat.le_refl _⟩) (fun v_100 u_100 H locs hp_100 hP hD hS => ?_)
        obtain ⟨a3, hb3, rfl, rfl⟩ := hp_100
        have hP : va_P D cls [(x0, .inr (3, [.ref h0, .ref z0, .int (nI d), .int (zI dc)])), (h0, .inr (2, [.ref h1, .int (nI a3), .int (nI lm), .int f, .int pl])), (h1, .inl (cA 0, 2000, .inl bs)), (z0, .inl (cA 2, 1000, .inl els))] H := hP.sub [0, 2, 3, 1] rfl
        have hD : va_D A [(x0, .inr (3, [.ref h0, .ref z0, .int (nI d), .int (zI dc)])), (h0, .inr (2, [.ref h1, .int (nI a3), .int (nI lm), .int f, .int pl])), (h1, .inl (cA 0, 2000, .inl bs)), (z0, .inl (cA 2, 1000, .inl els))] := hD.sub [0, 2, 3, 1] (by decide) rfl
        refine W.cs (cells' := 0) (slots' := 0) rfl rfl ?_
        refine W.eq (g2 := F0 m 103 ls []) rfl ?_
        have ho3 := pBlock_ok (by omega) hb3
        refine lv_aload_n hx hb d_Xr_readExpression_103 rfl (lv_at hl 2 rfl) ?_
        refine lv_iload hx hb d_Xr_readExpression_104 (lv_at hl 0 rfl) ?_
        refine lv_iconst (v := 4) hx hb d_Xr_readExpression_106 (by decide) ?_
        refine lv_icmp_ne (tgt := 114) hx hb d_Xr_readExpression_107 (by decide) (fun c_107 => ?_) (fun c_107 => absurd c_107 ((fun q => absurd (nI_lit_eq (k := 4) (by omega) (by omega) q) (by omega))))
        refine lv_iconst (v := 0) hx hb d_Xr_readExpression_114 (by decide) ?_
        refine cV (As := [.int 0]) (rest := []) (n := 1) (wc := [(x0, .inr (3, [.ref h0, .ref z0, .int (nI d), .int (zI dc)])), (z0, .inl (cA 2, 1000, .inl els))]) (wr := [(h0, .inr (2, [.ref h1, .int (nI a3), .int (nI lm), .int f, .int pl])), (h1, .inl (cA 0, 2000, .inl bs))]) ⟨hx, hb, hml, hown, hts⟩ hno hlocks hl.1 (c_Xr_openBlock l hl9 D cA ad H.size x0 z0 h0 (zI dc) d els false (by omega)) iw2_176 iw2_178 sel_Xr_openBlock iw1_6 iw2_179 (by decide +kernel) rfl ⟨Nat.le_of_ble_eq_true rfl, Nat.le_of_ble_eq_true rfl⟩ ⟨Nat.le_of_ble_eq_true rfl, Nat.le_of_ble_eq_true rfl⟩ rfl (Nat.le_of_ble_eq_true rfl) d_Xr_readExpression_115 hE hP hD hS hA [0, 3] [1, 2] rfl rfl rfl rfl (by decide) (ci := 3) rfl rfl 0 rfl (fun _ h => h.elim) (fun v_115 u_115 H locs hp_115 hP hD hS => ?_)
        obtain ⟨rfl, rfl⟩ := hp_115
        have hP : va_P D cls [(x0, .inr (3, [.ref h0, .ref z0, .int (nI (d + 1)), .int (zI dc)])), (h0, .inr (2, [.ref h1, .int (nI a3), .int (nI lm), .int f, .int pl])), (h1, .inl (cA 0, 2000, .inl bs)), (z0, .inl (cA 2, 1000, .inl (upd els d (zI false))))] H := hP.sub [2, 0, 1, 3] rfl
        have hD : va_D A [(x0, .inr (3, [.ref h0, .ref z0, .int (nI (d + 1)), .int (zI dc)])), (h0, .inr (2, [.ref h1, .int (nI a3), .int (nI lm), .int f, .int pl])), (h1, .inl (cA 0, 2000, .inl bs)), (z0, .inl (cA 2, 1000, .inl (upd els d (zI false))))] := hD.sub [2, 0, 1, 3] (by decide) rfl
        refine W.cs (cells' := 0) (slots' := 0) rfl rfl ?_
        refine W.eq (g2 := F0 m 118 ls []) rfl ?_
        refine lv_goto (tgt := 178) hx hb d_Xr_readExpression_118 (by decide) ?_
        obtain ⟨x2_2, ex2_2⟩ : ∃ y : Int32, y = (nI i) + 1 := ⟨_, rfl⟩
        refine lv_iinc (v := x2_2) (lv' := [(2, .int x2_2), (4, .int (nI c)), (3, .int (nI a1)), (0, .ref x0), (1, .int 1)]) hx hb d_Xr_readExpression_178 hl (k := 4) rfl (by rw [ex2_2]; rfl) (by decide) rfl (fun ls hl => ?_)
        refine lv_goto (tgt := 9) hx hb d_Xr_readExpression_181 (by decide) ?_
        have e9 : x2_2 = nI (i + 1) := by rw [ex2_2]; exact nI_1 i
        subst e9
        exact ih (i + 1) (d + 1) (va_up E d (c == 4)) (upd els d (zI false)) a3 H _ ls (by omega) (by omega) (by omega) (by omega) (by have q := hrel.push false; rw [show (c == 4) = false from by rw [k_3]; rfl]; exact q) (hres.trans (eG_b hn (by omega) hb3)) hP hD hS (lv_sub hl [3, 4, 0] rfl)
      by_cases k_4 : c = 4
      · refine W.eq (g2 := F0 m 39 ls [.int 4]) (by rw [k_4]; rfl) ?_
        refine lv_lookup (off := 57) (tgt := 96) hx hb d_Xr_readExpression_39 (by decide) (by decide) (by decide) ?_
        refine lv_aload_n hx hb d_Xr_readExpression_96 rfl (lv_at hl 2 rfl) ?_
        refine va_get (D := D) (ci := 3) (v := .ref h0) (C := R_Xr) (T := F_Xr) (N := 4) hx hb hts (fun w h => List.mem_cons_of_mem _ (i_Xr w h)) hown hE.1 hP 0 rfl rfl 0 (by decide) (hts _ (List.mem_cons_of_mem _ iw1_123)) (fun _ h9 => h9) rfl d_Xr_readExpression_97 ?_
        refine cV (As := []) (rest := []) (n := 0) (wc := [(h0, .inr (2, [.ref h1, .int (nI (a1 + 1)), .int (nI lm), .int f, .int pl])), (h1, .inl (cA 0, 2000, .inl bs))]) (wr := [(x0, .inr (3, [.ref h0, .ref z0, .int (nI d), .int (zI dc)])), (z0, .inl (cA 2, 1000, .inl els))]) ⟨hx, hb, hml, hown, hts⟩ hno hlocks hl.1 (c_Sr_blockType l hl9 D cA ad H.size h0 h1 bs (a1 + 1) lm f pl hlm (by omega)) iw2_168 iw2_169 iw2_170 iw1_5 iw2_171 (by decide +kernel) rfl ⟨Nat.le_of_ble_eq_true rfl, Nat.le_of_ble_eq_true rfl⟩ ⟨Nat.le_of_ble_eq_true rfl, Nat.le_of_ble_eq_true rfl⟩ rfl (Nat.le_of_ble_eq_true rfl) d_Xr_readExpression_100 hE hP hD hS hA [1, 2] [0, 3] rfl rfl rfl rfl (by decide) (ci := 2) rfl rfl 1 rfl (fun u h => ⟨(u, nI d, els), h.mono (fun f p q => by rw [hres, eG_bT hn (by omega) q]), fun _ h => h.sub [0, 2, 3, 1] rfl, fun h => h.sub [0, 2, 3, 1] (by decide) rfl, Nat.le_refl _, Nat.le_refl _⟩) (fun v_100 u_100 H locs hp_100 hP hD hS => ?_)
        obtain ⟨a3, hb3, rfl, rfl⟩ := hp_100
        have hP : va_P D cls [(x0, .inr (3, [.ref h0, .ref z0, .int (nI d), .int (zI dc)])), (h0, .inr (2, [.ref h1, .int (nI a3), .int (nI lm), .int f, .int pl])), (h1, .inl (cA 0, 2000, .inl bs)), (z0, .inl (cA 2, 1000, .inl els))] H := hP.sub [0, 2, 3, 1] rfl
        have hD : va_D A [(x0, .inr (3, [.ref h0, .ref z0, .int (nI d), .int (zI dc)])), (h0, .inr (2, [.ref h1, .int (nI a3), .int (nI lm), .int f, .int pl])), (h1, .inl (cA 0, 2000, .inl bs)), (z0, .inl (cA 2, 1000, .inl els))] := hD.sub [0, 2, 3, 1] (by decide) rfl
        refine W.cs (cells' := 0) (slots' := 0) rfl rfl ?_
        refine W.eq (g2 := F0 m 103 ls []) rfl ?_
        have ho3 := pBlock_ok (by omega) hb3
        refine lv_aload_n hx hb d_Xr_readExpression_103 rfl (lv_at hl 2 rfl) ?_
        refine lv_iload hx hb d_Xr_readExpression_104 (lv_at hl 0 rfl) ?_
        refine lv_iconst (v := 4) hx hb d_Xr_readExpression_106 (by decide) ?_
        refine lv_icmp_ne (tgt := 114) hx hb d_Xr_readExpression_107 (by decide) (fun c_107 => absurd ((by rw [k_4]; rfl)) c_107) (fun c_107 => ?_)
        refine lv_iconst (v := 1) hx hb d_Xr_readExpression_110 (by decide) ?_
        refine lv_goto (tgt := 115) hx hb d_Xr_readExpression_111 (by decide) ?_
        refine cV (As := [.int 1]) (rest := []) (n := 1) (wc := [(x0, .inr (3, [.ref h0, .ref z0, .int (nI d), .int (zI dc)])), (z0, .inl (cA 2, 1000, .inl els))]) (wr := [(h0, .inr (2, [.ref h1, .int (nI a3), .int (nI lm), .int f, .int pl])), (h1, .inl (cA 0, 2000, .inl bs))]) ⟨hx, hb, hml, hown, hts⟩ hno hlocks hl.1 (c_Xr_openBlock l hl9 D cA ad H.size x0 z0 h0 (zI dc) d els true (by omega)) iw2_176 iw2_178 sel_Xr_openBlock iw1_6 iw2_179 (by decide +kernel) rfl ⟨Nat.le_of_ble_eq_true rfl, Nat.le_of_ble_eq_true rfl⟩ ⟨Nat.le_of_ble_eq_true rfl, Nat.le_of_ble_eq_true rfl⟩ rfl (Nat.le_of_ble_eq_true rfl) d_Xr_readExpression_115 hE hP hD hS hA [0, 3] [1, 2] rfl rfl rfl rfl (by decide) (ci := 3) rfl rfl 0 rfl (fun _ h => h.elim) (fun v_115 u_115 H locs hp_115 hP hD hS => ?_)
        obtain ⟨rfl, rfl⟩ := hp_115
        have hP : va_P D cls [(x0, .inr (3, [.ref h0, .ref z0, .int (nI (d + 1)), .int (zI dc)])), (h0, .inr (2, [.ref h1, .int (nI a3), .int (nI lm), .int f, .int pl])), (h1, .inl (cA 0, 2000, .inl bs)), (z0, .inl (cA 2, 1000, .inl (upd els d (zI true))))] H := hP.sub [2, 0, 1, 3] rfl
        have hD : va_D A [(x0, .inr (3, [.ref h0, .ref z0, .int (nI (d + 1)), .int (zI dc)])), (h0, .inr (2, [.ref h1, .int (nI a3), .int (nI lm), .int f, .int pl])), (h1, .inl (cA 0, 2000, .inl bs)), (z0, .inl (cA 2, 1000, .inl (upd els d (zI true))))] := hD.sub [2, 0, 1, 3] (by decide) rfl
        refine W.cs (cells' := 0) (slots' := 0) rfl rfl ?_
        refine W.eq (g2 := F0 m 118 ls []) rfl ?_
        refine lv_goto (tgt := 178) hx hb d_Xr_readExpression_118 (by decide) ?_
        obtain ⟨x2_3, ex2_3⟩ : ∃ y : Int32, y = (nI i) + 1 := ⟨_, rfl⟩
        refine lv_iinc (v := x2_3) (lv' := [(2, .int x2_3), (4, .int (nI c)), (3, .int (nI a1)), (0, .ref x0), (1, .int 1)]) hx hb d_Xr_readExpression_178 hl (k := 4) rfl (by rw [ex2_3]; rfl) (by decide) rfl (fun ls hl => ?_)
        refine lv_goto (tgt := 9) hx hb d_Xr_readExpression_181 (by decide) ?_
        have e9 : x2_3 = nI (i + 1) := by rw [ex2_3]; exact nI_1 i
        subst e9
        exact ih (i + 1) (d + 1) (va_up E d (c == 4)) (upd els d (zI true)) a3 H _ ls (by omega) (by omega) (by omega) (by omega) (by have q := hrel.push true; rw [show (c == 4) = true from by rw [k_4]; rfl]; exact q) (hres.trans (eG_b hn (by omega) hb3)) hP hD hS (lv_sub hl [3, 4, 0] rfl)
      by_cases k_5 : c = 5
      · refine W.eq (g2 := F0 m 39 ls [.int 5]) (by rw [k_5]; rfl) ?_
        refine lv_lookup (off := 82) (tgt := 121) hx hb d_Xr_readExpression_39 (by decide) (by decide) (by decide) ?_
        refine lv_aload_n hx hb d_Xr_readExpression_121 rfl (lv_at hl 2 rfl) ?_
        refine lv_iload_n hx hb d_Xr_readExpression_122 rfl (lv_at hl 1 rfl) ?_
        refine cV (As := [.int (nI a1)]) (rest := []) (n := 1) (wc := [(x0, .inr (3, [.ref h0, .ref z0, .int (nI d), .int (zI dc)])), (h0, .inr (2, [.ref h1, .int (nI (a1 + 1)), .int (nI lm), .int f, .int pl])), (h1, .inl (cA 0, 2000, .inl bs)), (z0, .inl (cA 2, 1000, .inl els))]) (wr := []) ⟨hx, hb, hml, hown, hts⟩ hno hlocks hl.1 (c_Xr_turnToElse l hl9 D cA ad H.size x0 z0 h0 h1 bs (zI dc) (a1 + 1) lm a1 f pl d els (by omega)) iw2_180 iw2_182 sel_Xr_turnToElse iw1_6 iw2_183 (by decide +kernel) rfl ⟨Nat.le_of_ble_eq_true rfl, Nat.le_of_ble_eq_true rfl⟩ ⟨Nat.le_of_ble_eq_true rfl, Nat.le_of_ble_eq_true rfl⟩ rfl (Nat.le_of_ble_eq_true rfl) d_Xr_readExpression_123 hE hP hD hS hA [0, 1, 2, 3] [] rfl rfl rfl rfl (by decide) (ci := 3) rfl rfl 0 rfl (fun u h => ⟨u, ⟨10, a1, by rw [hres]; exact eG_5F (by rw [← k_5]; exact hn) (fun q => h.1 ⟨q.1, fun z => by rw [hrel _ (by omega), q.2] at z; exact absurd z (by decide)⟩), by rw [h.2] <;> rfl, by rw [h.2]⟩, fun _ h => h, fun h => h, Nat.le_refl _, Nat.le_refl _⟩) (fun v_123 u_123 H locs hp_123 hP hD hS => ?_)
        obtain ⟨hd1, hd2, rfl, rfl⟩ := hp_123
        have hP : va_P D cls [(x0, .inr (3, [.ref h0, .ref z0, .int (nI d), .int (zI dc)])), (h0, .inr (2, [.ref h1, .int (nI (a1 + 1)), .int (nI lm), .int f, .int pl])), (h1, .inl (cA 0, 2000, .inl bs)), (z0, .inl (cA 2, 1000, .inl (upd els (d - 1) 0)))] H := hP
        have hD : va_D A [(x0, .inr (3, [.ref h0, .ref z0, .int (nI d), .int (zI dc)])), (h0, .inr (2, [.ref h1, .int (nI (a1 + 1)), .int (nI lm), .int f, .int pl])), (h1, .inl (cA 0, 2000, .inl bs)), (z0, .inl (cA 2, 1000, .inl (upd els (d - 1) 0)))] := hD
        refine W.cs (cells' := 0) (slots' := 0) rfl rfl ?_
        refine W.eq (g2 := F0 m 126 ls []) rfl ?_
        have hE1 : E (d - 1) = true := by cases hy : E (d - 1) with | true => rfl | false => exact absurd (by rw [hrel _ (by omega), hy]; rfl) hd2
        refine lv_goto (tgt := 178) hx hb d_Xr_readExpression_126 (by decide) ?_
        obtain ⟨x2_4, ex2_4⟩ : ∃ y : Int32, y = (nI i) + 1 := ⟨_, rfl⟩
        refine lv_iinc (v := x2_4) (lv' := [(2, .int x2_4), (4, .int (nI c)), (3, .int (nI a1)), (0, .ref x0), (1, .int 1)]) hx hb d_Xr_readExpression_178 hl (k := 4) rfl (by rw [ex2_4]; rfl) (by decide) rfl (fun ls hl => ?_)
        refine lv_goto (tgt := 9) hx hb d_Xr_readExpression_181 (by decide) ?_
        have e9 : x2_4 = nI (i + 1) := by rw [ex2_4]; exact nI_1 i
        subst e9
        exact ih (i + 1) d (va_up E (d - 1) false) (upd els (d - 1) 0) (a1 + 1) H _ ls (by omega) (by omega) (by omega) (by omega) hrel.set (hres.trans (eG_5 (by rw [← k_5]; exact hn) ⟨hd1, hE1⟩)) hP hD hS (lv_sub hl [3, 4, 0] rfl)
      by_cases k_11 : c = 11
      · refine W.eq (g2 := F0 m 39 ls [.int 11]) (by rw [k_11]; rfl) ?_
        refine lv_lookup (off := 90) (tgt := 129) hx hb d_Xr_readExpression_39 (by decide) (by decide) (by decide) ?_
        refine lv_aload_n hx hb d_Xr_readExpression_129 rfl (lv_at hl 2 rfl) ?_
        refine va_get (D := D) (ci := 3) (v := .int (nI d)) (C := R_Xr) (T := F_Xr) (N := 4) hx hb hts (fun w h => List.mem_cons_of_mem _ (i_Xr w h)) hown hE.1 hP 0 rfl rfl 2 (by decide) (hts _ (List.mem_cons_of_mem _ iw1_125)) (fun _ h9 => h9) rfl d_Xr_readExpression_130 ?_
        refine lv_if_le (tgt := 140) hx hb d_Xr_readExpression_133 (by decide) (fun c_133 => ?_) (fun c_133 => ?_)
        · have hd0 : d = 0 := Nat.eq_zero_of_not_pos (fun q => absurd c_133 (nI_nle q (by omega)))
          refine lv_iconst (v := 0) hx hb d_Xr_readExpression_140 (by decide) ?_
          refine lv_istore_n (lv' := [(1, .int 0), (4, .int (nI c)), (3, .int (nI a1)), (0, .ref x0), (2, .int (nI i))]) hx hb d_Xr_readExpression_141 rfl hl (by decide) rfl (fun ls hl => ?_)
          refine lv_aload_n hx hb d_Xr_readExpression_142 rfl (lv_at hl 3 rfl) ?_
          refine lv_dup hx hb d_Xr_readExpression_143 rfl ?_
          refine va_get (D := D) (ci := 3) (v := .int (nI d)) (C := R_Xr) (T := F_Xr) (N := 4) hx hb hts (fun w h => List.mem_cons_of_mem _ (i_Xr w h)) hown hE.1 hP 0 rfl rfl 2 (by decide) (hts _ (List.mem_cons_of_mem _ iw1_125)) (fun _ h9 => h9) rfl d_Xr_readExpression_144 ?_
          refine lv_iconst (v := 1) hx hb d_Xr_readExpression_147 (by decide) ?_
          refine lv_isub hx hb d_Xr_readExpression_148 ?_
          refine va_put (D := D) (ci := 3) (v := .int ((nI d) - 1)) (ty := .int) (C := R_Xr) (T := F_Xr) (N := 4) hx hb hts (fun w h => List.mem_cons_of_mem _ (i_Xr w h)) t_Xr tk_Xr n_Xr hown hE.1 hP hD hS 0 rfl rfl 2 (by decide) (hts _ (List.mem_cons_of_mem _ iw1_125)) (fun _ h9 => h9) rfl (by decide +kernel) rfl rfl (Nat.le_of_ble_eq_true rfl) d_Xr_readExpression_149 (fun H locs hP hD hS => ?_)
          have hP : va_P D cls [(x0, .inr (3, [.ref h0, .ref z0, .int ((nI d) - 1), .int (zI dc)])), (h0, .inr (2, [.ref h1, .int (nI (a1 + 1)), .int (nI lm), .int f, .int pl])), (h1, .inl (cA 0, 2000, .inl bs)), (z0, .inl (cA 2, 1000, .inl els))] H := hP
          have hD : va_D A [(x0, .inr (3, [.ref h0, .ref z0, .int ((nI d) - 1), .int (zI dc)])), (h0, .inr (2, [.ref h1, .int (nI (a1 + 1)), .int (nI lm), .int f, .int pl])), (h1, .inl (cA 0, 2000, .inl bs)), (z0, .inl (cA 2, 1000, .inl els))] := hD
          refine lv_goto (tgt := 178) hx hb d_Xr_readExpression_152 (by decide) ?_
          obtain ⟨x2_5, ex2_5⟩ : ∃ y : Int32, y = (nI i) + 1 := ⟨_, rfl⟩
          refine lv_iinc (v := x2_5) (lv' := [(2, .int x2_5), (1, .int 0), (4, .int (nI c)), (3, .int (nI a1)), (0, .ref x0)]) hx hb d_Xr_readExpression_178 hl (k := 4) rfl (by rw [ex2_5]; rfl) (by decide) rfl (fun ls hl => ?_)
          refine lv_goto (tgt := 9) hx hb d_Xr_readExpression_181 (by decide) ?_
          refine lv_iload_n hx hb d_Xr_readExpression_9 rfl (lv_at hl 1 rfl) ?_
          refine lv_if_eq (tgt := 184) hx hb d_Xr_readExpression_10 (by decide) (fun c_10 => ?_) (fun c_10 => absurd (by decide) c_10)
          exact cRv (((nI (a1 + 1), nI lm, f, pl), nI d - 1, els) : XU) hx hb hr hlocks d_Xr_readExpression_184 hS hP hD (⟨a1 + 1, hres.trans (eG_e (by rw [← k_11]; exact hn) hd0), rfl, rfl⟩) (Nat.le_refl _) (Nat.le_refl _)
        · have hd1 : ¬ d = 0 := fun q => c_133 (by rw [q]; decide)
          refine lv_iconst (v := 1) hx hb d_Xr_readExpression_136 (by decide) ?_
          refine lv_goto (tgt := 141) hx hb d_Xr_readExpression_137 (by decide) ?_
          refine lv_istore_n (lv' := [(1, .int 1), (4, .int (nI c)), (3, .int (nI a1)), (0, .ref x0), (2, .int (nI i))]) hx hb d_Xr_readExpression_141 rfl hl (by decide) rfl (fun ls hl => ?_)
          refine lv_aload_n hx hb d_Xr_readExpression_142 rfl (lv_at hl 3 rfl) ?_
          refine lv_dup hx hb d_Xr_readExpression_143 rfl ?_
          refine va_get (D := D) (ci := 3) (v := .int (nI d)) (C := R_Xr) (T := F_Xr) (N := 4) hx hb hts (fun w h => List.mem_cons_of_mem _ (i_Xr w h)) hown hE.1 hP 0 rfl rfl 2 (by decide) (hts _ (List.mem_cons_of_mem _ iw1_125)) (fun _ h9 => h9) rfl d_Xr_readExpression_144 ?_
          refine lv_iconst (v := 1) hx hb d_Xr_readExpression_147 (by decide) ?_
          refine lv_isub hx hb d_Xr_readExpression_148 ?_
          rw [show nI d - 1 = nI (d - 1) from pk_sub (b := 1) (by omega)]
          refine va_put (D := D) (ci := 3) (v := .int (nI (d - 1))) (ty := .int) (C := R_Xr) (T := F_Xr) (N := 4) hx hb hts (fun w h => List.mem_cons_of_mem _ (i_Xr w h)) t_Xr tk_Xr n_Xr hown hE.1 hP hD hS 0 rfl rfl 2 (by decide) (hts _ (List.mem_cons_of_mem _ iw1_125)) (fun _ h9 => h9) rfl (by decide +kernel) rfl rfl (Nat.le_of_ble_eq_true rfl) d_Xr_readExpression_149 (fun H locs hP hD hS => ?_)
          have hP : va_P D cls [(x0, .inr (3, [.ref h0, .ref z0, .int (nI (d - 1)), .int (zI dc)])), (h0, .inr (2, [.ref h1, .int (nI (a1 + 1)), .int (nI lm), .int f, .int pl])), (h1, .inl (cA 0, 2000, .inl bs)), (z0, .inl (cA 2, 1000, .inl els))] H := hP
          have hD : va_D A [(x0, .inr (3, [.ref h0, .ref z0, .int (nI (d - 1)), .int (zI dc)])), (h0, .inr (2, [.ref h1, .int (nI (a1 + 1)), .int (nI lm), .int f, .int pl])), (h1, .inl (cA 0, 2000, .inl bs)), (z0, .inl (cA 2, 1000, .inl els))] := hD
          refine lv_goto (tgt := 178) hx hb d_Xr_readExpression_152 (by decide) ?_
          obtain ⟨x2_6, ex2_6⟩ : ∃ y : Int32, y = (nI i) + 1 := ⟨_, rfl⟩
          refine lv_iinc (v := x2_6) (lv' := [(2, .int x2_6), (1, .int 1), (4, .int (nI c)), (3, .int (nI a1)), (0, .ref x0)]) hx hb d_Xr_readExpression_178 hl (k := 4) rfl (by rw [ex2_6]; rfl) (by decide) rfl (fun ls hl => ?_)
          refine lv_goto (tgt := 9) hx hb d_Xr_readExpression_181 (by decide) ?_
          have e9 : x2_6 = nI (i + 1) := by rw [ex2_6]; exact nI_1 i
          subst e9
          exact ih (i + 1) (d - 1) E els (a1 + 1) H _ ls (by omega) (by omega) (by omega) (by omega) hrel.pop (hres.trans (eG_p (by rw [← k_11]; exact hn) hd1)) hP hD hS (lv_sub hl [4, 1, 0] rfl)
      by_cases k_252 : c = 252
      · refine W.eq (g2 := F0 m 39 ls [.int 252]) (by rw [k_252]; rfl) ?_
        refine lv_lookup (off := 116) (tgt := 155) hx hb d_Xr_readExpression_39 (by decide) (by decide) (by decide) ?_
        refine lv_aload_n hx hb d_Xr_readExpression_155 rfl (lv_at hl 2 rfl) ?_
        refine lv_aload_n hx hb d_Xr_readExpression_156 rfl (lv_at hl 2 rfl) ?_
        refine lv_iload_n hx hb d_Xr_readExpression_157 rfl (lv_at hl 1 rfl) ?_
        refine cV (As := [.int (nI a1)]) (rest := [.ref x0]) (n := 1) (wc := [(x0, .inr (3, [.ref h0, .ref z0, .int (nI d), .int (zI dc)])), (h0, .inr (2, [.ref h1, .int (nI (a1 + 1)), .int (nI lm), .int f, .int pl])), (h1, .inl (cA 0, 2000, .inl bs))]) (wr := [(z0, .inl (cA 2, 1000, .inl els))]) ⟨hx, hb, hml, hown, hts⟩ hno hlocks hl.1 (c_Xr_shapeBehind252 l hl9 D cA ad H.size x0 z0 h0 h1 bs (nI d) dc (a1 + 1) lm a1 f pl hlm (by omega)) iw2_185 iw2_187 sel_Xr_shapeBehind252 iw1_6 iw2_188 (by decide +kernel) rfl ⟨Nat.le_of_ble_eq_true rfl, Nat.le_of_ble_eq_true rfl⟩ ⟨Nat.le_of_ble_eq_true rfl, Nat.le_of_ble_eq_true rfl⟩ rfl (Nat.le_of_ble_eq_true rfl) d_Xr_readExpression_158 hE hP hD hS hA [0, 1, 2] [3] rfl rfl rfl rfl (by decide) (ci := 3) rfl rfl 0 rfl (fun u h => ⟨(u, nI d, els), h.mono (fun f p q => by rw [hres, eG_xT (by rw [← k_252]; exact hn) q]), fun _ h => h.sub [1, 2, 3, 0] rfl, fun h => h.sub [1, 2, 3, 0] (by decide) rfl, Nat.le_refl _, Nat.le_refl _⟩) (fun v_158 u_158 H locs hp_158 hP hD hS => ?_)
        obtain ⟨sh, a3, hb3, rfl, rfl⟩ := hp_158
        have hP : va_P D cls [(x0, .inr (3, [.ref h0, .ref z0, .int (nI d), .int (zI dc)])), (h0, .inr (2, [.ref h1, .int (nI a3), .int (nI lm), .int f, .int pl])), (h1, .inl (cA 0, 2000, .inl bs)), (z0, .inl (cA 2, 1000, .inl els))] H := hP.sub [1, 2, 3, 0] rfl
        have hD : va_D A [(x0, .inr (3, [.ref h0, .ref z0, .int (nI d), .int (zI dc)])), (h0, .inr (2, [.ref h1, .int (nI a3), .int (nI lm), .int f, .int pl])), (h1, .inl (cA 0, 2000, .inl bs)), (z0, .inl (cA 2, 1000, .inl els))] := hD.sub [1, 2, 3, 0] (by decide) rfl
        refine W.cs (cells' := 0) (slots' := 0) rfl rfl ?_
        refine W.eq (g2 := F0 m 161 ls [.int (nI sh), .ref x0]) rfl ?_
        have ho3 := pS252_ok (by omega) hb3
        refine lv_iload_n hx hb d_Xr_readExpression_161 rfl (lv_at hl 1 rfl) ?_
        refine cV (As := [.int (nI sh), .int (nI a1)]) (rest := []) (n := 2) (wc := [(x0, .inr (3, [.ref h0, .ref z0, .int (nI d), .int (zI dc)])), (h0, .inr (2, [.ref h1, .int (nI a3), .int (nI lm), .int f, .int pl])), (h1, .inl (cA 0, 2000, .inl bs))]) (wr := [(z0, .inl (cA 2, 1000, .inl els))]) ⟨hx, hb, hml, hown, hts⟩ hno hlocks hl.1 (c_Xr_readOperands l hl9 D cA ad H.size x0 z0 h0 h1 bs (nI d) (zI dc) a3 lm a1 f pl hlm (by omega) sh (by omega)) iw2_194 iw2_196 sel_Xr_readOperands iw1_6 iw2_197 (by decide +kernel) rfl ⟨Nat.le_of_ble_eq_true rfl, Nat.le_of_ble_eq_true rfl⟩ ⟨Nat.le_of_ble_eq_true rfl, Nat.le_of_ble_eq_true rfl⟩ rfl (Nat.le_of_ble_eq_true rfl) d_Xr_readExpression_162 hE hP hD hS hA [0, 1, 2] [3] rfl rfl rfl rfl (by decide) (ci := 3) rfl rfl 0 rfl (fun u h => ⟨(u, nI d, els), h.mono (fun f p q => by rw [hres, eG_xS (by rw [← k_252]; exact hn) hb3 q]), fun _ h => h.sub [1, 2, 3, 0] rfl, fun h => h.sub [1, 2, 3, 0] (by decide) rfl, Nat.le_refl _, Nat.le_refl _⟩) (fun v_162 u_162 H locs hp_162 hP hD hS => ?_)
        obtain ⟨a4, hb4, rfl, rfl⟩ := hp_162
        have hP : va_P D cls [(x0, .inr (3, [.ref h0, .ref z0, .int (nI d), .int (zI dc)])), (h0, .inr (2, [.ref h1, .int (nI a4), .int (nI lm), .int f, .int pl])), (h1, .inl (cA 0, 2000, .inl bs)), (z0, .inl (cA 2, 1000, .inl els))] H := hP.sub [1, 2, 3, 0] rfl
        have hD : va_D A [(x0, .inr (3, [.ref h0, .ref z0, .int (nI d), .int (zI dc)])), (h0, .inr (2, [.ref h1, .int (nI a4), .int (nI lm), .int f, .int pl])), (h1, .inl (cA 0, 2000, .inl bs)), (z0, .inl (cA 2, 1000, .inl els))] := hD.sub [1, 2, 3, 0] (by decide) rfl
        refine W.cs (cells' := 0) (slots' := 0) rfl rfl ?_
        refine W.eq (g2 := F0 m 165 ls []) rfl ?_
        have ho4 := pShape_ok _ (by omega) hb4
        refine lv_goto (tgt := 178) hx hb d_Xr_readExpression_165 (by decide) ?_
        obtain ⟨x2_7, ex2_7⟩ : ∃ y : Int32, y = (nI i) + 1 := ⟨_, rfl⟩
        refine lv_iinc (v := x2_7) (lv' := [(2, .int x2_7), (4, .int (nI c)), (3, .int (nI a1)), (0, .ref x0), (1, .int 1)]) hx hb d_Xr_readExpression_178 hl (k := 4) rfl (by rw [ex2_7]; rfl) (by decide) rfl (fun ls hl => ?_)
        refine lv_goto (tgt := 9) hx hb d_Xr_readExpression_181 (by decide) ?_
        have e9 : x2_7 = nI (i + 1) := by rw [ex2_7]; exact nI_1 i
        subst e9
        exact ih (i + 1) d E els a4 H _ ls (by omega) (by omega) (by omega) (by omega) hrel (hres.trans (eG_x (by rw [← k_252]; exact hn) hb3 hb4)) hP hD hS (lv_sub hl [3, 4, 0] rfl)
      refine lv_lookup (off := 129) (tgt := 168) hx hb d_Xr_readExpression_39 (by decide) (by rw [lv_osw (k := 2) (fun q => k_2 (nI_lit_eq (by omega) (by omega) q)) (by decide), lv_osw (k := 3) (fun q => k_3 (nI_lit_eq (by omega) (by omega) q)) (by decide), lv_osw (k := 4) (fun q => k_4 (nI_lit_eq (by omega) (by omega) q)) (by decide), lv_osw (k := 5) (fun q => k_5 (nI_lit_eq (by omega) (by omega) q)) (by decide), lv_osw (k := 11) (fun q => k_11 (nI_lit_eq (by omega) (by omega) q)) (by decide), lv_osw (k := 252) (fun q => k_252 (nI_lit_eq (by omega) (by omega) q)) (by decide)]; rfl) (by decide) ?_
      refine lv_aload_n hx hb d_Xr_readExpression_168 rfl (lv_at hl 2 rfl) ?_
      refine lv_iload hx hb d_Xr_readExpression_169 (lv_at hl 0 rfl) ?_
      refine cS0 (As := [.int (nI c)]) (rest := [.ref x0]) (n := 1) (r := (nI (shOf c))) ⟨hx, hb, hml, hown, hts⟩ hno hlocks hl.1 (c_Xr_shapeOf l D cA ad H.size c hB) iw2_204 iw2_205 iw1_6 iw2_206 (by decide +kernel) rfl ⟨Nat.le_of_ble_eq_true rfl, Nat.le_of_ble_eq_true rfl⟩ ⟨Nat.le_of_ble_eq_true rfl, Nat.le_of_ble_eq_true rfl⟩ rfl (Nat.le_of_ble_eq_true rfl) d_Xr_readExpression_171 hE hP hD hS hA [0, 1, 2, 3] rfl rfl (fun H locs hP hD hS => ?_)
      have hsl := shOf_le c
      refine lv_iload_n hx hb d_Xr_readExpression_174 rfl (lv_at hl 1 rfl) ?_
      refine cV (As := [.int (nI (shOf c)), .int (nI a1)]) (rest := []) (n := 2) (wc := [(x0, .inr (3, [.ref h0, .ref z0, .int (nI d), .int (zI dc)])), (h0, .inr (2, [.ref h1, .int (nI (a1 + 1)), .int (nI lm), .int f, .int pl])), (h1, .inl (cA 0, 2000, .inl bs))]) (wr := [(z0, .inl (cA 2, 1000, .inl els))]) ⟨hx, hb, hml, hown, hts⟩ hno hlocks hl.1 (c_Xr_readOperands l hl9 D cA ad H.size x0 z0 h0 h1 bs (nI d) (zI dc) (a1 + 1) lm a1 f pl hlm (by omega) (shOf c) (by omega)) iw2_194 iw2_196 sel_Xr_readOperands iw1_6 iw2_197 (by decide +kernel) rfl ⟨Nat.le_of_ble_eq_true rfl, Nat.le_of_ble_eq_true rfl⟩ ⟨Nat.le_of_ble_eq_true rfl, Nat.le_of_ble_eq_true rfl⟩ rfl (Nat.le_of_ble_eq_true rfl) d_Xr_readExpression_175 hE hP hD hS hA [0, 1, 2] [3] rfl rfl rfl rfl (by decide) (ci := 3) rfl rfl 0 rfl (fun u h => ⟨(u, nI d, els), h.mono (fun f p q => by rw [hres, eG_dT hn (by omega) (by omega) (by omega) (by omega) q]), fun _ h => h.sub [1, 2, 3, 0] rfl, fun h => h.sub [1, 2, 3, 0] (by decide) rfl, Nat.le_refl _, Nat.le_refl _⟩) (fun v_175 u_175 H locs hp_175 hP hD hS => ?_)
      obtain ⟨a4, hb4, rfl, rfl⟩ := hp_175
      have hP : va_P D cls [(x0, .inr (3, [.ref h0, .ref z0, .int (nI d), .int (zI dc)])), (h0, .inr (2, [.ref h1, .int (nI a4), .int (nI lm), .int f, .int pl])), (h1, .inl (cA 0, 2000, .inl bs)), (z0, .inl (cA 2, 1000, .inl els))] H := hP.sub [1, 2, 3, 0] rfl
      have hD : va_D A [(x0, .inr (3, [.ref h0, .ref z0, .int (nI d), .int (zI dc)])), (h0, .inr (2, [.ref h1, .int (nI a4), .int (nI lm), .int f, .int pl])), (h1, .inl (cA 0, 2000, .inl bs)), (z0, .inl (cA 2, 1000, .inl els))] := hD.sub [1, 2, 3, 0] (by decide) rfl
      refine W.cs (cells' := 0) (slots' := 0) rfl rfl ?_
      refine W.eq (g2 := F0 m 178 ls []) rfl ?_
      have ho4 := pShape_ok _ (by omega) hb4
      obtain ⟨x2_8, ex2_8⟩ : ∃ y : Int32, y = (nI i) + 1 := ⟨_, rfl⟩
      refine lv_iinc (v := x2_8) (lv' := [(2, .int x2_8), (4, .int (nI c)), (3, .int (nI a1)), (0, .ref x0), (1, .int 1)]) hx hb d_Xr_readExpression_178 hl (k := 4) rfl (by rw [ex2_8]; rfl) (by decide) rfl (fun ls hl => ?_)
      refine lv_goto (tgt := 9) hx hb d_Xr_readExpression_181 (by decide) ?_
      have e9 : x2_8 = nI (i + 1) := by rw [ex2_8]; exact nI_1 i
      subst e9
      exact ih (i + 1) d E els a4 H _ ls (by omega) (by omega) (by omega) (by omega) hrel (hres.trans (eG_d hn (by omega) (by omega) (by omega) (by omega) hb4)) hP hD hS (lv_sub hl [3, 4, 0] rfl)
  exact key 2000 0 0 (fun _ => false) els0 a H _ ls (by omega) (by omega) (by omega) hal (fun j hj => absurd hj (by omega)) rfl hP hD hS (lv_sub hl [2, 1, 0] rfl)
