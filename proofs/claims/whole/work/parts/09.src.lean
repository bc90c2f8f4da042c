set_option maxHeartbeats 4000000 in
set_option maxRecDepth 100000 in
/-- fail(x, y): it throws; the fault and its place are kept -/
theorem c_Sr_fail (l : Launch) (hl9 : l.stackTraces = false) (D : va_G) (cA : Nat → ClassId) (ad : Nat → Nat) (sz : Nat) (h0 h1 : Nat) (bs : Nat → Int32) (at_ lm f pl x y : Int32) :
    cM l y_Sr_fail (.code y_Sr_fail b_Sr_fail 3 none :: wAll) ({ frames := 6, cells := 1, slots := 6, locals := 82 }) D cA ad [.ref h0, .int x, .int y] (wSr cA h0 h1 bs (at_, lm, f, pl)) sz (fun _ _ => False) (fun u => u = (at_, lm, x, y)) (wSr cA h0 h1 bs) (fun _ => (0, 0)) := by
  refine cM.ofW (cc := b_Sr_fail) (maxL := 3) (ret := none) (by decide) (Nat.le_of_ble_eq_true rfl) ?_
  intro pg ev s m bw meth c A ls hF hsz hA hE hP hD hl
  obtain ⟨⟨hx, hb, hml, hown, hts⟩, hr, hno, hlocks, hin⟩ := hF
  subst hsz
  have hown : s.vm.findClass "ModuleBytes$Source" = some m.cls := hown
  have hS : va_S A s.heap s.heap [] := va_S.rf
  have hl : lv_has ls 3 [(0, .ref h0), (1, .int x), (2, .int y)] := hl
  refine lv_aload_n hx hb d_Sr_fail_0 rfl (lv_at hl 0 rfl) ?_
  refine lv_iload_n hx hb d_Sr_fail_1 rfl (lv_at hl 1 rfl) ?_
  refine va_put (D := D) (ci := 2) (v := .int x) (ty := .int) (C := R_Sr) (T := F_Sr) (N := 5) hx hb hts (fun w h => List.mem_cons_of_mem _ (i_Sr w h)) t_Sr tk_Sr n_Sr hown hE.1 hP hD hS 0 rfl rfl 3 (by decide) (hts _ (List.mem_cons_of_mem _ iw1_102)) (fun _ h9 => h9) rfl (by decide +kernel) rfl rfl (Nat.le_of_ble_eq_true rfl) d_Sr_fail_2 (fun H locs hP hD hS => ?_)
  have hP : va_P D cls [(h0, .inr (2, [.ref h1, .int at_, .int lm, .int x, .int pl])), (h1, .inl (cA 0, 2000, .inl bs))] H := hP
  have hD : va_D A [(h0, .inr (2, [.ref h1, .int at_, .int lm, .int x, .int pl])), (h1, .inl (cA 0, 2000, .inl bs))] := hD
  refine lv_aload_n hx hb d_Sr_fail_5 rfl (lv_at hl 0 rfl) ?_
  refine lv_iload_n hx hb d_Sr_fail_6 rfl (lv_at hl 2 rfl) ?_
  refine va_put (D := D) (ci := 2) (v := .int y) (ty := .int) (C := R_Sr) (T := F_Sr) (N := 5) hx hb hts (fun w h => List.mem_cons_of_mem _ (i_Sr w h)) t_Sr tk_Sr n_Sr hown hE.1 hP hD hS 0 rfl rfl 4 (by decide) (hts _ (List.mem_cons_of_mem _ iw1_104)) (fun _ h9 => h9) rfl (by decide +kernel) rfl rfl (Nat.le_of_ble_eq_true rfl) d_Sr_fail_7 (fun H locs hP hD hS => ?_)
  have hP : va_P D cls [(h0, .inr (2, [.ref h1, .int at_, .int lm, .int x, .int y])), (h1, .inl (cA 0, 2000, .inl bs))] H := hP
  have hD : va_D A [(h0, .inr (2, [.ref h1, .int at_, .int lm, .int x, .int y])), (h1, .inl (cA 0, 2000, .inl bs))] := hD
  exact cT (at_, lm, x, y) hl9 ⟨hx, hb, hml, hown, hts⟩ hno hlocks hE hE.2.1.2.1 hl.1 d_Sr_fail_10 d_Sr_fail_13 d_Sr_fail_14 d_Sr_fail_16 d_Sr_fail_19 (by decide) (Nat.le_of_ble_eq_true rfl) (Nat.le_of_ble_eq_true rfl) (Nat.le_of_ble_eq_true rfl) hS hP hD (rfl) (Nat.le_refl _) (Nat.le_refl _)
set_option maxHeartbeats 4000000 in
set_option maxRecDepth 100000 in
/-- next(): a byte, or fault 1 -/
theorem c_Sr_next (l : Launch) (hl9 : l.stackTraces = false) (D : va_G) (cA : Nat → ClassId) (ad : Nat → Nat) (sz : Nat) (h0 h1 : Nat) (bs : Nat → Int32) (a lm : Nat) (f pl : Int32) (hlm : lm ≤ 2000) (hal : a ≤ lm) :
    cM l y_Sr_next (.code y_Sr_next b_Sr_next 2 (some .int) :: wAll) ({ frames := 6, cells := 1, slots := 6, locals := 82 }) D cA ad [.ref h0] (wSr cA h0 h1 bs (nI a, nI lm, f, pl)) sz (iP (pNext (bv bs) lm a) lm f pl) (tP (pNext (bv bs) lm a)) (wSr cA h0 h1 bs) (fun _ => (0, 0)) := by
  refine cM.ofW (cc := b_Sr_next) (maxL := 2) (ret := (some .int)) (by decide) (Nat.le_of_ble_eq_true rfl) ?_
  intro pg ev s m bw meth c A ls hF hsz hA hE hP hD hl
  obtain ⟨⟨hx, hb, hml, hown, hts⟩, hr, hno, hlocks, hin⟩ := hF
  subst hsz
  have hown : s.vm.findClass "ModuleBytes$Source" = some m.cls := hown
  have hS : va_S A s.heap s.heap [] := va_S.rf
  have hl : lv_has ls 2 [(0, .ref h0)] := hl
  refine lv_aload_n hx hb d_Sr_next_0 rfl (lv_at hl 0 rfl) ?_
  refine va_get (D := D) (ci := 2) (v := .int (nI a)) (C := R_Sr) (T := F_Sr) (N := 5) hx hb hts (fun w h => List.mem_cons_of_mem _ (i_Sr w h)) hown hE.1 hP 0 rfl rfl 1 (by decide) (hts _ (List.mem_cons_of_mem _ iw1_97)) (fun _ h9 => h9) rfl d_Sr_next_1 ?_
  refine lv_aload_n hx hb d_Sr_next_4 rfl (lv_at hl 0 rfl) ?_
  refine va_get (D := D) (ci := 2) (v := .int (nI lm)) (C := R_Sr) (T := F_Sr) (N := 5) hx hb hts (fun w h => List.mem_cons_of_mem _ (i_Sr w h)) hown hE.1 hP 0 rfl rfl 2 (by decide) (hts _ (List.mem_cons_of_mem _ iw1_100)) (fun _ h9 => h9) rfl d_Sr_next_5 ?_
  refine lv_icmp_lt (tgt := 34) hx hb d_Sr_next_8 (by decide) (fun c_8 => ?_) (fun c_8 => ?_)
  · have hh : a < lm := (nI_ltI (by omega) (by omega)).mp c_8
    refine lv_aload_n hx hb d_Sr_next_34 rfl (lv_at hl 0 rfl) ?_
    refine va_get (D := D) (ci := 2) (v := .ref h1) (C := R_Sr) (T := F_Sr) (N := 5) hx hb hts (fun w h => List.mem_cons_of_mem _ (i_Sr w h)) hown hE.1 hP 0 rfl rfl 0 (by decide) (hts _ (List.mem_cons_of_mem _ iw1_96)) (fun _ h9 => h9) rfl d_Sr_next_35 ?_
    refine lv_aload_n hx hb d_Sr_next_38 rfl (lv_at hl 0 rfl) ?_
    refine va_get (D := D) (ci := 2) (v := .int (nI a)) (C := R_Sr) (T := F_Sr) (N := 5) hx hb hts (fun w h => List.mem_cons_of_mem _ (i_Sr w h)) hown hE.1 hP 0 rfl rfl 1 (by decide) (hts _ (List.mem_cons_of_mem _ iw1_97)) (fun _ h9 => h9) rfl d_Sr_next_39 ?_
    refine va_bald hx hb hE.1 hP 1 0 rfl rfl (vp_in_nI (by omega) (by omega)) d_Sr_next_42 ?_
    rw [nI_clamp (n := a) (by omega)]
    refine lv_sipush (v := 255) hx hb d_Sr_next_43 (by decide) ?_
    refine lv_iand hx hb d_Sr_next_46 ?_
    refine lv_topi (fun x ex => ?_)
    refine lv_istore_n (lv' := [(1, .int x), (0, .ref h0)]) hx hb d_Sr_next_47 rfl hl (by decide) rfl (fun ls hl => ?_)
    refine lv_aload_n hx hb d_Sr_next_48 rfl (lv_at hl 1 rfl) ?_
    refine lv_dup hx hb d_Sr_next_49 rfl ?_
    refine va_get (D := D) (ci := 2) (v := .int (nI a)) (C := R_Sr) (T := F_Sr) (N := 5) hx hb hts (fun w h => List.mem_cons_of_mem _ (i_Sr w h)) hown hE.1 hP 0 rfl rfl 1 (by decide) (hts _ (List.mem_cons_of_mem _ iw1_97)) (fun _ h9 => h9) rfl d_Sr_next_50 ?_
    refine lv_iconst (v := 1) hx hb d_Sr_next_53 (by decide) ?_
    refine lv_iadd hx hb d_Sr_next_54 ?_
    refine va_put (D := D) (ci := 2) (v := .int ((nI a) + 1)) (ty := .int) (C := R_Sr) (T := F_Sr) (N := 5) hx hb hts (fun w h => List.mem_cons_of_mem _ (i_Sr w h)) t_Sr tk_Sr n_Sr hown hE.1 hP hD hS 0 rfl rfl 1 (by decide) (hts _ (List.mem_cons_of_mem _ iw1_97)) (fun _ h9 => h9) rfl (by decide +kernel) rfl rfl (Nat.le_of_ble_eq_true rfl) d_Sr_next_55 (fun H locs hP hD hS => ?_)
    have hP : va_P D cls [(h0, .inr (2, [.ref h1, .int ((nI a) + 1), .int (nI lm), .int f, .int pl])), (h1, .inl (cA 0, 2000, .inl bs))] H := hP
    have hD : va_D A [(h0, .inr (2, [.ref h1, .int ((nI a) + 1), .int (nI lm), .int f, .int pl])), (h1, .inl (cA 0, 2000, .inl bs))] := hD
    refine lv_iload_n hx hb d_Sr_next_58 rfl (lv_at hl 0 rfl) ?_
    rw [nI_1] at hP hD
    exact cRi (nI (a + 1), nI lm, f, pl) hx hb hr hlocks d_Sr_next_59 hS hP hD (⟨bv bs a, a + 1, by rw [pNext, if_pos hh], by rw [ex, bv_and], rfl⟩) (Nat.le_refl _) (Nat.le_refl _)
  · refine lv_aload_n hx hb d_Sr_next_11 rfl (lv_at hl 0 rfl) ?_
    refine lv_iconst (v := 1) hx hb d_Sr_next_12 (by decide) ?_
    refine va_put (D := D) (ci := 2) (v := .int 1) (ty := .int) (C := R_Sr) (T := F_Sr) (N := 5) hx hb hts (fun w h => List.mem_cons_of_mem _ (i_Sr w h)) t_Sr tk_Sr n_Sr hown hE.1 hP hD hS 0 rfl rfl 3 (by decide) (hts _ (List.mem_cons_of_mem _ iw1_102)) (fun _ h9 => h9) rfl (by decide +kernel) rfl rfl (Nat.le_of_ble_eq_true rfl) d_Sr_next_13 (fun H locs hP hD hS => ?_)
    have hP : va_P D cls [(h0, .inr (2, [.ref h1, .int (nI a), .int (nI lm), .int 1, .int pl])), (h1, .inl (cA 0, 2000, .inl bs))] H := hP
    have hD : va_D A [(h0, .inr (2, [.ref h1, .int (nI a), .int (nI lm), .int 1, .int pl])), (h1, .inl (cA 0, 2000, .inl bs))] := hD
    refine lv_aload_n hx hb d_Sr_next_16 rfl (lv_at hl 0 rfl) ?_
    refine lv_aload_n hx hb d_Sr_next_17 rfl (lv_at hl 0 rfl) ?_
    refine va_get (D := D) (ci := 2) (v := .int (nI lm)) (C := R_Sr) (T := F_Sr) (N := 5) hx hb hts (fun w h => List.mem_cons_of_mem _ (i_Sr w h)) hown hE.1 hP 0 rfl rfl 2 (by decide) (hts _ (List.mem_cons_of_mem _ iw1_100)) (fun _ h9 => h9) rfl d_Sr_next_18 ?_
    refine va_put (D := D) (ci := 2) (v := .int (nI lm)) (ty := .int) (C := R_Sr) (T := F_Sr) (N := 5) hx hb hts (fun w h => List.mem_cons_of_mem _ (i_Sr w h)) t_Sr tk_Sr n_Sr hown hE.1 hP hD hS 0 rfl rfl 4 (by decide) (hts _ (List.mem_cons_of_mem _ iw1_104)) (fun _ h9 => h9) rfl (by decide +kernel) rfl rfl (Nat.le_of_ble_eq_true rfl) d_Sr_next_21 (fun H locs hP hD hS => ?_)
    have hP : va_P D cls [(h0, .inr (2, [.ref h1, .int (nI a), .int (nI lm), .int 1, .int (nI lm)])), (h1, .inl (cA 0, 2000, .inl bs))] H := hP
    have hD : va_D A [(h0, .inr (2, [.ref h1, .int (nI a), .int (nI lm), .int 1, .int (nI lm)])), (h1, .inl (cA 0, 2000, .inl bs))] := hD
    have hh : ¬ a < lm := fun q => c_8 (nI_lt q (by omega))
    exact cT (nI a, nI lm, 1, nI lm) hl9 ⟨hx, hb, hml, hown, hts⟩ hno hlocks hE hE.2.1.1 hl.1 d_Sr_next_24 d_Sr_next_27 d_Sr_next_28 d_Sr_next_30 d_Sr_next_33 (by decide) (Nat.le_of_ble_eq_true rfl) (Nat.le_of_ble_eq_true rfl) (Nat.le_of_ble_eq_true rfl) hS hP hD (⟨1, lm, by rw [pNext, if_neg hh], rfl, rfl⟩) (Nat.le_refl _) (Nat.le_refl _)
set_option maxHeartbeats 4000000 in
set_option maxRecDepth 100000 in
/-- u32() -/
theorem c_Sr_u32 (l : Launch) (hl9 : l.stackTraces = false) (D : va_G) (cA : Nat → ClassId) (ad : Nat → Nat) (sz : Nat) (h0 h1 : Nat) (bs : Nat → Int32) (a lm : Nat) (f pl : Int32) (hlm : lm ≤ 2000) (hal : a ≤ lm) :
    cM l y_Sr_u32 (.code y_Sr_u32 b_Sr_u32 5 (some .long) :: wAll) ({ frames := 7, cells := 1, slots := 6, locals := 104 }) D cA ad [.ref h0] (wSr cA h0 h1 bs (nI a, nI lm, f, pl)) sz (lP (pU32 (bv bs) lm a) lm f pl) (tP (pU32 (bv bs) lm a)) (wSr cA h0 h1 bs) (fun _ => (0, 0)) := by
  refine cM.ofW (cc := b_Sr_u32) (maxL := 5) (ret := (some .long)) (by decide) (Nat.le_of_ble_eq_true rfl) ?_
  intro pg ev s m bw meth c A ls hF hsz hA hE hP hD hl
  obtain ⟨⟨hx, hb, hml, hown, hts⟩, hr, hno, hlocks, hin⟩ := hF
  subst hsz
  have hown : s.vm.findClass "ModuleBytes$Source" = some m.cls := hown
  have hS : va_S A s.heap s.heap [] := va_S.rf
  have hl : lv_has ls 5 [(0, .ref h0)] := hl
  have hU0 : pU32 (bv bs) lm a = pUg (bv bs) lm 5 0 a 0 := rfl
  refine lv_lconst (v := 0) hx hb d_Sr_u32_0 (by decide) ?_
  refine lv_lstore_n (lv' := [(1, .long 0), (0, .ref h0)]) hx hb d_Sr_u32_1 rfl hl (by decide) rfl (fun ls hl => ?_)
  refine lv_iconst (v := 0) hx hb d_Sr_u32_2 (by decide) ?_
  refine lv_istore_n (lv' := [(3, .int 0), (1, .long 0), (0, .ref h0)]) hx hb d_Sr_u32_3 rfl hl (by decide) rfl (fun ls hl => ?_)
  refine lv_iload_n hx hb d_Sr_u32_4 rfl (lv_at hl 0 rfl) ?_
  refine lv_bipush (v := 28) hx hb d_Sr_u32_5 (by decide) ?_
  refine lv_icmp_gt (tgt := 68) hx hb d_Sr_u32_7 (by decide) (fun c_7 => absurd c_7 (by decide)) (fun c_7 => ?_)
  refine lv_aload_n hx hb d_Sr_u32_10 rfl (lv_at hl 2 rfl) ?_
  refine cV (As := []) (rest := []) (n := 0) (wc := [(h0, .inr (2, [.ref h1, .int (nI a), .int (nI lm), .int f, .int pl])), (h1, .inl (cA 0, 2000, .inl bs))]) (wr := []) ⟨hx, hb, hml, hown, hts⟩ hno hlocks hl.1 (c_Sr_next l hl9 D cA ad s.heap.size h0 h1 bs a lm f pl hlm (by omega)) iw2_54 iw1_207 iw1_208 iw1_5 iw1_209 (by decide +kernel) rfl ⟨Nat.le_of_ble_eq_true rfl, Nat.le_of_ble_eq_true rfl⟩ ⟨Nat.le_of_ble_eq_true rfl, Nat.le_of_ble_eq_true rfl⟩ rfl (Nat.le_of_ble_eq_true rfl) d_Sr_u32_11 hE hP hD hS hA [0, 1] [] rfl rfl rfl rfl (by decide) (ci := 2) rfl rfl 0 rfl (fun u h => ⟨u, h.mono (fun f p q => by rw [hU0, pUg_T q]), fun _ h => h, fun h => h, Nat.le_refl _, Nat.le_refl _⟩) (fun v_11 u_11 H locs hp_11 hP hD hS => ?_)
  obtain ⟨g0, a1, hn0, rfl, rfl⟩ := hp_11
  have hP : va_P D cls [(h0, .inr (2, [.ref h1, .int (nI a1), .int (nI lm), .int f, .int pl])), (h1, .inl (cA 0, 2000, .inl bs))] H := hP
  have hD : va_D A [(h0, .inr (2, [.ref h1, .int (nI a1), .int (nI lm), .int f, .int pl])), (h1, .inl (cA 0, 2000, .inl bs))] := hD
  refine W.cs (cells' := 0) (slots' := 0) rfl rfl ?_
  refine W.eq (g2 := F0 m 14 ls [.int (nI g0)]) rfl ?_
  obtain ⟨hq0, rfl, hg0⟩ := pNext_ok hn0
  have hb0 : g0 < 256 := by rw [hg0]; exact bv_lt _ _
  have hP : va_P D cls [(h0, .inr (2, [.ref h1, .int (nI (a + 1)), .int (nI lm), .int f, .int pl])), (h1, .inl (cA 0, 2000, .inl bs))] H := hP
  have hD : va_D A [(h0, .inr (2, [.ref h1, .int (nI (a + 1)), .int (nI lm), .int f, .int pl])), (h1, .inl (cA 0, 2000, .inl bs))] := hD
  refine lv_istore (lv' := [(4, .int (nI g0)), (3, .int 0), (1, .long 0), (0, .ref h0)]) hx hb d_Sr_u32_14 hl (by decide) rfl (fun ls hl => ?_)
  refine lv_iload_n hx hb d_Sr_u32_16 rfl (lv_at hl 1 rfl) ?_
  refine lv_bipush (v := 28) hx hb d_Sr_u32_17 (by decide) ?_
  refine lv_icmp_ne (tgt := 40) hx hb d_Sr_u32_19 (by decide) (fun c_19 => ?_) (fun c_19 => absurd c_19 (by decide))
  have ho0 : ¬ (4 = 0 ∧ 15 < g0) := fun q => absurd q.1 (by decide)
  refine lv_lload_n hx hb d_Sr_u32_40 rfl (lv_at hl 2 rfl) ?_
  refine lv_iload hx hb d_Sr_u32_41 (lv_at hl 0 rfl) ?_
  refine lv_bipush (v := 127) hx hb d_Sr_u32_43 (by decide) ?_
  refine lv_iand hx hb d_Sr_u32_45 ?_
  refine lv_i2l hx hb d_Sr_u32_46 rfl ?_
  refine lv_iload_n hx hb d_Sr_u32_47 rfl (lv_at hl 1 rfl) ?_
  refine lv_lshl hx hb d_Sr_u32_48 rfl ?_
  refine lv_lor hx hb d_Sr_u32_49 ?_
  refine lv_topl (fun y0 ey0 => ?_)
  have hy0 : y0 = lN (0 + g0 % 128 * 2 ^ 0) := ey0.trans (u_step 0 (by decide) (by decide) (v := 0) (by decide) hb0)
  have hW0 : 0 + g0 % 128 * 2 ^ 0 < 2 ^ 7 := u_bd (k := 0) (by decide)
  have hE0 := @pUg_E (bv bs) lm 4 0 a 0 _ _ hn0 ho0
  have hC0 := @pUg_C (bv bs) lm 4 0 a 0 _ _ hn0 ho0
  rw [← hU0] at hE0 hC0
  generalize 0 + g0 % 128 * 2 ^ 0 = V1 at hy0 hW0 hE0 hC0
  subst hy0
  refine lv_lstore_n (lv' := [(1, .long (lN V1)), (4, .int (nI g0)), (3, .int 0), (0, .ref h0)]) hx hb d_Sr_u32_50 rfl hl (by decide) rfl (fun ls hl => ?_)
  refine lv_iload hx hb d_Sr_u32_51 (lv_at hl 1 rfl) ?_
  refine lv_sipush (v := 128) hx hb d_Sr_u32_53 (by decide) ?_
  refine lv_icmp_ge (tgt := 62) hx hb d_Sr_u32_56 (by decide) (fun c_56 => ?_) (fun c_56 => ?_)
  · have hd0 : ¬ g0 < 128 := fun q => absurd ((nI_leI (a := 128) (b := g0) (by omega) (by omega)).mp c_56) (by omega)
    have hV1 := hW0
    have hU1 := hC0 hd0
    refine lv_iinc (v := 7) (lv' := [(3, .int 7), (1, .long (lN V1)), (4, .int (nI g0)), (0, .ref h0)]) hx hb d_Sr_u32_62 hl (k := 2) rfl (by decide) (by decide) rfl (fun ls hl => ?_)
    refine lv_goto (tgt := 4) hx hb d_Sr_u32_65 (by decide) ?_
    refine lv_iload_n hx hb d_Sr_u32_4 rfl (lv_at hl 0 rfl) ?_
    refine lv_bipush (v := 28) hx hb d_Sr_u32_5 (by decide) ?_
    refine lv_icmp_gt (tgt := 68) hx hb d_Sr_u32_7 (by decide) (fun c_7 => absurd c_7 (by decide)) (fun c_7 => ?_)
    refine lv_aload_n hx hb d_Sr_u32_10 rfl (lv_at hl 3 rfl) ?_
    refine cV (As := []) (rest := []) (n := 0) (wc := [(h0, .inr (2, [.ref h1, .int (nI (a + 1)), .int (nI lm), .int f, .int pl])), (h1, .inl (cA 0, 2000, .inl bs))]) (wr := []) ⟨hx, hb, hml, hown, hts⟩ hno hlocks hl.1 (c_Sr_next l hl9 D cA ad H.size h0 h1 bs (a + 1) lm f pl hlm (by omega)) iw2_54 iw1_207 iw1_208 iw1_5 iw1_209 (by decide +kernel) rfl ⟨Nat.le_of_ble_eq_true rfl, Nat.le_of_ble_eq_true rfl⟩ ⟨Nat.le_of_ble_eq_true rfl, Nat.le_of_ble_eq_true rfl⟩ rfl (Nat.le_of_ble_eq_true rfl) d_Sr_u32_11 hE hP hD hS hA [0, 1] [] rfl rfl rfl rfl (by decide) (ci := 2) rfl rfl 0 rfl (fun u h => ⟨u, h.mono (fun f p q => by rw [hU1, pUg_T q]), fun _ h => h, fun h => h, Nat.le_refl _, Nat.le_refl _⟩) (fun v_11 u_11 H locs hp_11 hP hD hS => ?_)
    obtain ⟨g1, a2, hn1, rfl, rfl⟩ := hp_11
    have hP : va_P D cls [(h0, .inr (2, [.ref h1, .int (nI a2), .int (nI lm), .int f, .int pl])), (h1, .inl (cA 0, 2000, .inl bs))] H := hP
    have hD : va_D A [(h0, .inr (2, [.ref h1, .int (nI a2), .int (nI lm), .int f, .int pl])), (h1, .inl (cA 0, 2000, .inl bs))] := hD
    refine W.cs (cells' := 0) (slots' := 0) rfl rfl ?_
    refine W.eq (g2 := F0 m 14 ls [.int (nI g1)]) rfl ?_
    obtain ⟨hq1, rfl, hg1⟩ := pNext_ok hn1
    have hb1 : g1 < 256 := by rw [hg1]; exact bv_lt _ _
    have hP : va_P D cls [(h0, .inr (2, [.ref h1, .int (nI ((a + 1) + 1)), .int (nI lm), .int f, .int pl])), (h1, .inl (cA 0, 2000, .inl bs))] H := hP
    have hD : va_D A [(h0, .inr (2, [.ref h1, .int (nI ((a + 1) + 1)), .int (nI lm), .int f, .int pl])), (h1, .inl (cA 0, 2000, .inl bs))] := hD
    refine lv_istore (lv' := [(4, .int (nI g1)), (3, .int 7), (1, .long (lN V1)), (0, .ref h0)]) hx hb d_Sr_u32_14 hl (by decide) rfl (fun ls hl => ?_)
    refine lv_iload_n hx hb d_Sr_u32_16 rfl (lv_at hl 1 rfl) ?_
    refine lv_bipush (v := 28) hx hb d_Sr_u32_17 (by decide) ?_
    refine lv_icmp_ne (tgt := 40) hx hb d_Sr_u32_19 (by decide) (fun c_19 => ?_) (fun c_19 => absurd c_19 (by decide))
    have ho1 : ¬ (3 = 0 ∧ 15 < g1) := fun q => absurd q.1 (by decide)
    refine lv_lload_n hx hb d_Sr_u32_40 rfl (lv_at hl 2 rfl) ?_
    refine lv_iload hx hb d_Sr_u32_41 (lv_at hl 0 rfl) ?_
    refine lv_bipush (v := 127) hx hb d_Sr_u32_43 (by decide) ?_
    refine lv_iand hx hb d_Sr_u32_45 ?_
    refine lv_i2l hx hb d_Sr_u32_46 rfl ?_
    refine lv_iload_n hx hb d_Sr_u32_47 rfl (lv_at hl 1 rfl) ?_
    refine lv_lshl hx hb d_Sr_u32_48 rfl ?_
    refine lv_lor hx hb d_Sr_u32_49 ?_
    refine lv_topl (fun y1 ey1 => ?_)
    have hy1 : y1 = lN (V1 + g1 % 128 * 2 ^ 7) := ey1.trans (u_step 7 (by decide) (by decide) (v := V1) hV1 hb1)
    have hW1 : V1 + g1 % 128 * 2 ^ 7 < 2 ^ 14 := u_bd (k := 7) hV1
    have hE1 := @pUg_E (bv bs) lm 3 7 (a + 1) V1 _ _ hn1 ho1
    have hC1 := @pUg_C (bv bs) lm 3 7 (a + 1) V1 _ _ hn1 ho1
    rw [← hU1] at hE1 hC1
    generalize V1 + g1 % 128 * 2 ^ 7 = V2 at hy1 hW1 hE1 hC1
    subst hy1
    refine lv_lstore_n (lv' := [(1, .long (lN V2)), (4, .int (nI g1)), (3, .int 7), (0, .ref h0)]) hx hb d_Sr_u32_50 rfl hl (by decide) rfl (fun ls hl => ?_)
    refine lv_iload hx hb d_Sr_u32_51 (lv_at hl 1 rfl) ?_
    refine lv_sipush (v := 128) hx hb d_Sr_u32_53 (by decide) ?_
    refine lv_icmp_ge (tgt := 62) hx hb d_Sr_u32_56 (by decide) (fun c_56 => ?_) (fun c_56 => ?_)
    · have hd1 : ¬ g1 < 128 := fun q => absurd ((nI_leI (a := 128) (b := g1) (by omega) (by omega)).mp c_56) (by omega)
      have hV2 := hW1
      have hU2 := hC1 hd1
      refine lv_iinc (v := 14) (lv' := [(3, .int 14), (1, .long (lN V2)), (4, .int (nI g1)), (0, .ref h0)]) hx hb d_Sr_u32_62 hl (k := 2) rfl (by decide) (by decide) rfl (fun ls hl => ?_)
      refine lv_goto (tgt := 4) hx hb d_Sr_u32_65 (by decide) ?_
      refine lv_iload_n hx hb d_Sr_u32_4 rfl (lv_at hl 0 rfl) ?_
      refine lv_bipush (v := 28) hx hb d_Sr_u32_5 (by decide) ?_
      refine lv_icmp_gt (tgt := 68) hx hb d_Sr_u32_7 (by decide) (fun c_7 => absurd c_7 (by decide)) (fun c_7 => ?_)
      refine lv_aload_n hx hb d_Sr_u32_10 rfl (lv_at hl 3 rfl) ?_
      refine cV (As := []) (rest := []) (n := 0) (wc := [(h0, .inr (2, [.ref h1, .int (nI ((a + 1) + 1)), .int (nI lm), .int f, .int pl])), (h1, .inl (cA 0, 2000, .inl bs))]) (wr := []) ⟨hx, hb, hml, hown, hts⟩ hno hlocks hl.1 (c_Sr_next l hl9 D cA ad H.size h0 h1 bs ((a + 1) + 1) lm f pl hlm (by omega)) iw2_54 iw1_207 iw1_208 iw1_5 iw1_209 (by decide +kernel) rfl ⟨Nat.le_of_ble_eq_true rfl, Nat.le_of_ble_eq_true rfl⟩ ⟨Nat.le_of_ble_eq_true rfl, Nat.le_of_ble_eq_true rfl⟩ rfl (Nat.le_of_ble_eq_true rfl) d_Sr_u32_11 hE hP hD hS hA [0, 1] [] rfl rfl rfl rfl (by decide) (ci := 2) rfl rfl 0 rfl (fun u h => ⟨u, h.mono (fun f p q => by rw [hU2, pUg_T q]), fun _ h => h, fun h => h, Nat.le_refl _, Nat.le_refl _⟩) (fun v_11 u_11 H locs hp_11 hP hD hS => ?_)
      obtain ⟨g2, a3, hn2, rfl, rfl⟩ := hp_11
      have hP : va_P D cls [(h0, .inr (2, [.ref h1, .int (nI a3), .int (nI lm), .int f, .int pl])), (h1, .inl (cA 0, 2000, .inl bs))] H := hP
      have hD : va_D A [(h0, .inr (2, [.ref h1, .int (nI a3), .int (nI lm), .int f, .int pl])), (h1, .inl (cA 0, 2000, .inl bs))] := hD
      refine W.cs (cells' := 0) (slots' := 0) rfl rfl ?_
      refine W.eq (g2 := F0 m 14 ls [.int (nI g2)]) rfl ?_
      obtain ⟨hq2, rfl, hg2⟩ := pNext_ok hn2
      have hb2 : g2 < 256 := by rw [hg2]; exact bv_lt _ _
      have hP : va_P D cls [(h0, .inr (2, [.ref h1, .int (nI (((a + 1) + 1) + 1)), .int (nI lm), .int f, .int pl])), (h1, .inl (cA 0, 2000, .inl bs))] H := hP
      have hD : va_D A [(h0, .inr (2, [.ref h1, .int (nI (((a + 1) + 1) + 1)), .int (nI lm), .int f, .int pl])), (h1, .inl (cA 0, 2000, .inl bs))] := hD
      refine lv_istore (lv' := [(4, .int (nI g2)), (3, .int 14), (1, .long (lN V2)), (0, .ref h0)]) hx hb d_Sr_u32_14 hl (by decide) rfl (fun ls hl => ?_)
      refine lv_iload_n hx hb d_Sr_u32_16 rfl (lv_at hl 1 rfl) ?_
      refine lv_bipush (v := 28) hx hb d_Sr_u32_17 (by decide) ?_
      refine lv_icmp_ne (tgt := 40) hx hb d_Sr_u32_19 (by decide) (fun c_19 => ?_) (fun c_19 => absurd c_19 (by decide))
      have ho2 : ¬ (2 = 0 ∧ 15 < g2) := fun q => absurd q.1 (by decide)
      refine lv_lload_n hx hb d_Sr_u32_40 rfl (lv_at hl 2 rfl) ?_
      refine lv_iload hx hb d_Sr_u32_41 (lv_at hl 0 rfl) ?_
      refine lv_bipush (v := 127) hx hb d_Sr_u32_43 (by decide) ?_
      refine lv_iand hx hb d_Sr_u32_45 ?_
      refine lv_i2l hx hb d_Sr_u32_46 rfl ?_
      refine lv_iload_n hx hb d_Sr_u32_47 rfl (lv_at hl 1 rfl) ?_
      refine lv_lshl hx hb d_Sr_u32_48 rfl ?_
      refine lv_lor hx hb d_Sr_u32_49 ?_
      refine lv_topl (fun y2 ey2 => ?_)
      have hy2 : y2 = lN (V2 + g2 % 128 * 2 ^ 14) := ey2.trans (u_step 14 (by decide) (by decide) (v := V2) hV2 hb2)
      have hW2 : V2 + g2 % 128 * 2 ^ 14 < 2 ^ 21 := u_bd (k := 14) hV2
      have hE2 := @pUg_E (bv bs) lm 2 14 ((a + 1) + 1) V2 _ _ hn2 ho2
      have hC2 := @pUg_C (bv bs) lm 2 14 ((a + 1) + 1) V2 _ _ hn2 ho2
      rw [← hU2] at hE2 hC2
      generalize V2 + g2 % 128 * 2 ^ 14 = V3 at hy2 hW2 hE2 hC2
      subst hy2
      refine lv_lstore_n (lv' := [(1, .long (lN V3)), (4, .int (nI g2)), (3, .int 14), (0, .ref h0)]) hx hb d_Sr_u32_50 rfl hl (by decide) rfl (fun ls hl => ?_)
      refine lv_iload hx hb d_Sr_u32_51 (lv_at hl 1 rfl) ?_
      refine lv_sipush (v := 128) hx hb d_Sr_u32_53 (by decide) ?_
      refine lv_icmp_ge (tgt := 62) hx hb d_Sr_u32_56 (by decide) (fun c_56 => ?_) (fun c_56 => ?_)
      · have hd2 : ¬ g2 < 128 := fun q => absurd ((nI_leI (a := 128) (b := g2) (by omega) (by omega)).mp c_56) (by omega)
        have hV3 := hW2
        have hU3 := hC2 hd2
        refine lv_iinc (v := 21) (lv' := [(3, .int 21), (1, .long (lN V3)), (4, .int (nI g2)), (0, .ref h0)]) hx hb d_Sr_u32_62 hl (k := 2) rfl (by decide) (by decide) rfl (fun ls hl => ?_)
        refine lv_goto (tgt := 4) hx hb d_Sr_u32_65 (by decide) ?_
        refine lv_iload_n hx hb d_Sr_u32_4 rfl (lv_at hl 0 rfl) ?_
        refine lv_bipush (v := 28) hx hb d_Sr_u32_5 (by decide) ?_
        refine lv_icmp_gt (tgt := 68) hx hb d_Sr_u32_7 (by decide) (fun c_7 => absurd c_7 (by decide)) (fun c_7 => ?_)
        refine lv_aload_n hx hb d_Sr_u32_10 rfl (lv_at hl 3 rfl) ?_
        refine cV (As := []) (rest := []) (n := 0) (wc := [(h0, .inr (2, [.ref h1, .int (nI (((a + 1) + 1) + 1)), .int (nI lm), .int f, .int pl])), (h1, .inl (cA 0, 2000, .inl bs))]) (wr := []) ⟨hx, hb, hml, hown, hts⟩ hno hlocks hl.1 (c_Sr_next l hl9 D cA ad H.size h0 h1 bs (((a + 1) + 1) + 1) lm f pl hlm (by omega)) iw2_54 iw1_207 iw1_208 iw1_5 iw1_209 (by decide +kernel) rfl ⟨Nat.le_of_ble_eq_true rfl, Nat.le_of_ble_eq_true rfl⟩ ⟨Nat.le_of_ble_eq_true rfl, Nat.le_of_ble_eq_true rfl⟩ rfl (Nat.le_of_ble_eq_true rfl) d_Sr_u32_11 hE hP hD hS hA [0, 1] [] rfl rfl rfl rfl (by decide) (ci := 2) rfl rfl 0 rfl (fun u h => ⟨u, h.mono (fun f p q => by rw [hU3, pUg_T q]), fun _ h => h, fun h => h, Nat.le_refl _, Nat.le_refl _⟩) (fun v_11 u_11 H locs hp_11 hP hD hS => ?_)
        obtain ⟨g3, a4, hn3, rfl, rfl⟩ := hp_11
        have hP : va_P D cls [(h0, .inr (2, [.ref h1, .int (nI a4), .int (nI lm), .int f, .int pl])), (h1, .inl (cA 0, 2000, .inl bs))] H := hP
        have hD : va_D A [(h0, .inr (2, [.ref h1, .int (nI a4), .int (nI lm), .int f, .int pl])), (h1, .inl (cA 0, 2000, .inl bs))] := hD
        refine W.cs (cells' := 0) (slots' := 0) rfl rfl ?_
        refine W.eq (g2 := F0 m 14 ls [.int (nI g3)]) rfl ?_
        obtain ⟨hq3, rfl, hg3⟩ := pNext_ok hn3
        have hb3 : g3 < 256 := by rw [hg3]; exact bv_lt _ _
        have hP : va_P D cls [(h0, .inr (2, [.ref h1, .int (nI ((((a + 1) + 1) + 1) + 1)), .int (nI lm), .int f, .int pl])), (h1, .inl (cA 0, 2000, .inl bs))] H := hP
        have hD : va_D A [(h0, .inr (2, [.ref h1, .int (nI ((((a + 1) + 1) + 1) + 1)), .int (nI lm), .int f, .int pl])), (h1, .inl (cA 0, 2000, .inl bs))] := hD
        refine lv_istore (lv' := [(4, .int (nI g3)), (3, .int 21), (1, .long (lN V3)), (0, .ref h0)]) hx hb d_Sr_u32_14 hl (by decide) rfl (fun ls hl => ?_)
        refine lv_iload_n hx hb d_Sr_u32_16 rfl (lv_at hl 1 rfl) ?_
        refine lv_bipush (v := 28) hx hb d_Sr_u32_17 (by decide) ?_
        refine lv_icmp_ne (tgt := 40) hx hb d_Sr_u32_19 (by decide) (fun c_19 => ?_) (fun c_19 => absurd c_19 (by decide))
        have ho3 : ¬ (1 = 0 ∧ 15 < g3) := fun q => absurd q.1 (by decide)
        refine lv_lload_n hx hb d_Sr_u32_40 rfl (lv_at hl 2 rfl) ?_
        refine lv_iload hx hb d_Sr_u32_41 (lv_at hl 0 rfl) ?_
        refine lv_bipush (v := 127) hx hb d_Sr_u32_43 (by decide) ?_
        refine lv_iand hx hb d_Sr_u32_45 ?_
        refine lv_i2l hx hb d_Sr_u32_46 rfl ?_
        refine lv_iload_n hx hb d_Sr_u32_47 rfl (lv_at hl 1 rfl) ?_
        refine lv_lshl hx hb d_Sr_u32_48 rfl ?_
        refine lv_lor hx hb d_Sr_u32_49 ?_
        refine lv_topl (fun y3 ey3 => ?_)
        have hy3 : y3 = lN (V3 + g3 % 128 * 2 ^ 21) := ey3.trans (u_step 21 (by decide) (by decide) (v := V3) hV3 hb3)
        have hW3 : V3 + g3 % 128 * 2 ^ 21 < 2 ^ 28 := u_bd (k := 21) hV3
        have hE3 := @pUg_E (bv bs) lm 1 21 (((a + 1) + 1) + 1) V3 _ _ hn3 ho3
        have hC3 := @pUg_C (bv bs) lm 1 21 (((a + 1) + 1) + 1) V3 _ _ hn3 ho3
        rw [← hU3] at hE3 hC3
        generalize V3 + g3 % 128 * 2 ^ 21 = V4 at hy3 hW3 hE3 hC3
        subst hy3
        refine lv_lstore_n (lv' := [(1, .long (lN V4)), (4, .int (nI g3)), (3, .int 21), (0, .ref h0)]) hx hb d_Sr_u32_50 rfl hl (by decide) rfl (fun ls hl => ?_)
        refine lv_iload hx hb d_Sr_u32_51 (lv_at hl 1 rfl) ?_
        refine lv_sipush (v := 128) hx hb d_Sr_u32_53 (by decide) ?_
        refine lv_icmp_ge (tgt := 62) hx hb d_Sr_u32_56 (by decide) (fun c_56 => ?_) (fun c_56 => ?_)
        · have hd3 : ¬ g3 < 128 := fun q => absurd ((nI_leI (a := 128) (b := g3) (by omega) (by omega)).mp c_56) (by omega)
          have hV4 := hW3
          have hU4 := hC3 hd3
          refine lv_iinc (v := 28) (lv' := [(3, .int 28), (1, .long (lN V4)), (4, .int (nI g3)), (0, .ref h0)]) hx hb d_Sr_u32_62 hl (k := 2) rfl (by decide) (by decide) rfl (fun ls hl => ?_)
          refine lv_goto (tgt := 4) hx hb d_Sr_u32_65 (by decide) ?_
          refine lv_iload_n hx hb d_Sr_u32_4 rfl (lv_at hl 0 rfl) ?_
          refine lv_bipush (v := 28) hx hb d_Sr_u32_5 (by decide) ?_
          refine lv_icmp_gt (tgt := 68) hx hb d_Sr_u32_7 (by decide) (fun c_7 => absurd c_7 (by decide)) (fun c_7 => ?_)
          refine lv_aload_n hx hb d_Sr_u32_10 rfl (lv_at hl 3 rfl) ?_
          refine cV (As := []) (rest := []) (n := 0) (wc := [(h0, .inr (2, [.ref h1, .int (nI ((((a + 1) + 1) + 1) + 1)), .int (nI lm), .int f, .int pl])), (h1, .inl (cA 0, 2000, .inl bs))]) (wr := []) ⟨hx, hb, hml, hown, hts⟩ hno hlocks hl.1 (c_Sr_next l hl9 D cA ad H.size h0 h1 bs ((((a + 1) + 1) + 1) + 1) lm f pl hlm (by omega)) iw2_54 iw1_207 iw1_208 iw1_5 iw1_209 (by decide +kernel) rfl ⟨Nat.le_of_ble_eq_true rfl, Nat.le_of_ble_eq_true rfl⟩ ⟨Nat.le_of_ble_eq_true rfl, Nat.le_of_ble_eq_true rfl⟩ rfl (Nat.le_of_ble_eq_true rfl) d_Sr_u32_11 hE hP hD hS hA [0, 1] [] rfl rfl rfl rfl (by decide) (ci := 2) rfl rfl 0 rfl (fun u h => ⟨u, h.mono (fun f p q => by rw [hU4, pUg_T q]), fun _ h => h, fun h => h, Nat.le_refl _, Nat.le_refl _⟩) (fun v_11 u_11 H locs hp_11 hP hD hS => ?_)
          obtain ⟨g4, a5, hn4, rfl, rfl⟩ := hp_11
          have hP : va_P D cls [(h0, .inr (2, [.ref h1, .int (nI a5), .int (nI lm), .int f, .int pl])), (h1, .inl (cA 0, 2000, .inl bs))] H := hP
          have hD : va_D A [(h0, .inr (2, [.ref h1, .int (nI a5), .int (nI lm), .int f, .int pl])), (h1, .inl (cA 0, 2000, .inl bs))] := hD
          refine W.cs (cells' := 0) (slots' := 0) rfl rfl ?_
          refine W.eq (g2 := F0 m 14 ls [.int (nI g4)]) rfl ?_
          obtain ⟨hq4, rfl, hg4⟩ := pNext_ok hn4
          have hb4 : g4 < 256 := by rw [hg4]; exact bv_lt _ _
          have hP : va_P D cls [(h0, .inr (2, [.ref h1, .int (nI (((((a + 1) + 1) + 1) + 1) + 1)), .int (nI lm), .int f, .int pl])), (h1, .inl (cA 0, 2000, .inl bs))] H := hP
          have hD : va_D A [(h0, .inr (2, [.ref h1, .int (nI (((((a + 1) + 1) + 1) + 1) + 1)), .int (nI lm), .int f, .int pl])), (h1, .inl (cA 0, 2000, .inl bs))] := hD
          refine lv_istore (lv' := [(4, .int (nI g4)), (3, .int 28), (1, .long (lN V4)), (0, .ref h0)]) hx hb d_Sr_u32_14 hl (by decide) rfl (fun ls hl => ?_)
          refine lv_iload_n hx hb d_Sr_u32_16 rfl (lv_at hl 1 rfl) ?_
          refine lv_bipush (v := 28) hx hb d_Sr_u32_17 (by decide) ?_
          refine lv_icmp_ne (tgt := 40) hx hb d_Sr_u32_19 (by decide) (fun c_19 => absurd (by decide) c_19) (fun c_19 => ?_)
          refine lv_iload hx hb d_Sr_u32_22 (lv_at hl 0 rfl) ?_
          refine lv_bipush (v := 15) hx hb d_Sr_u32_24 (by decide) ?_
          refine lv_icmp_le (tgt := 40) hx hb d_Sr_u32_26 (by decide) (fun c_26 => ?_) (fun c_26 => ?_)
          · have ho4 : ¬ (0 = 0 ∧ 15 < g4) := fun q => absurd ((nI_leI (a := g4) (b := 15) (by omega) (by omega)).mp c_26) (by omega)
            refine lv_lload_n hx hb d_Sr_u32_40 rfl (lv_at hl 2 rfl) ?_
            refine lv_iload hx hb d_Sr_u32_41 (lv_at hl 0 rfl) ?_
            refine lv_bipush (v := 127) hx hb d_Sr_u32_43 (by decide) ?_
            refine lv_iand hx hb d_Sr_u32_45 ?_
            refine lv_i2l hx hb d_Sr_u32_46 rfl ?_
            refine lv_iload_n hx hb d_Sr_u32_47 rfl (lv_at hl 1 rfl) ?_
            refine lv_lshl hx hb d_Sr_u32_48 rfl ?_
            refine lv_lor hx hb d_Sr_u32_49 ?_
            refine lv_topl (fun y4 ey4 => ?_)
            have hy4 : y4 = lN (V4 + g4 % 128 * 2 ^ 28) := ey4.trans (u_step 28 (by decide) (by decide) (v := V4) hV4 hb4)
            have hW4 : V4 + g4 % 128 * 2 ^ 28 < 2 ^ 35 := u_bd (k := 28) hV4
            have hE4 := @pUg_E (bv bs) lm 0 28 ((((a + 1) + 1) + 1) + 1) V4 _ _ hn4 ho4
            have hC4 := @pUg_C (bv bs) lm 0 28 ((((a + 1) + 1) + 1) + 1) V4 _ _ hn4 ho4
            rw [← hU4] at hE4 hC4
            generalize V4 + g4 % 128 * 2 ^ 28 = V5 at hy4 hW4 hE4 hC4
            subst hy4
            refine lv_lstore_n (lv' := [(1, .long (lN V5)), (4, .int (nI g4)), (3, .int 28), (0, .ref h0)]) hx hb d_Sr_u32_50 rfl hl (by decide) rfl (fun ls hl => ?_)
            refine lv_iload hx hb d_Sr_u32_51 (lv_at hl 1 rfl) ?_
            refine lv_sipush (v := 128) hx hb d_Sr_u32_53 (by decide) ?_
            refine lv_icmp_ge (tgt := 62) hx hb d_Sr_u32_56 (by decide) (fun c_56 => ?_) (fun c_56 => ?_)
            · have hd4 : ¬ g4 < 128 := fun q => absurd ((nI_leI (a := 128) (b := g4) (by omega) (by omega)).mp c_56) (by omega)
              exact absurd ((nI_leI (a := g4) (b := 15) (by omega) (by omega)).mp c_26) (by omega)
            · have hd4 : g4 < 128 := Nat.lt_of_not_le (fun q => c_56 (nI_le (a := 128) (b := g4) q (by omega)))
              refine lv_goto (tgt := 68) hx hb d_Sr_u32_59 (by decide) ?_
              refine lv_lload_n hx hb d_Sr_u32_68 rfl (lv_at hl 0 rfl) ?_
              exact cRl (nI (((((a + 1) + 1) + 1) + 1) + 1), nI lm, f, pl) hx hb hr hlocks d_Sr_u32_69 hS hP hD (⟨V5, (((((a + 1) + 1) + 1) + 1) + 1), hE4 hd4, rfl, rfl⟩) (Nat.le_refl _) (Nat.le_refl _)
          · have hc4 : 15 < g4 := Nat.lt_of_not_le (fun q => c_26 (nI_le (a := g4) (b := 15) q (by omega)))
            refine lv_aload_n hx hb d_Sr_u32_29 rfl (lv_at hl 3 rfl) ?_
            refine lv_iconst (v := 4) hx hb d_Sr_u32_30 (by decide) ?_
            refine lv_aload_n hx hb d_Sr_u32_31 rfl (lv_at hl 3 rfl) ?_
            refine va_get (D := D) (ci := 2) (v := .int (nI (((((a + 1) + 1) + 1) + 1) + 1))) (C := R_Sr) (T := F_Sr) (N := 5) hx hb hts (fun w h => List.mem_cons_of_mem _ (i_Sr w h)) hown hE.1 hP 0 rfl rfl 1 (by decide) (hts _ (List.mem_cons_of_mem _ iw1_97)) (fun _ h9 => h9) rfl d_Sr_u32_32 ?_
            refine lv_iconst (v := 1) hx hb d_Sr_u32_35 (by decide) ?_
            refine lv_isub hx hb d_Sr_u32_36 ?_
            refine cV (As := [.int 4, .int ((nI (((((a + 1) + 1) + 1) + 1) + 1)) - 1)]) (rest := []) (n := 2) (wc := [(h0, .inr (2, [.ref h1, .int (nI (((((a + 1) + 1) + 1) + 1) + 1)), .int (nI lm), .int f, .int pl])), (h1, .inl (cA 0, 2000, .inl bs))]) (wr := []) ⟨hx, hb, hml, hown, hts⟩ hno hlocks hl.1 (c_Sr_fail l hl9 D cA ad H.size h0 h1 bs (nI (((((a + 1) + 1) + 1) + 1) + 1)) (nI lm) f pl 4 (nI (((((a + 1) + 1) + 1) + 1) + 1) - 1)) iw2_55 iw2_36 iw2_37 iw1_5 iw2_38 (by decide +kernel) rfl ⟨Nat.le_of_ble_eq_true rfl, Nat.le_of_ble_eq_true rfl⟩ ⟨Nat.le_of_ble_eq_true rfl, Nat.le_of_ble_eq_true rfl⟩ rfl (Nat.le_of_ble_eq_true rfl) d_Sr_u32_37 hE hP hD hS hA [0, 1] [] rfl rfl rfl rfl (by decide) (ci := 2) rfl rfl 0 rfl (fun u h => ⟨u, ⟨4, ((((a + 1) + 1) + 1) + 1) + 1 - 1, by rw [hU4, pUg_F hn4 hc4], by rw [h]; rfl, by rw [h]; exact nI_pred _⟩, fun _ h => h, fun h => h, Nat.le_refl _, Nat.le_refl _⟩) (fun v_37 u_37 H locs hp_37 hP hD hS => ?_)
            exact hp_37.elim
        · have hd3 : g3 < 128 := Nat.lt_of_not_le (fun q => c_56 (nI_le (a := 128) (b := g3) q (by omega)))
          refine lv_goto (tgt := 68) hx hb d_Sr_u32_59 (by decide) ?_
          refine lv_lload_n hx hb d_Sr_u32_68 rfl (lv_at hl 0 rfl) ?_
          exact cRl (nI ((((a + 1) + 1) + 1) + 1), nI lm, f, pl) hx hb hr hlocks d_Sr_u32_69 hS hP hD (⟨V4, ((((a + 1) + 1) + 1) + 1), hE3 hd3, rfl, rfl⟩) (Nat.le_refl _) (Nat.le_refl _)
      · have hd2 : g2 < 128 := Nat.lt_of_not_le (fun q => c_56 (nI_le (a := 128) (b := g2) q (by omega)))
        refine lv_goto (tgt := 68) hx hb d_Sr_u32_59 (by decide) ?_
        refine lv_lload_n hx hb d_Sr_u32_68 rfl (lv_at hl 0 rfl) ?_
        exact cRl (nI (((a + 1) + 1) + 1), nI lm, f, pl) hx hb hr hlocks d_Sr_u32_69 hS hP hD (⟨V3, (((a + 1) + 1) + 1), hE2 hd2, rfl, rfl⟩) (Nat.le_refl _) (Nat.le_refl _)
    · have hd1 : g1 < 128 := Nat.lt_of_not_le (fun q => c_56 (nI_le (a := 128) (b := g1) q (by omega)))
      refine lv_goto (tgt := 68) hx hb d_Sr_u32_59 (by decide) ?_
      refine lv_lload_n hx hb d_Sr_u32_68 rfl (lv_at hl 0 rfl) ?_
      exact cRl (nI ((a + 1) + 1), nI lm, f, pl) hx hb hr hlocks d_Sr_u32_69 hS hP hD (⟨V2, ((a + 1) + 1), hE1 hd1, rfl, rfl⟩) (Nat.le_refl _) (Nat.le_refl _)
  · have hd0 : g0 < 128 := Nat.lt_of_not_le (fun q => c_56 (nI_le (a := 128) (b := g0) q (by omega)))
    refine lv_goto (tgt := 68) hx hb d_Sr_u32_59 (by decide) ?_
    refine lv_lload_n hx hb d_Sr_u32_68 rfl (lv_at hl 0 rfl) ?_
    exact cRl (nI (a + 1), nI lm, f, pl) hx hb hr hlocks d_Sr_u32_69 hS hP hD (⟨V1, (a + 1), hE0 hd0, rfl, rfl⟩) (Nat.le_refl _) (Nat.le_refl _)
