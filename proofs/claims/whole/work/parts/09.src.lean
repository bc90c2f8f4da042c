set_option maxHeartbeats 4000000 in
set_option maxRecDepth 100000 in
/-- fail(x, y): it throws; the fault and its place are kept -/
theorem c_Sr_fail (l : Launch) (hl9 : l.stackTraces = false) (D : va_G) (cA : Nat → ClassId) (ad : Nat → Nat) (sz : Nat) (h0 h1 : Nat) (bs : Nat → Int32) (at_ lm f pl x y : Int32) :
    cM l y_Sr_fail (.code y_Sr_fail b_Sr_fail 3 none :: wAll) ({ frames := 6, cells := 1, slots := 6, locals := 82 }) D cA ad [.ref h0, .int x, .int y] (wSr cA h0 h1 bs (at_, lm, f, pl)) sz (fun _ _ => False) (fun u => u = (at_, lm, x, y)) (wSr cA h0 h1 bs) (fun _ => (0, 0)) := by
  refine cM.ofW (cc := b_Sr_fail) (maxL := 3) (ret := none) (by decide) (Nat.le_of_ble_eq_true rfl) ?_
  intro p e s m below meth c A ls hF hsz hA hE hP hD hl
  obtain ⟨⟨hx, hb, hml, hown, hts⟩, hr, hno, hlocks, hin⟩ := hF
  subst hsz
  have hown : s.vm.findClass "ModuleBytes$Source" = some m.cls := hown
  have hS : va_S A s.heap s.heap [] := va_S.rf
  have hl : lv_has ls 3 [(0, .ref h0), (1, .int x), (2, .int y)] := hl
  refine lv_aload_n hx hb d_Sr_fail_0 rfl (lv_at hl 0 rfl) ?_
  refine lv_iload_n hx hb d_Sr_fail_1 rfl (lv_at hl 1 rfl) ?_
  refine va_put (D := D) (ci := 2) (v := .int x) (ty := .int) (C := R_Sr) (T := F_Sr) (N := 5) hx hb hts (fun w h => List.mem_cons_of_mem _ (i_Sr w h)) t_Sr tk_Sr n_Sr hown hE.1 hP hD hS 0 rfl rfl 3 (by decide) (hts _ (List.mem_cons_of_mem _ iw1_102)) (fun _ h9 => h9) rfl (by decide +kernel) rfl rfl (Nat.le_of_ble_eq_true rfl) d_Sr_fail_2 (fun H locs hP hD hS => ?_)
  have hP : va_P D cls [(h0, .inr (2, [.ref h1, .int at_, .int lm, .int x, .int pl])), (h1, .inl (cA 0, 2000, .inl bs))] H := hP
  have hD : va_D A [(h0, .inr (2, [.ref h1, .int at_, .int lm, .int x, .int pl])), (h1, .inl (cA 0, 2000, .inl bs))] := hD
  refine lv_aload_n hx hb d_Sr_fail_5 rfl (lv_at hl 0 rfl) ?_
  refine lv_iload_n hx hb d_Sr_fail_6 rfl (lv_at hl 2 rfl) ?_
  refine va_put (D := D) (ci := 2) (v := .int y) (ty := .int) (C := R_Sr) (T := F_Sr) (N := 5) hx hb hts (fun w h => List.mem_cons_of_mem _ (i_Sr w h)) t_Sr tk_Sr n_Sr hown hE.1 hP hD hS 0 rfl rfl 4 (by decide) (hts _ (List.mem_cons_of_mem _ iw1_104)) (fun _ h9 => h9) rfl (by decide +kernel) rfl rfl (Nat.le_of_ble_eq_true rfl) d_Sr_fail_7 (fun H locs hP hD hS => ?_)
  have hP : va_P D cls [(h0, .inr (2, [.ref h1, .int at_, .int lm, .int x, .int y])), (h1, .inl (cA 0, 2000, .inl bs))] H := hP
  have hD : va_D A [(h0, .inr (2, [.ref h1, .int at_, .int lm, .int x, .int y])), (h1, .inl (cA 0, 2000, .inl bs))] := hD
  exact cT (at_, lm, x, y) hl9 ⟨hx, hb, hml, hown, hts⟩ hno hlocks hE hE.2.1.2.1 hl.1 d_Sr_fail_10 d_Sr_fail_13 d_Sr_fail_14 d_Sr_fail_16 d_Sr_fail_19 (by decide) (Nat.le_of_ble_eq_true rfl) (Nat.le_of_ble_eq_true rfl) (Nat.le_of_ble_eq_true rfl) hS hP hD (rfl) (Nat.le_refl _) (Nat.le_refl _)
set_option maxHeartbeats 4000000 in
set_option maxRecDepth 100000 in
/-- next(): a byte, or fault 1 -/
theorem c_Sr_next (l : Launch) (hl9 : l.stackTraces = false) (D : va_G) (cA : Nat → ClassId) (ad : Nat → Nat) (sz : Nat) (h0 h1 : Nat) (bs : Nat → Int32) (a lm : Nat) (f pl : Int32) (hlm : lm ≤ 2000) (hal : a ≤ lm) :
    cM l y_Sr_next (.code y_Sr_next b_Sr_next 2 (some .int) :: wAll) ({ frames := 6, cells := 1, slots := 6, locals := 82 }) D cA ad [.ref h0] (wSr cA h0 h1 bs (nI a, nI lm, f, pl)) sz (iP (pNext (bv bs) lm a) lm f pl) (tP (pNext (bv bs) lm a)) (wSr cA h0 h1 bs) (fun _ => (0, 0)) := by
  refine cM.ofW (cc := b_Sr_next) (maxL := 2) (ret := (some .int)) (by decide) (Nat.le_of_ble_eq_true rfl) ?_
  intro p e s m below meth c A ls hF hsz hA hE hP hD hl
  obtain ⟨⟨hx, hb, hml, hown, hts⟩, hr, hno, hlocks, hin⟩ := hF
  subst hsz
  have hown : s.vm.findClass "ModuleBytes$Source" = some m.cls := hown
  have hS : va_S A s.heap s.heap [] := va_S.rf
  have hl : lv_has ls 2 [(0, .ref h0)] := hl
  refine lv_aload_n hx hb d_Sr_next_0 rfl (lv_at hl 0 rfl) ?_
  refine va_get (D := D) (ci := 2) (v := .int (nI a)) (C := R_Sr) (T := F_Sr) (N := 5) hx hb hts (fun w h => List.mem_cons_of_mem _ (i_Sr w h)) hown hE.1 hP 0 rfl rfl 1 (by decide) (hts _ (List.mem_cons_of_mem _ iw1_97)) (fun _ h9 => h9) rfl d_Sr_next_1 ?_
  refine lv_aload_n hx hb d_Sr_next_4 rfl (lv_at hl 0 rfl) ?_
  refine va_get (D := D) (ci := 2) (v := .int (nI lm)) (C := R_Sr) (T := F_Sr) (N := 5) hx hb hts (fun w h => List.mem_cons_of_mem _ (i_Sr w h)) hown hE.1 hP 0 rfl rfl 2 (by decide) (hts _ (List.mem_cons_of_mem _ iw1_100)) (fun _ h9 => h9) rfl d_Sr_next_5 ?_
  refine lv_icmp_lt (tgt := 34) hx hb d_Sr_next_8 (by decide) (fun c_8 => ?_) (fun c_8 => ?_)
  · have hh : a < lm := (nI_ltI (by omega) (by omega)).mp c_8
    refine lv_aload_n hx hb d_Sr_next_34 rfl (lv_at hl 0 rfl) ?_
    refine va_get (D := D) (ci := 2) (v := .ref h1) (C := R_Sr) (T := F_Sr) (N := 5) hx hb hts (fun w h => List.mem_cons_of_mem _ (i_Sr w h)) hown hE.1 hP 0 rfl rfl 0 (by decide) (hts _ (List.mem_cons_of_mem _ iw1_96)) (fun _ h9 => h9) rfl d_Sr_next_35 ?_
    refine lv_aload_n hx hb d_Sr_next_38 rfl (lv_at hl 0 rfl) ?_
    refine va_get (D := D) (ci := 2) (v := .int (nI a)) (C := R_Sr) (T := F_Sr) (N := 5) hx hb hts (fun w h => List.mem_cons_of_mem _ (i_Sr w h)) hown hE.1 hP 0 rfl rfl 1 (by decide) (hts _ (List.mem_cons_of_mem _ iw1_97)) (fun _ h9 => h9) rfl d_Sr_next_39 ?_
    refine va_bald hx hb hE.1 hP 1 0 rfl rfl (vp_in_nI (by omega) (by omega)) d_Sr_next_42 ?_
    rw [nI_clamp (n := a) (by omega)]
    refine lv_sipush (v := 255) hx hb d_Sr_next_43 (by decide) ?_
    refine lv_iand hx hb d_Sr_next_46 ?_
    refine lv_topi (fun x ex => ?_)
    refine lv_istore_n (lv' := [(1, .int x), (0, .ref h0)]) hx hb d_Sr_next_47 rfl hl (by decide) rfl (fun ls hl => ?_)
    refine lv_aload_n hx hb d_Sr_next_48 rfl (lv_at hl 1 rfl) ?_
    refine lv_dup hx hb d_Sr_next_49 rfl ?_
    refine va_get (D := D) (ci := 2) (v := .int (nI a)) (C := R_Sr) (T := F_Sr) (N := 5) hx hb hts (fun w h => List.mem_cons_of_mem _ (i_Sr w h)) hown hE.1 hP 0 rfl rfl 1 (by decide) (hts _ (List.mem_cons_of_mem _ iw1_97)) (fun _ h9 => h9) rfl d_Sr_next_50 ?_
    refine lv_iconst (v := 1) hx hb d_Sr_next_53 (by decide) ?_
    refine lv_iadd hx hb d_Sr_next_54 ?_
    refine va_put (D := D) (ci := 2) (v := .int ((nI a) + 1)) (ty := .int) (C := R_Sr) (T := F_Sr) (N := 5) hx hb hts (fun w h => List.mem_cons_of_mem _ (i_Sr w h)) t_Sr tk_Sr n_Sr hown hE.1 hP hD hS 0 rfl rfl 1 (by decide) (hts _ (List.mem_cons_of_mem _ iw1_97)) (fun _ h9 => h9) rfl (by decide +kernel) rfl rfl (Nat.le_of_ble_eq_true rfl) d_Sr_next_55 (fun H locs hP hD hS => ?_)
    have hP : va_P D cls [(h0, .inr (2, [.ref h1, .int ((nI a) + 1), .int (nI lm), .int f, .int pl])), (h1, .inl (cA 0, 2000, .inl bs))] H := hP
    have hD : va_D A [(h0, .inr (2, [.ref h1, .int ((nI a) + 1), .int (nI lm), .int f, .int pl])), (h1, .inl (cA 0, 2000, .inl bs))] := hD
    refine lv_iload_n hx hb d_Sr_next_58 rfl (lv_at hl 0 rfl) ?_
    rw [nI_1] at hP hD
    exact cRi (nI (a + 1), nI lm, f, pl) hx hb hr hlocks d_Sr_next_59 hS hP hD (⟨bv bs a, a + 1, by rw [pNext, if_pos hh], by rw [ex, bv_and], rfl⟩) (Nat.le_refl _) (Nat.le_refl _)
  · refine lv_aload_n hx hb d_Sr_next_11 rfl (lv_at hl 0 rfl) ?_
    refine lv_iconst (v := 1) hx hb d_Sr_next_12 (by decide) ?_
    refine va_put (D := D) (ci := 2) (v := .int 1) (ty := .int) (C := R_Sr) (T := F_Sr) (N := 5) hx hb hts (fun w h => List.mem_cons_of_mem _ (i_Sr w h)) t_Sr tk_Sr n_Sr hown hE.1 hP hD hS 0 rfl rfl 3 (by decide) (hts _ (List.mem_cons_of_mem _ iw1_102)) (fun _ h9 => h9) rfl (by decide +kernel) rfl rfl (Nat.le_of_ble_eq_true rfl) d_Sr_next_13 (fun H locs hP hD hS => ?_)
    have hP : va_P D cls [(h0, .inr (2, [.ref h1, .int (nI a), .int (nI lm), .int 1, .int pl])), (h1, .inl (cA 0, 2000, .inl bs))] H := hP
    have hD : va_D A [(h0, .inr (2, [.ref h1, .int (nI a), .int (nI lm), .int 1, .int pl])), (h1, .inl (cA 0, 2000, .inl bs))] := hD
    refine lv_aload_n hx hb d_Sr_next_16 rfl (lv_at hl 0 rfl) ?_
    refine lv_aload_n hx hb d_Sr_next_17 rfl (lv_at hl 0 rfl) ?_
    refine va_get (D := D) (ci := 2) (v := .int (nI lm)) (C := R_Sr) (T := F_Sr) (N := 5) hx hb hts (fun w h => List.mem_cons_of_mem _ (i_Sr w h)) hown hE.1 hP 0 rfl rfl 2 (by decide) (hts _ (List.mem_cons_of_mem _ iw1_100)) (fun _ h9 => h9) rfl d_Sr_next_18 ?_
    refine va_put (D := D) (ci := 2) (v := .int (nI lm)) (ty := .int) (C := R_Sr) (T := F_Sr) (N := 5) hx hb hts (fun w h => List.mem_cons_of_mem _ (i_Sr w h)) t_Sr tk_Sr n_Sr hown hE.1 hP hD hS 0 rfl rfl 4 (by decide) (hts _ (List.mem_cons_of_mem _ iw1_104)) (fun _ h9 => h9) rfl (by decide +kernel) rfl rfl (Nat.le_of_ble_eq_true rfl) d_Sr_next_21 (fun H locs hP hD hS => ?_)
    have hP : va_P D cls [(h0, .inr (2, [.ref h1, .int (nI a), .int (nI lm), .int 1, .int (nI lm)])), (h1, .inl (cA 0, 2000, .inl bs))] H := hP
    have hD : va_D A [(h0, .inr (2, [.ref h1, .int (nI a), .int (nI lm), .int 1, .int (nI lm)])), (h1, .inl (cA 0, 2000, .inl bs))] := hD
    have hh : ¬ a < lm := fun q => c_8 (nI_lt q (by omega))
    exact cT (nI a, nI lm, 1, nI lm) hl9 ⟨hx, hb, hml, hown, hts⟩ hno hlocks hE hE.2.1.1 hl.1 d_Sr_next_24 d_Sr_next_27 d_Sr_next_28 d_Sr_next_30 d_Sr_next_33 (by decide) (Nat.le_of_ble_eq_true rfl) (Nat.le_of_ble_eq_true rfl) (Nat.le_of_ble_eq_true rfl) hS hP hD (⟨1, lm, by rw [pNext, if_neg hh], rfl, rfl⟩) (Nat.le_refl _) (Nat.le_refl _)
