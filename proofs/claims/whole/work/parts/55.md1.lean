set_option maxHeartbeats 4000000 in
set_option maxRecDepth 100000 in
/-- stop where nothing was wrong -/
theorem c_Md_stop (l : Launch) (hl9 : l.stackTraces = false) (D : va_G) (cA : Nat → ClassId) (ad : Nat → Nat) (sz : Nat) (m0 : Nat) (g : Nat → Nat) (K : MK) (e np : Int32) (B : MB) (x p why pl : Int32) :
    cM l y_Md_stop (.code y_Md_stop b_Md_stop 3 none :: wAll) ({ frames := 0, cells := 0, slots := 0, locals := 0 }) D cA ad [.ref m0, .int why, .int pl] [(m0, .inr (6, mF g K (x, 0, p) e np B))] sz (fun v (_ : Unit) => v = none) (fun _ => False) (fun _ => [(m0, .inr (6, mF g K (x, why, pl) e np B))]) (fun _ => (0, 0)) := by
  refine cM.ofW (cc := b_Md_stop) (maxL := 3) (ret := none) (by decide) (Nat.le_of_ble_eq_true rfl) ?_
  intro pg ev s m bw meth cdx A ls hF hsz hA hE hP hD hl
  obtain ⟨⟨hx, hb, hml, hown, hts⟩, hr, hno, hlocks, hin⟩ := hF
  subst hsz
  have hown : s.vm.findClass "ModuleBytesModel" = some m.cls := hown
  have hS : va_S A s.heap s.heap [] := va_S.rf
  have hl : lv_has ls 3 [(0, .ref m0), (1, .int why), (2, .int pl)] := hl
  have hP : va_P D cls [(m0, .inr (6, mF g K (x, 0, p) e np B))] s.heap := hP
  have hD : va_D A [(m0, .inr (6, mF g K (x, 0, p) e np B))] := hD
  refine lv_aload_n hx hb d_Md_stop_0 rfl (lv_at hl 0 rfl) ?_
  refine va_get (D := D) (ci := 6) (v := .int 0) (C := R_Md) (T := F_Md) (N := 44) hx hb hts (fun w h => List.mem_cons_of_mem _ (i_Md w h)) hown hE.1 hP 0 rfl rfl 3 (by decide) (hts _ (List.mem_cons_of_mem _ iw3_57)) (fun _ h9 => h9) rfl d_Md_stop_1 ?_
  refine lv_if_ne (tgt := 12) hx hb d_Md_stop_4 (by decide) (fun c_4 => absurd (by decide) c_4) (fun c_4 => ?_)
  refine lv_aload_n hx hb d_Md_stop_7 rfl (lv_at hl 0 rfl) ?_
  refine lv_iload_n hx hb d_Md_stop_8 rfl (lv_at hl 2 rfl) ?_
  refine va_put (D := D) (ci := 6) (v := .int pl) (ty := .int) (C := R_Md) (T := F_Md) (N := 44) hx hb hts (fun w h => List.mem_cons_of_mem _ (i_Md w h)) t_Md tk_Md n_Md hown hE.1 hP hD hS 0 rfl rfl 4 (by decide) (hts _ (List.mem_cons_of_mem _ iw3_58)) (fun _ h9 => h9) rfl (by decide +kernel) rfl rfl (Nat.le_of_ble_eq_true rfl) d_Md_stop_9 (fun H locs hP hD hS => ?_)
  have hP : va_P D cls [(m0, .inr (6, mF g K (x, 0, pl) e np B))] H := hP
  have hD : va_D A [(m0, .inr (6, mF g K (x, 0, pl) e np B))] := hD
  refine lv_aload_n hx hb d_Md_stop_12 rfl (lv_at hl 0 rfl) ?_
  refine lv_aload_n hx hb d_Md_stop_13 rfl (lv_at hl 0 rfl) ?_
  refine va_get (D := D) (ci := 6) (v := .int 0) (C := R_Md) (T := F_Md) (N := 44) hx hb hts (fun w h => List.mem_cons_of_mem _ (i_Md w h)) hown hE.1 hP 0 rfl rfl 3 (by decide) (hts _ (List.mem_cons_of_mem _ iw3_57)) (fun _ h9 => h9) rfl d_Md_stop_14 ?_
  refine lv_if_ne (tgt := 24) hx hb d_Md_stop_17 (by decide) (fun c_17 => absurd (by decide) c_17) (fun c_17 => ?_)
  refine lv_iload_n hx hb d_Md_stop_20 rfl (lv_at hl 1 rfl) ?_
  refine lv_goto (tgt := 28) hx hb d_Md_stop_21 (by decide) ?_
  refine va_put (D := D) (ci := 6) (v := .int why) (ty := .int) (C := R_Md) (T := F_Md) (N := 44) hx hb hts (fun w h => List.mem_cons_of_mem _ (i_Md w h)) t_Md tk_Md n_Md hown hE.1 hP hD hS 0 rfl rfl 3 (by decide) (hts _ (List.mem_cons_of_mem _ iw3_57)) (fun _ h9 => h9) rfl (by decide +kernel) rfl rfl (Nat.le_of_ble_eq_true rfl) d_Md_stop_28 (fun H locs hP hD hS => ?_)
  have hP : va_P D cls [(m0, .inr (6, mF g K (x, why, pl) e np B))] H := hP
  have hD : va_D A [(m0, .inr (6, mF g K (x, why, pl) e np B))] := hD
  exact cRv () hx hb hr hlocks d_Md_stop_31 hS hP hD (rfl) (Nat.le_refl _) (Nat.le_refl _)
set_option maxHeartbeats 4000000 in
set_option maxRecDepth 100000 in
/-- stop where it stands already -/
theorem c_Md_stopF (l : Launch) (hl9 : l.stackTraces = false) (D : va_G) (cA : Nat → ClassId) (ad : Nat → Nat) (sz : Nat) (m0 : Nat) (g : Nat → Nat) (K : MK) (e np : Int32) (B : MB) (x ff p why pl : Int32) (hf : ¬ ff = 0 ∧ ¬ ff ≤ 0) :
    cM l y_Md_stop (.code y_Md_stop b_Md_stop 3 none :: wAll) ({ frames := 0, cells := 0, slots := 0, locals := 0 }) D cA ad [.ref m0, .int why, .int pl] [(m0, .inr (6, mF g K (x, ff, p) e np B))] sz (fun v (_ : Unit) => v = none) (fun _ => False) (fun _ => [(m0, .inr (6, mF g K (x, ff, p) e np B))]) (fun _ => (0, 0)) := by
  refine cM.ofW (cc := b_Md_stop) (maxL := 3) (ret := none) (by decide) (Nat.le_of_ble_eq_true rfl) ?_
  intro pg ev s m bw meth cdx A ls hF hsz hA hE hP hD hl
  obtain ⟨⟨hx, hb, hml, hown, hts⟩, hr, hno, hlocks, hin⟩ := hF
  subst hsz
  have hown : s.vm.findClass "ModuleBytesModel" = some m.cls := hown
  have hS : va_S A s.heap s.heap [] := va_S.rf
  have hl : lv_has ls 3 [(0, .ref m0), (1, .int why), (2, .int pl)] := hl
  have hP : va_P D cls [(m0, .inr (6, mF g K (x, ff, p) e np B))] s.heap := hP
  have hD : va_D A [(m0, .inr (6, mF g K (x, ff, p) e np B))] := hD
  refine lv_aload_n hx hb d_Md_stop_0 rfl (lv_at hl 0 rfl) ?_
  refine va_get (D := D) (ci := 6) (v := .int ff) (C := R_Md) (T := F_Md) (N := 44) hx hb hts (fun w h => List.mem_cons_of_mem _ (i_Md w h)) hown hE.1 hP 0 rfl rfl 3 (by decide) (hts _ (List.mem_cons_of_mem _ iw3_57)) (fun _ h9 => h9) rfl d_Md_stop_1 ?_
  refine lv_if_ne (tgt := 12) hx hb d_Md_stop_4 (by decide) (fun c_4 => ?_) (fun c_4 => absurd c_4 (hf.1))
  refine lv_aload_n hx hb d_Md_stop_12 rfl (lv_at hl 0 rfl) ?_
  refine lv_aload_n hx hb d_Md_stop_13 rfl (lv_at hl 0 rfl) ?_
  refine va_get (D := D) (ci := 6) (v := .int ff) (C := R_Md) (T := F_Md) (N := 44) hx hb hts (fun w h => List.mem_cons_of_mem _ (i_Md w h)) hown hE.1 hP 0 rfl rfl 3 (by decide) (hts _ (List.mem_cons_of_mem _ iw3_57)) (fun _ h9 => h9) rfl d_Md_stop_14 ?_
  refine lv_if_ne (tgt := 24) hx hb d_Md_stop_17 (by decide) (fun c_17 => ?_) (fun c_17 => absurd c_17 (hf.1))
  refine lv_aload_n hx hb d_Md_stop_24 rfl (lv_at hl 0 rfl) ?_
  refine va_get (D := D) (ci := 6) (v := .int ff) (C := R_Md) (T := F_Md) (N := 44) hx hb hts (fun w h => List.mem_cons_of_mem _ (i_Md w h)) hown hE.1 hP 0 rfl rfl 3 (by decide) (hts _ (List.mem_cons_of_mem _ iw3_57)) (fun _ h9 => h9) rfl d_Md_stop_25 ?_
  refine va_put (D := D) (ci := 6) (v := .int ff) (ty := .int) (C := R_Md) (T := F_Md) (N := 44) hx hb hts (fun w h => List.mem_cons_of_mem _ (i_Md w h)) t_Md tk_Md n_Md hown hE.1 hP hD hS 0 rfl rfl 3 (by decide) (hts _ (List.mem_cons_of_mem _ iw3_57)) (fun _ h9 => h9) rfl (by decide +kernel) rfl rfl (Nat.le_of_ble_eq_true rfl) d_Md_stop_28 (fun H locs hP hD hS => ?_)
  have hP : va_P D cls [(m0, .inr (6, mF g K (x, ff, p) e np B))] H := hP
  have hD : va_D A [(m0, .inr (6, mF g K (x, ff, p) e np B))] := hD
  exact cRv () hx hb hr hlocks d_Md_stop_31 hS hP hD (rfl) (Nat.le_refl _) (Nat.le_refl _)
set_option maxHeartbeats 4000000 in
set_option maxRecDepth 100000 in
/-- take() -/
theorem c_Md_take (l : Launch) (hl9 : l.stackTraces = false) (D : va_G) (cA : Nat → ClassId) (ad : Nat → Nat) (sz : Nat) (m0 : Nat) (g : Nat → Nat) (K : MK) (e : Int32) (np : Nat) (B : MB) (fd pe : Nat → Int32) (b : Nat → Nat) (N lm : Nat) (hnp : 1 ≤ np ∧ np ≤ 4) (hpe : pe (np - 1) = nI lm) (hlm : lm ≤ N) (hN : N ≤ 2000) (hfd : ∀ i, i < N → fd i = nI (b i)) (hb9 : ∀ i, b i < 256) (a : Nat) (p : Int32) (ha : a ≤ lm)  :
    cM l y_Md_take (.code y_Md_take b_Md_take 1 (some .int) :: wAll) ({ frames := 1, cells := 0, slots := 0, locals := 22 }) D cA ad [.ref m0] [(m0, .inr (6, mF g K (nI a, 0, p) e (nI np) B)), ((g 0), .inl (cA 3, 2000, .inl fd)), ((g 10), .inl (cA 3, 4, .inl pe))] sz (oP (pNext b lm a) p f0 vI) (fun _ => False) (fun (u : A3) => [(m0, .inr (6, mF g K u e (nI np) B)), ((g 0), .inl (cA 3, 2000, .inl fd)), ((g 10), .inl (cA 3, 4, .inl pe))]) (fun _ => (0, 0)) := by
  refine cM.ofW (cc := b_Md_take) (maxL := 1) (ret := (some .int)) (by decide) (Nat.le_of_ble_eq_true rfl) ?_
  intro pg ev s m bw meth cdx A ls hF hsz hA hE hP hD hl
  obtain ⟨⟨hx, hb, hml, hown, hts⟩, hr, hno, hlocks, hin⟩ := hF
  subst hsz
  have hown : s.vm.findClass "ModuleBytesModel" = some m.cls := hown
  have hS : va_S A s.heap s.heap [] := va_S.rf
  have hl : lv_has ls 1 [(0, .ref m0)] := hl
  have hP : va_P D cls [(m0, .inr (6, mF g K (nI a, 0, p) e (nI np) B)), ((g 0), .inl (cA 3, 2000, .inl fd)), ((g 10), .inl (cA 3, 4, .inl pe))] s.heap := hP
  have hD : va_D A [(m0, .inr (6, mF g K (nI a, 0, p) e (nI np) B)), ((g 0), .inl (cA 3, 2000, .inl fd)), ((g 10), .inl (cA 3, 4, .inl pe))] := hD
  refine lv_aload_n hx hb d_Md_take_0 rfl (lv_at hl 0 rfl) ?_
  refine va_get (D := D) (ci := 6) (v := .int (nI a)) (C := R_Md) (T := F_Md) (N := 44) hx hb hts (fun w h => List.mem_cons_of_mem _ (i_Md w h)) hown hE.1 hP 0 rfl rfl 2 (by decide) (hts _ (List.mem_cons_of_mem _ iw3_56)) (fun _ h9 => h9) rfl d_Md_take_1 ?_
  refine lv_aload_n hx hb d_Md_take_4 rfl (lv_at hl 0 rfl) ?_
  refine va_get (D := D) (ci := 6) (v := .ref (g 10)) (C := R_Md) (T := F_Md) (N := 44) hx hb hts (fun w h => List.mem_cons_of_mem _ (i_Md w h)) hown hE.1 hP 0 rfl rfl 10 (by decide) (hts _ (List.mem_cons_of_mem _ iw3_64)) (fun _ h9 => h9) rfl d_Md_take_5 ?_
  refine lv_aload_n hx hb d_Md_take_8 rfl (lv_at hl 0 rfl) ?_
  refine va_get (D := D) (ci := 6) (v := .int (nI np)) (C := R_Md) (T := F_Md) (N := 44) hx hb hts (fun w h => List.mem_cons_of_mem _ (i_Md w h)) hown hE.1 hP 0 rfl rfl 9 (by decide) (hts _ (List.mem_cons_of_mem _ iw3_63)) (fun _ h9 => h9) rfl d_Md_take_9 ?_
  refine lv_iconst (v := 1) hx hb d_Md_take_12 (by decide) ?_
  refine lv_isub hx hb d_Md_take_13 ?_
  rw [np1 hnp]
  refine va_iald hx hb hE.1 hP 2 3 rfl rfl (vp_in_nI (by omega) (by omega)) d_Md_take_14 ?_
  rw [nI_clamp (n := np - 1) (by omega), hpe]
  refine lv_icmp_lt (tgt := 34) hx hb d_Md_take_15 (by decide) (fun c_15 => ?_) (fun c_15 => ?_)
  · refine lv_aload_n hx hb d_Md_take_34 rfl (lv_at hl 0 rfl) ?_
    refine va_get (D := D) (ci := 6) (v := .int 0) (C := R_Md) (T := F_Md) (N := 44) hx hb hts (fun w h => List.mem_cons_of_mem _ (i_Md w h)) hown hE.1 hP 0 rfl rfl 3 (by decide) (hts _ (List.mem_cons_of_mem _ iw3_57)) (fun _ h9 => h9) rfl d_Md_take_35 ?_
    refine lv_if_le (tgt := 43) hx hb d_Md_take_38 (by decide) (fun c_38 => ?_) (fun c_38 => absurd (by decide) c_38)
    have hh : a < lm := (nI_ltI (by omega) (by omega)).mp c_15
    refine lv_aload_n hx hb d_Md_take_43 rfl (lv_at hl 0 rfl) ?_
    refine lv_dup hx hb d_Md_take_44 rfl ?_
    refine va_get (D := D) (ci := 6) (v := .int (nI a)) (C := R_Md) (T := F_Md) (N := 44) hx hb hts (fun w h => List.mem_cons_of_mem _ (i_Md w h)) hown hE.1 hP 0 rfl rfl 2 (by decide) (hts _ (List.mem_cons_of_mem _ iw3_56)) (fun _ h9 => h9) rfl d_Md_take_45 ?_
    refine lv_iconst (v := 1) hx hb d_Md_take_48 (by decide) ?_
    refine lv_iadd hx hb d_Md_take_49 ?_
    rw [nI_1]
    refine va_put (D := D) (ci := 6) (v := .int (nI (a + 1))) (ty := .int) (C := R_Md) (T := F_Md) (N := 44) hx hb hts (fun w h => List.mem_cons_of_mem _ (i_Md w h)) t_Md tk_Md n_Md hown hE.1 hP hD hS 0 rfl rfl 2 (by decide) (hts _ (List.mem_cons_of_mem _ iw3_56)) (fun _ h9 => h9) rfl (by decide +kernel) rfl rfl (Nat.le_of_ble_eq_true rfl) d_Md_take_50 (fun H locs hP hD hS => ?_)
    have hP : va_P D cls [(m0, .inr (6, mF g K (nI (a + 1), 0, p) e (nI np) B)), ((g 0), .inl (cA 3, 2000, .inl fd)), ((g 10), .inl (cA 3, 4, .inl pe))] H := hP
    have hD : va_D A [(m0, .inr (6, mF g K (nI (a + 1), 0, p) e (nI np) B)), ((g 0), .inl (cA 3, 2000, .inl fd)), ((g 10), .inl (cA 3, 4, .inl pe))] := hD
    refine lv_aload_n hx hb d_Md_take_53 rfl (lv_at hl 0 rfl) ?_
    refine va_get (D := D) (ci := 6) (v := .ref (g 0)) (C := R_Md) (T := F_Md) (N := 44) hx hb hts (fun w h => List.mem_cons_of_mem _ (i_Md w h)) hown hE.1 hP 0 rfl rfl 0 (by decide) (hts _ (List.mem_cons_of_mem _ iw3_54)) (fun _ h9 => h9) rfl d_Md_take_54 ?_
    refine lv_aload_n hx hb d_Md_take_57 rfl (lv_at hl 0 rfl) ?_
    refine va_get (D := D) (ci := 6) (v := .int (nI (a + 1))) (C := R_Md) (T := F_Md) (N := 44) hx hb hts (fun w h => List.mem_cons_of_mem _ (i_Md w h)) hown hE.1 hP 0 rfl rfl 2 (by decide) (hts _ (List.mem_cons_of_mem _ iw3_56)) (fun _ h9 => h9) rfl d_Md_take_58 ?_
    refine lv_iconst (v := 1) hx hb d_Md_take_61 (by decide) ?_
    refine lv_isub hx hb d_Md_take_62 ?_
    rw [nI_pred]
    refine va_iald hx hb hE.1 hP 1 3 rfl rfl (vp_in_nI (by omega) (by omega)) d_Md_take_63 ?_
    rw [nI_clamp (n := a) (by omega), hfd a (by omega)]
    exact cRi ((nI (a + 1), 0, p) : A3) hx hb hr hlocks d_Md_take_64 hS hP hD (Or.inr ⟨b a, a + 1, by rw [pNext, if_pos hh], rfl, rfl⟩) (Nat.le_refl _) (Nat.le_refl _)
  · have hh : ¬ a < lm := fun q => c_15 (nI_lt q (by omega))
    refine lv_aload_n hx hb d_Md_take_18 rfl (lv_at hl 0 rfl) ?_
    refine lv_iconst (v := 1) hx hb d_Md_take_19 (by decide) ?_
    refine lv_aload_n hx hb d_Md_take_20 rfl (lv_at hl 0 rfl) ?_
    refine va_get (D := D) (ci := 6) (v := .ref (g 10)) (C := R_Md) (T := F_Md) (N := 44) hx hb hts (fun w h => List.mem_cons_of_mem _ (i_Md w h)) hown hE.1 hP 0 rfl rfl 10 (by decide) (hts _ (List.mem_cons_of_mem _ iw3_64)) (fun _ h9 => h9) rfl d_Md_take_21 ?_
    refine lv_aload_n hx hb d_Md_take_24 rfl (lv_at hl 0 rfl) ?_
    refine va_get (D := D) (ci := 6) (v := .int (nI np)) (C := R_Md) (T := F_Md) (N := 44) hx hb hts (fun w h => List.mem_cons_of_mem _ (i_Md w h)) hown hE.1 hP 0 rfl rfl 9 (by decide) (hts _ (List.mem_cons_of_mem _ iw3_63)) (fun _ h9 => h9) rfl d_Md_take_25 ?_
    refine lv_iconst (v := 1) hx hb d_Md_take_28 (by decide) ?_
    refine lv_isub hx hb d_Md_take_29 ?_
    rw [np1 hnp]
    refine va_iald hx hb hE.1 hP 2 3 rfl rfl (vp_in_nI (by omega) (by omega)) d_Md_take_30 ?_
    rw [nI_clamp (n := np - 1) (by omega), hpe]
    refine cV (As := [.int 1, .int (nI lm)]) (rest := []) (n := 2) (wc := [(m0, .inr (6, mF g K (nI a, 0, p) e (nI np) B))]) (wr := [((g 0), .inl (cA 3, 2000, .inl fd)), ((g 10), .inl (cA 3, 4, .inl pe))]) ⟨hx, hb, hml, hown, hts⟩ hno hlocks hl.1 (c_Md_stop l hl9 D cA ad s.heap.size m0 g K e (nI np) B (nI a) p (1 : Int32) (nI lm)) iw3_216 iw3_218 sel_Md_stop iw1_7 iw3_219 (by decide +kernel) rfl ⟨Nat.le_of_ble_eq_true rfl, Nat.le_of_ble_eq_true rfl⟩ ⟨Nat.le_of_ble_eq_true rfl, Nat.le_of_ble_eq_true rfl⟩ rfl (Nat.le_of_ble_eq_true rfl) d_Md_take_31 hE hP hD hS hA [0] [1, 2] rfl rfl rfl rfl (by decide) (ci := 6) rfl rfl 0 rfl (fun _ h => h.elim) (fun v_31 u_31 H locs hp_31 hP hD hS => ?_)
    obtain rfl := hp_31
    have hP : va_P D cls [(m0, .inr (6, mF g K (nI a, 1, nI lm) e (nI np) B)), ((g 0), .inl (cA 3, 2000, .inl fd)), ((g 10), .inl (cA 3, 4, .inl pe))] H := hP.sub [2, 0, 1] rfl
    have hD : va_D A [(m0, .inr (6, mF g K (nI a, 1, nI lm) e (nI np) B)), ((g 0), .inl (cA 3, 2000, .inl fd)), ((g 10), .inl (cA 3, 4, .inl pe))] := hD.sub [2, 0, 1] (by decide) rfl
    refine W.cs (cells' := 0) (slots' := 0) rfl rfl ?_
    refine W.eq (g2 := F0 m 34 ls []) rfl ?_
    refine lv_aload_n hx hb d_Md_take_34 rfl (lv_at hl 0 rfl) ?_
    refine va_get (D := D) (ci := 6) (v := .int 1) (C := R_Md) (T := F_Md) (N := 44) hx hb hts (fun w h => List.mem_cons_of_mem _ (i_Md w h)) hown hE.1 hP 0 rfl rfl 3 (by decide) (hts _ (List.mem_cons_of_mem _ iw3_57)) (fun _ h9 => h9) rfl d_Md_take_35 ?_
    refine lv_if_le (tgt := 43) hx hb d_Md_take_38 (by decide) (fun c_38 => absurd c_38 (by decide)) (fun c_38 => ?_)
    refine lv_iconst (v := 0) hx hb d_Md_take_41 (by decide) ?_
    exact cRi ((nI a, 1, nI lm) : A3) hx hb hr hlocks d_Md_take_42 hS hP hD (Or.inl ⟨1, lm, by rw [pNext, if_neg hh], ⟨by decide, by decide⟩, rfl, rfl, a, by omega, rfl⟩) (Nat.le_refl _) (Nat.le_refl _)
set_option maxHeartbeats 4000000 in
set_option maxRecDepth 100000 in
/-- take() after a fault -/
theorem c_Md_takeF (l : Launch) (hl9 : l.stackTraces = false) (D : va_G) (cA : Nat → ClassId) (ad : Nat → Nat) (sz : Nat) (m0 : Nat) (g : Nat → Nat) (K : MK) (e : Int32) (np : Nat) (B : MB) (fd pe : Nat → Int32) (hnp : 1 ≤ np ∧ np ≤ 4) (x ff p : Int32) (hf : ¬ ff = 0 ∧ ¬ ff ≤ 0)  :
    cM l y_Md_take (.code y_Md_take b_Md_take 1 (some .int) :: wAll) ({ frames := 1, cells := 0, slots := 0, locals := 22 }) D cA ad [.ref m0] [(m0, .inr (6, mF g K (x, ff, p) e (nI np) B)), ((g 0), .inl (cA 3, 2000, .inl fd)), ((g 10), .inl (cA 3, 4, .inl pe))] sz (fun v (_ : Unit) => v = some (.int 0)) (fun _ => False) (fun _ => [(m0, .inr (6, mF g K (x, ff, p) e (nI np) B)), ((g 0), .inl (cA 3, 2000, .inl fd)), ((g 10), .inl (cA 3, 4, .inl pe))]) (fun _ => (0, 0)) := by
  refine cM.ofW (cc := b_Md_take) (maxL := 1) (ret := (some .int)) (by decide) (Nat.le_of_ble_eq_true rfl) ?_
  intro pg ev s m bw meth cdx A ls hF hsz hA hE hP hD hl
  obtain ⟨⟨hx, hb, hml, hown, hts⟩, hr, hno, hlocks, hin⟩ := hF
  subst hsz
  have hown : s.vm.findClass "ModuleBytesModel" = some m.cls := hown
  have hS : va_S A s.heap s.heap [] := va_S.rf
  have hl : lv_has ls 1 [(0, .ref m0)] := hl
  have hP : va_P D cls [(m0, .inr (6, mF g K (x, ff, p) e (nI np) B)), ((g 0), .inl (cA 3, 2000, .inl fd)), ((g 10), .inl (cA 3, 4, .inl pe))] s.heap := hP
  have hD : va_D A [(m0, .inr (6, mF g K (x, ff, p) e (nI np) B)), ((g 0), .inl (cA 3, 2000, .inl fd)), ((g 10), .inl (cA 3, 4, .inl pe))] := hD
  refine lv_aload_n hx hb d_Md_take_0 rfl (lv_at hl 0 rfl) ?_
  refine va_get (D := D) (ci := 6) (v := .int x) (C := R_Md) (T := F_Md) (N := 44) hx hb hts (fun w h => List.mem_cons_of_mem _ (i_Md w h)) hown hE.1 hP 0 rfl rfl 2 (by decide) (hts _ (List.mem_cons_of_mem _ iw3_56)) (fun _ h9 => h9) rfl d_Md_take_1 ?_
  refine lv_aload_n hx hb d_Md_take_4 rfl (lv_at hl 0 rfl) ?_
  refine va_get (D := D) (ci := 6) (v := .ref (g 10)) (C := R_Md) (T := F_Md) (N := 44) hx hb hts (fun w h => List.mem_cons_of_mem _ (i_Md w h)) hown hE.1 hP 0 rfl rfl 10 (by decide) (hts _ (List.mem_cons_of_mem _ iw3_64)) (fun _ h9 => h9) rfl d_Md_take_5 ?_
  refine lv_aload_n hx hb d_Md_take_8 rfl (lv_at hl 0 rfl) ?_
  refine va_get (D := D) (ci := 6) (v := .int (nI np)) (C := R_Md) (T := F_Md) (N := 44) hx hb hts (fun w h => List.mem_cons_of_mem _ (i_Md w h)) hown hE.1 hP 0 rfl rfl 9 (by decide) (hts _ (List.mem_cons_of_mem _ iw3_63)) (fun _ h9 => h9) rfl d_Md_take_9 ?_
  refine lv_iconst (v := 1) hx hb d_Md_take_12 (by decide) ?_
  refine lv_isub hx hb d_Md_take_13 ?_
  rw [np1 hnp]
  refine va_iald hx hb hE.1 hP 2 3 rfl rfl (vp_in_nI (by omega) (by omega)) d_Md_take_14 ?_
  refine lv_topi (fun L14 eL14 => ?_)
  refine lv_icmp_lt (tgt := 34) hx hb d_Md_take_15 (by decide) (fun c_15 => ?_) (fun c_15 => ?_)
  · refine lv_aload_n hx hb d_Md_take_34 rfl (lv_at hl 0 rfl) ?_
    refine va_get (D := D) (ci := 6) (v := .int ff) (C := R_Md) (T := F_Md) (N := 44) hx hb hts (fun w h => List.mem_cons_of_mem _ (i_Md w h)) hown hE.1 hP 0 rfl rfl 3 (by decide) (hts _ (List.mem_cons_of_mem _ iw3_57)) (fun _ h9 => h9) rfl d_Md_take_35 ?_
    refine lv_if_le (tgt := 43) hx hb d_Md_take_38 (by decide) (fun c_38 => absurd c_38 (hf.2)) (fun c_38 => ?_)
    refine lv_iconst (v := 0) hx hb d_Md_take_41 (by decide) ?_
    exact cRi () hx hb hr hlocks d_Md_take_42 hS hP hD (rfl) (Nat.le_refl _) (Nat.le_refl _)
  · refine lv_aload_n hx hb d_Md_take_18 rfl (lv_at hl 0 rfl) ?_
    refine lv_iconst (v := 1) hx hb d_Md_take_19 (by decide) ?_
    refine lv_aload_n hx hb d_Md_take_20 rfl (lv_at hl 0 rfl) ?_
    refine va_get (D := D) (ci := 6) (v := .ref (g 10)) (C := R_Md) (T := F_Md) (N := 44) hx hb hts (fun w h => List.mem_cons_of_mem _ (i_Md w h)) hown hE.1 hP 0 rfl rfl 10 (by decide) (hts _ (List.mem_cons_of_mem _ iw3_64)) (fun _ h9 => h9) rfl d_Md_take_21 ?_
    refine lv_aload_n hx hb d_Md_take_24 rfl (lv_at hl 0 rfl) ?_
    refine va_get (D := D) (ci := 6) (v := .int (nI np)) (C := R_Md) (T := F_Md) (N := 44) hx hb hts (fun w h => List.mem_cons_of_mem _ (i_Md w h)) hown hE.1 hP 0 rfl rfl 9 (by decide) (hts _ (List.mem_cons_of_mem _ iw3_63)) (fun _ h9 => h9) rfl d_Md_take_25 ?_
    refine lv_iconst (v := 1) hx hb d_Md_take_28 (by decide) ?_
    refine lv_isub hx hb d_Md_take_29 ?_
    rw [np1 hnp]
    refine va_iald hx hb hE.1 hP 2 3 rfl rfl (vp_in_nI (by omega) (by omega)) d_Md_take_30 ?_
    refine lv_topi (fun L30 eL30 => ?_)
    refine cV (As := [.int 1, .int L30]) (rest := []) (n := 2) (wc := [(m0, .inr (6, mF g K (x, ff, p) e (nI np) B))]) (wr := [((g 0), .inl (cA 3, 2000, .inl fd)), ((g 10), .inl (cA 3, 4, .inl pe))]) ⟨hx, hb, hml, hown, hts⟩ hno hlocks hl.1 (c_Md_stopF l hl9 D cA ad s.heap.size m0 g K e (nI np) B x ff p (1 : Int32) L30 hf) iw3_216 iw3_218 sel_Md_stop iw1_7 iw3_219 (by decide +kernel) rfl ⟨Nat.le_of_ble_eq_true rfl, Nat.le_of_ble_eq_true rfl⟩ ⟨Nat.le_of_ble_eq_true rfl, Nat.le_of_ble_eq_true rfl⟩ rfl (Nat.le_of_ble_eq_true rfl) d_Md_take_31 hE hP hD hS hA [0] [1, 2] rfl rfl rfl rfl (by decide) (ci := 6) rfl rfl 0 rfl (fun _ h => h.elim) (fun v_31 u_31 H locs hp_31 hP hD hS => ?_)
    obtain rfl := hp_31
    have hP : va_P D cls [(m0, .inr (6, mF g K (x, ff, p) e (nI np) B)), ((g 0), .inl (cA 3, 2000, .inl fd)), ((g 10), .inl (cA 3, 4, .inl pe))] H := hP.sub [2, 0, 1] rfl
    have hD : va_D A [(m0, .inr (6, mF g K (x, ff, p) e (nI np) B)), ((g 0), .inl (cA 3, 2000, .inl fd)), ((g 10), .inl (cA 3, 4, .inl pe))] := hD.sub [2, 0, 1] (by decide) rfl
    refine W.cs (cells' := 0) (slots' := 0) rfl rfl ?_
    refine W.eq (g2 := F0 m 34 ls []) rfl ?_
    refine lv_aload_n hx hb d_Md_take_34 rfl (lv_at hl 0 rfl) ?_
    refine va_get (D := D) (ci := 6) (v := .int ff) (C := R_Md) (T := F_Md) (N := 44) hx hb hts (fun w h => List.mem_cons_of_mem _ (i_Md w h)) hown hE.1 hP 0 rfl rfl 3 (by decide) (hts _ (List.mem_cons_of_mem _ iw3_57)) (fun _ h9 => h9) rfl d_Md_take_35 ?_
    refine lv_if_le (tgt := 43) hx hb d_Md_take_38 (by decide) (fun c_38 => absurd c_38 (hf.2)) (fun c_38 => ?_)
    refine lv_iconst (v := 0) hx hb d_Md_take_41 (by decide) ?_
    exact cRi () hx hb hr hlocks d_Md_take_42 hS hP hD (rfl) (Nat.le_refl _) (Nat.le_refl _)
theorem pNext_ok2 {b : Nat → Nat} {lm a g a' : Nat} (h : pNext b lm a = .inr (g, a')) (hb : ∀ i, b i < 256) : a' ≤ lm ∧ a < a' ∧ g = b a ∧ g < 256 ∧ a' = a + 1 := by
  obtain ⟨h1, h2, h3⟩ := pNext_ok h
  have := hb a
  refine ⟨by omega, by omega, h3, by omega, h2⟩
set_option maxHeartbeats 4000000 in
set_option maxRecDepth 100000 in
/-- takeU32() -/
theorem c_Md_takeU32 (l : Launch) (hl9 : l.stackTraces = false) (D : va_G) (cA : Nat → ClassId) (ad : Nat → Nat) (sz : Nat) (m0 : Nat) (g : Nat → Nat) (K : MK) (e : Int32) (np : Nat) (B : MB) (fd pe : Nat → Int32) (b : Nat → Nat) (N lm : Nat) (hnp : 1 ≤ np ∧ np ≤ 4) (hpe : pe (np - 1) = nI lm) (hlm : lm ≤ N) (hN : N ≤ 2000) (hfd : ∀ i, i < N → fd i = nI (b i)) (hb9 : ∀ i, b i < 256) (a : Nat) (p : Int32) (ha : a ≤ lm)  :
    cM l y_Md_takeU32 (.code y_Md_takeU32 b_Md_takeU32 5 (some .long) :: wAll) ({ frames := 2, cells := 0, slots := 0, locals := 42 }) D cA ad [.ref m0] [(m0, .inr (6, mF g K (nI a, 0, p) e (nI np) B)), ((g 0), .inl (cA 3, 2000, .inl fd)), ((g 10), .inl (cA 3, 4, .inl pe))] sz (oP (pU32 b lm a) p fL vL) (fun _ => False) (fun (u : A3) => [(m0, .inr (6, mF g K u e (nI np) B)), ((g 0), .inl (cA 3, 2000, .inl fd)), ((g 10), .inl (cA 3, 4, .inl pe))]) (fun _ => (0, 0)) := by
  refine cM.ofW (cc := b_Md_takeU32) (maxL := 5) (ret := (some .long)) (by decide) (Nat.le_of_ble_eq_true rfl) ?_
  intro pg ev s m bw meth cdx A ls hF hsz hA hE hP hD hl
  obtain ⟨⟨hx, hb, hml, hown, hts⟩, hr, hno, hlocks, hin⟩ := hF
  subst hsz
  have hown : s.vm.findClass "ModuleBytesModel" = some m.cls := hown
  have hS : va_S A s.heap s.heap [] := va_S.rf
  have hl : lv_has ls 5 [(0, .ref m0)] := hl
  have hP : va_P D cls [(m0, .inr (6, mF g K (nI a, 0, p) e (nI np) B)), ((g 0), .inl (cA 3, 2000, .inl fd)), ((g 10), .inl (cA 3, 4, .inl pe))] s.heap := hP
  have hD : va_D A [(m0, .inr (6, mF g K (nI a, 0, p) e (nI np) B)), ((g 0), .inl (cA 3, 2000, .inl fd)), ((g 10), .inl (cA 3, 4, .inl pe))] := hD
  have hU0 : pU32 b lm a = pUg b lm 5 0 a 0 := rfl
  refine lv_lconst (v := 0) hx hb d_Md_takeU32_0 (by decide) ?_
  refine lv_lstore_n (lv' := [(1, .long 0), (0, .ref m0)]) hx hb d_Md_takeU32_1 rfl hl (by decide) rfl (fun ls hl => ?_)
  refine lv_iconst (v := 0) hx hb d_Md_takeU32_2 (by decide) ?_
  refine lv_istore_n (lv' := [(3, .int 0), (1, .long 0), (0, .ref m0)]) hx hb d_Md_takeU32_3 rfl hl (by decide) rfl (fun ls hl => ?_)
  refine lv_iload_n hx hb d_Md_takeU32_4 rfl (lv_at hl 0 rfl) ?_
  refine lv_iconst (v := 5) hx hb d_Md_takeU32_5 (by decide) ?_
  refine lv_icmp_ge (tgt := 75) hx hb d_Md_takeU32_6 (by decide) (fun c_6 => absurd c_6 (by decide)) (fun c_6 => ?_)
  refine lv_aload_n hx hb d_Md_takeU32_9 rfl (lv_at hl 2 rfl) ?_
  refine va_get (D := D) (ci := 6) (v := .int 0) (C := R_Md) (T := F_Md) (N := 44) hx hb hts (fun w h => List.mem_cons_of_mem _ (i_Md w h)) hown hE.1 hP 0 rfl rfl 3 (by decide) (hts _ (List.mem_cons_of_mem _ iw3_57)) (fun _ h9 => h9) rfl d_Md_takeU32_10 ?_
  refine lv_if_ne (tgt := 75) hx hb d_Md_takeU32_13 (by decide) (fun c_13 => absurd (by decide) c_13) (fun c_13 => ?_)
  refine lv_aload_n hx hb d_Md_takeU32_16 rfl (lv_at hl 2 rfl) ?_
  refine cV (As := []) (rest := []) (n := 0) (wc := [(m0, .inr (6, mF g K (nI a, 0, p) e (nI np) B)), ((g 0), .inl (cA 3, 2000, .inl fd)), ((g 10), .inl (cA 3, 4, .inl pe))]) (wr := []) ⟨hx, hb, hml, hown, hts⟩ hno hlocks hl.1 (c_Md_take l hl9 D cA ad s.heap.size m0 g K e np B fd pe b N lm hnp hpe hlm hN hfd hb9 a p (by omega) ) iw3_212 iw3_214 sel_Md_take iw1_7 iw3_215 (by decide +kernel) rfl ⟨Nat.le_of_ble_eq_true rfl, Nat.le_of_ble_eq_true rfl⟩ ⟨Nat.le_of_ble_eq_true rfl, Nat.le_of_ble_eq_true rfl⟩ rfl (Nat.le_of_ble_eq_true rfl) d_Md_takeU32_17 hE hP hD hS hA [0, 1, 2] [] rfl rfl rfl rfl (by decide) (ci := 6) rfl rfl 0 rfl (fun _ h => h.elim) (fun v_17 u_17 H locs hp_17 hP hD hS => ?_)
  rcases hp_17 with ⟨f1, q1, hr1, hf1, hB1, rfl, zz1, hzz1, hzx1⟩ | ⟨v1, a1, hr1, rfl, rfl⟩
  · obtain ⟨x1, y1, z1⟩ := u_17
    cases hB1
    have hzx1 : x1 = nI zz1 := hzx1
    subst hzx1
    have hP : va_P D cls [(m0, .inr (6, mF g K (nI zz1, nI f1, nI q1) e (nI np) B)), ((g 0), .inl (cA 3, 2000, .inl fd)), ((g 10), .inl (cA 3, 4, .inl pe))] H := hP
    have hD : va_D A [(m0, .inr (6, mF g K (nI zz1, nI f1, nI q1) e (nI np) B)), ((g 0), .inl (cA 3, 2000, .inl fd)), ((g 10), .inl (cA 3, 4, .inl pe))] := hD
    refine W.cs (cells' := 0) (slots' := 0) rfl rfl ?_
    refine W.eq (g2 := F0 m 20 ls [.int 0]) rfl ?_
    refine lv_istore (lv' := [(4, .int 0), (3, .int 0), (1, .long 0), (0, .ref m0)]) hx hb d_Md_takeU32_20 hl (by decide) rfl (fun ls hl => ?_)
    refine lv_iload_n hx hb d_Md_takeU32_22 rfl (lv_at hl 1 rfl) ?_
    refine lv_iconst (v := 4) hx hb d_Md_takeU32_23 (by decide) ?_
    refine lv_icmp_ne (tgt := 45) hx hb d_Md_takeU32_24 (by decide) (fun c_24 => ?_) (fun c_24 => absurd c_24 (by decide))
    refine lv_lload_n hx hb d_Md_takeU32_45 rfl (lv_at hl 2 rfl) ?_
    refine lv_iload hx hb d_Md_takeU32_46 (lv_at hl 0 rfl) ?_
    refine lv_bipush (v := 127) hx hb d_Md_takeU32_48 (by decide) ?_
    refine lv_iand hx hb d_Md_takeU32_50 ?_
    refine W.eq (g2 := F0 m 51 ls [.int 0, .long 0]) (by rw [show (0 : Int32) &&& 127 = 0 from by decide +kernel]) ?_
    refine lv_i2l hx hb d_Md_takeU32_51 rfl ?_
    refine lv_bipush (v := 7) hx hb d_Md_takeU32_52 (by decide) ?_
    refine lv_iload_n hx hb d_Md_takeU32_54 rfl (lv_at hl 1 rfl) ?_
    refine lv_imul hx hb d_Md_takeU32_55 ?_
    refine W.eq (g2 := F0 m 56 ls [.int 0, .long ((0 : Int32).toInt64), .long 0]) (by rw [show (7 : Int32) * 0 = 0 from by decide +kernel]) ?_
    refine lv_lshl hx hb d_Md_takeU32_56 rfl ?_
    refine lv_lor hx hb d_Md_takeU32_57 ?_
    refine lv_topl (fun yF eyF => ?_)
    refine lv_lstore_n (lv' := [(1, .long yF), (4, .int 0), (3, .int 0), (0, .ref m0)]) hx hb d_Md_takeU32_58 rfl hl (by decide) rfl (fun ls hl => ?_)
    refine lv_iload hx hb d_Md_takeU32_59 (lv_at hl 1 rfl) ?_
    refine lv_sipush (v := 128) hx hb d_Md_takeU32_61 (by decide) ?_
    refine lv_icmp_ge (tgt := 69) hx hb d_Md_takeU32_64 (by decide) (fun c_64 => absurd c_64 (by decide)) (fun c_64 => ?_)
    refine lv_lload_n hx hb d_Md_takeU32_67 rfl (lv_at hl 0 rfl) ?_
    exact cRl ((nI zz1, nI f1, nI q1) : A3) hx hb hr hlocks d_Md_takeU32_68 hS hP hD (Or.inl ⟨f1, q1, by rw [hU0, pUg_T hr1], hf1, rfl, ⟨_, rfl⟩, zz1, by omega, rfl⟩) (Nat.le_refl _) (Nat.le_refl _)
  · obtain ⟨hla1, hgt1, hv1, hbd1⟩ := (pNext_ok2 hr1 hb9)
    have hP : va_P D cls [(m0, .inr (6, mF g K (nI a1, 0, p) e (nI np) B)), ((g 0), .inl (cA 3, 2000, .inl fd)), ((g 10), .inl (cA 3, 4, .inl pe))] H := hP
    have hD : va_D A [(m0, .inr (6, mF g K (nI a1, 0, p) e (nI np) B)), ((g 0), .inl (cA 3, 2000, .inl fd)), ((g 10), .inl (cA 3, 4, .inl pe))] := hD
    refine W.cs (cells' := 0) (slots' := 0) rfl rfl ?_
    refine W.eq (g2 := F0 m 20 ls [.int (nI v1)]) rfl ?_
    obtain ⟨hbd1, ean1⟩ := hbd1
    subst ean1
    have hP : va_P D cls [(m0, .inr (6, mF g K (nI (a + 1), 0, p) e (nI np) B)), ((g 0), .inl (cA 3, 2000, .inl fd)), ((g 10), .inl (cA 3, 4, .inl pe))] H := hP
    have hD : va_D A [(m0, .inr (6, mF g K (nI (a + 1), 0, p) e (nI np) B)), ((g 0), .inl (cA 3, 2000, .inl fd)), ((g 10), .inl (cA 3, 4, .inl pe))] := hD
    refine lv_istore (lv' := [(4, .int (nI v1)), (3, .int 0), (1, .long 0), (0, .ref m0)]) hx hb d_Md_takeU32_20 hl (by decide) rfl (fun ls hl => ?_)
    refine lv_iload_n hx hb d_Md_takeU32_22 rfl (lv_at hl 1 rfl) ?_
    refine lv_iconst (v := 4) hx hb d_Md_takeU32_23 (by decide) ?_
    refine lv_icmp_ne (tgt := 45) hx hb d_Md_takeU32_24 (by decide) (fun c_24 => ?_) (fun c_24 => absurd c_24 (by decide))
    have ho0 : ¬ (4 = 0 ∧ 15 < v1) := fun q => absurd q.1 (by decide)
    refine lv_lload_n hx hb d_Md_takeU32_45 rfl (lv_at hl 2 rfl) ?_
    refine lv_iload hx hb d_Md_takeU32_46 (lv_at hl 0 rfl) ?_
    refine lv_bipush (v := 127) hx hb d_Md_takeU32_48 (by decide) ?_
    refine lv_iand hx hb d_Md_takeU32_50 ?_
    refine lv_i2l hx hb d_Md_takeU32_51 rfl ?_
    refine lv_bipush (v := 7) hx hb d_Md_takeU32_52 (by decide) ?_
    refine lv_iload_n hx hb d_Md_takeU32_54 rfl (lv_at hl 1 rfl) ?_
    refine lv_imul hx hb d_Md_takeU32_55 ?_
    refine W.eq (g2 := F0 m 56 ls [.int 0, .long (((nI v1) &&& 127).toInt64), .long 0]) (by rw [show (7 : Int32) * 0 = 0 from by decide +kernel]) ?_
    refine lv_lshl hx hb d_Md_takeU32_56 rfl ?_
    refine lv_lor hx hb d_Md_takeU32_57 ?_
    refine lv_topl (fun y0_ ey0_ => ?_)
    have hy0_ : y0_ = lN (0 + v1 % 128 * 2 ^ 0) := ey0_.trans (u_step 0 (by decide) (by decide) (v := 0) (by decide) hbd1)
    have hW0 : 0 + v1 % 128 * 2 ^ 0 < 2 ^ 7 := u_bd (k := 0) (by decide)
    have hE0 := @pUg_E b lm 4 0 a 0 _ _ hr1 ho0
    have hC0 := @pUg_C b lm 4 0 a 0 _ _ hr1 ho0
    rw [← hU0] at hE0 hC0
    generalize 0 + v1 % 128 * 2 ^ 0 = V1 at hy0_ hW0 hE0 hC0
    subst hy0_
    refine lv_lstore_n (lv' := [(1, .long (lN V1)), (4, .int (nI v1)), (3, .int 0), (0, .ref m0)]) hx hb d_Md_takeU32_58 rfl hl (by decide) rfl (fun ls hl => ?_)
    refine lv_iload hx hb d_Md_takeU32_59 (lv_at hl 1 rfl) ?_
    refine lv_sipush (v := 128) hx hb d_Md_takeU32_61 (by decide) ?_
    refine lv_icmp_ge (tgt := 69) hx hb d_Md_takeU32_64 (by decide) (fun c_64 => ?_) (fun c_64 => ?_)
    · have hd0 : ¬ v1 < 128 := fun q => absurd ((nI_leI (a := 128) (b := v1) (by omega) (by omega)).mp c_64) (by omega)
      have hV1 := hW0
      have hU1 := hC0 hd0
      refine lv_iinc (v := 1) (lv' := [(3, .int 1), (1, .long (lN V1)), (4, .int (nI v1)), (0, .ref m0)]) hx hb d_Md_takeU32_69 hl (k := 2) rfl (by decide) (by decide) rfl (fun ls hl => ?_)
      refine lv_goto (tgt := 4) hx hb d_Md_takeU32_72 (by decide) ?_
      refine lv_iload_n hx hb d_Md_takeU32_4 rfl (lv_at hl 0 rfl) ?_
      refine lv_iconst (v := 5) hx hb d_Md_takeU32_5 (by decide) ?_
      refine lv_icmp_ge (tgt := 75) hx hb d_Md_takeU32_6 (by decide) (fun c_6 => absurd c_6 (by decide)) (fun c_6 => ?_)
      refine lv_aload_n hx hb d_Md_takeU32_9 rfl (lv_at hl 3 rfl) ?_
      refine va_get (D := D) (ci := 6) (v := .int 0) (C := R_Md) (T := F_Md) (N := 44) hx hb hts (fun w h => List.mem_cons_of_mem _ (i_Md w h)) hown hE.1 hP 0 rfl rfl 3 (by decide) (hts _ (List.mem_cons_of_mem _ iw3_57)) (fun _ h9 => h9) rfl d_Md_takeU32_10 ?_
      refine lv_if_ne (tgt := 75) hx hb d_Md_takeU32_13 (by decide) (fun c_13 => absurd (by decide) c_13) (fun c_13 => ?_)
      refine lv_aload_n hx hb d_Md_takeU32_16 rfl (lv_at hl 3 rfl) ?_
      refine cV (As := []) (rest := []) (n := 0) (wc := [(m0, .inr (6, mF g K (nI (a + 1), 0, p) e (nI np) B)), ((g 0), .inl (cA 3, 2000, .inl fd)), ((g 10), .inl (cA 3, 4, .inl pe))]) (wr := []) ⟨hx, hb, hml, hown, hts⟩ hno hlocks hl.1 (c_Md_take l hl9 D cA ad H.size m0 g K e np B fd pe b N lm hnp hpe hlm hN hfd hb9 (a + 1) p (by omega) ) iw3_212 iw3_214 sel_Md_take iw1_7 iw3_215 (by decide +kernel) rfl ⟨Nat.le_of_ble_eq_true rfl, Nat.le_of_ble_eq_true rfl⟩ ⟨Nat.le_of_ble_eq_true rfl, Nat.le_of_ble_eq_true rfl⟩ rfl (Nat.le_of_ble_eq_true rfl) d_Md_takeU32_17 hE hP hD hS hA [0, 1, 2] [] rfl rfl rfl rfl (by decide) (ci := 6) rfl rfl 0 rfl (fun _ h => h.elim) (fun v_17 u_17 H locs hp_17 hP hD hS => ?_)
      rcases hp_17 with ⟨f2, q2, hr2, hf2, hB2, rfl, zz2, hzz2, hzx2⟩ | ⟨v2, a2, hr2, rfl, rfl⟩
      · obtain ⟨x2, y2, z2⟩ := u_17
        cases hB2
        have hzx2 : x2 = nI zz2 := hzx2
        subst hzx2
        have hP : va_P D cls [(m0, .inr (6, mF g K (nI zz2, nI f2, nI q2) e (nI np) B)), ((g 0), .inl (cA 3, 2000, .inl fd)), ((g 10), .inl (cA 3, 4, .inl pe))] H := hP
        have hD : va_D A [(m0, .inr (6, mF g K (nI zz2, nI f2, nI q2) e (nI np) B)), ((g 0), .inl (cA 3, 2000, .inl fd)), ((g 10), .inl (cA 3, 4, .inl pe))] := hD
        refine W.cs (cells' := 0) (slots' := 0) rfl rfl ?_
        refine W.eq (g2 := F0 m 20 ls [.int 0]) rfl ?_
        refine lv_istore (lv' := [(4, .int 0), (3, .int 1), (1, .long (lN V1)), (0, .ref m0)]) hx hb d_Md_takeU32_20 hl (by decide) rfl (fun ls hl => ?_)
        refine lv_iload_n hx hb d_Md_takeU32_22 rfl (lv_at hl 1 rfl) ?_
        refine lv_iconst (v := 4) hx hb d_Md_takeU32_23 (by decide) ?_
        refine lv_icmp_ne (tgt := 45) hx hb d_Md_takeU32_24 (by decide) (fun c_24 => ?_) (fun c_24 => absurd c_24 (by decide))
        refine lv_lload_n hx hb d_Md_takeU32_45 rfl (lv_at hl 2 rfl) ?_
        refine lv_iload hx hb d_Md_takeU32_46 (lv_at hl 0 rfl) ?_
        refine lv_bipush (v := 127) hx hb d_Md_takeU32_48 (by decide) ?_
        refine lv_iand hx hb d_Md_takeU32_50 ?_
        refine W.eq (g2 := F0 m 51 ls [.int 0, .long (lN V1)]) (by rw [show (0 : Int32) &&& 127 = 0 from by decide +kernel]) ?_
        refine lv_i2l hx hb d_Md_takeU32_51 rfl ?_
        refine lv_bipush (v := 7) hx hb d_Md_takeU32_52 (by decide) ?_
        refine lv_iload_n hx hb d_Md_takeU32_54 rfl (lv_at hl 1 rfl) ?_
        refine lv_imul hx hb d_Md_takeU32_55 ?_
        refine W.eq (g2 := F0 m 56 ls [.int 7, .long ((0 : Int32).toInt64), .long (lN V1)]) (by rw [show (7 : Int32) * 1 = 7 from by decide +kernel]) ?_
        refine lv_lshl hx hb d_Md_takeU32_56 rfl ?_
        refine lv_lor hx hb d_Md_takeU32_57 ?_
        refine lv_topl (fun yF eyF => ?_)
        refine lv_lstore_n (lv' := [(1, .long yF), (4, .int 0), (3, .int 1), (0, .ref m0)]) hx hb d_Md_takeU32_58 rfl hl (by decide) rfl (fun ls hl => ?_)
        refine lv_iload hx hb d_Md_takeU32_59 (lv_at hl 1 rfl) ?_
        refine lv_sipush (v := 128) hx hb d_Md_takeU32_61 (by decide) ?_
        refine lv_icmp_ge (tgt := 69) hx hb d_Md_takeU32_64 (by decide) (fun c_64 => absurd c_64 (by decide)) (fun c_64 => ?_)
        refine lv_lload_n hx hb d_Md_takeU32_67 rfl (lv_at hl 0 rfl) ?_
        exact cRl ((nI zz2, nI f2, nI q2) : A3) hx hb hr hlocks d_Md_takeU32_68 hS hP hD (Or.inl ⟨f2, q2, by rw [hU1, pUg_T hr2], hf2, rfl, ⟨_, rfl⟩, zz2, by omega, rfl⟩) (Nat.le_refl _) (Nat.le_refl _)
      · obtain ⟨hla2, hgt2, hv2, hbd2⟩ := (pNext_ok2 hr2 hb9)
        have hP : va_P D cls [(m0, .inr (6, mF g K (nI a2, 0, p) e (nI np) B)), ((g 0), .inl (cA 3, 2000, .inl fd)), ((g 10), .inl (cA 3, 4, .inl pe))] H := hP
        have hD : va_D A [(m0, .inr (6, mF g K (nI a2, 0, p) e (nI np) B)), ((g 0), .inl (cA 3, 2000, .inl fd)), ((g 10), .inl (cA 3, 4, .inl pe))] := hD
        refine W.cs (cells' := 0) (slots' := 0) rfl rfl ?_
        refine W.eq (g2 := F0 m 20 ls [.int (nI v2)]) rfl ?_
        obtain ⟨hbd2, ean2⟩ := hbd2
        subst ean2
        have hP : va_P D cls [(m0, .inr (6, mF g K (nI ((a + 1) + 1), 0, p) e (nI np) B)), ((g 0), .inl (cA 3, 2000, .inl fd)), ((g 10), .inl (cA 3, 4, .inl pe))] H := hP
        have hD : va_D A [(m0, .inr (6, mF g K (nI ((a + 1) + 1), 0, p) e (nI np) B)), ((g 0), .inl (cA 3, 2000, .inl fd)), ((g 10), .inl (cA 3, 4, .inl pe))] := hD
        refine lv_istore (lv' := [(4, .int (nI v2)), (3, .int 1), (1, .long (lN V1)), (0, .ref m0)]) hx hb d_Md_takeU32_20 hl (by decide) rfl (fun ls hl => ?_)
        refine lv_iload_n hx hb d_Md_takeU32_22 rfl (lv_at hl 1 rfl) ?_
        refine lv_iconst (v := 4) hx hb d_Md_takeU32_23 (by decide) ?_
        refine lv_icmp_ne (tgt := 45) hx hb d_Md_takeU32_24 (by decide) (fun c_24 => ?_) (fun c_24 => absurd c_24 (by decide))
        have ho1 : ¬ (3 = 0 ∧ 15 < v2) := fun q => absurd q.1 (by decide)
        refine lv_lload_n hx hb d_Md_takeU32_45 rfl (lv_at hl 2 rfl) ?_
        refine lv_iload hx hb d_Md_takeU32_46 (lv_at hl 0 rfl) ?_
        refine lv_bipush (v := 127) hx hb d_Md_takeU32_48 (by decide) ?_
        refine lv_iand hx hb d_Md_takeU32_50 ?_
        refine lv_i2l hx hb d_Md_takeU32_51 rfl ?_
        refine lv_bipush (v := 7) hx hb d_Md_takeU32_52 (by decide) ?_
        refine lv_iload_n hx hb d_Md_takeU32_54 rfl (lv_at hl 1 rfl) ?_
        refine lv_imul hx hb d_Md_takeU32_55 ?_
        refine W.eq (g2 := F0 m 56 ls [.int 7, .long (((nI v2) &&& 127).toInt64), .long (lN V1)]) (by rw [show (7 : Int32) * 1 = 7 from by decide +kernel]) ?_
        refine lv_lshl hx hb d_Md_takeU32_56 rfl ?_
        refine lv_lor hx hb d_Md_takeU32_57 ?_
        refine lv_topl (fun y1_ ey1_ => ?_)
        have hy1_ : y1_ = lN (V1 + v2 % 128 * 2 ^ 7) := ey1_.trans (u_step 7 (by decide) (by decide) (v := V1) hV1 hbd2)
        have hW1 : V1 + v2 % 128 * 2 ^ 7 < 2 ^ 14 := u_bd (k := 7) hV1
        have hE1 := @pUg_E b lm 3 7 (a + 1) V1 _ _ hr2 ho1
        have hC1 := @pUg_C b lm 3 7 (a + 1) V1 _ _ hr2 ho1
        rw [← hU1] at hE1 hC1
        generalize V1 + v2 % 128 * 2 ^ 7 = V2 at hy1_ hW1 hE1 hC1
        subst hy1_
        refine lv_lstore_n (lv' := [(1, .long (lN V2)), (4, .int (nI v2)), (3, .int 1), (0, .ref m0)]) hx hb d_Md_takeU32_58 rfl hl (by decide) rfl (fun ls hl => ?_)
        refine lv_iload hx hb d_Md_takeU32_59 (lv_at hl 1 rfl) ?_
        refine lv_sipush (v := 128) hx hb d_Md_takeU32_61 (by decide) ?_
        refine lv_icmp_ge (tgt := 69) hx hb d_Md_takeU32_64 (by decide) (fun c_64 => ?_) (fun c_64 => ?_)
        · have hd1 : ¬ v2 < 128 := fun q => absurd ((nI_leI (a := 128) (b := v2) (by omega) (by omega)).mp c_64) (by omega)
          have hV2 := hW1
          have hU2 := hC1 hd1
          refine lv_iinc (v := 2) (lv' := [(3, .int 2), (1, .long (lN V2)), (4, .int (nI v2)), (0, .ref m0)]) hx hb d_Md_takeU32_69 hl (k := 2) rfl (by decide) (by decide) rfl (fun ls hl => ?_)
          refine lv_goto (tgt := 4) hx hb d_Md_takeU32_72 (by decide) ?_
          refine lv_iload_n hx hb d_Md_takeU32_4 rfl (lv_at hl 0 rfl) ?_
          refine lv_iconst (v := 5) hx hb d_Md_takeU32_5 (by decide) ?_
          refine lv_icmp_ge (tgt := 75) hx hb d_Md_takeU32_6 (by decide) (fun c_6 => absurd c_6 (by decide)) (fun c_6 => ?_)
          refine lv_aload_n hx hb d_Md_takeU32_9 rfl (lv_at hl 3 rfl) ?_
          refine va_get (D := D) (ci := 6) (v := .int 0) (C := R_Md) (T := F_Md) (N := 44) hx hb hts (fun w h => List.mem_cons_of_mem _ (i_Md w h)) hown hE.1 hP 0 rfl rfl 3 (by decide) (hts _ (List.mem_cons_of_mem _ iw3_57)) (fun _ h9 => h9) rfl d_Md_takeU32_10 ?_
          refine lv_if_ne (tgt := 75) hx hb d_Md_takeU32_13 (by decide) (fun c_13 => absurd (by decide) c_13) (fun c_13 => ?_)
          refine lv_aload_n hx hb d_Md_takeU32_16 rfl (lv_at hl 3 rfl) ?_
          refine cV (As := []) (rest := []) (n := 0) (wc := [(m0, .inr (6, mF g K (nI ((a + 1) + 1), 0, p) e (nI np) B)), ((g 0), .inl (cA 3, 2000, .inl fd)), ((g 10), .inl (cA 3, 4, .inl pe))]) (wr := []) ⟨hx, hb, hml, hown, hts⟩ hno hlocks hl.1 (c_Md_take l hl9 D cA ad H.size m0 g K e np B fd pe b N lm hnp hpe hlm hN hfd hb9 ((a + 1) + 1) p (by omega) ) iw3_212 iw3_214 sel_Md_take iw1_7 iw3_215 (by decide +kernel) rfl ⟨Nat.le_of_ble_eq_true rfl, Nat.le_of_ble_eq_true rfl⟩ ⟨Nat.le_of_ble_eq_true rfl, Nat.le_of_ble_eq_true rfl⟩ rfl (Nat.le_of_ble_eq_true rfl) d_Md_takeU32_17 hE hP hD hS hA [0, 1, 2] [] rfl rfl rfl rfl (by decide) (ci := 6) rfl rfl 0 rfl (fun _ h => h.elim) (fun v_17 u_17 H locs hp_17 hP hD hS => ?_)
          rcases hp_17 with ⟨f3, q3, hr3, hf3, hB3, rfl, zz3, hzz3, hzx3⟩ | ⟨v3, a3, hr3, rfl, rfl⟩
          · obtain ⟨x3, y3, z3⟩ := u_17
            cases hB3
            have hzx3 : x3 = nI zz3 := hzx3
            subst hzx3
            have hP : va_P D cls [(m0, .inr (6, mF g K (nI zz3, nI f3, nI q3) e (nI np) B)), ((g 0), .inl (cA 3, 2000, .inl fd)), ((g 10), .inl (cA 3, 4, .inl pe))] H := hP
            have hD : va_D A [(m0, .inr (6, mF g K (nI zz3, nI f3, nI q3) e (nI np) B)), ((g 0), .inl (cA 3, 2000, .inl fd)), ((g 10), .inl (cA 3, 4, .inl pe))] := hD
            refine W.cs (cells' := 0) (slots' := 0) rfl rfl ?_
            refine W.eq (g2 := F0 m 20 ls [.int 0]) rfl ?_
            refine lv_istore (lv' := [(4, .int 0), (3, .int 2), (1, .long (lN V2)), (0, .ref m0)]) hx hb d_Md_takeU32_20 hl (by decide) rfl (fun ls hl => ?_)
            refine lv_iload_n hx hb d_Md_takeU32_22 rfl (lv_at hl 1 rfl) ?_
            refine lv_iconst (v := 4) hx hb d_Md_takeU32_23 (by decide) ?_
            refine lv_icmp_ne (tgt := 45) hx hb d_Md_takeU32_24 (by decide) (fun c_24 => ?_) (fun c_24 => absurd c_24 (by decide))
            refine lv_lload_n hx hb d_Md_takeU32_45 rfl (lv_at hl 2 rfl) ?_
            refine lv_iload hx hb d_Md_takeU32_46 (lv_at hl 0 rfl) ?_
            refine lv_bipush (v := 127) hx hb d_Md_takeU32_48 (by decide) ?_
            refine lv_iand hx hb d_Md_takeU32_50 ?_
            refine W.eq (g2 := F0 m 51 ls [.int 0, .long (lN V2)]) (by rw [show (0 : Int32) &&& 127 = 0 from by decide +kernel]) ?_
            refine lv_i2l hx hb d_Md_takeU32_51 rfl ?_
            refine lv_bipush (v := 7) hx hb d_Md_takeU32_52 (by decide) ?_
            refine lv_iload_n hx hb d_Md_takeU32_54 rfl (lv_at hl 1 rfl) ?_
            refine lv_imul hx hb d_Md_takeU32_55 ?_
            refine W.eq (g2 := F0 m 56 ls [.int 14, .long ((0 : Int32).toInt64), .long (lN V2)]) (by rw [show (7 : Int32) * 2 = 14 from by decide +kernel]) ?_
            refine lv_lshl hx hb d_Md_takeU32_56 rfl ?_
            refine lv_lor hx hb d_Md_takeU32_57 ?_
            refine lv_topl (fun yF eyF => ?_)
            refine lv_lstore_n (lv' := [(1, .long yF), (4, .int 0), (3, .int 2), (0, .ref m0)]) hx hb d_Md_takeU32_58 rfl hl (by decide) rfl (fun ls hl => ?_)
            refine lv_iload hx hb d_Md_takeU32_59 (lv_at hl 1 rfl) ?_
            refine lv_sipush (v := 128) hx hb d_Md_takeU32_61 (by decide) ?_
            refine lv_icmp_ge (tgt := 69) hx hb d_Md_takeU32_64 (by decide) (fun c_64 => absurd c_64 (by decide)) (fun c_64 => ?_)
            refine lv_lload_n hx hb d_Md_takeU32_67 rfl (lv_at hl 0 rfl) ?_
            exact cRl ((nI zz3, nI f3, nI q3) : A3) hx hb hr hlocks d_Md_takeU32_68 hS hP hD (Or.inl ⟨f3, q3, by rw [hU2, pUg_T hr3], hf3, rfl, ⟨_, rfl⟩, zz3, by omega, rfl⟩) (Nat.le_refl _) (Nat.le_refl _)
          · obtain ⟨hla3, hgt3, hv3, hbd3⟩ := (pNext_ok2 hr3 hb9)
            have hP : va_P D cls [(m0, .inr (6, mF g K (nI a3, 0, p) e (nI np) B)), ((g 0), .inl (cA 3, 2000, .inl fd)), ((g 10), .inl (cA 3, 4, .inl pe))] H := hP
            have hD : va_D A [(m0, .inr (6, mF g K (nI a3, 0, p) e (nI np) B)), ((g 0), .inl (cA 3, 2000, .inl fd)), ((g 10), .inl (cA 3, 4, .inl pe))] := hD
            refine W.cs (cells' := 0) (slots' := 0) rfl rfl ?_
            refine W.eq (g2 := F0 m 20 ls [.int (nI v3)]) rfl ?_
            obtain ⟨hbd3, ean3⟩ := hbd3
            subst ean3
            have hP : va_P D cls [(m0, .inr (6, mF g K (nI (((a + 1) + 1) + 1), 0, p) e (nI np) B)), ((g 0), .inl (cA 3, 2000, .inl fd)), ((g 10), .inl (cA 3, 4, .inl pe))] H := hP
            have hD : va_D A [(m0, .inr (6, mF g K (nI (((a + 1) + 1) + 1), 0, p) e (nI np) B)), ((g 0), .inl (cA 3, 2000, .inl fd)), ((g 10), .inl (cA 3, 4, .inl pe))] := hD
            refine lv_istore (lv' := [(4, .int (nI v3)), (3, .int 2), (1, .long (lN V2)), (0, .ref m0)]) hx hb d_Md_takeU32_20 hl (by decide) rfl (fun ls hl => ?_)
            refine lv_iload_n hx hb d_Md_takeU32_22 rfl (lv_at hl 1 rfl) ?_
            refine lv_iconst (v := 4) hx hb d_Md_takeU32_23 (by decide) ?_
            refine lv_icmp_ne (tgt := 45) hx hb d_Md_takeU32_24 (by decide) (fun c_24 => ?_) (fun c_24 => absurd c_24 (by decide))
            have ho2 : ¬ (2 = 0 ∧ 15 < v3) := fun q => absurd q.1 (by decide)
            refine lv_lload_n hx hb d_Md_takeU32_45 rfl (lv_at hl 2 rfl) ?_
            refine lv_iload hx hb d_Md_takeU32_46 (lv_at hl 0 rfl) ?_
            refine lv_bipush (v := 127) hx hb d_Md_takeU32_48 (by decide) ?_
            refine lv_iand hx hb d_Md_takeU32_50 ?_
            refine lv_i2l hx hb d_Md_takeU32_51 rfl ?_
            refine lv_bipush (v := 7) hx hb d_Md_takeU32_52 (by decide) ?_
            refine lv_iload_n hx hb d_Md_takeU32_54 rfl (lv_at hl 1 rfl) ?_
            refine lv_imul hx hb d_Md_takeU32_55 ?_
            refine W.eq (g2 := F0 m 56 ls [.int 14, .long (((nI v3) &&& 127).toInt64), .long (lN V2)]) (by rw [show (7 : Int32) * 2 = 14 from by decide +kernel]) ?_
            refine lv_lshl hx hb d_Md_takeU32_56 rfl ?_
            refine lv_lor hx hb d_Md_takeU32_57 ?_
            refine lv_topl (fun y2_ ey2_ => ?_)
            have hy2_ : y2_ = lN (V2 + v3 % 128 * 2 ^ 14) := ey2_.trans (u_step 14 (by decide) (by decide) (v := V2) hV2 hbd3)
            have hW2 : V2 + v3 % 128 * 2 ^ 14 < 2 ^ 21 := u_bd (k := 14) hV2
            have hE2 := @pUg_E b lm 2 14 ((a + 1) + 1) V2 _ _ hr3 ho2
            have hC2 := @pUg_C b lm 2 14 ((a + 1) + 1) V2 _ _ hr3 ho2
            rw [← hU2] at hE2 hC2
            generalize V2 + v3 % 128 * 2 ^ 14 = V3 at hy2_ hW2 hE2 hC2
            subst hy2_
            refine lv_lstore_n (lv' := [(1, .long (lN V3)), (4, .int (nI v3)), (3, .int 2), (0, .ref m0)]) hx hb d_Md_takeU32_58 rfl hl (by decide) rfl (fun ls hl => ?_)
            refine lv_iload hx hb d_Md_takeU32_59 (lv_at hl 1 rfl) ?_
            refine lv_sipush (v := 128) hx hb d_Md_takeU32_61 (by decide) ?_
            refine lv_icmp_ge (tgt := 69) hx hb d_Md_takeU32_64 (by decide) (fun c_64 => ?_) (fun c_64 => ?_)
            · have hd2 : ¬ v3 < 128 := fun q => absurd ((nI_leI (a := 128) (b := v3) (by omega) (by omega)).mp c_64) (by omega)
              have hV3 := hW2
              have hU3 := hC2 hd2
              refine lv_iinc (v := 3) (lv' := [(3, .int 3), (1, .long (lN V3)), (4, .int (nI v3)), (0, .ref m0)]) hx hb d_Md_takeU32_69 hl (k := 2) rfl (by decide) (by decide) rfl (fun ls hl => ?_)
              refine lv_goto (tgt := 4) hx hb d_Md_takeU32_72 (by decide) ?_
              refine lv_iload_n hx hb d_Md_takeU32_4 rfl (lv_at hl 0 rfl) ?_
              refine lv_iconst (v := 5) hx hb d_Md_takeU32_5 (by decide) ?_
              refine lv_icmp_ge (tgt := 75) hx hb d_Md_takeU32_6 (by decide) (fun c_6 => absurd c_6 (by decide)) (fun c_6 => ?_)
              refine lv_aload_n hx hb d_Md_takeU32_9 rfl (lv_at hl 3 rfl) ?_
              refine va_get (D := D) (ci := 6) (v := .int 0) (C := R_Md) (T := F_Md) (N := 44) hx hb hts (fun w h => List.mem_cons_of_mem _ (i_Md w h)) hown hE.1 hP 0 rfl rfl 3 (by decide) (hts _ (List.mem_cons_of_mem _ iw3_57)) (fun _ h9 => h9) rfl d_Md_takeU32_10 ?_
              refine lv_if_ne (tgt := 75) hx hb d_Md_takeU32_13 (by decide) (fun c_13 => absurd (by decide) c_13) (fun c_13 => ?_)
              refine lv_aload_n hx hb d_Md_takeU32_16 rfl (lv_at hl 3 rfl) ?_
              refine cV (As := []) (rest := []) (n := 0) (wc := [(m0, .inr (6, mF g K (nI (((a + 1) + 1) + 1), 0, p) e (nI np) B)), ((g 0), .inl (cA 3, 2000, .inl fd)), ((g 10), .inl (cA 3, 4, .inl pe))]) (wr := []) ⟨hx, hb, hml, hown, hts⟩ hno hlocks hl.1 (c_Md_take l hl9 D cA ad H.size m0 g K e np B fd pe b N lm hnp hpe hlm hN hfd hb9 (((a + 1) + 1) + 1) p (by omega) ) iw3_212 iw3_214 sel_Md_take iw1_7 iw3_215 (by decide +kernel) rfl ⟨Nat.le_of_ble_eq_true rfl, Nat.le_of_ble_eq_true rfl⟩ ⟨Nat.le_of_ble_eq_true rfl, Nat.le_of_ble_eq_true rfl⟩ rfl (Nat.le_of_ble_eq_true rfl) d_Md_takeU32_17 hE hP hD hS hA [0, 1, 2] [] rfl rfl rfl rfl (by decide) (ci := 6) rfl rfl 0 rfl (fun _ h => h.elim) (fun v_17 u_17 H locs hp_17 hP hD hS => ?_)
              rcases hp_17 with ⟨f4, q4, hr4, hf4, hB4, rfl, zz4, hzz4, hzx4⟩ | ⟨v4, a4, hr4, rfl, rfl⟩
              · obtain ⟨x4, y4, z4⟩ := u_17
                cases hB4
                have hzx4 : x4 = nI zz4 := hzx4
                subst hzx4
                have hP : va_P D cls [(m0, .inr (6, mF g K (nI zz4, nI f4, nI q4) e (nI np) B)), ((g 0), .inl (cA 3, 2000, .inl fd)), ((g 10), .inl (cA 3, 4, .inl pe))] H := hP
                have hD : va_D A [(m0, .inr (6, mF g K (nI zz4, nI f4, nI q4) e (nI np) B)), ((g 0), .inl (cA 3, 2000, .inl fd)), ((g 10), .inl (cA 3, 4, .inl pe))] := hD
                refine W.cs (cells' := 0) (slots' := 0) rfl rfl ?_
                refine W.eq (g2 := F0 m 20 ls [.int 0]) rfl ?_
                refine lv_istore (lv' := [(4, .int 0), (3, .int 3), (1, .long (lN V3)), (0, .ref m0)]) hx hb d_Md_takeU32_20 hl (by decide) rfl (fun ls hl => ?_)
                refine lv_iload_n hx hb d_Md_takeU32_22 rfl (lv_at hl 1 rfl) ?_
                refine lv_iconst (v := 4) hx hb d_Md_takeU32_23 (by decide) ?_
                refine lv_icmp_ne (tgt := 45) hx hb d_Md_takeU32_24 (by decide) (fun c_24 => ?_) (fun c_24 => absurd c_24 (by decide))
                refine lv_lload_n hx hb d_Md_takeU32_45 rfl (lv_at hl 2 rfl) ?_
                refine lv_iload hx hb d_Md_takeU32_46 (lv_at hl 0 rfl) ?_
                refine lv_bipush (v := 127) hx hb d_Md_takeU32_48 (by decide) ?_
                refine lv_iand hx hb d_Md_takeU32_50 ?_
                refine W.eq (g2 := F0 m 51 ls [.int 0, .long (lN V3)]) (by rw [show (0 : Int32) &&& 127 = 0 from by decide +kernel]) ?_
                refine lv_i2l hx hb d_Md_takeU32_51 rfl ?_
                refine lv_bipush (v := 7) hx hb d_Md_takeU32_52 (by decide) ?_
                refine lv_iload_n hx hb d_Md_takeU32_54 rfl (lv_at hl 1 rfl) ?_
                refine lv_imul hx hb d_Md_takeU32_55 ?_
                refine W.eq (g2 := F0 m 56 ls [.int 21, .long ((0 : Int32).toInt64), .long (lN V3)]) (by rw [show (7 : Int32) * 3 = 21 from by decide +kernel]) ?_
                refine lv_lshl hx hb d_Md_takeU32_56 rfl ?_
                refine lv_lor hx hb d_Md_takeU32_57 ?_
                refine lv_topl (fun yF eyF => ?_)
                refine lv_lstore_n (lv' := [(1, .long yF), (4, .int 0), (3, .int 3), (0, .ref m0)]) hx hb d_Md_takeU32_58 rfl hl (by decide) rfl (fun ls hl => ?_)
                refine lv_iload hx hb d_Md_takeU32_59 (lv_at hl 1 rfl) ?_
                refine lv_sipush (v := 128) hx hb d_Md_takeU32_61 (by decide) ?_
                refine lv_icmp_ge (tgt := 69) hx hb d_Md_takeU32_64 (by decide) (fun c_64 => absurd c_64 (by decide)) (fun c_64 => ?_)
                refine lv_lload_n hx hb d_Md_takeU32_67 rfl (lv_at hl 0 rfl) ?_
                exact cRl ((nI zz4, nI f4, nI q4) : A3) hx hb hr hlocks d_Md_takeU32_68 hS hP hD (Or.inl ⟨f4, q4, by rw [hU3, pUg_T hr4], hf4, rfl, ⟨_, rfl⟩, zz4, by omega, rfl⟩) (Nat.le_refl _) (Nat.le_refl _)
              · obtain ⟨hla4, hgt4, hv4, hbd4⟩ := (pNext_ok2 hr4 hb9)
                have hP : va_P D cls [(m0, .inr (6, mF g K (nI a4, 0, p) e (nI np) B)), ((g 0), .inl (cA 3, 2000, .inl fd)), ((g 10), .inl (cA 3, 4, .inl pe))] H := hP
                have hD : va_D A [(m0, .inr (6, mF g K (nI a4, 0, p) e (nI np) B)), ((g 0), .inl (cA 3, 2000, .inl fd)), ((g 10), .inl (cA 3, 4, .inl pe))] := hD
                refine W.cs (cells' := 0) (slots' := 0) rfl rfl ?_
                refine W.eq (g2 := F0 m 20 ls [.int (nI v4)]) rfl ?_
                obtain ⟨hbd4, ean4⟩ := hbd4
                subst ean4
                have hP : va_P D cls [(m0, .inr (6, mF g K (nI ((((a + 1) + 1) + 1) + 1), 0, p) e (nI np) B)), ((g 0), .inl (cA 3, 2000, .inl fd)), ((g 10), .inl (cA 3, 4, .inl pe))] H := hP
                have hD : va_D A [(m0, .inr (6, mF g K (nI ((((a + 1) + 1) + 1) + 1), 0, p) e (nI np) B)), ((g 0), .inl (cA 3, 2000, .inl fd)), ((g 10), .inl (cA 3, 4, .inl pe))] := hD
                refine lv_istore (lv' := [(4, .int (nI v4)), (3, .int 3), (1, .long (lN V3)), (0, .ref m0)]) hx hb d_Md_takeU32_20 hl (by decide) rfl (fun ls hl => ?_)
                refine lv_iload_n hx hb d_Md_takeU32_22 rfl (lv_at hl 1 rfl) ?_
                refine lv_iconst (v := 4) hx hb d_Md_takeU32_23 (by decide) ?_
                refine lv_icmp_ne (tgt := 45) hx hb d_Md_takeU32_24 (by decide) (fun c_24 => ?_) (fun c_24 => absurd c_24 (by decide))
                have ho3 : ¬ (1 = 0 ∧ 15 < v4) := fun q => absurd q.1 (by decide)
                refine lv_lload_n hx hb d_Md_takeU32_45 rfl (lv_at hl 2 rfl) ?_
                refine lv_iload hx hb d_Md_takeU32_46 (lv_at hl 0 rfl) ?_
                refine lv_bipush (v := 127) hx hb d_Md_takeU32_48 (by decide) ?_
                refine lv_iand hx hb d_Md_takeU32_50 ?_
                refine lv_i2l hx hb d_Md_takeU32_51 rfl ?_
                refine lv_bipush (v := 7) hx hb d_Md_takeU32_52 (by decide) ?_
                refine lv_iload_n hx hb d_Md_takeU32_54 rfl (lv_at hl 1 rfl) ?_
                refine lv_imul hx hb d_Md_takeU32_55 ?_
                refine W.eq (g2 := F0 m 56 ls [.int 21, .long (((nI v4) &&& 127).toInt64), .long (lN V3)]) (by rw [show (7 : Int32) * 3 = 21 from by decide +kernel]) ?_
                refine lv_lshl hx hb d_Md_takeU32_56 rfl ?_
                refine lv_lor hx hb d_Md_takeU32_57 ?_
                refine lv_topl (fun y3_ ey3_ => ?_)
                have hy3_ : y3_ = lN (V3 + v4 % 128 * 2 ^ 21) := ey3_.trans (u_step 21 (by decide) (by decide) (v := V3) hV3 hbd4)
                have hW3 : V3 + v4 % 128 * 2 ^ 21 < 2 ^ 28 := u_bd (k := 21) hV3
                have hE3 := @pUg_E b lm 1 21 (((a + 1) + 1) + 1) V3 _ _ hr4 ho3
                have hC3 := @pUg_C b lm 1 21 (((a + 1) + 1) + 1) V3 _ _ hr4 ho3
                rw [← hU3] at hE3 hC3
                generalize V3 + v4 % 128 * 2 ^ 21 = V4 at hy3_ hW3 hE3 hC3
                subst hy3_
                refine lv_lstore_n (lv' := [(1, .long (lN V4)), (4, .int (nI v4)), (3, .int 3), (0, .ref m0)]) hx hb d_Md_takeU32_58 rfl hl (by decide) rfl (fun ls hl => ?_)
                refine lv_iload hx hb d_Md_takeU32_59 (lv_at hl 1 rfl) ?_
                refine lv_sipush (v := 128) hx hb d_Md_takeU32_61 (by decide) ?_
                refine lv_icmp_ge (tgt := 69) hx hb d_Md_takeU32_64 (by decide) (fun c_64 => ?_) (fun c_64 => ?_)
                · have hd3 : ¬ v4 < 128 := fun q => absurd ((nI_leI (a := 128) (b := v4) (by omega) (by omega)).mp c_64) (by omega)
                  have hV4 := hW3
                  have hU4 := hC3 hd3
                  refine lv_iinc (v := 4) (lv' := [(3, .int 4), (1, .long (lN V4)), (4, .int (nI v4)), (0, .ref m0)]) hx hb d_Md_takeU32_69 hl (k := 2) rfl (by decide) (by decide) rfl (fun ls hl => ?_)
                  refine lv_goto (tgt := 4) hx hb d_Md_takeU32_72 (by decide) ?_
                  refine lv_iload_n hx hb d_Md_takeU32_4 rfl (lv_at hl 0 rfl) ?_
                  refine lv_iconst (v := 5) hx hb d_Md_takeU32_5 (by decide) ?_
                  refine lv_icmp_ge (tgt := 75) hx hb d_Md_takeU32_6 (by decide) (fun c_6 => absurd c_6 (by decide)) (fun c_6 => ?_)
                  refine lv_aload_n hx hb d_Md_takeU32_9 rfl (lv_at hl 3 rfl) ?_
                  refine va_get (D := D) (ci := 6) (v := .int 0) (C := R_Md) (T := F_Md) (N := 44) hx hb hts (fun w h => List.mem_cons_of_mem _ (i_Md w h)) hown hE.1 hP 0 rfl rfl 3 (by decide) (hts _ (List.mem_cons_of_mem _ iw3_57)) (fun _ h9 => h9) rfl d_Md_takeU32_10 ?_
                  refine lv_if_ne (tgt := 75) hx hb d_Md_takeU32_13 (by decide) (fun c_13 => absurd (by decide) c_13) (fun c_13 => ?_)
                  refine lv_aload_n hx hb d_Md_takeU32_16 rfl (lv_at hl 3 rfl) ?_
                  refine cV (As := []) (rest := []) (n := 0) (wc := [(m0, .inr (6, mF g K (nI ((((a + 1) + 1) + 1) + 1), 0, p) e (nI np) B)), ((g 0), .inl (cA 3, 2000, .inl fd)), ((g 10), .inl (cA 3, 4, .inl pe))]) (wr := []) ⟨hx, hb, hml, hown, hts⟩ hno hlocks hl.1 (c_Md_take l hl9 D cA ad H.size m0 g K e np B fd pe b N lm hnp hpe hlm hN hfd hb9 ((((a + 1) + 1) + 1) + 1) p (by omega) ) iw3_212 iw3_214 sel_Md_take iw1_7 iw3_215 (by decide +kernel) rfl ⟨Nat.le_of_ble_eq_true rfl, Nat.le_of_ble_eq_true rfl⟩ ⟨Nat.le_of_ble_eq_true rfl, Nat.le_of_ble_eq_true rfl⟩ rfl (Nat.le_of_ble_eq_true rfl) d_Md_takeU32_17 hE hP hD hS hA [0, 1, 2] [] rfl rfl rfl rfl (by decide) (ci := 6) rfl rfl 0 rfl (fun _ h => h.elim) (fun v_17 u_17 H locs hp_17 hP hD hS => ?_)
                  rcases hp_17 with ⟨f5, q5, hr5, hf5, hB5, rfl, zz5, hzz5, hzx5⟩ | ⟨v5, a5, hr5, rfl, rfl⟩
                  · obtain ⟨x5, y5, z5⟩ := u_17
                    cases hB5
                    have hzx5 : x5 = nI zz5 := hzx5
                    subst hzx5
                    have hP : va_P D cls [(m0, .inr (6, mF g K (nI zz5, nI f5, nI q5) e (nI np) B)), ((g 0), .inl (cA 3, 2000, .inl fd)), ((g 10), .inl (cA 3, 4, .inl pe))] H := hP
                    have hD : va_D A [(m0, .inr (6, mF g K (nI zz5, nI f5, nI q5) e (nI np) B)), ((g 0), .inl (cA 3, 2000, .inl fd)), ((g 10), .inl (cA 3, 4, .inl pe))] := hD
                    refine W.cs (cells' := 0) (slots' := 0) rfl rfl ?_
                    refine W.eq (g2 := F0 m 20 ls [.int 0]) rfl ?_
                    refine lv_istore (lv' := [(4, .int 0), (3, .int 4), (1, .long (lN V4)), (0, .ref m0)]) hx hb d_Md_takeU32_20 hl (by decide) rfl (fun ls hl => ?_)
                    refine lv_iload_n hx hb d_Md_takeU32_22 rfl (lv_at hl 1 rfl) ?_
                    refine lv_iconst (v := 4) hx hb d_Md_takeU32_23 (by decide) ?_
                    refine lv_icmp_ne (tgt := 45) hx hb d_Md_takeU32_24 (by decide) (fun c_24 => absurd (by decide) c_24) (fun c_24 => ?_)
                    refine lv_iload hx hb d_Md_takeU32_27 (lv_at hl 0 rfl) ?_
                    refine lv_bipush (v := 15) hx hb d_Md_takeU32_29 (by decide) ?_
                    refine lv_icmp_le (tgt := 45) hx hb d_Md_takeU32_31 (by decide) (fun c_31 => ?_) (fun c_31 => absurd (by decide) c_31)
                    refine lv_lload_n hx hb d_Md_takeU32_45 rfl (lv_at hl 2 rfl) ?_
                    refine lv_iload hx hb d_Md_takeU32_46 (lv_at hl 0 rfl) ?_
                    refine lv_bipush (v := 127) hx hb d_Md_takeU32_48 (by decide) ?_
                    refine lv_iand hx hb d_Md_takeU32_50 ?_
                    refine W.eq (g2 := F0 m 51 ls [.int 0, .long (lN V4)]) (by rw [show (0 : Int32) &&& 127 = 0 from by decide +kernel]) ?_
                    refine lv_i2l hx hb d_Md_takeU32_51 rfl ?_
                    refine lv_bipush (v := 7) hx hb d_Md_takeU32_52 (by decide) ?_
                    refine lv_iload_n hx hb d_Md_takeU32_54 rfl (lv_at hl 1 rfl) ?_
                    refine lv_imul hx hb d_Md_takeU32_55 ?_
                    refine W.eq (g2 := F0 m 56 ls [.int 28, .long ((0 : Int32).toInt64), .long (lN V4)]) (by rw [show (7 : Int32) * 4 = 28 from by decide +kernel]) ?_
                    refine lv_lshl hx hb d_Md_takeU32_56 rfl ?_
                    refine lv_lor hx hb d_Md_takeU32_57 ?_
                    refine lv_topl (fun yF eyF => ?_)
                    refine lv_lstore_n (lv' := [(1, .long yF), (4, .int 0), (3, .int 4), (0, .ref m0)]) hx hb d_Md_takeU32_58 rfl hl (by decide) rfl (fun ls hl => ?_)
                    refine lv_iload hx hb d_Md_takeU32_59 (lv_at hl 1 rfl) ?_
                    refine lv_sipush (v := 128) hx hb d_Md_takeU32_61 (by decide) ?_
                    refine lv_icmp_ge (tgt := 69) hx hb d_Md_takeU32_64 (by decide) (fun c_64 => absurd c_64 (by decide)) (fun c_64 => ?_)
                    refine lv_lload_n hx hb d_Md_takeU32_67 rfl (lv_at hl 0 rfl) ?_
                    exact cRl ((nI zz5, nI f5, nI q5) : A3) hx hb hr hlocks d_Md_takeU32_68 hS hP hD (Or.inl ⟨f5, q5, by rw [hU4, pUg_T hr5], hf5, rfl, ⟨_, rfl⟩, zz5, by omega, rfl⟩) (Nat.le_refl _) (Nat.le_refl _)
                  · obtain ⟨hla5, hgt5, hv5, hbd5⟩ := (pNext_ok2 hr5 hb9)
                    have hP : va_P D cls [(m0, .inr (6, mF g K (nI a5, 0, p) e (nI np) B)), ((g 0), .inl (cA 3, 2000, .inl fd)), ((g 10), .inl (cA 3, 4, .inl pe))] H := hP
                    have hD : va_D A [(m0, .inr (6, mF g K (nI a5, 0, p) e (nI np) B)), ((g 0), .inl (cA 3, 2000, .inl fd)), ((g 10), .inl (cA 3, 4, .inl pe))] := hD
                    refine W.cs (cells' := 0) (slots' := 0) rfl rfl ?_
                    refine W.eq (g2 := F0 m 20 ls [.int (nI v5)]) rfl ?_
                    obtain ⟨hbd5, ean5⟩ := hbd5
                    subst ean5
                    have hP : va_P D cls [(m0, .inr (6, mF g K (nI (((((a + 1) + 1) + 1) + 1) + 1), 0, p) e (nI np) B)), ((g 0), .inl (cA 3, 2000, .inl fd)), ((g 10), .inl (cA 3, 4, .inl pe))] H := hP
                    have hD : va_D A [(m0, .inr (6, mF g K (nI (((((a + 1) + 1) + 1) + 1) + 1), 0, p) e (nI np) B)), ((g 0), .inl (cA 3, 2000, .inl fd)), ((g 10), .inl (cA 3, 4, .inl pe))] := hD
                    refine lv_istore (lv' := [(4, .int (nI v5)), (3, .int 4), (1, .long (lN V4)), (0, .ref m0)]) hx hb d_Md_takeU32_20 hl (by decide) rfl (fun ls hl => ?_)
                    refine lv_iload_n hx hb d_Md_takeU32_22 rfl (lv_at hl 1 rfl) ?_
                    refine lv_iconst (v := 4) hx hb d_Md_takeU32_23 (by decide) ?_
                    refine lv_icmp_ne (tgt := 45) hx hb d_Md_takeU32_24 (by decide) (fun c_24 => absurd (by decide) c_24) (fun c_24 => ?_)
                    refine lv_iload hx hb d_Md_takeU32_27 (lv_at hl 0 rfl) ?_
                    refine lv_bipush (v := 15) hx hb d_Md_takeU32_29 (by decide) ?_
                    refine lv_icmp_le (tgt := 45) hx hb d_Md_takeU32_31 (by decide) (fun c_31 => ?_) (fun c_31 => ?_)
                    · have ho4 : ¬ (0 = 0 ∧ 15 < v5) := fun q => absurd ((nI_leI (a := v5) (b := 15) (by omega) (by omega)).mp c_31) (by omega)
                      refine lv_lload_n hx hb d_Md_takeU32_45 rfl (lv_at hl 2 rfl) ?_
                      refine lv_iload hx hb d_Md_takeU32_46 (lv_at hl 0 rfl) ?_
                      refine lv_bipush (v := 127) hx hb d_Md_takeU32_48 (by decide) ?_
                      refine lv_iand hx hb d_Md_takeU32_50 ?_
                      refine lv_i2l hx hb d_Md_takeU32_51 rfl ?_
                      refine lv_bipush (v := 7) hx hb d_Md_takeU32_52 (by decide) ?_
                      refine lv_iload_n hx hb d_Md_takeU32_54 rfl (lv_at hl 1 rfl) ?_
                      refine lv_imul hx hb d_Md_takeU32_55 ?_
                      refine W.eq (g2 := F0 m 56 ls [.int 28, .long (((nI v5) &&& 127).toInt64), .long (lN V4)]) (by rw [show (7 : Int32) * 4 = 28 from by decide +kernel]) ?_
                      refine lv_lshl hx hb d_Md_takeU32_56 rfl ?_
                      refine lv_lor hx hb d_Md_takeU32_57 ?_
                      refine lv_topl (fun y4_ ey4_ => ?_)
                      have hy4_ : y4_ = lN (V4 + v5 % 128 * 2 ^ 28) := ey4_.trans (u_step 28 (by decide) (by decide) (v := V4) hV4 hbd5)
                      have hW4 : V4 + v5 % 128 * 2 ^ 28 < 2 ^ 35 := u_bd (k := 28) hV4
                      have hE4 := @pUg_E b lm 0 28 ((((a + 1) + 1) + 1) + 1) V4 _ _ hr5 ho4
                      have hC4 := @pUg_C b lm 0 28 ((((a + 1) + 1) + 1) + 1) V4 _ _ hr5 ho4
                      rw [← hU4] at hE4 hC4
                      generalize V4 + v5 % 128 * 2 ^ 28 = V5 at hy4_ hW4 hE4 hC4
                      subst hy4_
                      refine lv_lstore_n (lv' := [(1, .long (lN V5)), (4, .int (nI v5)), (3, .int 4), (0, .ref m0)]) hx hb d_Md_takeU32_58 rfl hl (by decide) rfl (fun ls hl => ?_)
                      refine lv_iload hx hb d_Md_takeU32_59 (lv_at hl 1 rfl) ?_
                      refine lv_sipush (v := 128) hx hb d_Md_takeU32_61 (by decide) ?_
                      refine lv_icmp_ge (tgt := 69) hx hb d_Md_takeU32_64 (by decide) (fun c_64 => ?_) (fun c_64 => ?_)
                      · have hd4 : ¬ v5 < 128 := fun q => absurd ((nI_leI (a := 128) (b := v5) (by omega) (by omega)).mp c_64) (by omega)
                        exact absurd ((nI_leI (a := v5) (b := 15) (by omega) (by omega)).mp c_31) (by omega)
                      · have hd4 : v5 < 128 := Nat.lt_of_not_le (fun q => c_64 (nI_le (a := 128) (b := v5) q (by omega)))
                        refine lv_lload_n hx hb d_Md_takeU32_67 rfl (lv_at hl 0 rfl) ?_
                        exact cRl ((nI (((((a + 1) + 1) + 1) + 1) + 1), 0, p) : A3) hx hb hr hlocks d_Md_takeU32_68 hS hP hD (Or.inr ⟨V5, (((((a + 1) + 1) + 1) + 1) + 1), hE4 hd4, rfl, rfl⟩) (Nat.le_refl _) (Nat.le_refl _)
                    · have hc4 : 15 < v5 := Nat.lt_of_not_le (fun q => c_31 (nI_le (a := v5) (b := 15) q (by omega)))
                      refine lv_aload_n hx hb d_Md_takeU32_34 rfl (lv_at hl 3 rfl) ?_
                      refine lv_iconst (v := 4) hx hb d_Md_takeU32_35 (by decide) ?_
                      refine lv_aload_n hx hb d_Md_takeU32_36 rfl (lv_at hl 3 rfl) ?_
                      refine va_get (D := D) (ci := 6) (v := .int (nI (((((a + 1) + 1) + 1) + 1) + 1))) (C := R_Md) (T := F_Md) (N := 44) hx hb hts (fun w h => List.mem_cons_of_mem _ (i_Md w h)) hown hE.1 hP 0 rfl rfl 2 (by decide) (hts _ (List.mem_cons_of_mem _ iw3_56)) (fun _ h9 => h9) rfl d_Md_takeU32_37 ?_
                      refine lv_iconst (v := 1) hx hb d_Md_takeU32_40 (by decide) ?_
                      refine lv_isub hx hb d_Md_takeU32_41 ?_
                      rw [nI_pred]
                      refine cV (As := [.int 4, .int (nI ((((a + 1) + 1) + 1) + 1))]) (rest := []) (n := 2) (wc := [(m0, .inr (6, mF g K (nI (((((a + 1) + 1) + 1) + 1) + 1), 0, p) e (nI np) B))]) (wr := [((g 0), .inl (cA 3, 2000, .inl fd)), ((g 10), .inl (cA 3, 4, .inl pe))]) ⟨hx, hb, hml, hown, hts⟩ hno hlocks hl.1 (c_Md_stop l hl9 D cA ad H.size m0 g K e (nI np) B (nI (((((a + 1) + 1) + 1) + 1) + 1)) p (4 : Int32) (nI ((((a + 1) + 1) + 1) + 1))) iw3_216 iw3_218 sel_Md_stop iw1_7 iw3_219 (by decide +kernel) rfl ⟨Nat.le_of_ble_eq_true rfl, Nat.le_of_ble_eq_true rfl⟩ ⟨Nat.le_of_ble_eq_true rfl, Nat.le_of_ble_eq_true rfl⟩ rfl (Nat.le_of_ble_eq_true rfl) d_Md_takeU32_42 hE hP hD hS hA [0] [1, 2] rfl rfl rfl rfl (by decide) (ci := 6) rfl rfl 0 rfl (fun _ h => h.elim) (fun v_42 u_42 H locs hp_42 hP hD hS => ?_)
                      obtain rfl := hp_42
                      have hP : va_P D cls [(m0, .inr (6, mF g K (nI (((((a + 1) + 1) + 1) + 1) + 1), 4, nI ((((a + 1) + 1) + 1) + 1)) e (nI np) B)), ((g 0), .inl (cA 3, 2000, .inl fd)), ((g 10), .inl (cA 3, 4, .inl pe))] H := hP.sub [2, 0, 1] rfl
                      have hD : va_D A [(m0, .inr (6, mF g K (nI (((((a + 1) + 1) + 1) + 1) + 1), 4, nI ((((a + 1) + 1) + 1) + 1)) e (nI np) B)), ((g 0), .inl (cA 3, 2000, .inl fd)), ((g 10), .inl (cA 3, 4, .inl pe))] := hD.sub [2, 0, 1] (by decide) rfl
                      refine W.cs (cells' := 0) (slots' := 0) rfl rfl ?_
                      refine W.eq (g2 := F0 m 45 ls []) rfl ?_
                      refine lv_lload_n hx hb d_Md_takeU32_45 rfl (lv_at hl 2 rfl) ?_
                      refine lv_iload hx hb d_Md_takeU32_46 (lv_at hl 0 rfl) ?_
                      refine lv_bipush (v := 127) hx hb d_Md_takeU32_48 (by decide) ?_
                      refine lv_iand hx hb d_Md_takeU32_50 ?_
                      refine lv_i2l hx hb d_Md_takeU32_51 rfl ?_
                      refine lv_bipush (v := 7) hx hb d_Md_takeU32_52 (by decide) ?_
                      refine lv_iload_n hx hb d_Md_takeU32_54 rfl (lv_at hl 1 rfl) ?_
                      refine lv_imul hx hb d_Md_takeU32_55 ?_
                      refine W.eq (g2 := F0 m 56 ls [.int 28, .long (((nI v5) &&& 127).toInt64), .long (lN V4)]) (by rw [show (7 : Int32) * 4 = 28 from by decide +kernel]) ?_
                      refine lv_lshl hx hb d_Md_takeU32_56 rfl ?_
                      refine lv_lor hx hb d_Md_takeU32_57 ?_
                      refine lv_topl (fun yF eyF => ?_)
                      refine lv_lstore_n (lv' := [(1, .long yF), (4, .int (nI v5)), (3, .int 4), (0, .ref m0)]) hx hb d_Md_takeU32_58 rfl hl (by decide) rfl (fun ls hl => ?_)
                      refine lv_iload hx hb d_Md_takeU32_59 (lv_at hl 1 rfl) ?_
                      refine lv_sipush (v := 128) hx hb d_Md_takeU32_61 (by decide) ?_
                      refine lv_icmp_ge (tgt := 69) hx hb d_Md_takeU32_64 (by decide) (fun c_64 => ?_) (fun c_64 => ?_)
                      · refine lv_iinc (v := 5) (lv' := [(3, .int 5), (1, .long yF), (4, .int (nI v5)), (0, .ref m0)]) hx hb d_Md_takeU32_69 hl (k := 2) rfl (by decide) (by decide) rfl (fun ls hl => ?_)
                        refine lv_goto (tgt := 4) hx hb d_Md_takeU32_72 (by decide) ?_
                        refine lv_iload_n hx hb d_Md_takeU32_4 rfl (lv_at hl 0 rfl) ?_
                        refine lv_iconst (v := 5) hx hb d_Md_takeU32_5 (by decide) ?_
                        refine lv_icmp_ge (tgt := 75) hx hb d_Md_takeU32_6 (by decide) (fun c_6 => ?_) (fun c_6 => absurd (by decide) c_6)
                        refine lv_lload_n hx hb d_Md_takeU32_75 rfl (lv_at hl 1 rfl) ?_
                        exact cRl ((nI (((((a + 1) + 1) + 1) + 1) + 1), nI 4, nI ((((a + 1) + 1) + 1) + 1)) : A3) hx hb hr hlocks d_Md_takeU32_76 hS hP hD (Or.inl ⟨4, ((((a + 1) + 1) + 1) + 1), by rw [hU4, pUg_F hr5 hc4, Nat.add_sub_cancel], ⟨by decide, by decide⟩, rfl, ⟨_, rfl⟩, (((((a + 1) + 1) + 1) + 1) + 1), by omega, rfl⟩) (Nat.le_refl _) (Nat.le_refl _)
                      · refine lv_lload_n hx hb d_Md_takeU32_67 rfl (lv_at hl 0 rfl) ?_
                        exact cRl ((nI (((((a + 1) + 1) + 1) + 1) + 1), nI 4, nI ((((a + 1) + 1) + 1) + 1)) : A3) hx hb hr hlocks d_Md_takeU32_68 hS hP hD (Or.inl ⟨4, ((((a + 1) + 1) + 1) + 1), by rw [hU4, pUg_F hr5 hc4, Nat.add_sub_cancel], ⟨by decide, by decide⟩, rfl, ⟨_, rfl⟩, (((((a + 1) + 1) + 1) + 1) + 1), by omega, rfl⟩) (Nat.le_refl _) (Nat.le_refl _)
                · have hd3 : v4 < 128 := Nat.lt_of_not_le (fun q => c_64 (nI_le (a := 128) (b := v4) q (by omega)))
                  refine lv_lload_n hx hb d_Md_takeU32_67 rfl (lv_at hl 0 rfl) ?_
                  exact cRl ((nI ((((a + 1) + 1) + 1) + 1), 0, p) : A3) hx hb hr hlocks d_Md_takeU32_68 hS hP hD (Or.inr ⟨V4, ((((a + 1) + 1) + 1) + 1), hE3 hd3, rfl, rfl⟩) (Nat.le_refl _) (Nat.le_refl _)
            · have hd2 : v3 < 128 := Nat.lt_of_not_le (fun q => c_64 (nI_le (a := 128) (b := v3) q (by omega)))
              refine lv_lload_n hx hb d_Md_takeU32_67 rfl (lv_at hl 0 rfl) ?_
              exact cRl ((nI (((a + 1) + 1) + 1), 0, p) : A3) hx hb hr hlocks d_Md_takeU32_68 hS hP hD (Or.inr ⟨V3, (((a + 1) + 1) + 1), hE2 hd2, rfl, rfl⟩) (Nat.le_refl _) (Nat.le_refl _)
        · have hd1 : v2 < 128 := Nat.lt_of_not_le (fun q => c_64 (nI_le (a := 128) (b := v2) q (by omega)))
          refine lv_lload_n hx hb d_Md_takeU32_67 rfl (lv_at hl 0 rfl) ?_
          exact cRl ((nI ((a + 1) + 1), 0, p) : A3) hx hb hr hlocks d_Md_takeU32_68 hS hP hD (Or.inr ⟨V2, ((a + 1) + 1), hE1 hd1, rfl, rfl⟩) (Nat.le_refl _) (Nat.le_refl _)
    · have hd0 : v1 < 128 := Nat.lt_of_not_le (fun q => c_64 (nI_le (a := 128) (b := v1) q (by omega)))
      refine lv_lload_n hx hb d_Md_takeU32_67 rfl (lv_at hl 0 rfl) ?_
      exact cRl ((nI (a + 1), 0, p) : A3) hx hb hr hlocks d_Md_takeU32_68 hS hP hD (Or.inr ⟨V1, (a + 1), hE0 hd0, rfl, rfl⟩) (Nat.le_refl _) (Nat.le_refl _)
set_option maxHeartbeats 4000000 in
set_option maxRecDepth 100000 in
/-- takeU32() after a fault -/
theorem c_Md_takeU32F (l : Launch) (hl9 : l.stackTraces = false) (D : va_G) (cA : Nat → ClassId) (ad : Nat → Nat) (sz : Nat) (m0 : Nat) (g : Nat → Nat) (K : MK) (e : Int32) (np : Nat) (B : MB) (fd pe : Nat → Int32) (hnp : 1 ≤ np ∧ np ≤ 4) (x ff p : Int32) (hf : ¬ ff = 0 ∧ ¬ ff ≤ 0)  :
    cM l y_Md_takeU32 (.code y_Md_takeU32 b_Md_takeU32 5 (some .long) :: wAll) ({ frames := 2, cells := 0, slots := 0, locals := 42 }) D cA ad [.ref m0] [(m0, .inr (6, mF g K (x, ff, p) e (nI np) B)), ((g 0), .inl (cA 3, 2000, .inl fd)), ((g 10), .inl (cA 3, 4, .inl pe))] sz (fun v (_ : Unit) => ∃ w : Int64, v = some (.long w)) (fun _ => False) (fun _ => [(m0, .inr (6, mF g K (x, ff, p) e (nI np) B)), ((g 0), .inl (cA 3, 2000, .inl fd)), ((g 10), .inl (cA 3, 4, .inl pe))]) (fun _ => (0, 0)) := by
  refine cM.ofW (cc := b_Md_takeU32) (maxL := 5) (ret := (some .long)) (by decide) (Nat.le_of_ble_eq_true rfl) ?_
  intro pg ev s m bw meth cdx A ls hF hsz hA hE hP hD hl
  obtain ⟨⟨hx, hb, hml, hown, hts⟩, hr, hno, hlocks, hin⟩ := hF
  subst hsz
  have hown : s.vm.findClass "ModuleBytesModel" = some m.cls := hown
  have hS : va_S A s.heap s.heap [] := va_S.rf
  have hl : lv_has ls 5 [(0, .ref m0)] := hl
  have hP : va_P D cls [(m0, .inr (6, mF g K (x, ff, p) e (nI np) B)), ((g 0), .inl (cA 3, 2000, .inl fd)), ((g 10), .inl (cA 3, 4, .inl pe))] s.heap := hP
  have hD : va_D A [(m0, .inr (6, mF g K (x, ff, p) e (nI np) B)), ((g 0), .inl (cA 3, 2000, .inl fd)), ((g 10), .inl (cA 3, 4, .inl pe))] := hD
  refine lv_lconst (v := 0) hx hb d_Md_takeU32_0 (by decide) ?_
  refine lv_lstore_n (lv' := [(1, .long 0), (0, .ref m0)]) hx hb d_Md_takeU32_1 rfl hl (by decide) rfl (fun ls hl => ?_)
  refine lv_iconst (v := 0) hx hb d_Md_takeU32_2 (by decide) ?_
  refine lv_istore_n (lv' := [(3, .int 0), (1, .long 0), (0, .ref m0)]) hx hb d_Md_takeU32_3 rfl hl (by decide) rfl (fun ls hl => ?_)
  refine lv_iload_n hx hb d_Md_takeU32_4 rfl (lv_at hl 0 rfl) ?_
  refine lv_iconst (v := 5) hx hb d_Md_takeU32_5 (by decide) ?_
  refine lv_icmp_ge (tgt := 75) hx hb d_Md_takeU32_6 (by decide) (fun c_6 => absurd c_6 (by decide)) (fun c_6 => ?_)
  refine lv_aload_n hx hb d_Md_takeU32_9 rfl (lv_at hl 2 rfl) ?_
  refine va_get (D := D) (ci := 6) (v := .int ff) (C := R_Md) (T := F_Md) (N := 44) hx hb hts (fun w h => List.mem_cons_of_mem _ (i_Md w h)) hown hE.1 hP 0 rfl rfl 3 (by decide) (hts _ (List.mem_cons_of_mem _ iw3_57)) (fun _ h9 => h9) rfl d_Md_takeU32_10 ?_
  refine lv_if_ne (tgt := 75) hx hb d_Md_takeU32_13 (by decide) (fun c_13 => ?_) (fun c_13 => absurd c_13 (hf.1))
  refine lv_lload_n hx hb d_Md_takeU32_75 rfl (lv_at hl 1 rfl) ?_
  exact cRl () hx hb hr hlocks d_Md_takeU32_76 hS hP hD (⟨_, rfl⟩) (Nat.le_refl _) (Nat.le_refl _)
