set_option maxHeartbeats 4000000 in
set_option maxRecDepth 100000 in
/-- clear() -/
theorem c_Tb_clear (l : Launch) (hl9 : l.stackTraces = false) (D : va_G) (cA : Nat → ClassId) (ad : Nat → Nat) (sz : Nat) (t0 c0 w n len : Nat) (con : Nat → Int64) (hw : w ≤ 9) (hn : n ≤ 4000) (hnl : n * w ≤ len) (hlen : len ≤ 80000) :
    cM l y_Tb_clear (.code y_Tb_clear b_Tb_clear 1 none :: wAll) ({ frames := 0, cells := 0, slots := 0, locals := 0 }) D cA ad [.ref t0] (wTb cA t0 w (c0, n, len, con)) sz (fun v u => v = none ∧ u = (c0, 0, len, con)) (fun _ => False) (wTb cA t0 w) (fun _ => (0, 0)) := by
  refine cM.ofW (cc := b_Tb_clear) (maxL := 1) (ret := none) (by decide) (Nat.le_of_ble_eq_true rfl) ?_
  intro pg ev s m bw meth cdx A ls hF hsz hA hE hP hD hl
  obtain ⟨⟨hx, hb, hml, hown, hts⟩, hr, hno, hlocks, hin⟩ := hF
  subst hsz
  have hown : s.vm.findClass "ModuleBytes$Table" = some m.cls := hown
  have hS : va_S A s.heap s.heap [] := va_S.rf
  have hl : lv_has ls 1 [(0, .ref t0)] := hl
  have hP : va_P D cls [(t0, .inr (0, [.int (nI w), .ref c0, .int (nI n)])), (c0, .inl (cA 1, len, .inr (.inl con)))] s.heap := hP
  have hD : va_D A [(t0, .inr (0, [.int (nI w), .ref c0, .int (nI n)])), (c0, .inl (cA 1, len, .inr (.inl con)))] := hD
  refine lv_aload_n hx hb d_Tb_clear_0 rfl (lv_at hl 0 rfl) ?_
  refine lv_iconst (v := 0) hx hb d_Tb_clear_1 (by decide) ?_
  refine va_put (D := D) (ci := 0) (v := .int 0) (ty := .int) (C := R_Tb) (T := F_Tb) (N := 3) hx hb hts (fun w h => List.mem_cons_of_mem _ (i_Tb w h)) t_Tb tk_Tb n_Tb hown hE.1 hP hD hS 0 rfl rfl 2 (by decide) (hts _ (List.mem_cons_of_mem _ iw1_42)) (fun _ h9 => h9) rfl (by decide +kernel) rfl rfl (Nat.le_of_ble_eq_true rfl) d_Tb_clear_2 (fun H locs hP hD hS => ?_)
  have hP : va_P D cls [(t0, .inr (0, [.int (nI w), .ref c0, .int 0])), (c0, .inl (cA 1, len, .inr (.inl con)))] H := hP
  have hD : va_D A [(t0, .inr (0, [.int (nI w), .ref c0, .int 0])), (c0, .inl (cA 1, len, .inr (.inl con)))] := hD
  exact cRv (c0, 0, len, con) hx hb hr hlocks d_Tb_clear_5 hS hP hD (⟨rfl, rfl⟩) (Nat.le_refl _) (Nat.le_refl _)
set_option maxHeartbeats 4000000 in
set_option maxRecDepth 100000 in
/-- at(k, c) -/
theorem c_Tb_at (l : Launch) (hl9 : l.stackTraces = false) (D : va_G) (cA : Nat → ClassId) (ad : Nat → Nat) (sz : Nat) (t0 c0 w n len : Nat) (con : Nat → Int64) (hw : w ≤ 9) (hn : n ≤ 4000) (hnl : n * w ≤ len) (hlen : len ≤ 80000) (k c : Int32) :
    cM l y_Tb_at (.code y_Tb_at b_Tb_at 3 (some .long) :: wAll) ({ frames := 0, cells := 0, slots := 0, locals := 0 }) D cA ad [.ref t0, .int k, .int c] (wTb cA t0 w (c0, n, len, con)) sz (fun v u => v = some (.long (tAt w n con k c)) ∧ u = (c0, n, len, con)) (fun _ => False) (wTb cA t0 w) (fun _ => (0, 0)) := by
  refine cM.ofW (cc := b_Tb_at) (maxL := 3) (ret := (some .long)) (by decide) (Nat.le_of_ble_eq_true rfl) ?_
  intro pg ev s m bw meth cdx A ls hF hsz hA hE hP hD hl
  obtain ⟨⟨hx, hb, hml, hown, hts⟩, hr, hno, hlocks, hin⟩ := hF
  subst hsz
  have hown : s.vm.findClass "ModuleBytes$Table" = some m.cls := hown
  have hS : va_S A s.heap s.heap [] := va_S.rf
  have hl : lv_has ls 3 [(0, .ref t0), (1, .int k), (2, .int c)] := hl
  have hP : va_P D cls [(t0, .inr (0, [.int (nI w), .ref c0, .int (nI n)])), (c0, .inl (cA 1, len, .inr (.inl con)))] s.heap := hP
  have hD : va_D A [(t0, .inr (0, [.int (nI w), .ref c0, .int (nI n)])), (c0, .inl (cA 1, len, .inr (.inl con)))] := hD
  refine lv_iload_n hx hb d_Tb_at_0 rfl (lv_at hl 1 rfl) ?_
  refine lv_if_lt (tgt := 24) hx hb d_Tb_at_1 (by decide) (fun c_1 => ?_) (fun c_1 => ?_)
  · refine lv_ldc2 hx hb hown (hts _ (List.mem_cons_of_mem _ iw2_78)) d_Tb_at_24 ?_
    have hh : tAt w n con k c = -1 := by
      rw [tAt, if_pos]
      first | exact Or.inl c_1 | exact Or.inr (Or.inl c_9) | exact Or.inr (Or.inr (Or.inl c_13)) | exact Or.inr (Or.inr (Or.inr (Int32.not_lt.mp c_21)))
    exact cRl (c0, n, len, con) hx hb hr hlocks d_Tb_at_27 hS hP hD (⟨by rw [hh], rfl⟩) (Nat.le_refl _) (Nat.le_refl _)
  · refine lv_iload_n hx hb d_Tb_at_4 rfl (lv_at hl 1 rfl) ?_
    refine lv_aload_n hx hb d_Tb_at_5 rfl (lv_at hl 0 rfl) ?_
    refine va_get (D := D) (ci := 0) (v := .int (nI n)) (C := R_Tb) (T := F_Tb) (N := 3) hx hb hts (fun w h => List.mem_cons_of_mem _ (i_Tb w h)) hown hE.1 hP 0 rfl rfl 2 (by decide) (hts _ (List.mem_cons_of_mem _ iw1_42)) (fun _ h9 => h9) rfl d_Tb_at_6 ?_
    refine lv_icmp_ge (tgt := 24) hx hb d_Tb_at_9 (by decide) (fun c_9 => ?_) (fun c_9 => ?_)
    · refine lv_ldc2 hx hb hown (hts _ (List.mem_cons_of_mem _ iw2_78)) d_Tb_at_24 ?_
      have hh : tAt w n con k c = -1 := by
        rw [tAt, if_pos]
        first | exact Or.inl c_1 | exact Or.inr (Or.inl c_9) | exact Or.inr (Or.inr (Or.inl c_13)) | exact Or.inr (Or.inr (Or.inr (Int32.not_lt.mp c_21)))
      exact cRl (c0, n, len, con) hx hb hr hlocks d_Tb_at_27 hS hP hD (⟨by rw [hh], rfl⟩) (Nat.le_refl _) (Nat.le_refl _)
    · refine lv_iload_n hx hb d_Tb_at_12 rfl (lv_at hl 2 rfl) ?_
      refine lv_if_lt (tgt := 24) hx hb d_Tb_at_13 (by decide) (fun c_13 => ?_) (fun c_13 => ?_)
      · refine lv_ldc2 hx hb hown (hts _ (List.mem_cons_of_mem _ iw2_78)) d_Tb_at_24 ?_
        have hh : tAt w n con k c = -1 := by
          rw [tAt, if_pos]
          first | exact Or.inl c_1 | exact Or.inr (Or.inl c_9) | exact Or.inr (Or.inr (Or.inl c_13)) | exact Or.inr (Or.inr (Or.inr (Int32.not_lt.mp c_21)))
        exact cRl (c0, n, len, con) hx hb hr hlocks d_Tb_at_27 hS hP hD (⟨by rw [hh], rfl⟩) (Nat.le_refl _) (Nat.le_refl _)
      · refine lv_iload_n hx hb d_Tb_at_16 rfl (lv_at hl 2 rfl) ?_
        refine lv_aload_n hx hb d_Tb_at_17 rfl (lv_at hl 0 rfl) ?_
        refine va_get (D := D) (ci := 0) (v := .int (nI w)) (C := R_Tb) (T := F_Tb) (N := 3) hx hb hts (fun w h => List.mem_cons_of_mem _ (i_Tb w h)) hown hE.1 hP 0 rfl rfl 0 (by decide) (hts _ (List.mem_cons_of_mem _ iw1_40)) (fun _ h9 => h9) rfl d_Tb_at_18 ?_
        refine lv_icmp_lt (tgt := 28) hx hb d_Tb_at_21 (by decide) (fun c_21 => ?_) (fun c_21 => ?_)
        · obtain ⟨j, hj, rfl⟩ := nI_of c_1
          obtain ⟨i, hi, rfl⟩ := nI_of c_13
          have hjn : j < n := Nat.lt_of_not_le (fun q => c_9 (nI_le q (by omega)))
          have hiw : i < w := (nI_ltI (by omega) (by omega)).mp c_21
          have hix : j * w + i < n * w := by
            have q : (j + 1) * w ≤ n * w := Nat.mul_le_mul_right w hjn
            rw [Nat.add_mul] at q; omega
          have hh : tAt w n con (nI j) (nI i) = con (j * w + i) := by
            rw [tAt, if_neg (by rintro (q | q | q | q); exact c_1 q; exact c_9 q; exact c_13 q; exact absurd c_21 (Int32.not_lt.mpr q)), nI_clamp hj, nI_clamp hi]
          refine lv_aload_n hx hb d_Tb_at_28 rfl (lv_at hl 0 rfl) ?_
          refine va_get (D := D) (ci := 0) (v := .ref c0) (C := R_Tb) (T := F_Tb) (N := 3) hx hb hts (fun w h => List.mem_cons_of_mem _ (i_Tb w h)) hown hE.1 hP 0 rfl rfl 1 (by decide) (hts _ (List.mem_cons_of_mem _ iw1_41)) (fun _ h9 => h9) rfl d_Tb_at_29 ?_
          refine lv_iload_n hx hb d_Tb_at_32 rfl (lv_at hl 1 rfl) ?_
          refine lv_aload_n hx hb d_Tb_at_33 rfl (lv_at hl 0 rfl) ?_
          refine va_get (D := D) (ci := 0) (v := .int (nI w)) (C := R_Tb) (T := F_Tb) (N := 3) hx hb hts (fun w h => List.mem_cons_of_mem _ (i_Tb w h)) hown hE.1 hP 0 rfl rfl 0 (by decide) (hts _ (List.mem_cons_of_mem _ iw1_40)) (fun _ h9 => h9) rfl d_Tb_at_34 ?_
          refine lv_imul hx hb d_Tb_at_37 ?_
          refine lv_iload_n hx hb d_Tb_at_38 rfl (lv_at hl 2 rfl) ?_
          refine lv_iadd hx hb d_Tb_at_39 ?_
          rw [pk_mul, nI_add]
          refine va_lald hx hb hE.1 hP 1 1 rfl rfl (vp_in_nI (by omega) (by omega)) d_Tb_at_40 ?_
          rw [nI_clamp (n := j * w + i) (by omega)]
          exact cRl (c0, n, len, con) hx hb hr hlocks d_Tb_at_41 hS hP hD (⟨by rw [hh], rfl⟩) (Nat.le_refl _) (Nat.le_refl _)
        · refine lv_ldc2 hx hb hown (hts _ (List.mem_cons_of_mem _ iw2_78)) d_Tb_at_24 ?_
          have hh : tAt w n con k c = -1 := by
            rw [tAt, if_pos]
            first | exact Or.inl c_1 | exact Or.inr (Or.inl c_9) | exact Or.inr (Or.inr (Or.inl c_13)) | exact Or.inr (Or.inr (Or.inr (Int32.not_lt.mp c_21)))
          exact cRl (c0, n, len, con) hx hb hr hlocks d_Tb_at_27 hS hP hD (⟨by rw [hh], rfl⟩) (Nat.le_refl _) (Nat.le_refl _)
set_option maxHeartbeats 4000000 in
set_option maxRecDepth 100000 in
/-- put(c, x) -/
theorem c_Tb_put (l : Launch) (hl9 : l.stackTraces = false) (D : va_G) (cA : Nat → ClassId) (ad : Nat → Nat) (sz : Nat) (t0 c0 w n len : Nat) (con : Nat → Int64) (hw : w ≤ 9) (hn : n ≤ 4000) (hnl : n * w ≤ len) (hlen : len ≤ 80000) (c : Nat) (x : Int64) (hn1 : 1 ≤ n) (hc : c < w) :
    cM l y_Tb_put (.code y_Tb_put b_Tb_put 4 none :: wAll) ({ frames := 0, cells := 0, slots := 0, locals := 0 }) D cA ad [.ref t0, .int (nI c), .long x] (wTb cA t0 w (c0, n, len, con)) sz (fun v u => v = none ∧ u = (c0, n, len, vp_updL con ((n - 1) * w + c) x)) (fun _ => False) (wTb cA t0 w) (fun _ => (0, 0)) := by
  refine cM.ofW (cc := b_Tb_put) (maxL := 4) (ret := none) (by decide) (Nat.le_of_ble_eq_true rfl) ?_
  intro pg ev s m bw meth cdx A ls hF hsz hA hE hP hD hl
  obtain ⟨⟨hx, hb, hml, hown, hts⟩, hr, hno, hlocks, hin⟩ := hF
  subst hsz
  have hown : s.vm.findClass "ModuleBytes$Table" = some m.cls := hown
  have hS : va_S A s.heap s.heap [] := va_S.rf
  have hl : lv_has ls 4 [(0, .ref t0), (1, .int (nI c)), (2, .long x)] := hl
  have hP : va_P D cls [(t0, .inr (0, [.int (nI w), .ref c0, .int (nI n)])), (c0, .inl (cA 1, len, .inr (.inl con)))] s.heap := hP
  have hD : va_D A [(t0, .inr (0, [.int (nI w), .ref c0, .int (nI n)])), (c0, .inl (cA 1, len, .inr (.inl con)))] := hD
  refine lv_aload_n hx hb d_Tb_put_0 rfl (lv_at hl 0 rfl) ?_
  refine va_get (D := D) (ci := 0) (v := .int (nI n)) (C := R_Tb) (T := F_Tb) (N := 3) hx hb hts (fun w h => List.mem_cons_of_mem _ (i_Tb w h)) hown hE.1 hP 0 rfl rfl 2 (by decide) (hts _ (List.mem_cons_of_mem _ iw1_42)) (fun _ h9 => h9) rfl d_Tb_put_1 ?_
  refine lv_if_le (tgt := 38) hx hb d_Tb_put_4 (by decide) (fun c_4 => absurd c_4 (nI_nle (by omega) (by omega))) (fun c_4 => ?_)
  refine lv_iload_n hx hb d_Tb_put_7 rfl (lv_at hl 1 rfl) ?_
  refine lv_if_lt (tgt := 38) hx hb d_Tb_put_8 (by decide) (fun c_8 => absurd c_8 (nI_pos (by omega))) (fun c_8 => ?_)
  refine lv_iload_n hx hb d_Tb_put_11 rfl (lv_at hl 1 rfl) ?_
  refine lv_aload_n hx hb d_Tb_put_12 rfl (lv_at hl 0 rfl) ?_
  refine va_get (D := D) (ci := 0) (v := .int (nI w)) (C := R_Tb) (T := F_Tb) (N := 3) hx hb hts (fun w h => List.mem_cons_of_mem _ (i_Tb w h)) hown hE.1 hP 0 rfl rfl 0 (by decide) (hts _ (List.mem_cons_of_mem _ iw1_40)) (fun _ h9 => h9) rfl d_Tb_put_13 ?_
  refine lv_icmp_ge (tgt := 38) hx hb d_Tb_put_16 (by decide) (fun c_16 => absurd c_16 (nI_ge hc (by omega))) (fun c_16 => ?_)
  refine lv_aload_n hx hb d_Tb_put_19 rfl (lv_at hl 0 rfl) ?_
  refine va_get (D := D) (ci := 0) (v := .ref c0) (C := R_Tb) (T := F_Tb) (N := 3) hx hb hts (fun w h => List.mem_cons_of_mem _ (i_Tb w h)) hown hE.1 hP 0 rfl rfl 1 (by decide) (hts _ (List.mem_cons_of_mem _ iw1_41)) (fun _ h9 => h9) rfl d_Tb_put_20 ?_
  refine lv_aload_n hx hb d_Tb_put_23 rfl (lv_at hl 0 rfl) ?_
  refine va_get (D := D) (ci := 0) (v := .int (nI n)) (C := R_Tb) (T := F_Tb) (N := 3) hx hb hts (fun w h => List.mem_cons_of_mem _ (i_Tb w h)) hown hE.1 hP 0 rfl rfl 2 (by decide) (hts _ (List.mem_cons_of_mem _ iw1_42)) (fun _ h9 => h9) rfl d_Tb_put_24 ?_
  refine lv_iconst (v := 1) hx hb d_Tb_put_27 (by decide) ?_
  refine lv_isub hx hb d_Tb_put_28 ?_
  refine lv_aload_n hx hb d_Tb_put_29 rfl (lv_at hl 0 rfl) ?_
  refine va_get (D := D) (ci := 0) (v := .int (nI w)) (C := R_Tb) (T := F_Tb) (N := 3) hx hb hts (fun w h => List.mem_cons_of_mem _ (i_Tb w h)) hown hE.1 hP 0 rfl rfl 0 (by decide) (hts _ (List.mem_cons_of_mem _ iw1_40)) (fun _ h9 => h9) rfl d_Tb_put_30 ?_
  refine lv_imul hx hb d_Tb_put_33 ?_
  refine lv_iload_n hx hb d_Tb_put_34 rfl (lv_at hl 1 rfl) ?_
  refine lv_iadd hx hb d_Tb_put_35 ?_
  rw [show nI n - 1 = nI (n - 1) from pk_sub (b := 1) hn1, pk_mul, nI_add]
  have hix : (n - 1) * w + c < n * w := by
    have q : (n - 1 + 1) * w = n * w := by rw [Nat.sub_add_cancel hn1]
    rw [Nat.add_mul] at q; omega
  refine lv_lload_n hx hb d_Tb_put_36 rfl (lv_at hl 2 rfl) ?_
  refine va_last hx hb hE.1 hP hD hS 1 1 rfl rfl (vp_in_nI (by omega) (by omega)) d_Tb_put_37 (fun H locs hP hD hS => ?_)
  have hP : va_P D cls [(t0, .inr (0, [.int (nI w), .ref c0, .int (nI n)])), (c0, .inl (cA 1, len, .inr (.inl (vp_updL con (nI ((n - 1) * w + c)).toNatClampNeg x))))] H := hP
  have hD : va_D A [(t0, .inr (0, [.int (nI w), .ref c0, .int (nI n)])), (c0, .inl (cA 1, len, .inr (.inl (vp_updL con (nI ((n - 1) * w + c)).toNatClampNeg x))))] := hD
  rw [nI_clamp (n := (n - 1) * w + c) (by omega)] at hP hD
  exact cRv (c0, n, len, vp_updL con ((n - 1) * w + c) x) hx hb hr hlocks d_Tb_put_38 hS hP hD (⟨rfl, rfl⟩) (Nat.le_refl _) (Nat.le_refl _)
set_option maxHeartbeats 4000000 in
set_option maxRecDepth 100000 in
theorem c_Tb_init (l : Launch) (D : va_G) (cA : Nat → ClassId) (ad : Nat → Nat) (sz : Nat) (t0 w : Nat) (hw : w ≤ 9) :
    cM l y_Tb_init (.code y_Tb_init b_Tb_init 2 none :: wAll) ({ frames := 1, cells := 1, slots := w * 4, locals := 12 }) D cA ad [.ref t0, .int (nI w)] [(t0, .inr (0, [.int 0, .null, .int 0]))] sz (fun v u => v = none ∧ u.2 = (0, w * 4, fun _ => 0)) (fun _ => False) (wTb cA t0 w) (fun _ => (1, w * 4)) := by
  refine cM.ofW (cc := b_Tb_init) (maxL := 2) (ret := none) (by decide) (Nat.le_of_ble_eq_true rfl) ?_
  intro pg ev s m bw meth cdx A ls hF hsz hA hE hP hD hl
  obtain ⟨⟨hx, hb, hml, hown, hts⟩, hr, hno, hlocks, hin⟩ := hF
  subst hsz
  have hown : s.vm.findClass "ModuleBytes$Table" = some m.cls := hown
  have hS : va_S A s.heap s.heap [] := va_S.rf
  have hl : lv_has ls 2 [(0, .ref t0), (1, .int (nI w))] := hl
  refine lv_aload_n hx hb d_Tb_init_0 rfl (lv_at hl 0 rfl) ?_
  refine W.objInit hx hb hown (hts _ (List.mem_cons_of_mem _ iw1_39)) (hts _ (List.mem_cons_of_mem _ iw1_21)) (hts _ (List.mem_cons_of_mem _ iw_oinit)) rfl (by rw [hml]; exact hl.1) rfl d_Tb_init_1 (Nat.le_of_ble_eq_true rfl) (Nat.le_of_ble_eq_true rfl) ?_
  refine W.eq (g2 := F0 m 4 ls []) rfl ?_
  refine lv_aload_n hx hb d_Tb_init_4 rfl (lv_at hl 0 rfl) ?_
  refine lv_iload_n hx hb d_Tb_init_5 rfl (lv_at hl 1 rfl) ?_
  refine va_putF (D := D) (ci := 0) (v := .int (nI w)) (ty := .int) (C := R_Tb) (T := F_Tb) (N := 3) hx hb hts (fun w h => List.mem_cons_of_mem _ (i_Tb w h)) t_Tb tk_Tb n_Tb hown hE.1 hP hD hS 0 rfl rfl 0 (by decide) (hts _ (List.mem_cons_of_mem _ iw1_40)) (fun _ h9 => h9) rfl hin rfl (by decide +kernel) rfl rfl (Nat.le_of_ble_eq_true rfl) d_Tb_init_6 (fun H locs hP hD hS => ?_)
  have hP : va_P D cls [(t0, .inr (0, [.int (nI w), .null, .int 0]))] H := hP
  have hD : va_D A [(t0, .inr (0, [.int (nI w), .null, .int 0]))] := hD
  refine lv_aload_n hx hb d_Tb_init_9 rfl (lv_at hl 0 rfl) ?_
  refine lv_iload_n hx hb d_Tb_init_10 rfl (lv_at hl 1 rfl) ?_
  refine lv_iconst (v := 4) hx hb d_Tb_init_11 (by decide) ?_
  refine lv_imul hx hb d_Tb_init_12 ?_
  rw [show nI w * 4 = nI (w * 4) from pk_mul w 4]
  refine va_newa (atype := .long) (ty := .long) (N' := (w * 4)) (a0 := ((w * 4), .inr (.inl (fun _ => 0)))) hx hb (hts _ (List.mem_cons_of_mem _ iw1_53)) rfl hE.1 hP hD hS hA (fun _ => rfl) (nI_pos (by omega)) (nI_clamp (by omega)) (by show w * 4 * 8 ≤ _; omega) (Nat.le_refl _) (by show 0 + w * 4 ≤ w * 4; omega) d_Tb_init_13 (fun q1 cq1 H hK9 hP hD hS => ?_)
  have hc9 : cq1 = cA 1 := Option.some.inj ((hK9.2 5 _ rfl).2.symm.trans (hE.1.2 1 _ rfl).2)
  subst hc9
  have hP : va_P D cls [(t0, .inr (0, [.int (nI w), .null, .int 0])), (q1, .inl (cA 1, (w * 4), .inr (.inl (fun _ => 0))))] H := hP
  have hD : va_D A [(t0, .inr (0, [.int (nI w), .null, .int 0])), (q1, .inl (cA 1, (w * 4), .inr (.inl (fun _ => 0))))] := hD
  refine va_put (D := D) (ci := 0) (v := .ref q1) (ty := .array .long) (C := R_Tb) (T := F_Tb) (N := 3) hx hb hts (fun w h => List.mem_cons_of_mem _ (i_Tb w h)) t_Tb tk_Tb n_Tb hown hE.1 hP hD hS 0 rfl rfl 1 (by decide) (hts _ (List.mem_cons_of_mem _ iw1_41)) (fun _ h9 => h9) rfl (by decide +kernel) rfl rfl (Nat.le_of_ble_eq_true rfl) d_Tb_init_15 (fun H locs hP hD hS => ?_)
  have hP : va_P D cls [(t0, .inr (0, [.int (nI w), .ref q1, .int 0])), (q1, .inl (cA 1, (w * 4), .inr (.inl (fun _ => 0))))] H := hP
  have hD : va_D A [(t0, .inr (0, [.int (nI w), .ref q1, .int 0])), (q1, .inl (cA 1, (w * 4), .inr (.inl (fun _ => 0))))] := hD
  refine lv_aload_n hx hb d_Tb_init_18 rfl (lv_at hl 0 rfl) ?_
  refine lv_iconst (v := 0) hx hb d_Tb_init_19 (by decide) ?_
  refine va_put (D := D) (ci := 0) (v := .int 0) (ty := .int) (C := R_Tb) (T := F_Tb) (N := 3) hx hb hts (fun w h => List.mem_cons_of_mem _ (i_Tb w h)) t_Tb tk_Tb n_Tb hown hE.1 hP hD hS 0 rfl rfl 2 (by decide) (hts _ (List.mem_cons_of_mem _ iw1_42)) (fun _ h9 => h9) rfl (by decide +kernel) rfl rfl (Nat.le_of_ble_eq_true rfl) d_Tb_init_20 (fun H locs hP hD hS => ?_)
  have hP : va_P D cls [(t0, .inr (0, [.int (nI w), .ref q1, .int 0])), (q1, .inl (cA 1, (w * 4), .inr (.inl (fun _ => 0))))] H := hP
  have hD : va_D A [(t0, .inr (0, [.int (nI w), .ref q1, .int 0])), (q1, .inl (cA 1, (w * 4), .inr (.inl (fun _ => 0))))] := hD
  exact cRv (q1, 0, w * 4, fun _ => 0) hx hb hr hlocks d_Tb_init_23 hS hP hD (⟨rfl, rfl⟩) (Nat.le_refl _) (by show 0 + w * 4 ≤ w * 4; omega)
