theorem pUg_inv {b : Nat → Nat} {lm n sh a V v a' : Nat} (h : pUg b lm (n + 1) sh a V = .inr (v, a')) : a < lm ∧ (b a < 128 → v = V + b a % 128 * 2 ^ sh ∧ a' = a + 1) ∧ (¬ b a < 128 → ¬ n = 0 ∧ pUg b lm n (sh + 7) (a + 1) (V + b a % 128 * 2 ^ sh) = .inr (v, a')) := by
  cases hx : pNext b lm a with
  | inl z => rw [pUg_T hx] at h; cases h
  | inr z =>
    obtain ⟨g, a1⟩ := z
    obtain ⟨q1, q2, q3⟩ := pNext_ok hx
    subst q2 q3
    by_cases c1 : n = 0 ∧ 15 < b a
    · obtain ⟨rfl, c⟩ := c1
      rw [pUg_F hx c] at h; cases h
    · refine ⟨q1, fun c2 => ?_, fun c2 => ?_⟩
      · rw [pUg_E hx c1 c2] at h; cases h; exact ⟨rfl, rfl⟩
      · rw [pUg_C hx c1 c2] at h
        exact ⟨fun q => c1 ⟨q, by omega⟩, h⟩
theorem u_step2 (k : Nat) (hk : k < 56) {y : Int32} (hy : y = nI k) {v g : Nat} (hv : v < 2 ^ k) (hg : g < 128) : lN v ||| ((nI g).toInt64 <<< (y.toInt64 &&& 63)) = lN (v + g % 128 * 2 ^ k) := by
  have := u_step k hk hy hv (g := g) (by omega)
  rw [pk_andN (n := g) (by omega) 7 (by decide +kernel), Nat.mod_eq_of_lt (show g < 2 ^ 7 by omega)] at this
  rw [Nat.mod_eq_of_lt hg]
  exact this
set_option maxHeartbeats 4000000 in
set_option maxRecDepth 100000 in
/-- number() -/
theorem c_Md_number (l : Launch) (hl9 : l.stackTraces = false) (D : va_G) (cA : Nat → ClassId) (ad : Nat → Nat) (sz : Nat) (m0 : Nat) (g : Nat → Nat) (K : MK) (A0 : A3) (e np : Int32) (B : MB) (yb : Nat → Int32) (b : Nat → Nat) (lm : Nat) (hlm : lm ≤ 2000) (hyb : ∀ i, i < lm → yb i = nI (b i)) (hb9 : ∀ i, b i < 256) (a v a' : Nat) (ha : a ≤ lm) (hr0 : pU32 b lm a = .inr (v, a')) :
    cM l y_Md_number (.code y_Md_number b_Md_number 4 (some .long) :: wAll) ({ frames := 0, cells := 0, slots := 0, locals := 0 }) D cA ad [.ref m0] [(m0, .inr (6, mF g (K.1, K.2.1, K.2.2.1, K.2.2.2.1, K.2.2.2.2.1, K.2.2.2.2.2.1, K.2.2.2.2.2.2.1, K.2.2.2.2.2.2.2.1, nI a) A0 e np B)), ((g 30), .inl (cA 3, 2000, .inl yb))] sz (fun x (_ : Unit) => x = some (.long (lN v))) (fun _ => False) (fun _ => [(m0, .inr (6, mF g (K.1, K.2.1, K.2.2.1, K.2.2.2.1, K.2.2.2.2.1, K.2.2.2.2.2.1, K.2.2.2.2.2.2.1, K.2.2.2.2.2.2.2.1, nI a') A0 e np B)), ((g 30), .inl (cA 3, 2000, .inl yb))]) (fun _ => (0, 0)) := by
  refine cM.ofW (cc := b_Md_number) (maxL := 4) (ret := (some .long)) (by decide) (Nat.le_of_ble_eq_true rfl) ?_
  intro pg ev s m bw meth cdx A ls hF hsz hA hE hP hD hl
  obtain ⟨⟨hx, hb, hml, hown, hts⟩, hr, hno, hlocks, hin⟩ := hF
  subst hsz
  have hown : s.vm.findClass "ModuleBytesModel" = some m.cls := hown
  have hS : va_S A s.heap s.heap [] := va_S.rf
  have hl : lv_has ls 4 [(0, .ref m0)] := hl
  have hP : va_P D cls [(m0, .inr (6, mF g (K.1, K.2.1, K.2.2.1, K.2.2.2.1, K.2.2.2.2.1, K.2.2.2.2.2.1, K.2.2.2.2.2.2.1, K.2.2.2.2.2.2.2.1, nI a) A0 e np B)), ((g 30), .inl (cA 3, 2000, .inl yb))] s.heap := hP
  have hD : va_D A [(m0, .inr (6, mF g (K.1, K.2.1, K.2.2.1, K.2.2.2.1, K.2.2.2.2.1, K.2.2.2.2.2.1, K.2.2.2.2.2.2.1, K.2.2.2.2.2.2.2.1, nI a) A0 e np B)), ((g 30), .inl (cA 3, 2000, .inl yb))] := hD
  refine lv_lconst (v := 0) hx hb d_Md_number_0 (by decide) ?_
  refine lv_lstore_n (lv' := [(1, .long 0), (0, .ref m0)]) hx hb d_Md_number_1 rfl hl (by decide) rfl (fun ls hl => ?_)
  refine lv_iconst (v := 0) hx hb d_Md_number_2 (by decide) ?_
  refine lv_istore_n (lv' := [(3, .int 0), (1, .long 0), (0, .ref m0)]) hx hb d_Md_number_3 rfl hl (by decide) rfl (fun ls hl => ?_)
  have hU0 : pUg b lm 5 0 a 0 = .inr (v, a') := hr0
  obtain ⟨hl_0, he_0, hc_0⟩ := pUg_inv hU0
  have hB0 := hb9 a
  refine lv_aload_n hx hb d_Md_number_4 rfl (lv_at hl 2 rfl) ?_
  refine va_get (D := D) (ci := 6) (v := .ref (g 30)) (C := R_Md) (T := F_Md) (N := 44) hx hb hts (fun w h => List.mem_cons_of_mem _ (i_Md w h)) hown hE.1 hP 0 rfl rfl 30 (by decide) (hts _ (List.mem_cons_of_mem _ iw3_84)) (fun _ h9 => h9) rfl d_Md_number_5 ?_
  refine lv_aload_n hx hb d_Md_number_8 rfl (lv_at hl 2 rfl) ?_
  refine va_get (D := D) (ci := 6) (v := .int (nI a)) (C := R_Md) (T := F_Md) (N := 44) hx hb hts (fun w h => List.mem_cons_of_mem _ (i_Md w h)) hown hE.1 hP 0 rfl rfl 43 (by decide) (hts _ (List.mem_cons_of_mem _ iw3_97)) (fun _ h9 => h9) rfl d_Md_number_9 ?_
  refine va_iald hx hb hE.1 hP 1 3 rfl rfl (vp_in_nI (by omega) (by omega)) d_Md_number_12 ?_
  rw [nI_clamp (n := a) (by omega), hyb a (by omega)]
  refine lv_bipush (v := 127) hx hb d_Md_number_13 (by decide) ?_
  refine lv_icmp_le (tgt := 55) hx hb d_Md_number_15 (by decide) (fun c_15 => ?_) (fun c_15 => ?_)
  · refine lv_lload_n hx hb d_Md_number_55 rfl (lv_at hl 1 rfl) ?_
    refine lv_aload_n hx hb d_Md_number_56 rfl (lv_at hl 2 rfl) ?_
    refine va_get (D := D) (ci := 6) (v := .ref (g 30)) (C := R_Md) (T := F_Md) (N := 44) hx hb hts (fun w h => List.mem_cons_of_mem _ (i_Md w h)) hown hE.1 hP 0 rfl rfl 30 (by decide) (hts _ (List.mem_cons_of_mem _ iw3_84)) (fun _ h9 => h9) rfl d_Md_number_57 ?_
    refine lv_aload_n hx hb d_Md_number_60 rfl (lv_at hl 2 rfl) ?_
    refine va_get (D := D) (ci := 6) (v := .int (nI a)) (C := R_Md) (T := F_Md) (N := 44) hx hb hts (fun w h => List.mem_cons_of_mem _ (i_Md w h)) hown hE.1 hP 0 rfl rfl 43 (by decide) (hts _ (List.mem_cons_of_mem _ iw3_97)) (fun _ h9 => h9) rfl d_Md_number_61 ?_
    refine va_iald hx hb hE.1 hP 1 3 rfl rfl (vp_in_nI (by omega) (by omega)) d_Md_number_64 ?_
    rw [nI_clamp (n := a) (by omega), hyb a (by omega)]
    refine lv_i2l hx hb d_Md_number_65 rfl ?_
    refine lv_bipush (v := 7) hx hb d_Md_number_66 (by decide) ?_
    refine lv_iload_n hx hb d_Md_number_68 rfl (lv_at hl 0 rfl) ?_
    refine lv_imul hx hb d_Md_number_69 ?_
    refine W.eq (g2 := F0 m 70 ls [.int 0, .long ((nI (b a)).toInt64), .long 0]) (by rw [show (7 : Int32) * 0 = 0 from by decide +kernel]) ?_
    refine lv_lshl hx hb d_Md_number_70 rfl ?_
    refine lv_lor hx hb d_Md_number_71 ?_
    have hg0 : b a < 128 := by have := (nI_leI (a := b a) (b := 127) (by omega) (by omega)).mp c_15; omega
    obtain ⟨rfl, rfl⟩ := he_0 hg0
    refine lv_topl (fun yE eyE => ?_)
    have hyE : yE = lN (0 + b a % 128 * 2 ^ 0) := eyE.trans (u_step2 0 (by decide) (by decide) (v := 0) (by decide) hg0)
    subst hyE
    refine lv_lstore_n (lv' := [(1, .long (lN (0 + b a % 128 * 2 ^ 0))), (3, .int 0), (0, .ref m0)]) hx hb d_Md_number_72 rfl hl (by decide) rfl (fun ls hl => ?_)
    refine lv_aload_n hx hb d_Md_number_73 rfl (lv_at hl 2 rfl) ?_
    refine lv_dup hx hb d_Md_number_74 rfl ?_
    refine va_get (D := D) (ci := 6) (v := .int (nI a)) (C := R_Md) (T := F_Md) (N := 44) hx hb hts (fun w h => List.mem_cons_of_mem _ (i_Md w h)) hown hE.1 hP 0 rfl rfl 43 (by decide) (hts _ (List.mem_cons_of_mem _ iw3_97)) (fun _ h9 => h9) rfl d_Md_number_75 ?_
    refine lv_iconst (v := 1) hx hb d_Md_number_78 (by decide) ?_
    refine lv_iadd hx hb d_Md_number_79 ?_
    rw [nI_1]
    refine va_put (D := D) (ci := 6) (v := .int (nI (a + 1))) (ty := .int) (C := R_Md) (T := F_Md) (N := 44) hx hb hts (fun w h => List.mem_cons_of_mem _ (i_Md w h)) t_Md tk_Md n_Md hown hE.1 hP hD hS 0 rfl rfl 43 (by decide) (hts _ (List.mem_cons_of_mem _ iw3_97)) (fun _ h9 => h9) rfl (by decide +kernel) rfl rfl (Nat.le_of_ble_eq_true rfl) d_Md_number_80 (fun H locs hP hD hS => ?_)
    have hP : va_P D cls [(m0, .inr (6, mF g (K.1, K.2.1, K.2.2.1, K.2.2.2.1, K.2.2.2.2.1, K.2.2.2.2.2.1, K.2.2.2.2.2.2.1, K.2.2.2.2.2.2.2.1, nI (a + 1)) A0 e np B)), ((g 30), .inl (cA 3, 2000, .inl yb))] H := hP
    have hD : va_D A [(m0, .inr (6, mF g (K.1, K.2.1, K.2.2.1, K.2.2.2.1, K.2.2.2.2.1, K.2.2.2.2.2.1, K.2.2.2.2.2.2.1, K.2.2.2.2.2.2.2.1, nI (a + 1)) A0 e np B)), ((g 30), .inl (cA 3, 2000, .inl yb))] := hD
    refine lv_lload_n hx hb d_Md_number_83 rfl (lv_at hl 0 rfl) ?_
    exact cRl () hx hb hr hlocks d_Md_number_84 hS hP hD rfl (Nat.le_refl _) (Nat.le_refl _)
  · have hg0 : ¬ b a < 128 := fun q => c_15 (nI_le (a := b a) (b := 127) (by omega) (by omega))
    refine lv_lload_n hx hb d_Md_number_18 rfl (lv_at hl 1 rfl) ?_
    refine lv_aload_n hx hb d_Md_number_19 rfl (lv_at hl 2 rfl) ?_
    refine va_get (D := D) (ci := 6) (v := .ref (g 30)) (C := R_Md) (T := F_Md) (N := 44) hx hb hts (fun w h => List.mem_cons_of_mem _ (i_Md w h)) hown hE.1 hP 0 rfl rfl 30 (by decide) (hts _ (List.mem_cons_of_mem _ iw3_84)) (fun _ h9 => h9) rfl d_Md_number_20 ?_
    refine lv_aload_n hx hb d_Md_number_23 rfl (lv_at hl 2 rfl) ?_
    refine va_get (D := D) (ci := 6) (v := .int (nI a)) (C := R_Md) (T := F_Md) (N := 44) hx hb hts (fun w h => List.mem_cons_of_mem _ (i_Md w h)) hown hE.1 hP 0 rfl rfl 43 (by decide) (hts _ (List.mem_cons_of_mem _ iw3_97)) (fun _ h9 => h9) rfl d_Md_number_24 ?_
    refine va_iald hx hb hE.1 hP 1 3 rfl rfl (vp_in_nI (by omega) (by omega)) d_Md_number_27 ?_
    rw [nI_clamp (n := a) (by omega), hyb a (by omega)]
    refine lv_bipush (v := 127) hx hb d_Md_number_28 (by decide) ?_
    refine lv_iand hx hb d_Md_number_30 ?_
    refine lv_i2l hx hb d_Md_number_31 rfl ?_
    refine lv_bipush (v := 7) hx hb d_Md_number_32 (by decide) ?_
    refine lv_iload_n hx hb d_Md_number_34 rfl (lv_at hl 0 rfl) ?_
    refine lv_imul hx hb d_Md_number_35 ?_
    refine W.eq (g2 := F0 m 36 ls [.int 0, .long (((nI (b a)) &&& 127).toInt64), .long 0]) (by rw [show (7 : Int32) * 0 = 0 from by decide +kernel]) ?_
    refine lv_lshl hx hb d_Md_number_36 rfl ?_
    refine lv_lor hx hb d_Md_number_37 ?_
    refine lv_topl (fun y0_ ey0_ => ?_)
    have hy0_ : y0_ = lN (0 + b a % 128 * 2 ^ 0) := ey0_.trans (u_step 0 (by decide) (by decide) (v := 0) (by decide) hB0)
    have hV1 : 0 + b a % 128 * 2 ^ 0 < 2 ^ 7 := u_bd (k := 0) (by decide)
    obtain ⟨hn0, hU1⟩ := hc_0 hg0
    have hU1 : pUg b lm 4 7 (a + 1) (0 + b a % 128 * 2 ^ 0) = .inr (v, a') := hU1
    generalize 0 + b a % 128 * 2 ^ 0 = V1 at hy0_ hV1 hU1
    subst hy0_
    refine lv_lstore_n (lv' := [(1, .long (lN V1)), (3, .int 0), (0, .ref m0)]) hx hb d_Md_number_38 rfl hl (by decide) rfl (fun ls hl => ?_)
    refine lv_aload_n hx hb d_Md_number_39 rfl (lv_at hl 2 rfl) ?_
    refine lv_dup hx hb d_Md_number_40 rfl ?_
    refine va_get (D := D) (ci := 6) (v := .int (nI a)) (C := R_Md) (T := F_Md) (N := 44) hx hb hts (fun w h => List.mem_cons_of_mem _ (i_Md w h)) hown hE.1 hP 0 rfl rfl 43 (by decide) (hts _ (List.mem_cons_of_mem _ iw3_97)) (fun _ h9 => h9) rfl d_Md_number_41 ?_
    refine lv_iconst (v := 1) hx hb d_Md_number_44 (by decide) ?_
    refine lv_iadd hx hb d_Md_number_45 ?_
    rw [nI_1]
    refine va_put (D := D) (ci := 6) (v := .int (nI (a + 1))) (ty := .int) (C := R_Md) (T := F_Md) (N := 44) hx hb hts (fun w h => List.mem_cons_of_mem _ (i_Md w h)) t_Md tk_Md n_Md hown hE.1 hP hD hS 0 rfl rfl 43 (by decide) (hts _ (List.mem_cons_of_mem _ iw3_97)) (fun _ h9 => h9) rfl (by decide +kernel) rfl rfl (Nat.le_of_ble_eq_true rfl) d_Md_number_46 (fun H locs hP hD hS => ?_)
    have hP : va_P D cls [(m0, .inr (6, mF g (K.1, K.2.1, K.2.2.1, K.2.2.2.1, K.2.2.2.2.1, K.2.2.2.2.2.1, K.2.2.2.2.2.2.1, K.2.2.2.2.2.2.2.1, nI (a + 1)) A0 e np B)), ((g 30), .inl (cA 3, 2000, .inl yb))] H := hP
    have hD : va_D A [(m0, .inr (6, mF g (K.1, K.2.1, K.2.2.1, K.2.2.2.1, K.2.2.2.2.1, K.2.2.2.2.2.1, K.2.2.2.2.2.2.1, K.2.2.2.2.2.2.2.1, nI (a + 1)) A0 e np B)), ((g 30), .inl (cA 3, 2000, .inl yb))] := hD
    refine lv_iinc (v := 1) (lv' := [(3, .int 1), (1, .long (lN V1)), (0, .ref m0)]) hx hb d_Md_number_49 hl (k := 1) rfl (by decide) (by decide) rfl (fun ls hl => ?_)
    refine lv_goto (tgt := 4) hx hb d_Md_number_52 (by decide) ?_
    obtain ⟨hl_1, he_1, hc_1⟩ := pUg_inv hU1
    have hB1 := hb9 (a + 1)
    refine lv_aload_n hx hb d_Md_number_4 rfl (lv_at hl 2 rfl) ?_
    refine va_get (D := D) (ci := 6) (v := .ref (g 30)) (C := R_Md) (T := F_Md) (N := 44) hx hb hts (fun w h => List.mem_cons_of_mem _ (i_Md w h)) hown hE.1 hP 0 rfl rfl 30 (by decide) (hts _ (List.mem_cons_of_mem _ iw3_84)) (fun _ h9 => h9) rfl d_Md_number_5 ?_
    refine lv_aload_n hx hb d_Md_number_8 rfl (lv_at hl 2 rfl) ?_
    refine va_get (D := D) (ci := 6) (v := .int (nI (a + 1))) (C := R_Md) (T := F_Md) (N := 44) hx hb hts (fun w h => List.mem_cons_of_mem _ (i_Md w h)) hown hE.1 hP 0 rfl rfl 43 (by decide) (hts _ (List.mem_cons_of_mem _ iw3_97)) (fun _ h9 => h9) rfl d_Md_number_9 ?_
    refine va_iald hx hb hE.1 hP 1 3 rfl rfl (vp_in_nI (by omega) (by omega)) d_Md_number_12 ?_
    rw [nI_clamp (n := (a + 1)) (by omega), hyb (a + 1) (by omega)]
    refine lv_bipush (v := 127) hx hb d_Md_number_13 (by decide) ?_
    refine lv_icmp_le (tgt := 55) hx hb d_Md_number_15 (by decide) (fun c_15 => ?_) (fun c_15 => ?_)
    · refine lv_lload_n hx hb d_Md_number_55 rfl (lv_at hl 1 rfl) ?_
      refine lv_aload_n hx hb d_Md_number_56 rfl (lv_at hl 2 rfl) ?_
      refine va_get (D := D) (ci := 6) (v := .ref (g 30)) (C := R_Md) (T := F_Md) (N := 44) hx hb hts (fun w h => List.mem_cons_of_mem _ (i_Md w h)) hown hE.1 hP 0 rfl rfl 30 (by decide) (hts _ (List.mem_cons_of_mem _ iw3_84)) (fun _ h9 => h9) rfl d_Md_number_57 ?_
      refine lv_aload_n hx hb d_Md_number_60 rfl (lv_at hl 2 rfl) ?_
      refine va_get (D := D) (ci := 6) (v := .int (nI (a + 1))) (C := R_Md) (T := F_Md) (N := 44) hx hb hts (fun w h => List.mem_cons_of_mem _ (i_Md w h)) hown hE.1 hP 0 rfl rfl 43 (by decide) (hts _ (List.mem_cons_of_mem _ iw3_97)) (fun _ h9 => h9) rfl d_Md_number_61 ?_
      refine va_iald hx hb hE.1 hP 1 3 rfl rfl (vp_in_nI (by omega) (by omega)) d_Md_number_64 ?_
      rw [nI_clamp (n := (a + 1)) (by omega), hyb (a + 1) (by omega)]
      refine lv_i2l hx hb d_Md_number_65 rfl ?_
      refine lv_bipush (v := 7) hx hb d_Md_number_66 (by decide) ?_
      refine lv_iload_n hx hb d_Md_number_68 rfl (lv_at hl 0 rfl) ?_
      refine lv_imul hx hb d_Md_number_69 ?_
      refine W.eq (g2 := F0 m 70 ls [.int 7, .long ((nI (b (a + 1))).toInt64), .long (lN V1)]) (by rw [show (7 : Int32) * 1 = 7 from by decide +kernel]) ?_
      refine lv_lshl hx hb d_Md_number_70 rfl ?_
      refine lv_lor hx hb d_Md_number_71 ?_
      have hg1 : b (a + 1) < 128 := by have := (nI_leI (a := b (a + 1)) (b := 127) (by omega) (by omega)).mp c_15; omega
      obtain ⟨rfl, rfl⟩ := he_1 hg1
      refine lv_topl (fun yE eyE => ?_)
      have hyE : yE = lN (V1 + b (a + 1) % 128 * 2 ^ 7) := eyE.trans (u_step2 7 (by decide) (by decide) (v := V1) hV1 hg1)
      subst hyE
      refine lv_lstore_n (lv' := [(1, .long (lN (V1 + b (a + 1) % 128 * 2 ^ 7))), (3, .int 1), (0, .ref m0)]) hx hb d_Md_number_72 rfl hl (by decide) rfl (fun ls hl => ?_)
      refine lv_aload_n hx hb d_Md_number_73 rfl (lv_at hl 2 rfl) ?_
      refine lv_dup hx hb d_Md_number_74 rfl ?_
      refine va_get (D := D) (ci := 6) (v := .int (nI (a + 1))) (C := R_Md) (T := F_Md) (N := 44) hx hb hts (fun w h => List.mem_cons_of_mem _ (i_Md w h)) hown hE.1 hP 0 rfl rfl 43 (by decide) (hts _ (List.mem_cons_of_mem _ iw3_97)) (fun _ h9 => h9) rfl d_Md_number_75 ?_
      refine lv_iconst (v := 1) hx hb d_Md_number_78 (by decide) ?_
      refine lv_iadd hx hb d_Md_number_79 ?_
      rw [nI_1]
      refine va_put (D := D) (ci := 6) (v := .int (nI ((a + 1) + 1))) (ty := .int) (C := R_Md) (T := F_Md) (N := 44) hx hb hts (fun w h => List.mem_cons_of_mem _ (i_Md w h)) t_Md tk_Md n_Md hown hE.1 hP hD hS 0 rfl rfl 43 (by decide) (hts _ (List.mem_cons_of_mem _ iw3_97)) (fun _ h9 => h9) rfl (by decide +kernel) rfl rfl (Nat.le_of_ble_eq_true rfl) d_Md_number_80 (fun H locs hP hD hS => ?_)
      have hP : va_P D cls [(m0, .inr (6, mF g (K.1, K.2.1, K.2.2.1, K.2.2.2.1, K.2.2.2.2.1, K.2.2.2.2.2.1, K.2.2.2.2.2.2.1, K.2.2.2.2.2.2.2.1, nI ((a + 1) + 1)) A0 e np B)), ((g 30), .inl (cA 3, 2000, .inl yb))] H := hP
      have hD : va_D A [(m0, .inr (6, mF g (K.1, K.2.1, K.2.2.1, K.2.2.2.1, K.2.2.2.2.1, K.2.2.2.2.2.1, K.2.2.2.2.2.2.1, K.2.2.2.2.2.2.2.1, nI ((a + 1) + 1)) A0 e np B)), ((g 30), .inl (cA 3, 2000, .inl yb))] := hD
      refine lv_lload_n hx hb d_Md_number_83 rfl (lv_at hl 0 rfl) ?_
      exact cRl () hx hb hr hlocks d_Md_number_84 hS hP hD rfl (Nat.le_refl _) (Nat.le_refl _)
    · have hg1 : ¬ b (a + 1) < 128 := fun q => c_15 (nI_le (a := b (a + 1)) (b := 127) (by omega) (by omega))
      refine lv_lload_n hx hb d_Md_number_18 rfl (lv_at hl 1 rfl) ?_
      refine lv_aload_n hx hb d_Md_number_19 rfl (lv_at hl 2 rfl) ?_
      refine va_get (D := D) (ci := 6) (v := .ref (g 30)) (C := R_Md) (T := F_Md) (N := 44) hx hb hts (fun w h => List.mem_cons_of_mem _ (i_Md w h)) hown hE.1 hP 0 rfl rfl 30 (by decide) (hts _ (List.mem_cons_of_mem _ iw3_84)) (fun _ h9 => h9) rfl d_Md_number_20 ?_
      refine lv_aload_n hx hb d_Md_number_23 rfl (lv_at hl 2 rfl) ?_
      refine va_get (D := D) (ci := 6) (v := .int (nI (a + 1))) (C := R_Md) (T := F_Md) (N := 44) hx hb hts (fun w h => List.mem_cons_of_mem _ (i_Md w h)) hown hE.1 hP 0 rfl rfl 43 (by decide) (hts _ (List.mem_cons_of_mem _ iw3_97)) (fun _ h9 => h9) rfl d_Md_number_24 ?_
      refine va_iald hx hb hE.1 hP 1 3 rfl rfl (vp_in_nI (by omega) (by omega)) d_Md_number_27 ?_
      rw [nI_clamp (n := (a + 1)) (by omega), hyb (a + 1) (by omega)]
      refine lv_bipush (v := 127) hx hb d_Md_number_28 (by decide) ?_
      refine lv_iand hx hb d_Md_number_30 ?_
      refine lv_i2l hx hb d_Md_number_31 rfl ?_
      refine lv_bipush (v := 7) hx hb d_Md_number_32 (by decide) ?_
      refine lv_iload_n hx hb d_Md_number_34 rfl (lv_at hl 0 rfl) ?_
      refine lv_imul hx hb d_Md_number_35 ?_
      refine W.eq (g2 := F0 m 36 ls [.int 7, .long (((nI (b (a + 1))) &&& 127).toInt64), .long (lN V1)]) (by rw [show (7 : Int32) * 1 = 7 from by decide +kernel]) ?_
      refine lv_lshl hx hb d_Md_number_36 rfl ?_
      refine lv_lor hx hb d_Md_number_37 ?_
      refine lv_topl (fun y1_ ey1_ => ?_)
      have hy1_ : y1_ = lN (V1 + b (a + 1) % 128 * 2 ^ 7) := ey1_.trans (u_step 7 (by decide) (by decide) (v := V1) hV1 hB1)
      have hV2 : V1 + b (a + 1) % 128 * 2 ^ 7 < 2 ^ 14 := u_bd (k := 7) hV1
      obtain ⟨hn1, hU2⟩ := hc_1 hg1
      have hU2 : pUg b lm 3 14 ((a + 1) + 1) (V1 + b (a + 1) % 128 * 2 ^ 7) = .inr (v, a') := hU2
      generalize V1 + b (a + 1) % 128 * 2 ^ 7 = V2 at hy1_ hV2 hU2
      subst hy1_
      refine lv_lstore_n (lv' := [(1, .long (lN V2)), (3, .int 1), (0, .ref m0)]) hx hb d_Md_number_38 rfl hl (by decide) rfl (fun ls hl => ?_)
      refine lv_aload_n hx hb d_Md_number_39 rfl (lv_at hl 2 rfl) ?_
      refine lv_dup hx hb d_Md_number_40 rfl ?_
      refine va_get (D := D) (ci := 6) (v := .int (nI (a + 1))) (C := R_Md) (T := F_Md) (N := 44) hx hb hts (fun w h => List.mem_cons_of_mem _ (i_Md w h)) hown hE.1 hP 0 rfl rfl 43 (by decide) (hts _ (List.mem_cons_of_mem _ iw3_97)) (fun _ h9 => h9) rfl d_Md_number_41 ?_
      refine lv_iconst (v := 1) hx hb d_Md_number_44 (by decide) ?_
      refine lv_iadd hx hb d_Md_number_45 ?_
      rw [nI_1]
      refine va_put (D := D) (ci := 6) (v := .int (nI ((a + 1) + 1))) (ty := .int) (C := R_Md) (T := F_Md) (N := 44) hx hb hts (fun w h => List.mem_cons_of_mem _ (i_Md w h)) t_Md tk_Md n_Md hown hE.1 hP hD hS 0 rfl rfl 43 (by decide) (hts _ (List.mem_cons_of_mem _ iw3_97)) (fun _ h9 => h9) rfl (by decide +kernel) rfl rfl (Nat.le_of_ble_eq_true rfl) d_Md_number_46 (fun H locs hP hD hS => ?_)
      have hP : va_P D cls [(m0, .inr (6, mF g (K.1, K.2.1, K.2.2.1, K.2.2.2.1, K.2.2.2.2.1, K.2.2.2.2.2.1, K.2.2.2.2.2.2.1, K.2.2.2.2.2.2.2.1, nI ((a + 1) + 1)) A0 e np B)), ((g 30), .inl (cA 3, 2000, .inl yb))] H := hP
      have hD : va_D A [(m0, .inr (6, mF g (K.1, K.2.1, K.2.2.1, K.2.2.2.1, K.2.2.2.2.1, K.2.2.2.2.2.1, K.2.2.2.2.2.2.1, K.2.2.2.2.2.2.2.1, nI ((a + 1) + 1)) A0 e np B)), ((g 30), .inl (cA 3, 2000, .inl yb))] := hD
      refine lv_iinc (v := 2) (lv' := [(3, .int 2), (1, .long (lN V2)), (0, .ref m0)]) hx hb d_Md_number_49 hl (k := 1) rfl (by decide) (by decide) rfl (fun ls hl => ?_)
      refine lv_goto (tgt := 4) hx hb d_Md_number_52 (by decide) ?_
      obtain ⟨hl_2, he_2, hc_2⟩ := pUg_inv hU2
      have hB2 := hb9 ((a + 1) + 1)
      refine lv_aload_n hx hb d_Md_number_4 rfl (lv_at hl 2 rfl) ?_
      refine va_get (D := D) (ci := 6) (v := .ref (g 30)) (C := R_Md) (T := F_Md) (N := 44) hx hb hts (fun w h => List.mem_cons_of_mem _ (i_Md w h)) hown hE.1 hP 0 rfl rfl 30 (by decide) (hts _ (List.mem_cons_of_mem _ iw3_84)) (fun _ h9 => h9) rfl d_Md_number_5 ?_
      refine lv_aload_n hx hb d_Md_number_8 rfl (lv_at hl 2 rfl) ?_
      refine va_get (D := D) (ci := 6) (v := .int (nI ((a + 1) + 1))) (C := R_Md) (T := F_Md) (N := 44) hx hb hts (fun w h => List.mem_cons_of_mem _ (i_Md w h)) hown hE.1 hP 0 rfl rfl 43 (by decide) (hts _ (List.mem_cons_of_mem _ iw3_97)) (fun _ h9 => h9) rfl d_Md_number_9 ?_
      refine va_iald hx hb hE.1 hP 1 3 rfl rfl (vp_in_nI (by omega) (by omega)) d_Md_number_12 ?_
      rw [nI_clamp (n := ((a + 1) + 1)) (by omega), hyb ((a + 1) + 1) (by omega)]
      refine lv_bipush (v := 127) hx hb d_Md_number_13 (by decide) ?_
      refine lv_icmp_le (tgt := 55) hx hb d_Md_number_15 (by decide) (fun c_15 => ?_) (fun c_15 => ?_)
      · refine lv_lload_n hx hb d_Md_number_55 rfl (lv_at hl 1 rfl) ?_
        refine lv_aload_n hx hb d_Md_number_56 rfl (lv_at hl 2 rfl) ?_
        refine va_get (D := D) (ci := 6) (v := .ref (g 30)) (C := R_Md) (T := F_Md) (N := 44) hx hb hts (fun w h => List.mem_cons_of_mem _ (i_Md w h)) hown hE.1 hP 0 rfl rfl 30 (by decide) (hts _ (List.mem_cons_of_mem _ iw3_84)) (fun _ h9 => h9) rfl d_Md_number_57 ?_
        refine lv_aload_n hx hb d_Md_number_60 rfl (lv_at hl 2 rfl) ?_
        refine va_get (D := D) (ci := 6) (v := .int (nI ((a + 1) + 1))) (C := R_Md) (T := F_Md) (N := 44) hx hb hts (fun w h => List.mem_cons_of_mem _ (i_Md w h)) hown hE.1 hP 0 rfl rfl 43 (by decide) (hts _ (List.mem_cons_of_mem _ iw3_97)) (fun _ h9 => h9) rfl d_Md_number_61 ?_
        refine va_iald hx hb hE.1 hP 1 3 rfl rfl (vp_in_nI (by omega) (by omega)) d_Md_number_64 ?_
        rw [nI_clamp (n := ((a + 1) + 1)) (by omega), hyb ((a + 1) + 1) (by omega)]
        refine lv_i2l hx hb d_Md_number_65 rfl ?_
        refine lv_bipush (v := 7) hx hb d_Md_number_66 (by decide) ?_
        refine lv_iload_n hx hb d_Md_number_68 rfl (lv_at hl 0 rfl) ?_
        refine lv_imul hx hb d_Md_number_69 ?_
        refine W.eq (g2 := F0 m 70 ls [.int 14, .long ((nI (b ((a + 1) + 1))).toInt64), .long (lN V2)]) (by rw [show (7 : Int32) * 2 = 14 from by decide +kernel]) ?_
        refine lv_lshl hx hb d_Md_number_70 rfl ?_
        refine lv_lor hx hb d_Md_number_71 ?_
        have hg2 : b ((a + 1) + 1) < 128 := by have := (nI_leI (a := b ((a + 1) + 1)) (b := 127) (by omega) (by omega)).mp c_15; omega
        obtain ⟨rfl, rfl⟩ := he_2 hg2
        refine lv_topl (fun yE eyE => ?_)
        have hyE : yE = lN (V2 + b ((a + 1) + 1) % 128 * 2 ^ 14) := eyE.trans (u_step2 14 (by decide) (by decide) (v := V2) hV2 hg2)
        subst hyE
        refine lv_lstore_n (lv' := [(1, .long (lN (V2 + b ((a + 1) + 1) % 128 * 2 ^ 14))), (3, .int 2), (0, .ref m0)]) hx hb d_Md_number_72 rfl hl (by decide) rfl (fun ls hl => ?_)
        refine lv_aload_n hx hb d_Md_number_73 rfl (lv_at hl 2 rfl) ?_
        refine lv_dup hx hb d_Md_number_74 rfl ?_
        refine va_get (D := D) (ci := 6) (v := .int (nI ((a + 1) + 1))) (C := R_Md) (T := F_Md) (N := 44) hx hb hts (fun w h => List.mem_cons_of_mem _ (i_Md w h)) hown hE.1 hP 0 rfl rfl 43 (by decide) (hts _ (List.mem_cons_of_mem _ iw3_97)) (fun _ h9 => h9) rfl d_Md_number_75 ?_
        refine lv_iconst (v := 1) hx hb d_Md_number_78 (by decide) ?_
        refine lv_iadd hx hb d_Md_number_79 ?_
        rw [nI_1]
        refine va_put (D := D) (ci := 6) (v := .int (nI (((a + 1) + 1) + 1))) (ty := .int) (C := R_Md) (T := F_Md) (N := 44) hx hb hts (fun w h => List.mem_cons_of_mem _ (i_Md w h)) t_Md tk_Md n_Md hown hE.1 hP hD hS 0 rfl rfl 43 (by decide) (hts _ (List.mem_cons_of_mem _ iw3_97)) (fun _ h9 => h9) rfl (by decide +kernel) rfl rfl (Nat.le_of_ble_eq_true rfl) d_Md_number_80 (fun H locs hP hD hS => ?_)
        have hP : va_P D cls [(m0, .inr (6, mF g (K.1, K.2.1, K.2.2.1, K.2.2.2.1, K.2.2.2.2.1, K.2.2.2.2.2.1, K.2.2.2.2.2.2.1, K.2.2.2.2.2.2.2.1, nI (((a + 1) + 1) + 1)) A0 e np B)), ((g 30), .inl (cA 3, 2000, .inl yb))] H := hP
        have hD : va_D A [(m0, .inr (6, mF g (K.1, K.2.1, K.2.2.1, K.2.2.2.1, K.2.2.2.2.1, K.2.2.2.2.2.1, K.2.2.2.2.2.2.1, K.2.2.2.2.2.2.2.1, nI (((a + 1) + 1) + 1)) A0 e np B)), ((g 30), .inl (cA 3, 2000, .inl yb))] := hD
        refine lv_lload_n hx hb d_Md_number_83 rfl (lv_at hl 0 rfl) ?_
        exact cRl () hx hb hr hlocks d_Md_number_84 hS hP hD rfl (Nat.le_refl _) (Nat.le_refl _)
      · have hg2 : ¬ b ((a + 1) + 1) < 128 := fun q => c_15 (nI_le (a := b ((a + 1) + 1)) (b := 127) (by omega) (by omega))
        refine lv_lload_n hx hb d_Md_number_18 rfl (lv_at hl 1 rfl) ?_
        refine lv_aload_n hx hb d_Md_number_19 rfl (lv_at hl 2 rfl) ?_
        refine va_get (D := D) (ci := 6) (v := .ref (g 30)) (C := R_Md) (T := F_Md) (N := 44) hx hb hts (fun w h => List.mem_cons_of_mem _ (i_Md w h)) hown hE.1 hP 0 rfl rfl 30 (by decide) (hts _ (List.mem_cons_of_mem _ iw3_84)) (fun _ h9 => h9) rfl d_Md_number_20 ?_
        refine lv_aload_n hx hb d_Md_number_23 rfl (lv_at hl 2 rfl) ?_
        refine va_get (D := D) (ci := 6) (v := .int (nI ((a + 1) + 1))) (C := R_Md) (T := F_Md) (N := 44) hx hb hts (fun w h => List.mem_cons_of_mem _ (i_Md w h)) hown hE.1 hP 0 rfl rfl 43 (by decide) (hts _ (List.mem_cons_of_mem _ iw3_97)) (fun _ h9 => h9) rfl d_Md_number_24 ?_
        refine va_iald hx hb hE.1 hP 1 3 rfl rfl (vp_in_nI (by omega) (by omega)) d_Md_number_27 ?_
        rw [nI_clamp (n := ((a + 1) + 1)) (by omega), hyb ((a + 1) + 1) (by omega)]
        refine lv_bipush (v := 127) hx hb d_Md_number_28 (by decide) ?_
        refine lv_iand hx hb d_Md_number_30 ?_
        refine lv_i2l hx hb d_Md_number_31 rfl ?_
        refine lv_bipush (v := 7) hx hb d_Md_number_32 (by decide) ?_
        refine lv_iload_n hx hb d_Md_number_34 rfl (lv_at hl 0 rfl) ?_
        refine lv_imul hx hb d_Md_number_35 ?_
        refine W.eq (g2 := F0 m 36 ls [.int 14, .long (((nI (b ((a + 1) + 1))) &&& 127).toInt64), .long (lN V2)]) (by rw [show (7 : Int32) * 2 = 14 from by decide +kernel]) ?_
        refine lv_lshl hx hb d_Md_number_36 rfl ?_
        refine lv_lor hx hb d_Md_number_37 ?_
        refine lv_topl (fun y2_ ey2_ => ?_)
        have hy2_ : y2_ = lN (V2 + b ((a + 1) + 1) % 128 * 2 ^ 14) := ey2_.trans (u_step 14 (by decide) (by decide) (v := V2) hV2 hB2)
        have hV3 : V2 + b ((a + 1) + 1) % 128 * 2 ^ 14 < 2 ^ 21 := u_bd (k := 14) hV2
        obtain ⟨hn2, hU3⟩ := hc_2 hg2
        have hU3 : pUg b lm 2 21 (((a + 1) + 1) + 1) (V2 + b ((a + 1) + 1) % 128 * 2 ^ 14) = .inr (v, a') := hU3
        generalize V2 + b ((a + 1) + 1) % 128 * 2 ^ 14 = V3 at hy2_ hV3 hU3
        subst hy2_
        refine lv_lstore_n (lv' := [(1, .long (lN V3)), (3, .int 2), (0, .ref m0)]) hx hb d_Md_number_38 rfl hl (by decide) rfl (fun ls hl => ?_)
        refine lv_aload_n hx hb d_Md_number_39 rfl (lv_at hl 2 rfl) ?_
        refine lv_dup hx hb d_Md_number_40 rfl ?_
        refine va_get (D := D) (ci := 6) (v := .int (nI ((a + 1) + 1))) (C := R_Md) (T := F_Md) (N := 44) hx hb hts (fun w h => List.mem_cons_of_mem _ (i_Md w h)) hown hE.1 hP 0 rfl rfl 43 (by decide) (hts _ (List.mem_cons_of_mem _ iw3_97)) (fun _ h9 => h9) rfl d_Md_number_41 ?_
        refine lv_iconst (v := 1) hx hb d_Md_number_44 (by decide) ?_
        refine lv_iadd hx hb d_Md_number_45 ?_
        rw [nI_1]
        refine va_put (D := D) (ci := 6) (v := .int (nI (((a + 1) + 1) + 1))) (ty := .int) (C := R_Md) (T := F_Md) (N := 44) hx hb hts (fun w h => List.mem_cons_of_mem _ (i_Md w h)) t_Md tk_Md n_Md hown hE.1 hP hD hS 0 rfl rfl 43 (by decide) (hts _ (List.mem_cons_of_mem _ iw3_97)) (fun _ h9 => h9) rfl (by decide +kernel) rfl rfl (Nat.le_of_ble_eq_true rfl) d_Md_number_46 (fun H locs hP hD hS => ?_)
        have hP : va_P D cls [(m0, .inr (6, mF g (K.1, K.2.1, K.2.2.1, K.2.2.2.1, K.2.2.2.2.1, K.2.2.2.2.2.1, K.2.2.2.2.2.2.1, K.2.2.2.2.2.2.2.1, nI (((a + 1) + 1) + 1)) A0 e np B)), ((g 30), .inl (cA 3, 2000, .inl yb))] H := hP
        have hD : va_D A [(m0, .inr (6, mF g (K.1, K.2.1, K.2.2.1, K.2.2.2.1, K.2.2.2.2.1, K.2.2.2.2.2.1, K.2.2.2.2.2.2.1, K.2.2.2.2.2.2.2.1, nI (((a + 1) + 1) + 1)) A0 e np B)), ((g 30), .inl (cA 3, 2000, .inl yb))] := hD
        refine lv_iinc (v := 3) (lv' := [(3, .int 3), (1, .long (lN V3)), (0, .ref m0)]) hx hb d_Md_number_49 hl (k := 1) rfl (by decide) (by decide) rfl (fun ls hl => ?_)
        refine lv_goto (tgt := 4) hx hb d_Md_number_52 (by decide) ?_
        obtain ⟨hl_3, he_3, hc_3⟩ := pUg_inv hU3
        have hB3 := hb9 (((a + 1) + 1) + 1)
        refine lv_aload_n hx hb d_Md_number_4 rfl (lv_at hl 2 rfl) ?_
        refine va_get (D := D) (ci := 6) (v := .ref (g 30)) (C := R_Md) (T := F_Md) (N := 44) hx hb hts (fun w h => List.mem_cons_of_mem _ (i_Md w h)) hown hE.1 hP 0 rfl rfl 30 (by decide) (hts _ (List.mem_cons_of_mem _ iw3_84)) (fun _ h9 => h9) rfl d_Md_number_5 ?_
        refine lv_aload_n hx hb d_Md_number_8 rfl (lv_at hl 2 rfl) ?_
        refine va_get (D := D) (ci := 6) (v := .int (nI (((a + 1) + 1) + 1))) (C := R_Md) (T := F_Md) (N := 44) hx hb hts (fun w h => List.mem_cons_of_mem _ (i_Md w h)) hown hE.1 hP 0 rfl rfl 43 (by decide) (hts _ (List.mem_cons_of_mem _ iw3_97)) (fun _ h9 => h9) rfl d_Md_number_9 ?_
        refine va_iald hx hb hE.1 hP 1 3 rfl rfl (vp_in_nI (by omega) (by omega)) d_Md_number_12 ?_
        rw [nI_clamp (n := (((a + 1) + 1) + 1)) (by omega), hyb (((a + 1) + 1) + 1) (by omega)]
        refine lv_bipush (v := 127) hx hb d_Md_number_13 (by decide) ?_
        refine lv_icmp_le (tgt := 55) hx hb d_Md_number_15 (by decide) (fun c_15 => ?_) (fun c_15 => ?_)
        · refine lv_lload_n hx hb d_Md_number_55 rfl (lv_at hl 1 rfl) ?_
          refine lv_aload_n hx hb d_Md_number_56 rfl (lv_at hl 2 rfl) ?_
          refine va_get (D := D) (ci := 6) (v := .ref (g 30)) (C := R_Md) (T := F_Md) (N := 44) hx hb hts (fun w h => List.mem_cons_of_mem _ (i_Md w h)) hown hE.1 hP 0 rfl rfl 30 (by decide) (hts _ (List.mem_cons_of_mem _ iw3_84)) (fun _ h9 => h9) rfl d_Md_number_57 ?_
          refine lv_aload_n hx hb d_Md_number_60 rfl (lv_at hl 2 rfl) ?_
          refine va_get (D := D) (ci := 6) (v := .int (nI (((a + 1) + 1) + 1))) (C := R_Md) (T := F_Md) (N := 44) hx hb hts (fun w h => List.mem_cons_of_mem _ (i_Md w h)) hown hE.1 hP 0 rfl rfl 43 (by decide) (hts _ (List.mem_cons_of_mem _ iw3_97)) (fun _ h9 => h9) rfl d_Md_number_61 ?_
          refine va_iald hx hb hE.1 hP 1 3 rfl rfl (vp_in_nI (by omega) (by omega)) d_Md_number_64 ?_
          rw [nI_clamp (n := (((a + 1) + 1) + 1)) (by omega), hyb (((a + 1) + 1) + 1) (by omega)]
          refine lv_i2l hx hb d_Md_number_65 rfl ?_
          refine lv_bipush (v := 7) hx hb d_Md_number_66 (by decide) ?_
          refine lv_iload_n hx hb d_Md_number_68 rfl (lv_at hl 0 rfl) ?_
          refine lv_imul hx hb d_Md_number_69 ?_
          refine W.eq (g2 := F0 m 70 ls [.int 21, .long ((nI (b (((a + 1) + 1) + 1))).toInt64), .long (lN V3)]) (by rw [show (7 : Int32) * 3 = 21 from by decide +kernel]) ?_
          refine lv_lshl hx hb d_Md_number_70 rfl ?_
          refine lv_lor hx hb d_Md_number_71 ?_
          have hg3 : b (((a + 1) + 1) + 1) < 128 := by have := (nI_leI (a := b (((a + 1) + 1) + 1)) (b := 127) (by omega) (by omega)).mp c_15; omega
          obtain ⟨rfl, rfl⟩ := he_3 hg3
          refine lv_topl (fun yE eyE => ?_)
          have hyE : yE = lN (V3 + b (((a + 1) + 1) + 1) % 128 * 2 ^ 21) := eyE.trans (u_step2 21 (by decide) (by decide) (v := V3) hV3 hg3)
          subst hyE
          refine lv_lstore_n (lv' := [(1, .long (lN (V3 + b (((a + 1) + 1) + 1) % 128 * 2 ^ 21))), (3, .int 3), (0, .ref m0)]) hx hb d_Md_number_72 rfl hl (by decide) rfl (fun ls hl => ?_)
          refine lv_aload_n hx hb d_Md_number_73 rfl (lv_at hl 2 rfl) ?_
          refine lv_dup hx hb d_Md_number_74 rfl ?_
          refine va_get (D := D) (ci := 6) (v := .int (nI (((a + 1) + 1) + 1))) (C := R_Md) (T := F_Md) (N := 44) hx hb hts (fun w h => List.mem_cons_of_mem _ (i_Md w h)) hown hE.1 hP 0 rfl rfl 43 (by decide) (hts _ (List.mem_cons_of_mem _ iw3_97)) (fun _ h9 => h9) rfl d_Md_number_75 ?_
          refine lv_iconst (v := 1) hx hb d_Md_number_78 (by decide) ?_
          refine lv_iadd hx hb d_Md_number_79 ?_
          rw [nI_1]
          refine va_put (D := D) (ci := 6) (v := .int (nI ((((a + 1) + 1) + 1) + 1))) (ty := .int) (C := R_Md) (T := F_Md) (N := 44) hx hb hts (fun w h => List.mem_cons_of_mem _ (i_Md w h)) t_Md tk_Md n_Md hown hE.1 hP hD hS 0 rfl rfl 43 (by decide) (hts _ (List.mem_cons_of_mem _ iw3_97)) (fun _ h9 => h9) rfl (by decide +kernel) rfl rfl (Nat.le_of_ble_eq_true rfl) d_Md_number_80 (fun H locs hP hD hS => ?_)
          have hP : va_P D cls [(m0, .inr (6, mF g (K.1, K.2.1, K.2.2.1, K.2.2.2.1, K.2.2.2.2.1, K.2.2.2.2.2.1, K.2.2.2.2.2.2.1, K.2.2.2.2.2.2.2.1, nI ((((a + 1) + 1) + 1) + 1)) A0 e np B)), ((g 30), .inl (cA 3, 2000, .inl yb))] H := hP
          have hD : va_D A [(m0, .inr (6, mF g (K.1, K.2.1, K.2.2.1, K.2.2.2.1, K.2.2.2.2.1, K.2.2.2.2.2.1, K.2.2.2.2.2.2.1, K.2.2.2.2.2.2.2.1, nI ((((a + 1) + 1) + 1) + 1)) A0 e np B)), ((g 30), .inl (cA 3, 2000, .inl yb))] := hD
          refine lv_lload_n hx hb d_Md_number_83 rfl (lv_at hl 0 rfl) ?_
          exact cRl () hx hb hr hlocks d_Md_number_84 hS hP hD rfl (Nat.le_refl _) (Nat.le_refl _)
        · have hg3 : ¬ b (((a + 1) + 1) + 1) < 128 := fun q => c_15 (nI_le (a := b (((a + 1) + 1) + 1)) (b := 127) (by omega) (by omega))
          refine lv_lload_n hx hb d_Md_number_18 rfl (lv_at hl 1 rfl) ?_
          refine lv_aload_n hx hb d_Md_number_19 rfl (lv_at hl 2 rfl) ?_
          refine va_get (D := D) (ci := 6) (v := .ref (g 30)) (C := R_Md) (T := F_Md) (N := 44) hx hb hts (fun w h => List.mem_cons_of_mem _ (i_Md w h)) hown hE.1 hP 0 rfl rfl 30 (by decide) (hts _ (List.mem_cons_of_mem _ iw3_84)) (fun _ h9 => h9) rfl d_Md_number_20 ?_
          refine lv_aload_n hx hb d_Md_number_23 rfl (lv_at hl 2 rfl) ?_
          refine va_get (D := D) (ci := 6) (v := .int (nI (((a + 1) + 1) + 1))) (C := R_Md) (T := F_Md) (N := 44) hx hb hts (fun w h => List.mem_cons_of_mem _ (i_Md w h)) hown hE.1 hP 0 rfl rfl 43 (by decide) (hts _ (List.mem_cons_of_mem _ iw3_97)) (fun _ h9 => h9) rfl d_Md_number_24 ?_
          refine va_iald hx hb hE.1 hP 1 3 rfl rfl (vp_in_nI (by omega) (by omega)) d_Md_number_27 ?_
          rw [nI_clamp (n := (((a + 1) + 1) + 1)) (by omega), hyb (((a + 1) + 1) + 1) (by omega)]
          refine lv_bipush (v := 127) hx hb d_Md_number_28 (by decide) ?_
          refine lv_iand hx hb d_Md_number_30 ?_
          refine lv_i2l hx hb d_Md_number_31 rfl ?_
          refine lv_bipush (v := 7) hx hb d_Md_number_32 (by decide) ?_
          refine lv_iload_n hx hb d_Md_number_34 rfl (lv_at hl 0 rfl) ?_
          refine lv_imul hx hb d_Md_number_35 ?_
          refine W.eq (g2 := F0 m 36 ls [.int 21, .long (((nI (b (((a + 1) + 1) + 1))) &&& 127).toInt64), .long (lN V3)]) (by rw [show (7 : Int32) * 3 = 21 from by decide +kernel]) ?_
          refine lv_lshl hx hb d_Md_number_36 rfl ?_
          refine lv_lor hx hb d_Md_number_37 ?_
          refine lv_topl (fun y3_ ey3_ => ?_)
          have hy3_ : y3_ = lN (V3 + b (((a + 1) + 1) + 1) % 128 * 2 ^ 21) := ey3_.trans (u_step 21 (by decide) (by decide) (v := V3) hV3 hB3)
          have hV4 : V3 + b (((a + 1) + 1) + 1) % 128 * 2 ^ 21 < 2 ^ 28 := u_bd (k := 21) hV3
          obtain ⟨hn3, hU4⟩ := hc_3 hg3
          have hU4 : pUg b lm 1 28 ((((a + 1) + 1) + 1) + 1) (V3 + b (((a + 1) + 1) + 1) % 128 * 2 ^ 21) = .inr (v, a') := hU4
          generalize V3 + b (((a + 1) + 1) + 1) % 128 * 2 ^ 21 = V4 at hy3_ hV4 hU4
          subst hy3_
          refine lv_lstore_n (lv' := [(1, .long (lN V4)), (3, .int 3), (0, .ref m0)]) hx hb d_Md_number_38 rfl hl (by decide) rfl (fun ls hl => ?_)
          refine lv_aload_n hx hb d_Md_number_39 rfl (lv_at hl 2 rfl) ?_
          refine lv_dup hx hb d_Md_number_40 rfl ?_
          refine va_get (D := D) (ci := 6) (v := .int (nI (((a + 1) + 1) + 1))) (C := R_Md) (T := F_Md) (N := 44) hx hb hts (fun w h => List.mem_cons_of_mem _ (i_Md w h)) hown hE.1 hP 0 rfl rfl 43 (by decide) (hts _ (List.mem_cons_of_mem _ iw3_97)) (fun _ h9 => h9) rfl d_Md_number_41 ?_
          refine lv_iconst (v := 1) hx hb d_Md_number_44 (by decide) ?_
          refine lv_iadd hx hb d_Md_number_45 ?_
          rw [nI_1]
          refine va_put (D := D) (ci := 6) (v := .int (nI ((((a + 1) + 1) + 1) + 1))) (ty := .int) (C := R_Md) (T := F_Md) (N := 44) hx hb hts (fun w h => List.mem_cons_of_mem _ (i_Md w h)) t_Md tk_Md n_Md hown hE.1 hP hD hS 0 rfl rfl 43 (by decide) (hts _ (List.mem_cons_of_mem _ iw3_97)) (fun _ h9 => h9) rfl (by decide +kernel) rfl rfl (Nat.le_of_ble_eq_true rfl) d_Md_number_46 (fun H locs hP hD hS => ?_)
          have hP : va_P D cls [(m0, .inr (6, mF g (K.1, K.2.1, K.2.2.1, K.2.2.2.1, K.2.2.2.2.1, K.2.2.2.2.2.1, K.2.2.2.2.2.2.1, K.2.2.2.2.2.2.2.1, nI ((((a + 1) + 1) + 1) + 1)) A0 e np B)), ((g 30), .inl (cA 3, 2000, .inl yb))] H := hP
          have hD : va_D A [(m0, .inr (6, mF g (K.1, K.2.1, K.2.2.1, K.2.2.2.1, K.2.2.2.2.1, K.2.2.2.2.2.1, K.2.2.2.2.2.2.1, K.2.2.2.2.2.2.2.1, nI ((((a + 1) + 1) + 1) + 1)) A0 e np B)), ((g 30), .inl (cA 3, 2000, .inl yb))] := hD
          refine lv_iinc (v := 4) (lv' := [(3, .int 4), (1, .long (lN V4)), (0, .ref m0)]) hx hb d_Md_number_49 hl (k := 1) rfl (by decide) (by decide) rfl (fun ls hl => ?_)
          refine lv_goto (tgt := 4) hx hb d_Md_number_52 (by decide) ?_
          obtain ⟨hl_4, he_4, hc_4⟩ := pUg_inv hU4
          have hB4 := hb9 ((((a + 1) + 1) + 1) + 1)
          refine lv_aload_n hx hb d_Md_number_4 rfl (lv_at hl 2 rfl) ?_
          refine va_get (D := D) (ci := 6) (v := .ref (g 30)) (C := R_Md) (T := F_Md) (N := 44) hx hb hts (fun w h => List.mem_cons_of_mem _ (i_Md w h)) hown hE.1 hP 0 rfl rfl 30 (by decide) (hts _ (List.mem_cons_of_mem _ iw3_84)) (fun _ h9 => h9) rfl d_Md_number_5 ?_
          refine lv_aload_n hx hb d_Md_number_8 rfl (lv_at hl 2 rfl) ?_
          refine va_get (D := D) (ci := 6) (v := .int (nI ((((a + 1) + 1) + 1) + 1))) (C := R_Md) (T := F_Md) (N := 44) hx hb hts (fun w h => List.mem_cons_of_mem _ (i_Md w h)) hown hE.1 hP 0 rfl rfl 43 (by decide) (hts _ (List.mem_cons_of_mem _ iw3_97)) (fun _ h9 => h9) rfl d_Md_number_9 ?_
          refine va_iald hx hb hE.1 hP 1 3 rfl rfl (vp_in_nI (by omega) (by omega)) d_Md_number_12 ?_
          rw [nI_clamp (n := ((((a + 1) + 1) + 1) + 1)) (by omega), hyb ((((a + 1) + 1) + 1) + 1) (by omega)]
          refine lv_bipush (v := 127) hx hb d_Md_number_13 (by decide) ?_
          refine lv_icmp_le (tgt := 55) hx hb d_Md_number_15 (by decide) (fun c_15 => ?_) (fun c_15 => ?_)
          · refine lv_lload_n hx hb d_Md_number_55 rfl (lv_at hl 1 rfl) ?_
            refine lv_aload_n hx hb d_Md_number_56 rfl (lv_at hl 2 rfl) ?_
            refine va_get (D := D) (ci := 6) (v := .ref (g 30)) (C := R_Md) (T := F_Md) (N := 44) hx hb hts (fun w h => List.mem_cons_of_mem _ (i_Md w h)) hown hE.1 hP 0 rfl rfl 30 (by decide) (hts _ (List.mem_cons_of_mem _ iw3_84)) (fun _ h9 => h9) rfl d_Md_number_57 ?_
            refine lv_aload_n hx hb d_Md_number_60 rfl (lv_at hl 2 rfl) ?_
            refine va_get (D := D) (ci := 6) (v := .int (nI ((((a + 1) + 1) + 1) + 1))) (C := R_Md) (T := F_Md) (N := 44) hx hb hts (fun w h => List.mem_cons_of_mem _ (i_Md w h)) hown hE.1 hP 0 rfl rfl 43 (by decide) (hts _ (List.mem_cons_of_mem _ iw3_97)) (fun _ h9 => h9) rfl d_Md_number_61 ?_
            refine va_iald hx hb hE.1 hP 1 3 rfl rfl (vp_in_nI (by omega) (by omega)) d_Md_number_64 ?_
            rw [nI_clamp (n := ((((a + 1) + 1) + 1) + 1)) (by omega), hyb ((((a + 1) + 1) + 1) + 1) (by omega)]
            refine lv_i2l hx hb d_Md_number_65 rfl ?_
            refine lv_bipush (v := 7) hx hb d_Md_number_66 (by decide) ?_
            refine lv_iload_n hx hb d_Md_number_68 rfl (lv_at hl 0 rfl) ?_
            refine lv_imul hx hb d_Md_number_69 ?_
            refine W.eq (g2 := F0 m 70 ls [.int 28, .long ((nI (b ((((a + 1) + 1) + 1) + 1))).toInt64), .long (lN V4)]) (by rw [show (7 : Int32) * 4 = 28 from by decide +kernel]) ?_
            refine lv_lshl hx hb d_Md_number_70 rfl ?_
            refine lv_lor hx hb d_Md_number_71 ?_
            have hg4 : b ((((a + 1) + 1) + 1) + 1) < 128 := by have := (nI_leI (a := b ((((a + 1) + 1) + 1) + 1)) (b := 127) (by omega) (by omega)).mp c_15; omega
            obtain ⟨rfl, rfl⟩ := he_4 hg4
            refine lv_topl (fun yE eyE => ?_)
            have hyE : yE = lN (V4 + b ((((a + 1) + 1) + 1) + 1) % 128 * 2 ^ 28) := eyE.trans (u_step2 28 (by decide) (by decide) (v := V4) hV4 hg4)
            subst hyE
            refine lv_lstore_n (lv' := [(1, .long (lN (V4 + b ((((a + 1) + 1) + 1) + 1) % 128 * 2 ^ 28))), (3, .int 4), (0, .ref m0)]) hx hb d_Md_number_72 rfl hl (by decide) rfl (fun ls hl => ?_)
            refine lv_aload_n hx hb d_Md_number_73 rfl (lv_at hl 2 rfl) ?_
            refine lv_dup hx hb d_Md_number_74 rfl ?_
            refine va_get (D := D) (ci := 6) (v := .int (nI ((((a + 1) + 1) + 1) + 1))) (C := R_Md) (T := F_Md) (N := 44) hx hb hts (fun w h => List.mem_cons_of_mem _ (i_Md w h)) hown hE.1 hP 0 rfl rfl 43 (by decide) (hts _ (List.mem_cons_of_mem _ iw3_97)) (fun _ h9 => h9) rfl d_Md_number_75 ?_
            refine lv_iconst (v := 1) hx hb d_Md_number_78 (by decide) ?_
            refine lv_iadd hx hb d_Md_number_79 ?_
            rw [nI_1]
            refine va_put (D := D) (ci := 6) (v := .int (nI (((((a + 1) + 1) + 1) + 1) + 1))) (ty := .int) (C := R_Md) (T := F_Md) (N := 44) hx hb hts (fun w h => List.mem_cons_of_mem _ (i_Md w h)) t_Md tk_Md n_Md hown hE.1 hP hD hS 0 rfl rfl 43 (by decide) (hts _ (List.mem_cons_of_mem _ iw3_97)) (fun _ h9 => h9) rfl (by decide +kernel) rfl rfl (Nat.le_of_ble_eq_true rfl) d_Md_number_80 (fun H locs hP hD hS => ?_)
            have hP : va_P D cls [(m0, .inr (6, mF g (K.1, K.2.1, K.2.2.1, K.2.2.2.1, K.2.2.2.2.1, K.2.2.2.2.2.1, K.2.2.2.2.2.2.1, K.2.2.2.2.2.2.2.1, nI (((((a + 1) + 1) + 1) + 1) + 1)) A0 e np B)), ((g 30), .inl (cA 3, 2000, .inl yb))] H := hP
            have hD : va_D A [(m0, .inr (6, mF g (K.1, K.2.1, K.2.2.1, K.2.2.2.1, K.2.2.2.2.1, K.2.2.2.2.2.1, K.2.2.2.2.2.2.1, K.2.2.2.2.2.2.2.1, nI (((((a + 1) + 1) + 1) + 1) + 1)) A0 e np B)), ((g 30), .inl (cA 3, 2000, .inl yb))] := hD
            refine lv_lload_n hx hb d_Md_number_83 rfl (lv_at hl 0 rfl) ?_
            exact cRl () hx hb hr hlocks d_Md_number_84 hS hP hD rfl (Nat.le_refl _) (Nat.le_refl _)
          · have hg4 : ¬ b ((((a + 1) + 1) + 1) + 1) < 128 := fun q => c_15 (nI_le (a := b ((((a + 1) + 1) + 1) + 1)) (b := 127) (by omega) (by omega))
            refine lv_lload_n hx hb d_Md_number_18 rfl (lv_at hl 1 rfl) ?_
            refine lv_aload_n hx hb d_Md_number_19 rfl (lv_at hl 2 rfl) ?_
            refine va_get (D := D) (ci := 6) (v := .ref (g 30)) (C := R_Md) (T := F_Md) (N := 44) hx hb hts (fun w h => List.mem_cons_of_mem _ (i_Md w h)) hown hE.1 hP 0 rfl rfl 30 (by decide) (hts _ (List.mem_cons_of_mem _ iw3_84)) (fun _ h9 => h9) rfl d_Md_number_20 ?_
            refine lv_aload_n hx hb d_Md_number_23 rfl (lv_at hl 2 rfl) ?_
            refine va_get (D := D) (ci := 6) (v := .int (nI ((((a + 1) + 1) + 1) + 1))) (C := R_Md) (T := F_Md) (N := 44) hx hb hts (fun w h => List.mem_cons_of_mem _ (i_Md w h)) hown hE.1 hP 0 rfl rfl 43 (by decide) (hts _ (List.mem_cons_of_mem _ iw3_97)) (fun _ h9 => h9) rfl d_Md_number_24 ?_
            refine va_iald hx hb hE.1 hP 1 3 rfl rfl (vp_in_nI (by omega) (by omega)) d_Md_number_27 ?_
            rw [nI_clamp (n := ((((a + 1) + 1) + 1) + 1)) (by omega), hyb ((((a + 1) + 1) + 1) + 1) (by omega)]
            refine lv_bipush (v := 127) hx hb d_Md_number_28 (by decide) ?_
            refine lv_iand hx hb d_Md_number_30 ?_
            refine lv_i2l hx hb d_Md_number_31 rfl ?_
            refine lv_bipush (v := 7) hx hb d_Md_number_32 (by decide) ?_
            refine lv_iload_n hx hb d_Md_number_34 rfl (lv_at hl 0 rfl) ?_
            refine lv_imul hx hb d_Md_number_35 ?_
            refine W.eq (g2 := F0 m 36 ls [.int 28, .long (((nI (b ((((a + 1) + 1) + 1) + 1))) &&& 127).toInt64), .long (lN V4)]) (by rw [show (7 : Int32) * 4 = 28 from by decide +kernel]) ?_
            refine lv_lshl hx hb d_Md_number_36 rfl ?_
            refine lv_lor hx hb d_Md_number_37 ?_
            refine lv_topl (fun y4_ ey4_ => ?_)
            have hy4_ : y4_ = lN (V4 + b ((((a + 1) + 1) + 1) + 1) % 128 * 2 ^ 28) := ey4_.trans (u_step 28 (by decide) (by decide) (v := V4) hV4 hB4)
            have hV5 : V4 + b ((((a + 1) + 1) + 1) + 1) % 128 * 2 ^ 28 < 2 ^ 35 := u_bd (k := 28) hV4
            obtain ⟨hn4, hU5⟩ := hc_4 hg4
            exact absurd rfl hn4
theorem pName_u {b : Nat → Nat} {lm a a2 : Nat} {z : Nat × Nat} (h : pName b lm a = .inr (z, a2)) : pU32 b lm a = .inr (z.2, z.1) := by
  cases h1 : pU32 b lm a with
  | inl x => rw [pName_T h1] at h; cases h
  | inr y =>
    obtain ⟨n, a1⟩ := y
    cases h2 : pSkip lm n a1 with
    | inl x => rw [pName_S h1 h2] at h; cases h
    | inr y =>
      obtain ⟨⟨⟩, a3⟩ := y
      cases h3 : pChars b a3 n a1 with
      | some q => rw [pName_F h1 h2 h3] at h; cases h
      | none => rw [pName_E h1 h2 h3] at h; cases h; rfl
set_option maxHeartbeats 4000000 in
set_option maxRecDepth 100000 in
/-- passName() -/
theorem c_Md_passName (l : Launch) (hl9 : l.stackTraces = false) (D : va_G) (cA : Nat → ClassId) (ad : Nat → Nat) (sz : Nat) (m0 : Nat) (g : Nat → Nat) (K : MK) (A0 : A3) (e np : Int32) (B : MB) (yb : Nat → Int32) (b : Nat → Nat) (lm : Nat) (hlm : lm ≤ 2000) (hyb : ∀ i, i < lm → yb i = nI (b i)) (hb9 : ∀ i, b i < 256) (a a2 : Nat) (z : Nat × Nat) (ha : a ≤ lm) (hr0 : pName b lm a = .inr (z, a2)) :
    cM l y_Md_passName (.code y_Md_passName b_Md_passName 2 none :: wAll) ({ frames := 1, cells := 0, slots := 0, locals := 23 }) D cA ad [.ref m0] [(m0, .inr (6, mF g (K.1, K.2.1, K.2.2.1, K.2.2.2.1, K.2.2.2.2.1, K.2.2.2.2.2.1, K.2.2.2.2.2.2.1, K.2.2.2.2.2.2.2.1, nI a) A0 e np B)), ((g 30), .inl (cA 3, 2000, .inl yb))] sz (fun x (_ : Unit) => x = none) (fun _ => False) (fun _ => [(m0, .inr (6, mF g (K.1, K.2.1, K.2.2.1, K.2.2.2.1, K.2.2.2.2.1, K.2.2.2.2.2.1, K.2.2.2.2.2.2.1, K.2.2.2.2.2.2.2.1, nI a2) A0 e np B)), ((g 30), .inl (cA 3, 2000, .inl yb))]) (fun _ => (0, 0)) := by
  refine cM.ofW (cc := b_Md_passName) (maxL := 2) (ret := none) (by decide) (Nat.le_of_ble_eq_true rfl) ?_
  intro pg ev s m bw meth cdx A ls hF hsz hA hE hP hD hl
  obtain ⟨⟨hx, hb, hml, hown, hts⟩, hr, hno, hlocks, hin⟩ := hF
  subst hsz
  have hown : s.vm.findClass "ModuleBytesModel" = some m.cls := hown
  have hS : va_S A s.heap s.heap [] := va_S.rf
  have hl : lv_has ls 2 [(0, .ref m0)] := hl
  have hP : va_P D cls [(m0, .inr (6, mF g (K.1, K.2.1, K.2.2.1, K.2.2.2.1, K.2.2.2.2.1, K.2.2.2.2.2.1, K.2.2.2.2.2.2.1, K.2.2.2.2.2.2.2.1, nI a) A0 e np B)), ((g 30), .inl (cA 3, 2000, .inl yb))] s.heap := hP
  have hD : va_D A [(m0, .inr (6, mF g (K.1, K.2.1, K.2.2.1, K.2.2.2.1, K.2.2.2.2.1, K.2.2.2.2.2.1, K.2.2.2.2.2.2.1, K.2.2.2.2.2.2.2.1, nI a) A0 e np B)), ((g 30), .inl (cA 3, 2000, .inl yb))] := hD
  have hz := pName_ok ha hr0
  refine lv_aload_n hx hb d_Md_passName_0 rfl (lv_at hl 0 rfl) ?_
  refine cV (As := []) (rest := []) (n := 0) (wc := [(m0, .inr (6, mF g (K.1, K.2.1, K.2.2.1, K.2.2.2.1, K.2.2.2.2.1, K.2.2.2.2.2.1, K.2.2.2.2.2.2.1, K.2.2.2.2.2.2.2.1, nI a) A0 e np B)), ((g 30), .inl (cA 3, 2000, .inl yb))]) (wr := []) ⟨hx, hb, hml, hown, hts⟩ hno hlocks hl.1 (c_Md_number l hl9 D cA ad s.heap.size m0 g (K.1, K.2.1, K.2.2.1, K.2.2.2.1, K.2.2.2.2.1, K.2.2.2.2.2.1, K.2.2.2.2.2.2.1, K.2.2.2.2.2.2.2.1, nI a) A0 e np B yb b lm hlm hyb hb9 a z.2 z.1 (by omega) (pName_u hr0)) iw4_132 iw4_134 sel_Md_number iw1_7 iw4_135 (by decide +kernel) rfl ⟨Nat.le_of_ble_eq_true rfl, Nat.le_of_ble_eq_true rfl⟩ ⟨Nat.le_of_ble_eq_true rfl, Nat.le_of_ble_eq_true rfl⟩ rfl (Nat.le_of_ble_eq_true rfl) d_Md_passName_1 hE hP hD hS hA [0, 1] [] rfl rfl rfl rfl (by decide) (ci := 6) rfl rfl 0 rfl (fun _ h => h.elim) (fun v_1 u_1 H locs hp_1 hP hD hS => ?_)
  obtain rfl := hp_1
  have hP : va_P D cls [(m0, .inr (6, mF g (K.1, K.2.1, K.2.2.1, K.2.2.2.1, K.2.2.2.2.1, K.2.2.2.2.2.1, K.2.2.2.2.2.2.1, K.2.2.2.2.2.2.2.1, nI z.1) A0 e np B)), ((g 30), .inl (cA 3, 2000, .inl yb))] H := hP
  have hD : va_D A [(m0, .inr (6, mF g (K.1, K.2.1, K.2.2.1, K.2.2.2.1, K.2.2.2.2.1, K.2.2.2.2.2.1, K.2.2.2.2.2.2.1, K.2.2.2.2.2.2.2.1, nI z.1) A0 e np B)), ((g 30), .inl (cA 3, 2000, .inl yb))] := hD
  refine W.cs (cells' := 0) (slots' := 0) rfl rfl ?_
  refine W.eq (g2 := F0 m 4 ls [.long (lN z.2)]) rfl ?_
  refine lv_l2i hx hb d_Md_passName_4 rfl ?_
  rw [lN_i]
  refine lv_istore_n (lv' := [(1, .int (nI z.2)), (0, .ref m0)]) hx hb d_Md_passName_5 rfl hl (by decide) rfl (fun ls hl => ?_)
  refine lv_aload_n hx hb d_Md_passName_6 rfl (lv_at hl 1 rfl) ?_
  refine lv_dup hx hb d_Md_passName_7 rfl ?_
  refine va_get (D := D) (ci := 6) (v := .int (nI z.1)) (C := R_Md) (T := F_Md) (N := 44) hx hb hts (fun w h => List.mem_cons_of_mem _ (i_Md w h)) hown hE.1 hP 0 rfl rfl 43 (by decide) (hts _ (List.mem_cons_of_mem _ iw3_97)) (fun _ h9 => h9) rfl d_Md_passName_8 ?_
  refine lv_iload_n hx hb d_Md_passName_11 rfl (lv_at hl 0 rfl) ?_
  refine lv_iadd hx hb d_Md_passName_12 ?_
  rw [nI_add, ← hz.2.1]
  refine va_put (D := D) (ci := 6) (v := .int (nI a2)) (ty := .int) (C := R_Md) (T := F_Md) (N := 44) hx hb hts (fun w h => List.mem_cons_of_mem _ (i_Md w h)) t_Md tk_Md n_Md hown hE.1 hP hD hS 0 rfl rfl 43 (by decide) (hts _ (List.mem_cons_of_mem _ iw3_97)) (fun _ h9 => h9) rfl (by decide +kernel) rfl rfl (Nat.le_of_ble_eq_true rfl) d_Md_passName_13 (fun H locs hP hD hS => ?_)
  have hP : va_P D cls [(m0, .inr (6, mF g (K.1, K.2.1, K.2.2.1, K.2.2.2.1, K.2.2.2.2.1, K.2.2.2.2.2.1, K.2.2.2.2.2.2.1, K.2.2.2.2.2.2.2.1, nI a2) A0 e np B)), ((g 30), .inl (cA 3, 2000, .inl yb))] H := hP
  have hD : va_D A [(m0, .inr (6, mF g (K.1, K.2.1, K.2.2.1, K.2.2.2.1, K.2.2.2.2.1, K.2.2.2.2.2.1, K.2.2.2.2.2.2.1, K.2.2.2.2.2.2.2.1, nI a2) A0 e np B)), ((g 30), .inl (cA 3, 2000, .inl yb))] := hD
  exact cRv () hx hb hr hlocks d_Md_passName_16 hS hP hD (rfl) (Nat.le_refl _) (Nat.le_refl _)
set_option maxHeartbeats 4000000 in
set_option maxRecDepth 100000 in
/-- exportNumber() -/
theorem c_Md_exportNumber (l : Launch) (hl9 : l.stackTraces = false) (D : va_G) (cA : Nat → ClassId) (ad : Nat → Nat) (sz : Nat) (m0 : Nat) (g : Nat → Nat) (K : MK) (A0 : A3) (e np : Int32) (B : MB) (yb : Nat → Int32) (b : Nat → Nat) (lm : Nat) (hlm : lm ≤ 2000) (hyb : ∀ i, i < lm → yb i = nI (b i)) (hb9 : ∀ i, b i < 256) (a v a' : Nat) (ha : a + 1 ≤ lm) (hr0 : pU32 b lm (a + 1) = .inr (v, a')) :
    cM l y_Md_exportNumber (.code y_Md_exportNumber b_Md_exportNumber 1 (some .long) :: wAll) ({ frames := 1, cells := 0, slots := 0, locals := 23 }) D cA ad [.ref m0] [(m0, .inr (6, mF g (K.1, K.2.1, K.2.2.1, K.2.2.2.1, K.2.2.2.2.1, K.2.2.2.2.2.1, K.2.2.2.2.2.2.1, K.2.2.2.2.2.2.2.1, nI a) A0 e np B)), ((g 30), .inl (cA 3, 2000, .inl yb))] sz (fun x (_ : Unit) => x = some (.long (lN v))) (fun _ => False) (fun _ => [(m0, .inr (6, mF g (K.1, K.2.1, K.2.2.1, K.2.2.2.1, K.2.2.2.2.1, K.2.2.2.2.2.1, K.2.2.2.2.2.2.1, K.2.2.2.2.2.2.2.1, nI a') A0 e np B)), ((g 30), .inl (cA 3, 2000, .inl yb))]) (fun _ => (0, 0)) := by
  refine cM.ofW (cc := b_Md_exportNumber) (maxL := 1) (ret := (some .long)) (by decide) (Nat.le_of_ble_eq_true rfl) ?_
  intro pg ev s m bw meth cdx A ls hF hsz hA hE hP hD hl
  obtain ⟨⟨hx, hb, hml, hown, hts⟩, hr, hno, hlocks, hin⟩ := hF
  subst hsz
  have hown : s.vm.findClass "ModuleBytesModel" = some m.cls := hown
  have hS : va_S A s.heap s.heap [] := va_S.rf
  have hl : lv_has ls 1 [(0, .ref m0)] := hl
  have hP : va_P D cls [(m0, .inr (6, mF g (K.1, K.2.1, K.2.2.1, K.2.2.2.1, K.2.2.2.2.1, K.2.2.2.2.2.1, K.2.2.2.2.2.2.1, K.2.2.2.2.2.2.2.1, nI a) A0 e np B)), ((g 30), .inl (cA 3, 2000, .inl yb))] s.heap := hP
  have hD : va_D A [(m0, .inr (6, mF g (K.1, K.2.1, K.2.2.1, K.2.2.2.1, K.2.2.2.2.1, K.2.2.2.2.2.1, K.2.2.2.2.2.2.1, K.2.2.2.2.2.2.2.1, nI a) A0 e np B)), ((g 30), .inl (cA 3, 2000, .inl yb))] := hD
  refine lv_aload_n hx hb d_Md_exportNumber_0 rfl (lv_at hl 0 rfl) ?_
  refine lv_dup hx hb d_Md_exportNumber_1 rfl ?_
  refine va_get (D := D) (ci := 6) (v := .int (nI a)) (C := R_Md) (T := F_Md) (N := 44) hx hb hts (fun w h => List.mem_cons_of_mem _ (i_Md w h)) hown hE.1 hP 0 rfl rfl 43 (by decide) (hts _ (List.mem_cons_of_mem _ iw3_97)) (fun _ h9 => h9) rfl d_Md_exportNumber_2 ?_
  refine lv_iconst (v := 1) hx hb d_Md_exportNumber_5 (by decide) ?_
  refine lv_iadd hx hb d_Md_exportNumber_6 ?_
  rw [nI_1]
  refine va_put (D := D) (ci := 6) (v := .int (nI (a + 1))) (ty := .int) (C := R_Md) (T := F_Md) (N := 44) hx hb hts (fun w h => List.mem_cons_of_mem _ (i_Md w h)) t_Md tk_Md n_Md hown hE.1 hP hD hS 0 rfl rfl 43 (by decide) (hts _ (List.mem_cons_of_mem _ iw3_97)) (fun _ h9 => h9) rfl (by decide +kernel) rfl rfl (Nat.le_of_ble_eq_true rfl) d_Md_exportNumber_7 (fun H locs hP hD hS => ?_)
  have hP : va_P D cls [(m0, .inr (6, mF g (K.1, K.2.1, K.2.2.1, K.2.2.2.1, K.2.2.2.2.1, K.2.2.2.2.2.1, K.2.2.2.2.2.2.1, K.2.2.2.2.2.2.2.1, nI (a + 1)) A0 e np B)), ((g 30), .inl (cA 3, 2000, .inl yb))] H := hP
  have hD : va_D A [(m0, .inr (6, mF g (K.1, K.2.1, K.2.2.1, K.2.2.2.1, K.2.2.2.2.1, K.2.2.2.2.2.1, K.2.2.2.2.2.2.1, K.2.2.2.2.2.2.2.1, nI (a + 1)) A0 e np B)), ((g 30), .inl (cA 3, 2000, .inl yb))] := hD
  refine lv_aload_n hx hb d_Md_exportNumber_10 rfl (lv_at hl 0 rfl) ?_
  refine cV (As := []) (rest := []) (n := 0) (wc := [(m0, .inr (6, mF g (K.1, K.2.1, K.2.2.1, K.2.2.2.1, K.2.2.2.2.1, K.2.2.2.2.2.1, K.2.2.2.2.2.2.1, K.2.2.2.2.2.2.2.1, nI (a + 1)) A0 e np B)), ((g 30), .inl (cA 3, 2000, .inl yb))]) (wr := []) ⟨hx, hb, hml, hown, hts⟩ hno hlocks hl.1 (c_Md_number l hl9 D cA ad H.size m0 g (K.1, K.2.1, K.2.2.1, K.2.2.2.1, K.2.2.2.2.1, K.2.2.2.2.2.1, K.2.2.2.2.2.2.1, K.2.2.2.2.2.2.2.1, nI (a + 1)) A0 e np B yb b lm hlm hyb hb9 (a + 1) v a' (by omega) hr0) iw4_132 iw4_134 sel_Md_number iw1_7 iw4_135 (by decide +kernel) rfl ⟨Nat.le_of_ble_eq_true rfl, Nat.le_of_ble_eq_true rfl⟩ ⟨Nat.le_of_ble_eq_true rfl, Nat.le_of_ble_eq_true rfl⟩ rfl (Nat.le_of_ble_eq_true rfl) d_Md_exportNumber_11 hE hP hD hS hA [0, 1] [] rfl rfl rfl rfl (by decide) (ci := 6) rfl rfl 0 rfl (fun _ h => h.elim) (fun v_11 u_11 H locs hp_11 hP hD hS => ?_)
  obtain rfl := hp_11
  have hP : va_P D cls [(m0, .inr (6, mF g (K.1, K.2.1, K.2.2.1, K.2.2.2.1, K.2.2.2.2.1, K.2.2.2.2.2.1, K.2.2.2.2.2.2.1, K.2.2.2.2.2.2.2.1, nI a') A0 e np B)), ((g 30), .inl (cA 3, 2000, .inl yb))] H := hP
  have hD : va_D A [(m0, .inr (6, mF g (K.1, K.2.1, K.2.2.1, K.2.2.2.1, K.2.2.2.2.1, K.2.2.2.2.2.1, K.2.2.2.2.2.2.1, K.2.2.2.2.2.2.2.1, nI a') A0 e np B)), ((g 30), .inl (cA 3, 2000, .inl yb))] := hD
  refine W.cs (cells' := 0) (slots' := 0) rfl rfl ?_
  refine W.eq (g2 := F0 m 14 ls [.long (lN v)]) rfl ?_
  exact cRl () hx hb hr hlocks d_Md_exportNumber_14 hS hP hD rfl (Nat.le_refl _) (Nat.le_refl _)
/-- limits: what is read of them again -/
def limV (g v v2 : Nat) (gr : Bool) : Int64 := if gr = false then lN v else if g = 0 then -1 else lN v2
theorem pLim_inv {b : Nat → Nat} {lm a a' : Nat} {cols z : Nat → Int64} (h : pLim b lm cols a = .inr (z, a')) : ∃ v a2 v2 a3 : Nat, a < lm ∧ b a ≤ 1 ∧ pU32 b lm (a + 1) = .inr (v, a2) ∧ (b a = 1 → pU32 b lm a2 = .inr (v2, a3)) ∧ z = (if b a = 1 then vp_updL (vp_updL cols 2 (lN v)) 3 (lN v2) else vp_updL cols 2 (lN v)) := by
  obtain ⟨g, a1, q, r⟩ := bnd_ok h
  obtain ⟨v, a2, q2, r2⟩ := bnd_ok r
  cases hx : pNext b lm a with
  | inl y => rw [pChoice_T hx] at q; cases q
  | inr y =>
    obtain ⟨g2, a4⟩ := y
    obtain ⟨e1, e2, e3⟩ := pNext_ok hx
    by_cases c : 1 < g2
    · rw [pChoice_F hx c] at q; cases q
    rw [pChoice_E hx c] at q
    cases q
    subst e2 e3
    by_cases c1 : b a = 1
    · rw [if_pos c1] at r2
      obtain ⟨v2, a3, q3, r3⟩ := bnd_ok r2
      cases r3
      exact ⟨v, a2, v2, a', e1, by omega, q2, fun _ => q3, by rw [if_pos c1]⟩
    · rw [if_neg c1] at r2
      cases r2
      exact ⟨v, a', 0, 0, e1, by omega, q2, fun q => absurd q c1, by rw [if_neg c1]⟩
set_option maxHeartbeats 4000000 in
set_option maxRecDepth 100000 in
/-- limit(0) -/
theorem c_Md_limit_0 (l : Launch) (hl9 : l.stackTraces = false) (D : va_G) (cA : Nat → ClassId) (ad : Nat → Nat) (sz : Nat) (m0 : Nat) (g : Nat → Nat) (K : MK) (A0 : A3) (e np : Int32) (B : MB) (yb : Nat → Int32) (b : Nat → Nat) (lm : Nat) (hlm : lm ≤ 2000) (hyb : ∀ i, i < lm → yb i = nI (b i)) (hb9 : ∀ i, b i < 256) (a v a2 v2 a3 : Nat) (ha : a < lm) (hg1 : b a ≤ 1) (hr0 : pU32 b lm (a + 1) = .inr (v, a2)) (hr1 : b a = 1 → pU32 b lm a2 = .inr (v2, a3))  :
    cM l y_Md_limit (.code y_Md_limit b_Md_limit 5 (some .long) :: wAll) ({ frames := 1, cells := 0, slots := 0, locals := 23 }) D cA ad [.ref m0, .int 0] [(m0, .inr (6, mF g (K.1, K.2.1, K.2.2.1, K.2.2.2.1, K.2.2.2.2.1, K.2.2.2.2.2.1, K.2.2.2.2.2.2.1, K.2.2.2.2.2.2.2.1, nI a) A0 e np B)), ((g 30), .inl (cA 3, 2000, .inl yb))] sz (fun x (_ : Int32) => x = some (.long (limV (b a) v v2 false))) (fun _ => False) (fun (q : Int32) => [(m0, .inr (6, mF g (K.1, K.2.1, K.2.2.1, K.2.2.2.1, K.2.2.2.2.1, K.2.2.2.2.2.1, K.2.2.2.2.2.2.1, K.2.2.2.2.2.2.2.1, q) A0 e np B)), ((g 30), .inl (cA 3, 2000, .inl yb))]) (fun _ => (0, 0)) := by
  refine cM.ofW (cc := b_Md_limit) (maxL := 5) (ret := (some .long)) (by decide) (Nat.le_of_ble_eq_true rfl) ?_
  intro pg ev s m bw meth cdx A ls hF hsz hA hE hP hD hl
  obtain ⟨⟨hx, hb, hml, hown, hts⟩, hr, hno, hlocks, hin⟩ := hF
  subst hsz
  have hown : s.vm.findClass "ModuleBytesModel" = some m.cls := hown
  have hS : va_S A s.heap s.heap [] := va_S.rf
  have hl : lv_has ls 5 [(0, .ref m0), (1, .int 0)] := hl
  have hP : va_P D cls [(m0, .inr (6, mF g (K.1, K.2.1, K.2.2.1, K.2.2.2.1, K.2.2.2.2.1, K.2.2.2.2.2.1, K.2.2.2.2.2.2.1, K.2.2.2.2.2.2.2.1, nI a) A0 e np B)), ((g 30), .inl (cA 3, 2000, .inl yb))] s.heap := hP
  have hD : va_D A [(m0, .inr (6, mF g (K.1, K.2.1, K.2.2.1, K.2.2.2.1, K.2.2.2.2.1, K.2.2.2.2.2.1, K.2.2.2.2.2.2.1, K.2.2.2.2.2.2.2.1, nI a) A0 e np B)), ((g 30), .inl (cA 3, 2000, .inl yb))] := hD
  refine lv_aload_n hx hb d_Md_limit_0 rfl (lv_at hl 0 rfl) ?_
  refine va_get (D := D) (ci := 6) (v := .ref (g 30)) (C := R_Md) (T := F_Md) (N := 44) hx hb hts (fun w h => List.mem_cons_of_mem _ (i_Md w h)) hown hE.1 hP 0 rfl rfl 30 (by decide) (hts _ (List.mem_cons_of_mem _ iw3_84)) (fun _ h9 => h9) rfl d_Md_limit_1 ?_
  refine lv_aload_n hx hb d_Md_limit_4 rfl (lv_at hl 0 rfl) ?_
  refine va_get (D := D) (ci := 6) (v := .int (nI a)) (C := R_Md) (T := F_Md) (N := 44) hx hb hts (fun w h => List.mem_cons_of_mem _ (i_Md w h)) hown hE.1 hP 0 rfl rfl 43 (by decide) (hts _ (List.mem_cons_of_mem _ iw3_97)) (fun _ h9 => h9) rfl d_Md_limit_5 ?_
  refine va_iald hx hb hE.1 hP 1 3 rfl rfl (vp_in_nI (by omega) (by omega)) d_Md_limit_8 ?_
  rw [nI_clamp (n := a) (by omega), hyb a (by omega)]
  refine lv_istore_n (lv' := [(2, .int (nI (b a))), (0, .ref m0), (1, .int 0)]) hx hb d_Md_limit_9 rfl hl (by decide) rfl (fun ls hl => ?_)
  refine lv_aload_n hx hb d_Md_limit_10 rfl (lv_at hl 1 rfl) ?_
  refine lv_dup hx hb d_Md_limit_11 rfl ?_
  refine va_get (D := D) (ci := 6) (v := .int (nI a)) (C := R_Md) (T := F_Md) (N := 44) hx hb hts (fun w h => List.mem_cons_of_mem _ (i_Md w h)) hown hE.1 hP 0 rfl rfl 43 (by decide) (hts _ (List.mem_cons_of_mem _ iw3_97)) (fun _ h9 => h9) rfl d_Md_limit_12 ?_
  refine lv_iconst (v := 1) hx hb d_Md_limit_15 (by decide) ?_
  refine lv_iadd hx hb d_Md_limit_16 ?_
  rw [nI_1]
  refine va_put (D := D) (ci := 6) (v := .int (nI (a + 1))) (ty := .int) (C := R_Md) (T := F_Md) (N := 44) hx hb hts (fun w h => List.mem_cons_of_mem _ (i_Md w h)) t_Md tk_Md n_Md hown hE.1 hP hD hS 0 rfl rfl 43 (by decide) (hts _ (List.mem_cons_of_mem _ iw3_97)) (fun _ h9 => h9) rfl (by decide +kernel) rfl rfl (Nat.le_of_ble_eq_true rfl) d_Md_limit_17 (fun H locs hP hD hS => ?_)
  have hP : va_P D cls [(m0, .inr (6, mF g (K.1, K.2.1, K.2.2.1, K.2.2.2.1, K.2.2.2.2.1, K.2.2.2.2.2.1, K.2.2.2.2.2.2.1, K.2.2.2.2.2.2.2.1, nI (a + 1)) A0 e np B)), ((g 30), .inl (cA 3, 2000, .inl yb))] H := hP
  have hD : va_D A [(m0, .inr (6, mF g (K.1, K.2.1, K.2.2.1, K.2.2.2.1, K.2.2.2.2.1, K.2.2.2.2.2.1, K.2.2.2.2.2.2.1, K.2.2.2.2.2.2.2.1, nI (a + 1)) A0 e np B)), ((g 30), .inl (cA 3, 2000, .inl yb))] := hD
  refine lv_aload_n hx hb d_Md_limit_20 rfl (lv_at hl 1 rfl) ?_
  refine cV (As := []) (rest := []) (n := 0) (wc := [(m0, .inr (6, mF g (K.1, K.2.1, K.2.2.1, K.2.2.2.1, K.2.2.2.2.1, K.2.2.2.2.2.1, K.2.2.2.2.2.2.1, K.2.2.2.2.2.2.2.1, nI (a + 1)) A0 e np B)), ((g 30), .inl (cA 3, 2000, .inl yb))]) (wr := []) ⟨hx, hb, hml, hown, hts⟩ hno hlocks hl.1 (c_Md_number l hl9 D cA ad H.size m0 g (K.1, K.2.1, K.2.2.1, K.2.2.2.1, K.2.2.2.2.1, K.2.2.2.2.2.1, K.2.2.2.2.2.2.1, K.2.2.2.2.2.2.2.1, nI (a + 1)) A0 e np B yb b lm hlm hyb hb9 (a + 1) v a2 (by omega) hr0) iw4_132 iw4_134 sel_Md_number iw1_7 iw4_135 (by decide +kernel) rfl ⟨Nat.le_of_ble_eq_true rfl, Nat.le_of_ble_eq_true rfl⟩ ⟨Nat.le_of_ble_eq_true rfl, Nat.le_of_ble_eq_true rfl⟩ rfl (Nat.le_of_ble_eq_true rfl) d_Md_limit_21 hE hP hD hS hA [0, 1] [] rfl rfl rfl rfl (by decide) (ci := 6) rfl rfl 0 rfl (fun _ h => h.elim) (fun v_21 u_21 H locs hp_21 hP hD hS => ?_)
  obtain rfl := hp_21
  have hP : va_P D cls [(m0, .inr (6, mF g (K.1, K.2.1, K.2.2.1, K.2.2.2.1, K.2.2.2.2.1, K.2.2.2.2.2.1, K.2.2.2.2.2.2.1, K.2.2.2.2.2.2.2.1, nI a2) A0 e np B)), ((g 30), .inl (cA 3, 2000, .inl yb))] H := hP
  have hD : va_D A [(m0, .inr (6, mF g (K.1, K.2.1, K.2.2.1, K.2.2.2.1, K.2.2.2.2.1, K.2.2.2.2.2.1, K.2.2.2.2.2.2.1, K.2.2.2.2.2.2.2.1, nI a2) A0 e np B)), ((g 30), .inl (cA 3, 2000, .inl yb))] := hD
  refine W.cs (cells' := 0) (slots' := 0) rfl rfl ?_
  refine W.eq (g2 := F0 m 24 ls [.long (lN v)]) rfl ?_
  refine lv_lstore_n (lv' := [(3, .long (lN v)), (2, .int (nI (b a))), (0, .ref m0), (1, .int 0)]) hx hb d_Md_limit_24 rfl hl (by decide) rfl (fun ls hl => ?_)
  refine lv_iload_n hx hb d_Md_limit_25 rfl (lv_at hl 3 rfl) ?_
  refine lv_if_ne (tgt := 33) hx hb d_Md_limit_26 (by decide) (fun c_26 => absurd (by decide) c_26) (fun c_26 => ?_)
  refine lv_lload_n hx hb d_Md_limit_29 rfl (lv_at hl 0 rfl) ?_
  refine lv_goto (tgt := 47) hx hb d_Md_limit_30 (by decide) ?_
  exact cRl (nI a2) hx hb hr hlocks d_Md_limit_47 hS hP hD (rfl) (Nat.le_refl _) (Nat.le_refl _)
set_option maxHeartbeats 4000000 in
set_option maxRecDepth 100000 in
/-- limit(1) -/
theorem c_Md_limit_1 (l : Launch) (hl9 : l.stackTraces = false) (D : va_G) (cA : Nat → ClassId) (ad : Nat → Nat) (sz : Nat) (m0 : Nat) (g : Nat → Nat) (K : MK) (A0 : A3) (e np : Int32) (B : MB) (yb : Nat → Int32) (b : Nat → Nat) (lm : Nat) (hlm : lm ≤ 2000) (hyb : ∀ i, i < lm → yb i = nI (b i)) (hb9 : ∀ i, b i < 256) (a v a2 v2 a3 : Nat) (ha : a < lm) (hg1 : b a ≤ 1) (hr0 : pU32 b lm (a + 1) = .inr (v, a2)) (hr1 : b a = 1 → pU32 b lm a2 = .inr (v2, a3))  :
    cM l y_Md_limit (.code y_Md_limit b_Md_limit 5 (some .long) :: wAll) ({ frames := 1, cells := 0, slots := 0, locals := 23 }) D cA ad [.ref m0, .int 1] [(m0, .inr (6, mF g (K.1, K.2.1, K.2.2.1, K.2.2.2.1, K.2.2.2.2.1, K.2.2.2.2.2.1, K.2.2.2.2.2.2.1, K.2.2.2.2.2.2.2.1, nI a) A0 e np B)), ((g 30), .inl (cA 3, 2000, .inl yb))] sz (fun x (_ : Int32) => x = some (.long (limV (b a) v v2 true))) (fun _ => False) (fun (q : Int32) => [(m0, .inr (6, mF g (K.1, K.2.1, K.2.2.1, K.2.2.2.1, K.2.2.2.2.1, K.2.2.2.2.2.1, K.2.2.2.2.2.2.1, K.2.2.2.2.2.2.2.1, q) A0 e np B)), ((g 30), .inl (cA 3, 2000, .inl yb))]) (fun _ => (0, 0)) := by
  refine cM.ofW (cc := b_Md_limit) (maxL := 5) (ret := (some .long)) (by decide) (Nat.le_of_ble_eq_true rfl) ?_
  intro pg ev s m bw meth cdx A ls hF hsz hA hE hP hD hl
  obtain ⟨⟨hx, hb, hml, hown, hts⟩, hr, hno, hlocks, hin⟩ := hF
  subst hsz
  have hown : s.vm.findClass "ModuleBytesModel" = some m.cls := hown
  have hS : va_S A s.heap s.heap [] := va_S.rf
  have hl : lv_has ls 5 [(0, .ref m0), (1, .int 1)] := hl
  have hP : va_P D cls [(m0, .inr (6, mF g (K.1, K.2.1, K.2.2.1, K.2.2.2.1, K.2.2.2.2.1, K.2.2.2.2.2.1, K.2.2.2.2.2.2.1, K.2.2.2.2.2.2.2.1, nI a) A0 e np B)), ((g 30), .inl (cA 3, 2000, .inl yb))] s.heap := hP
  have hD : va_D A [(m0, .inr (6, mF g (K.1, K.2.1, K.2.2.1, K.2.2.2.1, K.2.2.2.2.1, K.2.2.2.2.2.1, K.2.2.2.2.2.2.1, K.2.2.2.2.2.2.2.1, nI a) A0 e np B)), ((g 30), .inl (cA 3, 2000, .inl yb))] := hD
  refine lv_aload_n hx hb d_Md_limit_0 rfl (lv_at hl 0 rfl) ?_
  refine va_get (D := D) (ci := 6) (v := .ref (g 30)) (C := R_Md) (T := F_Md) (N := 44) hx hb hts (fun w h => List.mem_cons_of_mem _ (i_Md w h)) hown hE.1 hP 0 rfl rfl 30 (by decide) (hts _ (List.mem_cons_of_mem _ iw3_84)) (fun _ h9 => h9) rfl d_Md_limit_1 ?_
  refine lv_aload_n hx hb d_Md_limit_4 rfl (lv_at hl 0 rfl) ?_
  refine va_get (D := D) (ci := 6) (v := .int (nI a)) (C := R_Md) (T := F_Md) (N := 44) hx hb hts (fun w h => List.mem_cons_of_mem _ (i_Md w h)) hown hE.1 hP 0 rfl rfl 43 (by decide) (hts _ (List.mem_cons_of_mem _ iw3_97)) (fun _ h9 => h9) rfl d_Md_limit_5 ?_
  refine va_iald hx hb hE.1 hP 1 3 rfl rfl (vp_in_nI (by omega) (by omega)) d_Md_limit_8 ?_
  rw [nI_clamp (n := a) (by omega), hyb a (by omega)]
  refine lv_istore_n (lv' := [(2, .int (nI (b a))), (0, .ref m0), (1, .int 1)]) hx hb d_Md_limit_9 rfl hl (by decide) rfl (fun ls hl => ?_)
  refine lv_aload_n hx hb d_Md_limit_10 rfl (lv_at hl 1 rfl) ?_
  refine lv_dup hx hb d_Md_limit_11 rfl ?_
  refine va_get (D := D) (ci := 6) (v := .int (nI a)) (C := R_Md) (T := F_Md) (N := 44) hx hb hts (fun w h => List.mem_cons_of_mem _ (i_Md w h)) hown hE.1 hP 0 rfl rfl 43 (by decide) (hts _ (List.mem_cons_of_mem _ iw3_97)) (fun _ h9 => h9) rfl d_Md_limit_12 ?_
  refine lv_iconst (v := 1) hx hb d_Md_limit_15 (by decide) ?_
  refine lv_iadd hx hb d_Md_limit_16 ?_
  rw [nI_1]
  refine va_put (D := D) (ci := 6) (v := .int (nI (a + 1))) (ty := .int) (C := R_Md) (T := F_Md) (N := 44) hx hb hts (fun w h => List.mem_cons_of_mem _ (i_Md w h)) t_Md tk_Md n_Md hown hE.1 hP hD hS 0 rfl rfl 43 (by decide) (hts _ (List.mem_cons_of_mem _ iw3_97)) (fun _ h9 => h9) rfl (by decide +kernel) rfl rfl (Nat.le_of_ble_eq_true rfl) d_Md_limit_17 (fun H locs hP hD hS => ?_)
  have hP : va_P D cls [(m0, .inr (6, mF g (K.1, K.2.1, K.2.2.1, K.2.2.2.1, K.2.2.2.2.1, K.2.2.2.2.2.1, K.2.2.2.2.2.2.1, K.2.2.2.2.2.2.2.1, nI (a + 1)) A0 e np B)), ((g 30), .inl (cA 3, 2000, .inl yb))] H := hP
  have hD : va_D A [(m0, .inr (6, mF g (K.1, K.2.1, K.2.2.1, K.2.2.2.1, K.2.2.2.2.1, K.2.2.2.2.2.1, K.2.2.2.2.2.2.1, K.2.2.2.2.2.2.2.1, nI (a + 1)) A0 e np B)), ((g 30), .inl (cA 3, 2000, .inl yb))] := hD
  refine lv_aload_n hx hb d_Md_limit_20 rfl (lv_at hl 1 rfl) ?_
  refine cV (As := []) (rest := []) (n := 0) (wc := [(m0, .inr (6, mF g (K.1, K.2.1, K.2.2.1, K.2.2.2.1, K.2.2.2.2.1, K.2.2.2.2.2.1, K.2.2.2.2.2.2.1, K.2.2.2.2.2.2.2.1, nI (a + 1)) A0 e np B)), ((g 30), .inl (cA 3, 2000, .inl yb))]) (wr := []) ⟨hx, hb, hml, hown, hts⟩ hno hlocks hl.1 (c_Md_number l hl9 D cA ad H.size m0 g (K.1, K.2.1, K.2.2.1, K.2.2.2.1, K.2.2.2.2.1, K.2.2.2.2.2.1, K.2.2.2.2.2.2.1, K.2.2.2.2.2.2.2.1, nI (a + 1)) A0 e np B yb b lm hlm hyb hb9 (a + 1) v a2 (by omega) hr0) iw4_132 iw4_134 sel_Md_number iw1_7 iw4_135 (by decide +kernel) rfl ⟨Nat.le_of_ble_eq_true rfl, Nat.le_of_ble_eq_true rfl⟩ ⟨Nat.le_of_ble_eq_true rfl, Nat.le_of_ble_eq_true rfl⟩ rfl (Nat.le_of_ble_eq_true rfl) d_Md_limit_21 hE hP hD hS hA [0, 1] [] rfl rfl rfl rfl (by decide) (ci := 6) rfl rfl 0 rfl (fun _ h => h.elim) (fun v_21 u_21 H locs hp_21 hP hD hS => ?_)
  obtain rfl := hp_21
  have hP : va_P D cls [(m0, .inr (6, mF g (K.1, K.2.1, K.2.2.1, K.2.2.2.1, K.2.2.2.2.1, K.2.2.2.2.2.1, K.2.2.2.2.2.2.1, K.2.2.2.2.2.2.2.1, nI a2) A0 e np B)), ((g 30), .inl (cA 3, 2000, .inl yb))] H := hP
  have hD : va_D A [(m0, .inr (6, mF g (K.1, K.2.1, K.2.2.1, K.2.2.2.1, K.2.2.2.2.1, K.2.2.2.2.2.1, K.2.2.2.2.2.2.1, K.2.2.2.2.2.2.2.1, nI a2) A0 e np B)), ((g 30), .inl (cA 3, 2000, .inl yb))] := hD
  refine W.cs (cells' := 0) (slots' := 0) rfl rfl ?_
  refine W.eq (g2 := F0 m 24 ls [.long (lN v)]) rfl ?_
  refine lv_lstore_n (lv' := [(3, .long (lN v)), (2, .int (nI (b a))), (0, .ref m0), (1, .int 1)]) hx hb d_Md_limit_24 rfl hl (by decide) rfl (fun ls hl => ?_)
  refine lv_iload_n hx hb d_Md_limit_25 rfl (lv_at hl 3 rfl) ?_
  refine lv_if_ne (tgt := 33) hx hb d_Md_limit_26 (by decide) (fun c_26 => ?_) (fun c_26 => absurd c_26 (by decide))
  refine lv_iload_n hx hb d_Md_limit_33 rfl (lv_at hl 1 rfl) ?_
  refine lv_if_ne (tgt := 43) hx hb d_Md_limit_34 (by decide) (fun c_34 => ?_) (fun c_34 => ?_)
  · have hb1 : b a = 1 := by have : ¬ b a = 0 := fun q => c_34 (by rw [q]; rfl); omega
    have hu2 := pU32_ok (by omega) hr0
    refine lv_aload_n hx hb d_Md_limit_43 rfl (lv_at hl 2 rfl) ?_
    refine cV (As := []) (rest := []) (n := 0) (wc := [(m0, .inr (6, mF g (K.1, K.2.1, K.2.2.1, K.2.2.2.1, K.2.2.2.2.1, K.2.2.2.2.2.1, K.2.2.2.2.2.2.1, K.2.2.2.2.2.2.2.1, nI a2) A0 e np B)), ((g 30), .inl (cA 3, 2000, .inl yb))]) (wr := []) ⟨hx, hb, hml, hown, hts⟩ hno hlocks hl.1 (c_Md_number l hl9 D cA ad H.size m0 g (K.1, K.2.1, K.2.2.1, K.2.2.2.1, K.2.2.2.2.1, K.2.2.2.2.2.1, K.2.2.2.2.2.2.1, K.2.2.2.2.2.2.2.1, nI a2) A0 e np B yb b lm hlm hyb hb9 a2 v2 a3 (by omega) (hr1 hb1)) iw4_132 iw4_134 sel_Md_number iw1_7 iw4_135 (by decide +kernel) rfl ⟨Nat.le_of_ble_eq_true rfl, Nat.le_of_ble_eq_true rfl⟩ ⟨Nat.le_of_ble_eq_true rfl, Nat.le_of_ble_eq_true rfl⟩ rfl (Nat.le_of_ble_eq_true rfl) d_Md_limit_44 hE hP hD hS hA [0, 1] [] rfl rfl rfl rfl (by decide) (ci := 6) rfl rfl 0 rfl (fun _ h => h.elim) (fun v_44 u_44 H locs hp_44 hP hD hS => ?_)
    obtain rfl := hp_44
    have hP : va_P D cls [(m0, .inr (6, mF g (K.1, K.2.1, K.2.2.1, K.2.2.2.1, K.2.2.2.2.1, K.2.2.2.2.2.1, K.2.2.2.2.2.2.1, K.2.2.2.2.2.2.2.1, nI a3) A0 e np B)), ((g 30), .inl (cA 3, 2000, .inl yb))] H := hP
    have hD : va_D A [(m0, .inr (6, mF g (K.1, K.2.1, K.2.2.1, K.2.2.2.1, K.2.2.2.2.1, K.2.2.2.2.2.1, K.2.2.2.2.2.2.1, K.2.2.2.2.2.2.2.1, nI a3) A0 e np B)), ((g 30), .inl (cA 3, 2000, .inl yb))] := hD
    refine W.cs (cells' := 0) (slots' := 0) rfl rfl ?_
    refine W.eq (g2 := F0 m 47 ls [.long (lN v2)]) rfl ?_
    exact cRl (nI a3) hx hb hr hlocks d_Md_limit_47 hS hP hD (by rw [limV, if_neg (by decide), if_neg (by omega)]) (Nat.le_refl _) (Nat.le_refl _)
  · refine lv_ldc2 hx hb hown (hts _ (List.mem_cons_of_mem _ iw3_204)) d_Md_limit_37 ?_
    refine lv_goto (tgt := 47) hx hb d_Md_limit_40 (by decide) ?_
    exact cRl (nI a2) hx hb hr hlocks d_Md_limit_47 hS hP hD (by rw [limV, if_neg (by decide), if_pos (show b a = 0 from (nI_eq (a := b a) (b := 0) (by omega) (by decide)).mp c_34)]) (Nat.le_refl _) (Nat.le_refl _)
