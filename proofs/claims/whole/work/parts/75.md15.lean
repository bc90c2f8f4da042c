set_option maxHeartbeats 4000000 in
set_option maxRecDepth 100000 in
/-- lookImport(t, what) -/
theorem c_Md_lookImport (l : Launch) (hl9 : l.stackTraces = false) (D : va_G) (cA : Nat → ClassId) (ad : Nat → Nat) (sz : Nat) (m0 : Nat) (g : Nat → Nat) (K : MK) (A0 : A3) (e np : Int32) (B : MB) (yb : Nat → Int32) (b : Nat → Nat) (lm : Nat) (hlm : lm ≤ 2000) (hyb : ∀ i, i < lm → yb i = nI (b i)) (hb9 : ∀ i, b i < 256) (a a' : Nat) (z : Nat → Int64) (ha : a ≤ lm) (hr0 : pImp b lm a = .inr (z, a')) (LL : List Int64) (t : Int32) (wh : Nat) (hwh : wh < 2 ^ 31) :
    cM l y_Md_lookImport (.code y_Md_lookImport b_Md_lookImport 5 (some .long) :: wAll) ({ frames := 2, cells := 0, slots := 0, locals := 47 }) D cA ad [.ref m0, .int t, .int (nI wh)] [(m0, .inr (6, mF g (K.1, K.2.1, K.2.2.1, K.2.2.2.1, K.2.2.2.2.1, K.2.2.2.2.2.1, K.2.2.2.2.2.2.1, K.2.2.2.2.2.2.2.1, nI a) A0 e np B)), ((g 30), .inl (cA 3, 2000, .inl yb))] sz (fun v (_ : Int32) => v = some (.long (lkS 1 z LL wh))) (fun _ => False) (fun (q : Int32) => [(m0, .inr (6, mF g (K.1, K.2.1, K.2.2.1, K.2.2.2.1, K.2.2.2.2.1, K.2.2.2.2.2.1, K.2.2.2.2.2.2.1, K.2.2.2.2.2.2.2.1, q) A0 e np B)), ((g 30), .inl (cA 3, 2000, .inl yb))]) (fun _ => (0, 0)) := by
  refine cM.ofW (cc := b_Md_lookImport) (maxL := 5) (ret := (some .long)) (by decide) (Nat.le_of_ble_eq_true rfl) ?_
  intro pg ev s m bw meth cdx A ls hF hsz hA hE hP hD hl
  obtain ⟨⟨hx, hb, hml, hown, hts⟩, hr, hno, hlocks, hin⟩ := hF
  subst hsz
  have hown : s.vm.findClass "ModuleBytesModel" = some m.cls := hown
  have hS : va_S A s.heap s.heap [] := va_S.rf
  have hl : lv_has ls 5 [(0, .ref m0), (1, .int t), (2, .int (nI wh))] := hl
  have hP : va_P D cls [(m0, .inr (6, mF g (K.1, K.2.1, K.2.2.1, K.2.2.2.1, K.2.2.2.2.1, K.2.2.2.2.2.1, K.2.2.2.2.2.2.1, K.2.2.2.2.2.2.2.1, nI a) A0 e np B)), ((g 30), .inl (cA 3, 2000, .inl yb))] s.heap := hP
  have hD : va_D A [(m0, .inr (6, mF g (K.1, K.2.1, K.2.2.1, K.2.2.2.1, K.2.2.2.2.1, K.2.2.2.2.2.1, K.2.2.2.2.2.2.1, K.2.2.2.2.2.2.2.1, nI a) A0 e np B)), ((g 30), .inl (cA 3, 2000, .inl yb))] := hD
  obtain ⟨x, y, a1, a2, hn1, hn2, ha2, hg3, hz0, hz1, hz2, hz3⟩ := pImp_inv hr0
  have hq1 := pName_ok ha hn1
  have hq2 := pName_ok (by omega) hn2
  obtain ⟨gg, hgg⟩ : ∃ gg, b a2 = gg := ⟨_, rfl⟩
  refine lv_aload_n hx hb d_Md_lookImport_0 rfl (lv_at hl 0 rfl) ?_
  refine cV (As := []) (rest := []) (n := 0) (wc := [(m0, .inr (6, mF g (K.1, K.2.1, K.2.2.1, K.2.2.2.1, K.2.2.2.2.1, K.2.2.2.2.2.1, K.2.2.2.2.2.2.1, K.2.2.2.2.2.2.2.1, nI a) A0 e np B)), ((g 30), .inl (cA 3, 2000, .inl yb))]) (wr := []) ⟨hx, hb, hml, hown, hts⟩ hno hlocks hl.1 (c_Md_passName l hl9 D cA ad s.heap.size m0 g (K.1, K.2.1, K.2.2.1, K.2.2.2.1, K.2.2.2.2.1, K.2.2.2.2.2.1, K.2.2.2.2.2.2.1, K.2.2.2.2.2.2.2.1, nI a) A0 e np B yb b lm hlm hyb hb9 a a1 x (by omega) hn1) iw4_144 iw4_146 sel_Md_passName iw1_7 iw4_147 (by decide +kernel) rfl ⟨Nat.le_of_ble_eq_true rfl, Nat.le_of_ble_eq_true rfl⟩ ⟨Nat.le_of_ble_eq_true rfl, Nat.le_of_ble_eq_true rfl⟩ rfl (Nat.le_of_ble_eq_true rfl) d_Md_lookImport_1 hE hP hD hS hA [0, 1] [] rfl rfl rfl rfl (by decide) (ci := 6) rfl rfl 0 rfl (fun _ h => h.elim) (fun v_1 u_1 H locs hp_1 hP hD hS => ?_)
  obtain rfl := hp_1
  have hP : va_P D cls [(m0, .inr (6, mF g (K.1, K.2.1, K.2.2.1, K.2.2.2.1, K.2.2.2.2.1, K.2.2.2.2.2.1, K.2.2.2.2.2.2.1, K.2.2.2.2.2.2.2.1, nI a1) A0 e np B)), ((g 30), .inl (cA 3, 2000, .inl yb))] H := hP
  have hD : va_D A [(m0, .inr (6, mF g (K.1, K.2.1, K.2.2.1, K.2.2.2.1, K.2.2.2.2.1, K.2.2.2.2.2.1, K.2.2.2.2.2.2.1, K.2.2.2.2.2.2.2.1, nI a1) A0 e np B)), ((g 30), .inl (cA 3, 2000, .inl yb))] := hD
  refine W.cs (cells' := 0) (slots' := 0) rfl rfl ?_
  refine W.eq (g2 := F0 m 4 ls []) rfl ?_
  refine lv_aload_n hx hb d_Md_lookImport_4 rfl (lv_at hl 0 rfl) ?_
  refine cV (As := []) (rest := []) (n := 0) (wc := [(m0, .inr (6, mF g (K.1, K.2.1, K.2.2.1, K.2.2.2.1, K.2.2.2.2.1, K.2.2.2.2.2.1, K.2.2.2.2.2.2.1, K.2.2.2.2.2.2.2.1, nI a1) A0 e np B)), ((g 30), .inl (cA 3, 2000, .inl yb))]) (wr := []) ⟨hx, hb, hml, hown, hts⟩ hno hlocks hl.1 (c_Md_passName l hl9 D cA ad H.size m0 g (K.1, K.2.1, K.2.2.1, K.2.2.2.1, K.2.2.2.2.1, K.2.2.2.2.2.1, K.2.2.2.2.2.2.1, K.2.2.2.2.2.2.2.1, nI a1) A0 e np B yb b lm hlm hyb hb9 a1 a2 y (by omega) hn2) iw4_144 iw4_146 sel_Md_passName iw1_7 iw4_147 (by decide +kernel) rfl ⟨Nat.le_of_ble_eq_true rfl, Nat.le_of_ble_eq_true rfl⟩ ⟨Nat.le_of_ble_eq_true rfl, Nat.le_of_ble_eq_true rfl⟩ rfl (Nat.le_of_ble_eq_true rfl) d_Md_lookImport_5 hE hP hD hS hA [0, 1] [] rfl rfl rfl rfl (by decide) (ci := 6) rfl rfl 0 rfl (fun _ h => h.elim) (fun v_5 u_5 H locs hp_5 hP hD hS => ?_)
  obtain rfl := hp_5
  have hP : va_P D cls [(m0, .inr (6, mF g (K.1, K.2.1, K.2.2.1, K.2.2.2.1, K.2.2.2.2.1, K.2.2.2.2.2.1, K.2.2.2.2.2.2.1, K.2.2.2.2.2.2.2.1, nI a2) A0 e np B)), ((g 30), .inl (cA 3, 2000, .inl yb))] H := hP
  have hD : va_D A [(m0, .inr (6, mF g (K.1, K.2.1, K.2.2.1, K.2.2.2.1, K.2.2.2.2.1, K.2.2.2.2.2.1, K.2.2.2.2.2.2.1, K.2.2.2.2.2.2.2.1, nI a2) A0 e np B)), ((g 30), .inl (cA 3, 2000, .inl yb))] := hD
  refine W.cs (cells' := 0) (slots' := 0) rfl rfl ?_
  refine W.eq (g2 := F0 m 8 ls []) rfl ?_
  refine lv_aload_n hx hb d_Md_lookImport_8 rfl (lv_at hl 0 rfl) ?_
  refine va_get (D := D) (ci := 6) (v := .ref (g 30)) (C := R_Md) (T := F_Md) (N := 44) hx hb hts (fun w h => List.mem_cons_of_mem _ (i_Md w h)) hown hE.1 hP 0 rfl rfl 30 (by decide) (hts _ (List.mem_cons_of_mem _ iw3_84)) (fun _ h9 => h9) rfl d_Md_lookImport_9 ?_
  refine lv_aload_n hx hb d_Md_lookImport_12 rfl (lv_at hl 0 rfl) ?_
  refine va_get (D := D) (ci := 6) (v := .int (nI a2)) (C := R_Md) (T := F_Md) (N := 44) hx hb hts (fun w h => List.mem_cons_of_mem _ (i_Md w h)) hown hE.1 hP 0 rfl rfl 43 (by decide) (hts _ (List.mem_cons_of_mem _ iw3_97)) (fun _ h9 => h9) rfl d_Md_lookImport_13 ?_
  refine va_iald hx hb hE.1 hP 1 3 rfl rfl (vp_in_nI (by omega) (by omega)) d_Md_lookImport_16 ?_
  rw [nI_clamp (n := a2) (by omega), hyb a2 (by omega), hgg]
  refine lv_istore_n (lv' := [(3, .int (nI gg)), (0, .ref m0), (1, .int t), (2, .int (nI wh))]) hx hb d_Md_lookImport_17 rfl hl (by decide) rfl (fun ls hl => ?_)
  refine lv_aload_n hx hb d_Md_lookImport_18 rfl (lv_at hl 1 rfl) ?_
  refine lv_dup hx hb d_Md_lookImport_19 rfl ?_
  refine va_get (D := D) (ci := 6) (v := .int (nI a2)) (C := R_Md) (T := F_Md) (N := 44) hx hb hts (fun w h => List.mem_cons_of_mem _ (i_Md w h)) hown hE.1 hP 0 rfl rfl 43 (by decide) (hts _ (List.mem_cons_of_mem _ iw3_97)) (fun _ h9 => h9) rfl d_Md_lookImport_20 ?_
  refine lv_iconst (v := 1) hx hb d_Md_lookImport_23 (by decide) ?_
  refine lv_iadd hx hb d_Md_lookImport_24 ?_
  rw [nI_1]
  refine va_put (D := D) (ci := 6) (v := .int (nI (a2 + 1))) (ty := .int) (C := R_Md) (T := F_Md) (N := 44) hx hb hts (fun w h => List.mem_cons_of_mem _ (i_Md w h)) t_Md tk_Md n_Md hown hE.1 hP hD hS 0 rfl rfl 43 (by decide) (hts _ (List.mem_cons_of_mem _ iw3_97)) (fun _ h9 => h9) rfl (by decide +kernel) rfl rfl (Nat.le_of_ble_eq_true rfl) d_Md_lookImport_25 (fun H locs hP hD hS => ?_)
  have hP : va_P D cls [(m0, .inr (6, mF g (K.1, K.2.1, K.2.2.1, K.2.2.2.1, K.2.2.2.2.1, K.2.2.2.2.2.1, K.2.2.2.2.2.2.1, K.2.2.2.2.2.2.2.1, nI (a2 + 1)) A0 e np B)), ((g 30), .inl (cA 3, 2000, .inl yb))] H := hP
  have hD : va_D A [(m0, .inr (6, mF g (K.1, K.2.1, K.2.2.1, K.2.2.2.1, K.2.2.2.2.1, K.2.2.2.2.2.1, K.2.2.2.2.2.2.1, K.2.2.2.2.2.2.2.1, nI (a2 + 1)) A0 e np B)), ((g 30), .inl (cA 3, 2000, .inl yb))] := hD
  rcases (show gg = 0 ∨ gg = 1 ∨ gg = 2 ∨ gg = 3 by omega) with rfl | rfl | rfl | rfl
  · obtain ⟨v, a4, hv, rfl⟩ := hz0 hgg
    have hl : lv_has ls 5 [(3, .int 0), (0, .ref m0), (1, .int t), (2, .int (nI wh))] := hl
    rcases (show wh = 0 ∨ wh = 1 ∨ wh = 2 ∨ wh = 3 ∨ wh = 4 ∨ wh = 5 ∨ wh = 6 ∨ wh = 7 ∨ 8 ≤ wh by omega) with rfl | rfl | rfl | rfl | rfl | rfl | rfl | rfl | hw8
    · have hl : lv_has ls 5 [(3, .int 0), (0, .ref m0), (1, .int t), (2, .int 0)] := hl
      refine lv_iload_n hx hb d_Md_lookImport_28 rfl (lv_at hl 3 rfl) ?_
      refine lv_if_ne (tgt := 35) hx hb d_Md_lookImport_29 (by decide) (fun c_29 => absurd (by decide) c_29) (fun c_29 => ?_)
      refine lv_iload_n hx hb d_Md_lookImport_32 rfl (lv_at hl 0 rfl) ?_
      refine lv_i2l hx hb d_Md_lookImport_33 rfl ?_
      rw [show (0 : Int32).toInt64 = lN 0 from by decide +kernel]
      exact cRl (nI (a2 + 1)) hx hb hr hlocks d_Md_lookImport_34 hS hP hD (rfl) (Nat.le_refl _) (Nat.le_refl _)
    · have hl : lv_has ls 5 [(3, .int 0), (0, .ref m0), (1, .int t), (2, .int 1)] := hl
      refine lv_iload_n hx hb d_Md_lookImport_28 rfl (lv_at hl 3 rfl) ?_
      refine lv_if_ne (tgt := 35) hx hb d_Md_lookImport_29 (by decide) (fun c_29 => ?_) (fun c_29 => absurd c_29 (by decide))
      refine lv_iload_n hx hb d_Md_lookImport_35 rfl (lv_at hl 3 rfl) ?_
      refine lv_iconst (v := 3) hx hb d_Md_lookImport_36 (by decide) ?_
      refine lv_icmp_le (tgt := 44) hx hb d_Md_lookImport_37 (by decide) (fun c_37 => ?_) (fun c_37 => absurd (by decide) c_37)
      refine lv_iload_n hx hb d_Md_lookImport_44 rfl (lv_at hl 0 rfl) ?_
      refine lv_if_ne (tgt := 73) hx hb d_Md_lookImport_45 (by decide) (fun c_45 => absurd (by decide) c_45) (fun c_45 => ?_)
      refine lv_iload_n hx hb d_Md_lookImport_48 rfl (lv_at hl 3 rfl) ?_
      refine lv_iconst (v := 1) hx hb d_Md_lookImport_49 (by decide) ?_
      refine lv_icmp_ne (tgt := 60) hx hb d_Md_lookImport_50 (by decide) (fun c_50 => absurd (by decide) c_50) (fun c_50 => ?_)
      refine lv_aload_n hx hb d_Md_lookImport_53 rfl (lv_at hl 1 rfl) ?_
      refine cV (As := []) (rest := []) (n := 0) (wc := [(m0, .inr (6, mF g (K.1, K.2.1, K.2.2.1, K.2.2.2.1, K.2.2.2.2.1, K.2.2.2.2.2.1, K.2.2.2.2.2.2.1, K.2.2.2.2.2.2.2.1, nI (a2 + 1)) A0 e np B)), ((g 30), .inl (cA 3, 2000, .inl yb))]) (wr := []) ⟨hx, hb, hml, hown, hts⟩ hno hlocks hl.1 (c_Md_number l hl9 D cA ad H.size m0 g (K.1, K.2.1, K.2.2.1, K.2.2.2.1, K.2.2.2.2.1, K.2.2.2.2.2.1, K.2.2.2.2.2.2.1, K.2.2.2.2.2.2.2.1, nI (a2 + 1)) A0 e np B yb b lm hlm hyb hb9 (a2 + 1) v a4 (by omega) hv) iw4_132 iw4_134 sel_Md_number iw1_7 iw4_135 (by decide +kernel) rfl ⟨Nat.le_of_ble_eq_true rfl, Nat.le_of_ble_eq_true rfl⟩ ⟨Nat.le_of_ble_eq_true rfl, Nat.le_of_ble_eq_true rfl⟩ rfl (Nat.le_of_ble_eq_true rfl) d_Md_lookImport_54 hE hP hD hS hA [0, 1] [] rfl rfl rfl rfl (by decide) (ci := 6) rfl rfl 0 rfl (fun _ h => h.elim) (fun v_54 u_54 H locs hp_54 hP hD hS => ?_)
      obtain rfl := hp_54
      have hP : va_P D cls [(m0, .inr (6, mF g (K.1, K.2.1, K.2.2.1, K.2.2.2.1, K.2.2.2.2.1, K.2.2.2.2.2.1, K.2.2.2.2.2.2.1, K.2.2.2.2.2.2.2.1, nI a4) A0 e np B)), ((g 30), .inl (cA 3, 2000, .inl yb))] H := hP
      have hD : va_D A [(m0, .inr (6, mF g (K.1, K.2.1, K.2.2.1, K.2.2.2.1, K.2.2.2.2.1, K.2.2.2.2.2.1, K.2.2.2.2.2.2.1, K.2.2.2.2.2.2.2.1, nI a4) A0 e np B)), ((g 30), .inl (cA 3, 2000, .inl yb))] := hD
      refine W.cs (cells' := 0) (slots' := 0) rfl rfl ?_
      refine W.eq (g2 := F0 m 57 ls [.long (lN v)]) rfl ?_
      refine lv_goto (tgt := 72) hx hb d_Md_lookImport_57 (by decide) ?_
      exact cRl (nI a4) hx hb hr hlocks d_Md_lookImport_72 hS hP hD (rfl) (Nat.le_refl _) (Nat.le_refl _)
    · have hl : lv_has ls 5 [(3, .int 0), (0, .ref m0), (1, .int t), (2, .int 2)] := hl
      refine lv_iload_n hx hb d_Md_lookImport_28 rfl (lv_at hl 3 rfl) ?_
      refine lv_if_ne (tgt := 35) hx hb d_Md_lookImport_29 (by decide) (fun c_29 => ?_) (fun c_29 => absurd c_29 (by decide))
      refine lv_iload_n hx hb d_Md_lookImport_35 rfl (lv_at hl 3 rfl) ?_
      refine lv_iconst (v := 3) hx hb d_Md_lookImport_36 (by decide) ?_
      refine lv_icmp_le (tgt := 44) hx hb d_Md_lookImport_37 (by decide) (fun c_37 => ?_) (fun c_37 => absurd (by decide) c_37)
      refine lv_iload_n hx hb d_Md_lookImport_44 rfl (lv_at hl 0 rfl) ?_
      refine lv_if_ne (tgt := 73) hx hb d_Md_lookImport_45 (by decide) (fun c_45 => absurd (by decide) c_45) (fun c_45 => ?_)
      refine lv_iload_n hx hb d_Md_lookImport_48 rfl (lv_at hl 3 rfl) ?_
      refine lv_iconst (v := 1) hx hb d_Md_lookImport_49 (by decide) ?_
      refine lv_icmp_ne (tgt := 60) hx hb d_Md_lookImport_50 (by decide) (fun c_50 => ?_) (fun c_50 => absurd c_50 (by decide))
      refine lv_iload_n hx hb d_Md_lookImport_60 rfl (lv_at hl 3 rfl) ?_
      refine lv_iconst (v := 2) hx hb d_Md_lookImport_61 (by decide) ?_
      refine lv_icmp_ne (tgt := 69) hx hb d_Md_lookImport_62 (by decide) (fun c_62 => absurd (by decide) c_62) (fun c_62 => ?_)
      refine lv_lconst (v := 0) hx hb d_Md_lookImport_65 (by decide) ?_
      refine lv_goto (tgt := 72) hx hb d_Md_lookImport_66 (by decide) ?_
      exact cRl (nI (a2 + 1)) hx hb hr hlocks d_Md_lookImport_72 hS hP hD (rfl) (Nat.le_refl _) (Nat.le_refl _)
    · have hl : lv_has ls 5 [(3, .int 0), (0, .ref m0), (1, .int t), (2, .int 3)] := hl
      refine lv_iload_n hx hb d_Md_lookImport_28 rfl (lv_at hl 3 rfl) ?_
      refine lv_if_ne (tgt := 35) hx hb d_Md_lookImport_29 (by decide) (fun c_29 => ?_) (fun c_29 => absurd c_29 (by decide))
      refine lv_iload_n hx hb d_Md_lookImport_35 rfl (lv_at hl 3 rfl) ?_
      refine lv_iconst (v := 3) hx hb d_Md_lookImport_36 (by decide) ?_
      refine lv_icmp_le (tgt := 44) hx hb d_Md_lookImport_37 (by decide) (fun c_37 => ?_) (fun c_37 => absurd (by decide) c_37)
      refine lv_iload_n hx hb d_Md_lookImport_44 rfl (lv_at hl 0 rfl) ?_
      refine lv_if_ne (tgt := 73) hx hb d_Md_lookImport_45 (by decide) (fun c_45 => absurd (by decide) c_45) (fun c_45 => ?_)
      refine lv_iload_n hx hb d_Md_lookImport_48 rfl (lv_at hl 3 rfl) ?_
      refine lv_iconst (v := 1) hx hb d_Md_lookImport_49 (by decide) ?_
      refine lv_icmp_ne (tgt := 60) hx hb d_Md_lookImport_50 (by decide) (fun c_50 => ?_) (fun c_50 => absurd c_50 (by decide))
      refine lv_iload_n hx hb d_Md_lookImport_60 rfl (lv_at hl 3 rfl) ?_
      refine lv_iconst (v := 2) hx hb d_Md_lookImport_61 (by decide) ?_
      refine lv_icmp_ne (tgt := 69) hx hb d_Md_lookImport_62 (by decide) (fun c_62 => ?_) (fun c_62 => absurd c_62 (by decide))
      refine lv_ldc2 hx hb hown (hts _ (List.mem_cons_of_mem _ iw3_204)) d_Md_lookImport_69 ?_
      exact cRl (nI (a2 + 1)) hx hb hr hlocks d_Md_lookImport_72 hS hP hD (rfl) (Nat.le_refl _) (Nat.le_refl _)
    · have hl : lv_has ls 5 [(3, .int 0), (0, .ref m0), (1, .int t), (2, .int 4)] := hl
      refine lv_iload_n hx hb d_Md_lookImport_28 rfl (lv_at hl 3 rfl) ?_
      refine lv_if_ne (tgt := 35) hx hb d_Md_lookImport_29 (by decide) (fun c_29 => ?_) (fun c_29 => absurd c_29 (by decide))
      refine lv_iload_n hx hb d_Md_lookImport_35 rfl (lv_at hl 3 rfl) ?_
      refine lv_iconst (v := 3) hx hb d_Md_lookImport_36 (by decide) ?_
      refine lv_icmp_le (tgt := 44) hx hb d_Md_lookImport_37 (by decide) (fun c_37 => absurd c_37 (by decide)) (fun c_37 => ?_)
      refine lv_ldc2 hx hb hown (hts _ (List.mem_cons_of_mem _ iw3_204)) d_Md_lookImport_40 ?_
      exact cRl (nI (a2 + 1)) hx hb hr hlocks d_Md_lookImport_43 hS hP hD (rfl) (Nat.le_refl _) (Nat.le_refl _)
    · have hl : lv_has ls 5 [(3, .int 0), (0, .ref m0), (1, .int t), (2, .int 5)] := hl
      refine lv_iload_n hx hb d_Md_lookImport_28 rfl (lv_at hl 3 rfl) ?_
      refine lv_if_ne (tgt := 35) hx hb d_Md_lookImport_29 (by decide) (fun c_29 => ?_) (fun c_29 => absurd c_29 (by decide))
      refine lv_iload_n hx hb d_Md_lookImport_35 rfl (lv_at hl 3 rfl) ?_
      refine lv_iconst (v := 3) hx hb d_Md_lookImport_36 (by decide) ?_
      refine lv_icmp_le (tgt := 44) hx hb d_Md_lookImport_37 (by decide) (fun c_37 => absurd c_37 (by decide)) (fun c_37 => ?_)
      refine lv_ldc2 hx hb hown (hts _ (List.mem_cons_of_mem _ iw3_204)) d_Md_lookImport_40 ?_
      exact cRl (nI (a2 + 1)) hx hb hr hlocks d_Md_lookImport_43 hS hP hD (rfl) (Nat.le_refl _) (Nat.le_refl _)
    · have hl : lv_has ls 5 [(3, .int 0), (0, .ref m0), (1, .int t), (2, .int 6)] := hl
      refine lv_iload_n hx hb d_Md_lookImport_28 rfl (lv_at hl 3 rfl) ?_
      refine lv_if_ne (tgt := 35) hx hb d_Md_lookImport_29 (by decide) (fun c_29 => ?_) (fun c_29 => absurd c_29 (by decide))
      refine lv_iload_n hx hb d_Md_lookImport_35 rfl (lv_at hl 3 rfl) ?_
      refine lv_iconst (v := 3) hx hb d_Md_lookImport_36 (by decide) ?_
      refine lv_icmp_le (tgt := 44) hx hb d_Md_lookImport_37 (by decide) (fun c_37 => absurd c_37 (by decide)) (fun c_37 => ?_)
      refine lv_ldc2 hx hb hown (hts _ (List.mem_cons_of_mem _ iw3_204)) d_Md_lookImport_40 ?_
      exact cRl (nI (a2 + 1)) hx hb hr hlocks d_Md_lookImport_43 hS hP hD (rfl) (Nat.le_refl _) (Nat.le_refl _)
    · have hl : lv_has ls 5 [(3, .int 0), (0, .ref m0), (1, .int t), (2, .int 7)] := hl
      refine lv_iload_n hx hb d_Md_lookImport_28 rfl (lv_at hl 3 rfl) ?_
      refine lv_if_ne (tgt := 35) hx hb d_Md_lookImport_29 (by decide) (fun c_29 => ?_) (fun c_29 => absurd c_29 (by decide))
      refine lv_iload_n hx hb d_Md_lookImport_35 rfl (lv_at hl 3 rfl) ?_
      refine lv_iconst (v := 3) hx hb d_Md_lookImport_36 (by decide) ?_
      refine lv_icmp_le (tgt := 44) hx hb d_Md_lookImport_37 (by decide) (fun c_37 => absurd c_37 (by decide)) (fun c_37 => ?_)
      refine lv_ldc2 hx hb hown (hts _ (List.mem_cons_of_mem _ iw3_204)) d_Md_lookImport_40 ?_
      exact cRl (nI (a2 + 1)) hx hb hr hlocks d_Md_lookImport_43 hS hP hD (rfl) (Nat.le_refl _) (Nat.le_refl _)
    · have hl := hl
      refine lv_iload_n hx hb d_Md_lookImport_28 rfl (lv_at hl 3 rfl) ?_
      refine lv_if_ne (tgt := 35) hx hb d_Md_lookImport_29 (by decide) (fun c_29 => ?_) (fun c_29 => absurd c_29 (fun q => absurd ((nI_eq (a := wh) (b := 0) (by omega) (by decide)).mp q) (by omega)))
      refine lv_iload_n hx hb d_Md_lookImport_35 rfl (lv_at hl 3 rfl) ?_
      refine lv_iconst (v := 3) hx hb d_Md_lookImport_36 (by decide) ?_
      refine lv_icmp_le (tgt := 44) hx hb d_Md_lookImport_37 (by decide) (fun c_37 => absurd c_37 (nI_ge (a := 3) (b := wh) (by omega) (by omega))) (fun c_37 => ?_)
      refine lv_ldc2 hx hb hown (hts _ (List.mem_cons_of_mem _ iw3_204)) d_Md_lookImport_40 ?_
      exact cRl (nI (a2 + 1)) hx hb hr hlocks d_Md_lookImport_43 hS hP hD (by rw [lkS, if_pos hw8]; rfl) (Nat.le_refl _) (Nat.le_refl _)
  · obtain ⟨ht1, hzl⟩ := pTab_inv2 (hz1 hgg)
    obtain ⟨v, b2, v2, b3, hl1, hl2, hl3, hl4, rfl⟩ := pLim_inv hzl
    obtain ⟨hc2, hc3⟩ := lim2 (cols := vp_updL (vp_updL (up2 (up2 c_1 4 x.1 x.2) 6 y.1 y.2) 0 (lN 1)) 1 (lN (b (a2 + 1)))) (v := v) (v2 := v2) hl2 rfl
    have hl : lv_has ls 5 [(3, .int 1), (0, .ref m0), (1, .int t), (2, .int (nI wh))] := hl
    rcases (show wh = 0 ∨ wh = 1 ∨ wh = 2 ∨ wh = 3 ∨ wh = 4 ∨ wh = 5 ∨ wh = 6 ∨ wh = 7 ∨ 8 ≤ wh by omega) with rfl | rfl | rfl | rfl | rfl | rfl | rfl | rfl | hw8
    · have hl : lv_has ls 5 [(3, .int 1), (0, .ref m0), (1, .int t), (2, .int 0)] := hl
      refine lv_iload_n hx hb d_Md_lookImport_28 rfl (lv_at hl 3 rfl) ?_
      refine lv_if_ne (tgt := 35) hx hb d_Md_lookImport_29 (by decide) (fun c_29 => absurd (by decide) c_29) (fun c_29 => ?_)
      refine lv_iload_n hx hb d_Md_lookImport_32 rfl (lv_at hl 0 rfl) ?_
      refine lv_i2l hx hb d_Md_lookImport_33 rfl ?_
      rw [show (1 : Int32).toInt64 = lN 1 from by decide +kernel]
      exact cRl (nI (a2 + 1)) hx hb hr hlocks d_Md_lookImport_34 hS hP hD (by show some (Value.long _) = some (Value.long ((ite _ _ _ : Nat → Int64) 0)); split <;> rfl) (Nat.le_refl _) (Nat.le_refl _)
    · have hl : lv_has ls 5 [(3, .int 1), (0, .ref m0), (1, .int t), (2, .int 1)] := hl
      refine lv_iload_n hx hb d_Md_lookImport_28 rfl (lv_at hl 3 rfl) ?_
      refine lv_if_ne (tgt := 35) hx hb d_Md_lookImport_29 (by decide) (fun c_29 => ?_) (fun c_29 => absurd c_29 (by decide))
      refine lv_iload_n hx hb d_Md_lookImport_35 rfl (lv_at hl 3 rfl) ?_
      refine lv_iconst (v := 3) hx hb d_Md_lookImport_36 (by decide) ?_
      refine lv_icmp_le (tgt := 44) hx hb d_Md_lookImport_37 (by decide) (fun c_37 => ?_) (fun c_37 => absurd (by decide) c_37)
      refine lv_iload_n hx hb d_Md_lookImport_44 rfl (lv_at hl 0 rfl) ?_
      refine lv_if_ne (tgt := 73) hx hb d_Md_lookImport_45 (by decide) (fun c_45 => ?_) (fun c_45 => absurd c_45 (by decide))
      refine lv_iload_n hx hb d_Md_lookImport_73 rfl (lv_at hl 0 rfl) ?_
      refine lv_iconst (v := 2) hx hb d_Md_lookImport_74 (by decide) ?_
      refine lv_icmp_ne (tgt := 102) hx hb d_Md_lookImport_75 (by decide) (fun c_75 => ?_) (fun c_75 => absurd c_75 (by decide))
      refine lv_aload_n hx hb d_Md_lookImport_102 rfl (lv_at hl 1 rfl) ?_
      refine va_get (D := D) (ci := 6) (v := .ref (g 30)) (C := R_Md) (T := F_Md) (N := 44) hx hb hts (fun w h => List.mem_cons_of_mem _ (i_Md w h)) hown hE.1 hP 0 rfl rfl 30 (by decide) (hts _ (List.mem_cons_of_mem _ iw3_84)) (fun _ h9 => h9) rfl d_Md_lookImport_103 ?_
      refine lv_aload_n hx hb d_Md_lookImport_106 rfl (lv_at hl 1 rfl) ?_
      refine va_get (D := D) (ci := 6) (v := .int (nI (a2 + 1))) (C := R_Md) (T := F_Md) (N := 44) hx hb hts (fun w h => List.mem_cons_of_mem _ (i_Md w h)) hown hE.1 hP 0 rfl rfl 43 (by decide) (hts _ (List.mem_cons_of_mem _ iw3_97)) (fun _ h9 => h9) rfl d_Md_lookImport_107 ?_
      refine va_iald hx hb hE.1 hP 1 3 rfl rfl (vp_in_nI (by omega) (by omega)) d_Md_lookImport_110 ?_
      rw [nI_clamp (n := (a2 + 1)) (by omega), hyb (a2 + 1) (by omega)]
      refine lv_istore (lv' := [(4, .int (nI (b (a2 + 1)))), (3, .int 1), (0, .ref m0), (1, .int t), (2, .int 1)]) hx hb d_Md_lookImport_111 hl (by decide) rfl (fun ls hl => ?_)
      refine lv_aload_n hx hb d_Md_lookImport_113 rfl (lv_at hl 2 rfl) ?_
      refine lv_dup hx hb d_Md_lookImport_114 rfl ?_
      refine va_get (D := D) (ci := 6) (v := .int (nI (a2 + 1))) (C := R_Md) (T := F_Md) (N := 44) hx hb hts (fun w h => List.mem_cons_of_mem _ (i_Md w h)) hown hE.1 hP 0 rfl rfl 43 (by decide) (hts _ (List.mem_cons_of_mem _ iw3_97)) (fun _ h9 => h9) rfl d_Md_lookImport_115 ?_
      refine lv_iconst (v := 1) hx hb d_Md_lookImport_118 (by decide) ?_
      refine lv_iadd hx hb d_Md_lookImport_119 ?_
      rw [nI_1]
      refine va_put (D := D) (ci := 6) (v := .int (nI ((a2 + 1) + 1))) (ty := .int) (C := R_Md) (T := F_Md) (N := 44) hx hb hts (fun w h => List.mem_cons_of_mem _ (i_Md w h)) t_Md tk_Md n_Md hown hE.1 hP hD hS 0 rfl rfl 43 (by decide) (hts _ (List.mem_cons_of_mem _ iw3_97)) (fun _ h9 => h9) rfl (by decide +kernel) rfl rfl (Nat.le_of_ble_eq_true rfl) d_Md_lookImport_120 (fun H locs hP hD hS => ?_)
      have hP : va_P D cls [(m0, .inr (6, mF g (K.1, K.2.1, K.2.2.1, K.2.2.2.1, K.2.2.2.2.1, K.2.2.2.2.2.1, K.2.2.2.2.2.2.1, K.2.2.2.2.2.2.2.1, nI ((a2 + 1) + 1)) A0 e np B)), ((g 30), .inl (cA 3, 2000, .inl yb))] H := hP
      have hD : va_D A [(m0, .inr (6, mF g (K.1, K.2.1, K.2.2.1, K.2.2.2.1, K.2.2.2.2.1, K.2.2.2.2.2.1, K.2.2.2.2.2.2.1, K.2.2.2.2.2.2.2.1, nI ((a2 + 1) + 1)) A0 e np B)), ((g 30), .inl (cA 3, 2000, .inl yb))] := hD
      refine lv_iload_n hx hb d_Md_lookImport_123 rfl (lv_at hl 4 rfl) ?_
      refine lv_iconst (v := 1) hx hb d_Md_lookImport_124 (by decide) ?_
      refine lv_icmp_ne (tgt := 134) hx hb d_Md_lookImport_125 (by decide) (fun c_125 => absurd (by decide) c_125) (fun c_125 => ?_)
      refine lv_iload hx hb d_Md_lookImport_128 (lv_at hl 0 rfl) ?_
      refine lv_i2l hx hb d_Md_lookImport_130 rfl ?_
      rw [nI_l (n := b (a2 + 1)) (by have := hb9 (a2 + 1); omega)]
      refine lv_goto (tgt := 177) hx hb d_Md_lookImport_131 (by decide) ?_
      exact cRl (nI ((a2 + 1) + 1)) hx hb hr hlocks d_Md_lookImport_177 hS hP hD (by show some (Value.long _) = some (Value.long ((ite _ _ _ : Nat → Int64) 1)); split <;> rfl) (Nat.le_refl _) (Nat.le_refl _)
    · have hl : lv_has ls 5 [(3, .int 1), (0, .ref m0), (1, .int t), (2, .int 2)] := hl
      refine lv_iload_n hx hb d_Md_lookImport_28 rfl (lv_at hl 3 rfl) ?_
      refine lv_if_ne (tgt := 35) hx hb d_Md_lookImport_29 (by decide) (fun c_29 => ?_) (fun c_29 => absurd c_29 (by decide))
      refine lv_iload_n hx hb d_Md_lookImport_35 rfl (lv_at hl 3 rfl) ?_
      refine lv_iconst (v := 3) hx hb d_Md_lookImport_36 (by decide) ?_
      refine lv_icmp_le (tgt := 44) hx hb d_Md_lookImport_37 (by decide) (fun c_37 => ?_) (fun c_37 => absurd (by decide) c_37)
      refine lv_iload_n hx hb d_Md_lookImport_44 rfl (lv_at hl 0 rfl) ?_
      refine lv_if_ne (tgt := 73) hx hb d_Md_lookImport_45 (by decide) (fun c_45 => ?_) (fun c_45 => absurd c_45 (by decide))
      refine lv_iload_n hx hb d_Md_lookImport_73 rfl (lv_at hl 0 rfl) ?_
      refine lv_iconst (v := 2) hx hb d_Md_lookImport_74 (by decide) ?_
      refine lv_icmp_ne (tgt := 102) hx hb d_Md_lookImport_75 (by decide) (fun c_75 => ?_) (fun c_75 => absurd c_75 (by decide))
      refine lv_aload_n hx hb d_Md_lookImport_102 rfl (lv_at hl 1 rfl) ?_
      refine va_get (D := D) (ci := 6) (v := .ref (g 30)) (C := R_Md) (T := F_Md) (N := 44) hx hb hts (fun w h => List.mem_cons_of_mem _ (i_Md w h)) hown hE.1 hP 0 rfl rfl 30 (by decide) (hts _ (List.mem_cons_of_mem _ iw3_84)) (fun _ h9 => h9) rfl d_Md_lookImport_103 ?_
      refine lv_aload_n hx hb d_Md_lookImport_106 rfl (lv_at hl 1 rfl) ?_
      refine va_get (D := D) (ci := 6) (v := .int (nI (a2 + 1))) (C := R_Md) (T := F_Md) (N := 44) hx hb hts (fun w h => List.mem_cons_of_mem _ (i_Md w h)) hown hE.1 hP 0 rfl rfl 43 (by decide) (hts _ (List.mem_cons_of_mem _ iw3_97)) (fun _ h9 => h9) rfl d_Md_lookImport_107 ?_
      refine va_iald hx hb hE.1 hP 1 3 rfl rfl (vp_in_nI (by omega) (by omega)) d_Md_lookImport_110 ?_
      rw [nI_clamp (n := (a2 + 1)) (by omega), hyb (a2 + 1) (by omega)]
      refine lv_istore (lv' := [(4, .int (nI (b (a2 + 1)))), (3, .int 1), (0, .ref m0), (1, .int t), (2, .int 2)]) hx hb d_Md_lookImport_111 hl (by decide) rfl (fun ls hl => ?_)
      refine lv_aload_n hx hb d_Md_lookImport_113 rfl (lv_at hl 2 rfl) ?_
      refine lv_dup hx hb d_Md_lookImport_114 rfl ?_
      refine va_get (D := D) (ci := 6) (v := .int (nI (a2 + 1))) (C := R_Md) (T := F_Md) (N := 44) hx hb hts (fun w h => List.mem_cons_of_mem _ (i_Md w h)) hown hE.1 hP 0 rfl rfl 43 (by decide) (hts _ (List.mem_cons_of_mem _ iw3_97)) (fun _ h9 => h9) rfl d_Md_lookImport_115 ?_
      refine lv_iconst (v := 1) hx hb d_Md_lookImport_118 (by decide) ?_
      refine lv_iadd hx hb d_Md_lookImport_119 ?_
      rw [nI_1]
      refine va_put (D := D) (ci := 6) (v := .int (nI ((a2 + 1) + 1))) (ty := .int) (C := R_Md) (T := F_Md) (N := 44) hx hb hts (fun w h => List.mem_cons_of_mem _ (i_Md w h)) t_Md tk_Md n_Md hown hE.1 hP hD hS 0 rfl rfl 43 (by decide) (hts _ (List.mem_cons_of_mem _ iw3_97)) (fun _ h9 => h9) rfl (by decide +kernel) rfl rfl (Nat.le_of_ble_eq_true rfl) d_Md_lookImport_120 (fun H locs hP hD hS => ?_)
      have hP : va_P D cls [(m0, .inr (6, mF g (K.1, K.2.1, K.2.2.1, K.2.2.2.1, K.2.2.2.2.1, K.2.2.2.2.2.1, K.2.2.2.2.2.2.1, K.2.2.2.2.2.2.2.1, nI ((a2 + 1) + 1)) A0 e np B)), ((g 30), .inl (cA 3, 2000, .inl yb))] H := hP
      have hD : va_D A [(m0, .inr (6, mF g (K.1, K.2.1, K.2.2.1, K.2.2.2.1, K.2.2.2.2.1, K.2.2.2.2.2.1, K.2.2.2.2.2.2.1, K.2.2.2.2.2.2.2.1, nI ((a2 + 1) + 1)) A0 e np B)), ((g 30), .inl (cA 3, 2000, .inl yb))] := hD
      refine lv_iload_n hx hb d_Md_lookImport_123 rfl (lv_at hl 4 rfl) ?_
      refine lv_iconst (v := 1) hx hb d_Md_lookImport_124 (by decide) ?_
      refine lv_icmp_ne (tgt := 134) hx hb d_Md_lookImport_125 (by decide) (fun c_125 => ?_) (fun c_125 => absurd c_125 (by decide))
      refine lv_iload_n hx hb d_Md_lookImport_134 rfl (lv_at hl 1 rfl) ?_
      refine lv_iconst (v := 1) hx hb d_Md_lookImport_135 (by decide) ?_
      refine lv_icmp_ne (tgt := 156) hx hb d_Md_lookImport_136 (by decide) (fun c_136 => absurd (by decide) c_136) (fun c_136 => ?_)
      refine lv_aload_n hx hb d_Md_lookImport_139 rfl (lv_at hl 2 rfl) ?_
      refine lv_iload_n hx hb d_Md_lookImport_140 rfl (lv_at hl 4 rfl) ?_
      refine lv_iconst (v := 3) hx hb d_Md_lookImport_141 (by decide) ?_
      refine lv_icmp_ne (tgt := 149) hx hb d_Md_lookImport_142 (by decide) (fun c_142 => ?_) (fun c_142 => absurd c_142 (by decide))
      refine lv_iconst (v := 0) hx hb d_Md_lookImport_149 (by decide) ?_
      refine cV (As := [.int 0]) (rest := []) (n := 1) (wc := [(m0, .inr (6, mF g (K.1, K.2.1, K.2.2.1, K.2.2.2.1, K.2.2.2.2.1, K.2.2.2.2.2.1, K.2.2.2.2.2.2.1, K.2.2.2.2.2.2.2.1, nI ((a2 + 1) + 1)) A0 e np B)), ((g 30), .inl (cA 3, 2000, .inl yb))]) (wr := []) ⟨hx, hb, hml, hown, hts⟩ hno hlocks hl.1 (c_Md_limit_0 l hl9 D cA ad H.size m0 g (K.1, K.2.1, K.2.2.1, K.2.2.2.1, K.2.2.2.2.1, K.2.2.2.2.2.1, K.2.2.2.2.2.2.1, K.2.2.2.2.2.2.2.1, nI ((a2 + 1) + 1)) A0 e np B yb b lm hlm hyb hb9 ((a2 + 1) + 1) v b2 v2 b3 hl1 hl2 hl3 hl4) iw4_148 iw4_150 sel_Md_limit iw1_7 iw4_151 (by decide +kernel) rfl ⟨Nat.le_of_ble_eq_true rfl, Nat.le_of_ble_eq_true rfl⟩ ⟨Nat.le_of_ble_eq_true rfl, Nat.le_of_ble_eq_true rfl⟩ rfl (Nat.le_of_ble_eq_true rfl) d_Md_lookImport_150 hE hP hD hS hA [0, 1] [] rfl rfl rfl rfl (by decide) (ci := 6) rfl rfl 0 rfl (fun _ h => h.elim) (fun v_150 u_150 H locs hp_150 hP hD hS => ?_)
      obtain rfl := hp_150
      obtain ⟨qq235, hqq235⟩ : ∃ z : Int32, z = u_150 := ⟨_, rfl⟩
      rw [← hqq235] at hP hD
      have hP : va_P D cls [(m0, .inr (6, mF g (K.1, K.2.1, K.2.2.1, K.2.2.2.1, K.2.2.2.2.1, K.2.2.2.2.2.1, K.2.2.2.2.2.2.1, K.2.2.2.2.2.2.2.1, qq235) A0 e np B)), ((g 30), .inl (cA 3, 2000, .inl yb))] H := hP
      have hD : va_D A [(m0, .inr (6, mF g (K.1, K.2.1, K.2.2.1, K.2.2.2.1, K.2.2.2.2.1, K.2.2.2.2.2.1, K.2.2.2.2.2.2.1, K.2.2.2.2.2.2.2.1, qq235) A0 e np B)), ((g 30), .inl (cA 3, 2000, .inl yb))] := hD
      refine W.cs (cells' := 0) (slots' := 0) rfl rfl ?_
      refine W.eq (g2 := F0 m 153 ls [.long (limV (b ((a2 + 1) + 1)) v v2 false)]) rfl ?_
      refine lv_goto (tgt := 177) hx hb d_Md_lookImport_153 (by decide) ?_
      exact cRl (qq235) hx hb hr hlocks d_Md_lookImport_177 hS hP hD (congrArg (fun z : Int64 => some (Value.long z)) hc2.symm) (Nat.le_refl _) (Nat.le_refl _)
    · have hl : lv_has ls 5 [(3, .int 1), (0, .ref m0), (1, .int t), (2, .int 3)] := hl
      refine lv_iload_n hx hb d_Md_lookImport_28 rfl (lv_at hl 3 rfl) ?_
      refine lv_if_ne (tgt := 35) hx hb d_Md_lookImport_29 (by decide) (fun c_29 => ?_) (fun c_29 => absurd c_29 (by decide))
      refine lv_iload_n hx hb d_Md_lookImport_35 rfl (lv_at hl 3 rfl) ?_
      refine lv_iconst (v := 3) hx hb d_Md_lookImport_36 (by decide) ?_
      refine lv_icmp_le (tgt := 44) hx hb d_Md_lookImport_37 (by decide) (fun c_37 => ?_) (fun c_37 => absurd (by decide) c_37)
      refine lv_iload_n hx hb d_Md_lookImport_44 rfl (lv_at hl 0 rfl) ?_
      refine lv_if_ne (tgt := 73) hx hb d_Md_lookImport_45 (by decide) (fun c_45 => ?_) (fun c_45 => absurd c_45 (by decide))
      refine lv_iload_n hx hb d_Md_lookImport_73 rfl (lv_at hl 0 rfl) ?_
      refine lv_iconst (v := 2) hx hb d_Md_lookImport_74 (by decide) ?_
      refine lv_icmp_ne (tgt := 102) hx hb d_Md_lookImport_75 (by decide) (fun c_75 => ?_) (fun c_75 => absurd c_75 (by decide))
      refine lv_aload_n hx hb d_Md_lookImport_102 rfl (lv_at hl 1 rfl) ?_
      refine va_get (D := D) (ci := 6) (v := .ref (g 30)) (C := R_Md) (T := F_Md) (N := 44) hx hb hts (fun w h => List.mem_cons_of_mem _ (i_Md w h)) hown hE.1 hP 0 rfl rfl 30 (by decide) (hts _ (List.mem_cons_of_mem _ iw3_84)) (fun _ h9 => h9) rfl d_Md_lookImport_103 ?_
      refine lv_aload_n hx hb d_Md_lookImport_106 rfl (lv_at hl 1 rfl) ?_
      refine va_get (D := D) (ci := 6) (v := .int (nI (a2 + 1))) (C := R_Md) (T := F_Md) (N := 44) hx hb hts (fun w h => List.mem_cons_of_mem _ (i_Md w h)) hown hE.1 hP 0 rfl rfl 43 (by decide) (hts _ (List.mem_cons_of_mem _ iw3_97)) (fun _ h9 => h9) rfl d_Md_lookImport_107 ?_
      refine va_iald hx hb hE.1 hP 1 3 rfl rfl (vp_in_nI (by omega) (by omega)) d_Md_lookImport_110 ?_
      rw [nI_clamp (n := (a2 + 1)) (by omega), hyb (a2 + 1) (by omega)]
      refine lv_istore (lv' := [(4, .int (nI (b (a2 + 1)))), (3, .int 1), (0, .ref m0), (1, .int t), (2, .int 3)]) hx hb d_Md_lookImport_111 hl (by decide) rfl (fun ls hl => ?_)
      refine lv_aload_n hx hb d_Md_lookImport_113 rfl (lv_at hl 2 rfl) ?_
      refine lv_dup hx hb d_Md_lookImport_114 rfl ?_
      refine va_get (D := D) (ci := 6) (v := .int (nI (a2 + 1))) (C := R_Md) (T := F_Md) (N := 44) hx hb hts (fun w h => List.mem_cons_of_mem _ (i_Md w h)) hown hE.1 hP 0 rfl rfl 43 (by decide) (hts _ (List.mem_cons_of_mem _ iw3_97)) (fun _ h9 => h9) rfl d_Md_lookImport_115 ?_
      refine lv_iconst (v := 1) hx hb d_Md_lookImport_118 (by decide) ?_
      refine lv_iadd hx hb d_Md_lookImport_119 ?_
      rw [nI_1]
      refine va_put (D := D) (ci := 6) (v := .int (nI ((a2 + 1) + 1))) (ty := .int) (C := R_Md) (T := F_Md) (N := 44) hx hb hts (fun w h => List.mem_cons_of_mem _ (i_Md w h)) t_Md tk_Md n_Md hown hE.1 hP hD hS 0 rfl rfl 43 (by decide) (hts _ (List.mem_cons_of_mem _ iw3_97)) (fun _ h9 => h9) rfl (by decide +kernel) rfl rfl (Nat.le_of_ble_eq_true rfl) d_Md_lookImport_120 (fun H locs hP hD hS => ?_)
      have hP : va_P D cls [(m0, .inr (6, mF g (K.1, K.2.1, K.2.2.1, K.2.2.2.1, K.2.2.2.2.1, K.2.2.2.2.2.1, K.2.2.2.2.2.2.1, K.2.2.2.2.2.2.2.1, nI ((a2 + 1) + 1)) A0 e np B)), ((g 30), .inl (cA 3, 2000, .inl yb))] H := hP
      have hD : va_D A [(m0, .inr (6, mF g (K.1, K.2.1, K.2.2.1, K.2.2.2.1, K.2.2.2.2.1, K.2.2.2.2.2.1, K.2.2.2.2.2.2.1, K.2.2.2.2.2.2.2.1, nI ((a2 + 1) + 1)) A0 e np B)), ((g 30), .inl (cA 3, 2000, .inl yb))] := hD
      refine lv_iload_n hx hb d_Md_lookImport_123 rfl (lv_at hl 4 rfl) ?_
      refine lv_iconst (v := 1) hx hb d_Md_lookImport_124 (by decide) ?_
      refine lv_icmp_ne (tgt := 134) hx hb d_Md_lookImport_125 (by decide) (fun c_125 => ?_) (fun c_125 => absurd c_125 (by decide))
      refine lv_iload_n hx hb d_Md_lookImport_134 rfl (lv_at hl 1 rfl) ?_
      refine lv_iconst (v := 1) hx hb d_Md_lookImport_135 (by decide) ?_
      refine lv_icmp_ne (tgt := 156) hx hb d_Md_lookImport_136 (by decide) (fun c_136 => absurd (by decide) c_136) (fun c_136 => ?_)
      refine lv_aload_n hx hb d_Md_lookImport_139 rfl (lv_at hl 2 rfl) ?_
      refine lv_iload_n hx hb d_Md_lookImport_140 rfl (lv_at hl 4 rfl) ?_
      refine lv_iconst (v := 3) hx hb d_Md_lookImport_141 (by decide) ?_
      refine lv_icmp_ne (tgt := 149) hx hb d_Md_lookImport_142 (by decide) (fun c_142 => absurd (by decide) c_142) (fun c_142 => ?_)
      refine lv_iconst (v := 1) hx hb d_Md_lookImport_145 (by decide) ?_
      refine lv_goto (tgt := 150) hx hb d_Md_lookImport_146 (by decide) ?_
      refine cV (As := [.int 1]) (rest := []) (n := 1) (wc := [(m0, .inr (6, mF g (K.1, K.2.1, K.2.2.1, K.2.2.2.1, K.2.2.2.2.1, K.2.2.2.2.2.1, K.2.2.2.2.2.2.1, K.2.2.2.2.2.2.2.1, nI ((a2 + 1) + 1)) A0 e np B)), ((g 30), .inl (cA 3, 2000, .inl yb))]) (wr := []) ⟨hx, hb, hml, hown, hts⟩ hno hlocks hl.1 (c_Md_limit_1 l hl9 D cA ad H.size m0 g (K.1, K.2.1, K.2.2.1, K.2.2.2.1, K.2.2.2.2.1, K.2.2.2.2.2.1, K.2.2.2.2.2.2.1, K.2.2.2.2.2.2.2.1, nI ((a2 + 1) + 1)) A0 e np B yb b lm hlm hyb hb9 ((a2 + 1) + 1) v b2 v2 b3 hl1 hl2 hl3 hl4) iw4_148 iw4_150 sel_Md_limit iw1_7 iw4_151 (by decide +kernel) rfl ⟨Nat.le_of_ble_eq_true rfl, Nat.le_of_ble_eq_true rfl⟩ ⟨Nat.le_of_ble_eq_true rfl, Nat.le_of_ble_eq_true rfl⟩ rfl (Nat.le_of_ble_eq_true rfl) d_Md_lookImport_150 hE hP hD hS hA [0, 1] [] rfl rfl rfl rfl (by decide) (ci := 6) rfl rfl 0 rfl (fun _ h => h.elim) (fun v_150 u_150 H locs hp_150 hP hD hS => ?_)
      obtain rfl := hp_150
      obtain ⟨qq236, hqq236⟩ : ∃ z : Int32, z = u_150 := ⟨_, rfl⟩
      rw [← hqq236] at hP hD
      have hP : va_P D cls [(m0, .inr (6, mF g (K.1, K.2.1, K.2.2.1, K.2.2.2.1, K.2.2.2.2.1, K.2.2.2.2.2.1, K.2.2.2.2.2.2.1, K.2.2.2.2.2.2.2.1, qq236) A0 e np B)), ((g 30), .inl (cA 3, 2000, .inl yb))] H := hP
      have hD : va_D A [(m0, .inr (6, mF g (K.1, K.2.1, K.2.2.1, K.2.2.2.1, K.2.2.2.2.1, K.2.2.2.2.2.1, K.2.2.2.2.2.2.1, K.2.2.2.2.2.2.2.1, qq236) A0 e np B)), ((g 30), .inl (cA 3, 2000, .inl yb))] := hD
      refine W.cs (cells' := 0) (slots' := 0) rfl rfl ?_
      refine W.eq (g2 := F0 m 153 ls [.long (limV (b ((a2 + 1) + 1)) v v2 true)]) rfl ?_
      refine lv_goto (tgt := 177) hx hb d_Md_lookImport_153 (by decide) ?_
      exact cRl (qq236) hx hb hr hlocks d_Md_lookImport_177 hS hP hD (congrArg (fun z : Int64 => some (Value.long z)) hc3.symm) (Nat.le_refl _) (Nat.le_refl _)
    · have hl : lv_has ls 5 [(3, .int 1), (0, .ref m0), (1, .int t), (2, .int 4)] := hl
      refine lv_iload_n hx hb d_Md_lookImport_28 rfl (lv_at hl 3 rfl) ?_
      refine lv_if_ne (tgt := 35) hx hb d_Md_lookImport_29 (by decide) (fun c_29 => ?_) (fun c_29 => absurd c_29 (by decide))
      refine lv_iload_n hx hb d_Md_lookImport_35 rfl (lv_at hl 3 rfl) ?_
      refine lv_iconst (v := 3) hx hb d_Md_lookImport_36 (by decide) ?_
      refine lv_icmp_le (tgt := 44) hx hb d_Md_lookImport_37 (by decide) (fun c_37 => absurd c_37 (by decide)) (fun c_37 => ?_)
      refine lv_ldc2 hx hb hown (hts _ (List.mem_cons_of_mem _ iw3_204)) d_Md_lookImport_40 ?_
      exact cRl (nI (a2 + 1)) hx hb hr hlocks d_Md_lookImport_43 hS hP hD (rfl) (Nat.le_refl _) (Nat.le_refl _)
    · have hl : lv_has ls 5 [(3, .int 1), (0, .ref m0), (1, .int t), (2, .int 5)] := hl
      refine lv_iload_n hx hb d_Md_lookImport_28 rfl (lv_at hl 3 rfl) ?_
      refine lv_if_ne (tgt := 35) hx hb d_Md_lookImport_29 (by decide) (fun c_29 => ?_) (fun c_29 => absurd c_29 (by decide))
      refine lv_iload_n hx hb d_Md_lookImport_35 rfl (lv_at hl 3 rfl) ?_
      refine lv_iconst (v := 3) hx hb d_Md_lookImport_36 (by decide) ?_
      refine lv_icmp_le (tgt := 44) hx hb d_Md_lookImport_37 (by decide) (fun c_37 => absurd c_37 (by decide)) (fun c_37 => ?_)
      refine lv_ldc2 hx hb hown (hts _ (List.mem_cons_of_mem _ iw3_204)) d_Md_lookImport_40 ?_
      exact cRl (nI (a2 + 1)) hx hb hr hlocks d_Md_lookImport_43 hS hP hD (rfl) (Nat.le_refl _) (Nat.le_refl _)
    · have hl : lv_has ls 5 [(3, .int 1), (0, .ref m0), (1, .int t), (2, .int 6)] := hl
      refine lv_iload_n hx hb d_Md_lookImport_28 rfl (lv_at hl 3 rfl) ?_
      refine lv_if_ne (tgt := 35) hx hb d_Md_lookImport_29 (by decide) (fun c_29 => ?_) (fun c_29 => absurd c_29 (by decide))
      refine lv_iload_n hx hb d_Md_lookImport_35 rfl (lv_at hl 3 rfl) ?_
      refine lv_iconst (v := 3) hx hb d_Md_lookImport_36 (by decide) ?_
      refine lv_icmp_le (tgt := 44) hx hb d_Md_lookImport_37 (by decide) (fun c_37 => absurd c_37 (by decide)) (fun c_37 => ?_)
      refine lv_ldc2 hx hb hown (hts _ (List.mem_cons_of_mem _ iw3_204)) d_Md_lookImport_40 ?_
      exact cRl (nI (a2 + 1)) hx hb hr hlocks d_Md_lookImport_43 hS hP hD (rfl) (Nat.le_refl _) (Nat.le_refl _)
    · have hl : lv_has ls 5 [(3, .int 1), (0, .ref m0), (1, .int t), (2, .int 7)] := hl
      refine lv_iload_n hx hb d_Md_lookImport_28 rfl (lv_at hl 3 rfl) ?_
      refine lv_if_ne (tgt := 35) hx hb d_Md_lookImport_29 (by decide) (fun c_29 => ?_) (fun c_29 => absurd c_29 (by decide))
      refine lv_iload_n hx hb d_Md_lookImport_35 rfl (lv_at hl 3 rfl) ?_
      refine lv_iconst (v := 3) hx hb d_Md_lookImport_36 (by decide) ?_
      refine lv_icmp_le (tgt := 44) hx hb d_Md_lookImport_37 (by decide) (fun c_37 => absurd c_37 (by decide)) (fun c_37 => ?_)
      refine lv_ldc2 hx hb hown (hts _ (List.mem_cons_of_mem _ iw3_204)) d_Md_lookImport_40 ?_
      exact cRl (nI (a2 + 1)) hx hb hr hlocks d_Md_lookImport_43 hS hP hD (rfl) (Nat.le_refl _) (Nat.le_refl _)
    · have hl := hl
      refine lv_iload_n hx hb d_Md_lookImport_28 rfl (lv_at hl 3 rfl) ?_
      refine lv_if_ne (tgt := 35) hx hb d_Md_lookImport_29 (by decide) (fun c_29 => ?_) (fun c_29 => absurd c_29 (fun q => absurd ((nI_eq (a := wh) (b := 0) (by omega) (by decide)).mp q) (by omega)))
      refine lv_iload_n hx hb d_Md_lookImport_35 rfl (lv_at hl 3 rfl) ?_
      refine lv_iconst (v := 3) hx hb d_Md_lookImport_36 (by decide) ?_
      refine lv_icmp_le (tgt := 44) hx hb d_Md_lookImport_37 (by decide) (fun c_37 => absurd c_37 (nI_ge (a := 3) (b := wh) (by omega) (by omega))) (fun c_37 => ?_)
      refine lv_ldc2 hx hb hown (hts _ (List.mem_cons_of_mem _ iw3_204)) d_Md_lookImport_40 ?_
      exact cRl (nI (a2 + 1)) hx hb hr hlocks d_Md_lookImport_43 hS hP hD (by rw [lkS, if_pos hw8]; rfl) (Nat.le_refl _) (Nat.le_refl _)
  · obtain ⟨v, b2, v2, b3, hl1, hl2, hl3, hl4, rfl⟩ := pLim_inv (hz2 hgg)
    obtain ⟨hc2, hc3⟩ := lim2 (cols := vp_updL (vp_updL (up2 (up2 c_1 4 x.1 x.2) 6 y.1 y.2) 0 (lN 2)) 1 0) (v := v) (v2 := v2) hl2 rfl
    have hl : lv_has ls 5 [(3, .int 2), (0, .ref m0), (1, .int t), (2, .int (nI wh))] := hl
    rcases (show wh = 0 ∨ wh = 1 ∨ wh = 2 ∨ wh = 3 ∨ wh = 4 ∨ wh = 5 ∨ wh = 6 ∨ wh = 7 ∨ 8 ≤ wh by omega) with rfl | rfl | rfl | rfl | rfl | rfl | rfl | rfl | hw8
    · have hl : lv_has ls 5 [(3, .int 2), (0, .ref m0), (1, .int t), (2, .int 0)] := hl
      refine lv_iload_n hx hb d_Md_lookImport_28 rfl (lv_at hl 3 rfl) ?_
      refine lv_if_ne (tgt := 35) hx hb d_Md_lookImport_29 (by decide) (fun c_29 => absurd (by decide) c_29) (fun c_29 => ?_)
      refine lv_iload_n hx hb d_Md_lookImport_32 rfl (lv_at hl 0 rfl) ?_
      refine lv_i2l hx hb d_Md_lookImport_33 rfl ?_
      rw [show (2 : Int32).toInt64 = lN 2 from by decide +kernel]
      exact cRl (nI (a2 + 1)) hx hb hr hlocks d_Md_lookImport_34 hS hP hD (by show some (Value.long _) = some (Value.long ((ite _ _ _ : Nat → Int64) 0)); split <;> rfl) (Nat.le_refl _) (Nat.le_refl _)
    · have hl : lv_has ls 5 [(3, .int 2), (0, .ref m0), (1, .int t), (2, .int 1)] := hl
      refine lv_iload_n hx hb d_Md_lookImport_28 rfl (lv_at hl 3 rfl) ?_
      refine lv_if_ne (tgt := 35) hx hb d_Md_lookImport_29 (by decide) (fun c_29 => ?_) (fun c_29 => absurd c_29 (by decide))
      refine lv_iload_n hx hb d_Md_lookImport_35 rfl (lv_at hl 3 rfl) ?_
      refine lv_iconst (v := 3) hx hb d_Md_lookImport_36 (by decide) ?_
      refine lv_icmp_le (tgt := 44) hx hb d_Md_lookImport_37 (by decide) (fun c_37 => ?_) (fun c_37 => absurd (by decide) c_37)
      refine lv_iload_n hx hb d_Md_lookImport_44 rfl (lv_at hl 0 rfl) ?_
      refine lv_if_ne (tgt := 73) hx hb d_Md_lookImport_45 (by decide) (fun c_45 => ?_) (fun c_45 => absurd c_45 (by decide))
      refine lv_iload_n hx hb d_Md_lookImport_73 rfl (lv_at hl 0 rfl) ?_
      refine lv_iconst (v := 2) hx hb d_Md_lookImport_74 (by decide) ?_
      refine lv_icmp_ne (tgt := 102) hx hb d_Md_lookImport_75 (by decide) (fun c_75 => absurd (by decide) c_75) (fun c_75 => ?_)
      refine lv_iload_n hx hb d_Md_lookImport_78 rfl (lv_at hl 3 rfl) ?_
      refine lv_iconst (v := 1) hx hb d_Md_lookImport_79 (by decide) ?_
      refine lv_icmp_ne (tgt := 87) hx hb d_Md_lookImport_80 (by decide) (fun c_80 => absurd (by decide) c_80) (fun c_80 => ?_)
      refine lv_lconst (v := 0) hx hb d_Md_lookImport_83 (by decide) ?_
      refine lv_goto (tgt := 101) hx hb d_Md_lookImport_84 (by decide) ?_
      exact cRl (nI (a2 + 1)) hx hb hr hlocks d_Md_lookImport_101 hS hP hD (by show some (Value.long _) = some (Value.long ((ite _ _ _ : Nat → Int64) 1)); split <;> rfl) (Nat.le_refl _) (Nat.le_refl _)
    · have hl : lv_has ls 5 [(3, .int 2), (0, .ref m0), (1, .int t), (2, .int 2)] := hl
      refine lv_iload_n hx hb d_Md_lookImport_28 rfl (lv_at hl 3 rfl) ?_
      refine lv_if_ne (tgt := 35) hx hb d_Md_lookImport_29 (by decide) (fun c_29 => ?_) (fun c_29 => absurd c_29 (by decide))
      refine lv_iload_n hx hb d_Md_lookImport_35 rfl (lv_at hl 3 rfl) ?_
      refine lv_iconst (v := 3) hx hb d_Md_lookImport_36 (by decide) ?_
      refine lv_icmp_le (tgt := 44) hx hb d_Md_lookImport_37 (by decide) (fun c_37 => ?_) (fun c_37 => absurd (by decide) c_37)
      refine lv_iload_n hx hb d_Md_lookImport_44 rfl (lv_at hl 0 rfl) ?_
      refine lv_if_ne (tgt := 73) hx hb d_Md_lookImport_45 (by decide) (fun c_45 => ?_) (fun c_45 => absurd c_45 (by decide))
      refine lv_iload_n hx hb d_Md_lookImport_73 rfl (lv_at hl 0 rfl) ?_
      refine lv_iconst (v := 2) hx hb d_Md_lookImport_74 (by decide) ?_
      refine lv_icmp_ne (tgt := 102) hx hb d_Md_lookImport_75 (by decide) (fun c_75 => absurd (by decide) c_75) (fun c_75 => ?_)
      refine lv_iload_n hx hb d_Md_lookImport_78 rfl (lv_at hl 3 rfl) ?_
      refine lv_iconst (v := 1) hx hb d_Md_lookImport_79 (by decide) ?_
      refine lv_icmp_ne (tgt := 87) hx hb d_Md_lookImport_80 (by decide) (fun c_80 => ?_) (fun c_80 => absurd c_80 (by decide))
      refine lv_aload_n hx hb d_Md_lookImport_87 rfl (lv_at hl 1 rfl) ?_
      refine lv_iload_n hx hb d_Md_lookImport_88 rfl (lv_at hl 3 rfl) ?_
      refine lv_iconst (v := 3) hx hb d_Md_lookImport_89 (by decide) ?_
      refine lv_icmp_ne (tgt := 97) hx hb d_Md_lookImport_90 (by decide) (fun c_90 => ?_) (fun c_90 => absurd c_90 (by decide))
      refine lv_iconst (v := 0) hx hb d_Md_lookImport_97 (by decide) ?_
      refine cV (As := [.int 0]) (rest := []) (n := 1) (wc := [(m0, .inr (6, mF g (K.1, K.2.1, K.2.2.1, K.2.2.2.1, K.2.2.2.2.1, K.2.2.2.2.2.1, K.2.2.2.2.2.2.1, K.2.2.2.2.2.2.2.1, nI (a2 + 1)) A0 e np B)), ((g 30), .inl (cA 3, 2000, .inl yb))]) (wr := []) ⟨hx, hb, hml, hown, hts⟩ hno hlocks hl.1 (c_Md_limit_0 l hl9 D cA ad H.size m0 g (K.1, K.2.1, K.2.2.1, K.2.2.2.1, K.2.2.2.2.1, K.2.2.2.2.2.1, K.2.2.2.2.2.2.1, K.2.2.2.2.2.2.2.1, nI (a2 + 1)) A0 e np B yb b lm hlm hyb hb9 (a2 + 1) v b2 v2 b3 hl1 hl2 hl3 hl4) iw4_148 iw4_150 sel_Md_limit iw1_7 iw4_151 (by decide +kernel) rfl ⟨Nat.le_of_ble_eq_true rfl, Nat.le_of_ble_eq_true rfl⟩ ⟨Nat.le_of_ble_eq_true rfl, Nat.le_of_ble_eq_true rfl⟩ rfl (Nat.le_of_ble_eq_true rfl) d_Md_lookImport_98 hE hP hD hS hA [0, 1] [] rfl rfl rfl rfl (by decide) (ci := 6) rfl rfl 0 rfl (fun _ h => h.elim) (fun v_98 u_98 H locs hp_98 hP hD hS => ?_)
      obtain rfl := hp_98
      obtain ⟨qq237, hqq237⟩ : ∃ z : Int32, z = u_98 := ⟨_, rfl⟩
      rw [← hqq237] at hP hD
      have hP : va_P D cls [(m0, .inr (6, mF g (K.1, K.2.1, K.2.2.1, K.2.2.2.1, K.2.2.2.2.1, K.2.2.2.2.2.1, K.2.2.2.2.2.2.1, K.2.2.2.2.2.2.2.1, qq237) A0 e np B)), ((g 30), .inl (cA 3, 2000, .inl yb))] H := hP
      have hD : va_D A [(m0, .inr (6, mF g (K.1, K.2.1, K.2.2.1, K.2.2.2.1, K.2.2.2.2.1, K.2.2.2.2.2.1, K.2.2.2.2.2.2.1, K.2.2.2.2.2.2.2.1, qq237) A0 e np B)), ((g 30), .inl (cA 3, 2000, .inl yb))] := hD
      refine W.cs (cells' := 0) (slots' := 0) rfl rfl ?_
      refine W.eq (g2 := F0 m 101 ls [.long (limV (b (a2 + 1)) v v2 false)]) rfl ?_
      exact cRl (qq237) hx hb hr hlocks d_Md_lookImport_101 hS hP hD (congrArg (fun z : Int64 => some (Value.long z)) hc2.symm) (Nat.le_refl _) (Nat.le_refl _)
    · have hl : lv_has ls 5 [(3, .int 2), (0, .ref m0), (1, .int t), (2, .int 3)] := hl
      refine lv_iload_n hx hb d_Md_lookImport_28 rfl (lv_at hl 3 rfl) ?_
      refine lv_if_ne (tgt := 35) hx hb d_Md_lookImport_29 (by decide) (fun c_29 => ?_) (fun c_29 => absurd c_29 (by decide))
      refine lv_iload_n hx hb d_Md_lookImport_35 rfl (lv_at hl 3 rfl) ?_
      refine lv_iconst (v := 3) hx hb d_Md_lookImport_36 (by decide) ?_
      refine lv_icmp_le (tgt := 44) hx hb d_Md_lookImport_37 (by decide) (fun c_37 => ?_) (fun c_37 => absurd (by decide) c_37)
      refine lv_iload_n hx hb d_Md_lookImport_44 rfl (lv_at hl 0 rfl) ?_
      refine lv_if_ne (tgt := 73) hx hb d_Md_lookImport_45 (by decide) (fun c_45 => ?_) (fun c_45 => absurd c_45 (by decide))
      refine lv_iload_n hx hb d_Md_lookImport_73 rfl (lv_at hl 0 rfl) ?_
      refine lv_iconst (v := 2) hx hb d_Md_lookImport_74 (by decide) ?_
      refine lv_icmp_ne (tgt := 102) hx hb d_Md_lookImport_75 (by decide) (fun c_75 => absurd (by decide) c_75) (fun c_75 => ?_)
      refine lv_iload_n hx hb d_Md_lookImport_78 rfl (lv_at hl 3 rfl) ?_
      refine lv_iconst (v := 1) hx hb d_Md_lookImport_79 (by decide) ?_
      refine lv_icmp_ne (tgt := 87) hx hb d_Md_lookImport_80 (by decide) (fun c_80 => ?_) (fun c_80 => absurd c_80 (by decide))
      refine lv_aload_n hx hb d_Md_lookImport_87 rfl (lv_at hl 1 rfl) ?_
      refine lv_iload_n hx hb d_Md_lookImport_88 rfl (lv_at hl 3 rfl) ?_
      refine lv_iconst (v := 3) hx hb d_Md_lookImport_89 (by decide) ?_
      refine lv_icmp_ne (tgt := 97) hx hb d_Md_lookImport_90 (by decide) (fun c_90 => absurd (by decide) c_90) (fun c_90 => ?_)
      refine lv_iconst (v := 1) hx hb d_Md_lookImport_93 (by decide) ?_
      refine lv_goto (tgt := 98) hx hb d_Md_lookImport_94 (by decide) ?_
      refine cV (As := [.int 1]) (rest := []) (n := 1) (wc := [(m0, .inr (6, mF g (K.1, K.2.1, K.2.2.1, K.2.2.2.1, K.2.2.2.2.1, K.2.2.2.2.2.1, K.2.2.2.2.2.2.1, K.2.2.2.2.2.2.2.1, nI (a2 + 1)) A0 e np B)), ((g 30), .inl (cA 3, 2000, .inl yb))]) (wr := []) ⟨hx, hb, hml, hown, hts⟩ hno hlocks hl.1 (c_Md_limit_1 l hl9 D cA ad H.size m0 g (K.1, K.2.1, K.2.2.1, K.2.2.2.1, K.2.2.2.2.1, K.2.2.2.2.2.1, K.2.2.2.2.2.2.1, K.2.2.2.2.2.2.2.1, nI (a2 + 1)) A0 e np B yb b lm hlm hyb hb9 (a2 + 1) v b2 v2 b3 hl1 hl2 hl3 hl4) iw4_148 iw4_150 sel_Md_limit iw1_7 iw4_151 (by decide +kernel) rfl ⟨Nat.le_of_ble_eq_true rfl, Nat.le_of_ble_eq_true rfl⟩ ⟨Nat.le_of_ble_eq_true rfl, Nat.le_of_ble_eq_true rfl⟩ rfl (Nat.le_of_ble_eq_true rfl) d_Md_lookImport_98 hE hP hD hS hA [0, 1] [] rfl rfl rfl rfl (by decide) (ci := 6) rfl rfl 0 rfl (fun _ h => h.elim) (fun v_98 u_98 H locs hp_98 hP hD hS => ?_)
      obtain rfl := hp_98
      obtain ⟨qq238, hqq238⟩ : ∃ z : Int32, z = u_98 := ⟨_, rfl⟩
      rw [← hqq238] at hP hD
      have hP : va_P D cls [(m0, .inr (6, mF g (K.1, K.2.1, K.2.2.1, K.2.2.2.1, K.2.2.2.2.1, K.2.2.2.2.2.1, K.2.2.2.2.2.2.1, K.2.2.2.2.2.2.2.1, qq238) A0 e np B)), ((g 30), .inl (cA 3, 2000, .inl yb))] H := hP
      have hD : va_D A [(m0, .inr (6, mF g (K.1, K.2.1, K.2.2.1, K.2.2.2.1, K.2.2.2.2.1, K.2.2.2.2.2.1, K.2.2.2.2.2.2.1, K.2.2.2.2.2.2.2.1, qq238) A0 e np B)), ((g 30), .inl (cA 3, 2000, .inl yb))] := hD
      refine W.cs (cells' := 0) (slots' := 0) rfl rfl ?_
      refine W.eq (g2 := F0 m 101 ls [.long (limV (b (a2 + 1)) v v2 true)]) rfl ?_
      exact cRl (qq238) hx hb hr hlocks d_Md_lookImport_101 hS hP hD (congrArg (fun z : Int64 => some (Value.long z)) hc3.symm) (Nat.le_refl _) (Nat.le_refl _)
    · have hl : lv_has ls 5 [(3, .int 2), (0, .ref m0), (1, .int t), (2, .int 4)] := hl
      refine lv_iload_n hx hb d_Md_lookImport_28 rfl (lv_at hl 3 rfl) ?_
      refine lv_if_ne (tgt := 35) hx hb d_Md_lookImport_29 (by decide) (fun c_29 => ?_) (fun c_29 => absurd c_29 (by decide))
      refine lv_iload_n hx hb d_Md_lookImport_35 rfl (lv_at hl 3 rfl) ?_
      refine lv_iconst (v := 3) hx hb d_Md_lookImport_36 (by decide) ?_
      refine lv_icmp_le (tgt := 44) hx hb d_Md_lookImport_37 (by decide) (fun c_37 => absurd c_37 (by decide)) (fun c_37 => ?_)
      refine lv_ldc2 hx hb hown (hts _ (List.mem_cons_of_mem _ iw3_204)) d_Md_lookImport_40 ?_
      exact cRl (nI (a2 + 1)) hx hb hr hlocks d_Md_lookImport_43 hS hP hD (rfl) (Nat.le_refl _) (Nat.le_refl _)
    · have hl : lv_has ls 5 [(3, .int 2), (0, .ref m0), (1, .int t), (2, .int 5)] := hl
      refine lv_iload_n hx hb d_Md_lookImport_28 rfl (lv_at hl 3 rfl) ?_
      refine lv_if_ne (tgt := 35) hx hb d_Md_lookImport_29 (by decide) (fun c_29 => ?_) (fun c_29 => absurd c_29 (by decide))
      refine lv_iload_n hx hb d_Md_lookImport_35 rfl (lv_at hl 3 rfl) ?_
      refine lv_iconst (v := 3) hx hb d_Md_lookImport_36 (by decide) ?_
      refine lv_icmp_le (tgt := 44) hx hb d_Md_lookImport_37 (by decide) (fun c_37 => absurd c_37 (by decide)) (fun c_37 => ?_)
      refine lv_ldc2 hx hb hown (hts _ (List.mem_cons_of_mem _ iw3_204)) d_Md_lookImport_40 ?_
      exact cRl (nI (a2 + 1)) hx hb hr hlocks d_Md_lookImport_43 hS hP hD (rfl) (Nat.le_refl _) (Nat.le_refl _)
    · have hl : lv_has ls 5 [(3, .int 2), (0, .ref m0), (1, .int t), (2, .int 6)] := hl
      refine lv_iload_n hx hb d_Md_lookImport_28 rfl (lv_at hl 3 rfl) ?_
      refine lv_if_ne (tgt := 35) hx hb d_Md_lookImport_29 (by decide) (fun c_29 => ?_) (fun c_29 => absurd c_29 (by decide))
      refine lv_iload_n hx hb d_Md_lookImport_35 rfl (lv_at hl 3 rfl) ?_
      refine lv_iconst (v := 3) hx hb d_Md_lookImport_36 (by decide) ?_
      refine lv_icmp_le (tgt := 44) hx hb d_Md_lookImport_37 (by decide) (fun c_37 => absurd c_37 (by decide)) (fun c_37 => ?_)
      refine lv_ldc2 hx hb hown (hts _ (List.mem_cons_of_mem _ iw3_204)) d_Md_lookImport_40 ?_
      exact cRl (nI (a2 + 1)) hx hb hr hlocks d_Md_lookImport_43 hS hP hD (rfl) (Nat.le_refl _) (Nat.le_refl _)
    · have hl : lv_has ls 5 [(3, .int 2), (0, .ref m0), (1, .int t), (2, .int 7)] := hl
      refine lv_iload_n hx hb d_Md_lookImport_28 rfl (lv_at hl 3 rfl) ?_
      refine lv_if_ne (tgt := 35) hx hb d_Md_lookImport_29 (by decide) (fun c_29 => ?_) (fun c_29 => absurd c_29 (by decide))
      refine lv_iload_n hx hb d_Md_lookImport_35 rfl (lv_at hl 3 rfl) ?_
      refine lv_iconst (v := 3) hx hb d_Md_lookImport_36 (by decide) ?_
      refine lv_icmp_le (tgt := 44) hx hb d_Md_lookImport_37 (by decide) (fun c_37 => absurd c_37 (by decide)) (fun c_37 => ?_)
      refine lv_ldc2 hx hb hown (hts _ (List.mem_cons_of_mem _ iw3_204)) d_Md_lookImport_40 ?_
      exact cRl (nI (a2 + 1)) hx hb hr hlocks d_Md_lookImport_43 hS hP hD (rfl) (Nat.le_refl _) (Nat.le_refl _)
    · have hl := hl
      refine lv_iload_n hx hb d_Md_lookImport_28 rfl (lv_at hl 3 rfl) ?_
      refine lv_if_ne (tgt := 35) hx hb d_Md_lookImport_29 (by decide) (fun c_29 => ?_) (fun c_29 => absurd c_29 (fun q => absurd ((nI_eq (a := wh) (b := 0) (by omega) (by decide)).mp q) (by omega)))
      refine lv_iload_n hx hb d_Md_lookImport_35 rfl (lv_at hl 3 rfl) ?_
      refine lv_iconst (v := 3) hx hb d_Md_lookImport_36 (by decide) ?_
      refine lv_icmp_le (tgt := 44) hx hb d_Md_lookImport_37 (by decide) (fun c_37 => absurd c_37 (nI_ge (a := 3) (b := wh) (by omega) (by omega))) (fun c_37 => ?_)
      refine lv_ldc2 hx hb hown (hts _ (List.mem_cons_of_mem _ iw3_204)) d_Md_lookImport_40 ?_
      exact cRl (nI (a2 + 1)) hx hb hr hlocks d_Md_lookImport_43 hS hP hD (by rw [lkS, if_pos hw8]; rfl) (Nat.le_refl _) (Nat.le_refl _)
  · obtain ⟨hl1, -, rfl⟩ := pGlo_inv (hz3 hgg)
    have hl : lv_has ls 5 [(3, .int 3), (0, .ref m0), (1, .int t), (2, .int (nI wh))] := hl
    rcases (show wh = 0 ∨ wh = 1 ∨ wh = 2 ∨ wh = 3 ∨ wh = 4 ∨ wh = 5 ∨ wh = 6 ∨ wh = 7 ∨ 8 ≤ wh by omega) with rfl | rfl | rfl | rfl | rfl | rfl | rfl | rfl | hw8
    · have hl : lv_has ls 5 [(3, .int 3), (0, .ref m0), (1, .int t), (2, .int 0)] := hl
      refine lv_iload_n hx hb d_Md_lookImport_28 rfl (lv_at hl 3 rfl) ?_
      refine lv_if_ne (tgt := 35) hx hb d_Md_lookImport_29 (by decide) (fun c_29 => absurd (by decide) c_29) (fun c_29 => ?_)
      refine lv_iload_n hx hb d_Md_lookImport_32 rfl (lv_at hl 0 rfl) ?_
      refine lv_i2l hx hb d_Md_lookImport_33 rfl ?_
      rw [show (3 : Int32).toInt64 = lN 3 from by decide +kernel]
      exact cRl (nI (a2 + 1)) hx hb hr hlocks d_Md_lookImport_34 hS hP hD (rfl) (Nat.le_refl _) (Nat.le_refl _)
    · have hl : lv_has ls 5 [(3, .int 3), (0, .ref m0), (1, .int t), (2, .int 1)] := hl
      refine lv_iload_n hx hb d_Md_lookImport_28 rfl (lv_at hl 3 rfl) ?_
      refine lv_if_ne (tgt := 35) hx hb d_Md_lookImport_29 (by decide) (fun c_29 => ?_) (fun c_29 => absurd c_29 (by decide))
      refine lv_iload_n hx hb d_Md_lookImport_35 rfl (lv_at hl 3 rfl) ?_
      refine lv_iconst (v := 3) hx hb d_Md_lookImport_36 (by decide) ?_
      refine lv_icmp_le (tgt := 44) hx hb d_Md_lookImport_37 (by decide) (fun c_37 => ?_) (fun c_37 => absurd (by decide) c_37)
      refine lv_iload_n hx hb d_Md_lookImport_44 rfl (lv_at hl 0 rfl) ?_
      refine lv_if_ne (tgt := 73) hx hb d_Md_lookImport_45 (by decide) (fun c_45 => ?_) (fun c_45 => absurd c_45 (by decide))
      refine lv_iload_n hx hb d_Md_lookImport_73 rfl (lv_at hl 0 rfl) ?_
      refine lv_iconst (v := 2) hx hb d_Md_lookImport_74 (by decide) ?_
      refine lv_icmp_ne (tgt := 102) hx hb d_Md_lookImport_75 (by decide) (fun c_75 => ?_) (fun c_75 => absurd c_75 (by decide))
      refine lv_aload_n hx hb d_Md_lookImport_102 rfl (lv_at hl 1 rfl) ?_
      refine va_get (D := D) (ci := 6) (v := .ref (g 30)) (C := R_Md) (T := F_Md) (N := 44) hx hb hts (fun w h => List.mem_cons_of_mem _ (i_Md w h)) hown hE.1 hP 0 rfl rfl 30 (by decide) (hts _ (List.mem_cons_of_mem _ iw3_84)) (fun _ h9 => h9) rfl d_Md_lookImport_103 ?_
      refine lv_aload_n hx hb d_Md_lookImport_106 rfl (lv_at hl 1 rfl) ?_
      refine va_get (D := D) (ci := 6) (v := .int (nI (a2 + 1))) (C := R_Md) (T := F_Md) (N := 44) hx hb hts (fun w h => List.mem_cons_of_mem _ (i_Md w h)) hown hE.1 hP 0 rfl rfl 43 (by decide) (hts _ (List.mem_cons_of_mem _ iw3_97)) (fun _ h9 => h9) rfl d_Md_lookImport_107 ?_
      refine va_iald hx hb hE.1 hP 1 3 rfl rfl (vp_in_nI (by omega) (by omega)) d_Md_lookImport_110 ?_
      rw [nI_clamp (n := (a2 + 1)) (by omega), hyb (a2 + 1) (by omega)]
      refine lv_istore (lv' := [(4, .int (nI (b (a2 + 1)))), (3, .int 3), (0, .ref m0), (1, .int t), (2, .int 1)]) hx hb d_Md_lookImport_111 hl (by decide) rfl (fun ls hl => ?_)
      refine lv_aload_n hx hb d_Md_lookImport_113 rfl (lv_at hl 2 rfl) ?_
      refine lv_dup hx hb d_Md_lookImport_114 rfl ?_
      refine va_get (D := D) (ci := 6) (v := .int (nI (a2 + 1))) (C := R_Md) (T := F_Md) (N := 44) hx hb hts (fun w h => List.mem_cons_of_mem _ (i_Md w h)) hown hE.1 hP 0 rfl rfl 43 (by decide) (hts _ (List.mem_cons_of_mem _ iw3_97)) (fun _ h9 => h9) rfl d_Md_lookImport_115 ?_
      refine lv_iconst (v := 1) hx hb d_Md_lookImport_118 (by decide) ?_
      refine lv_iadd hx hb d_Md_lookImport_119 ?_
      rw [nI_1]
      refine va_put (D := D) (ci := 6) (v := .int (nI ((a2 + 1) + 1))) (ty := .int) (C := R_Md) (T := F_Md) (N := 44) hx hb hts (fun w h => List.mem_cons_of_mem _ (i_Md w h)) t_Md tk_Md n_Md hown hE.1 hP hD hS 0 rfl rfl 43 (by decide) (hts _ (List.mem_cons_of_mem _ iw3_97)) (fun _ h9 => h9) rfl (by decide +kernel) rfl rfl (Nat.le_of_ble_eq_true rfl) d_Md_lookImport_120 (fun H locs hP hD hS => ?_)
      have hP : va_P D cls [(m0, .inr (6, mF g (K.1, K.2.1, K.2.2.1, K.2.2.2.1, K.2.2.2.2.1, K.2.2.2.2.2.1, K.2.2.2.2.2.2.1, K.2.2.2.2.2.2.2.1, nI ((a2 + 1) + 1)) A0 e np B)), ((g 30), .inl (cA 3, 2000, .inl yb))] H := hP
      have hD : va_D A [(m0, .inr (6, mF g (K.1, K.2.1, K.2.2.1, K.2.2.2.1, K.2.2.2.2.1, K.2.2.2.2.2.1, K.2.2.2.2.2.2.1, K.2.2.2.2.2.2.2.1, nI ((a2 + 1) + 1)) A0 e np B)), ((g 30), .inl (cA 3, 2000, .inl yb))] := hD
      refine lv_iload_n hx hb d_Md_lookImport_123 rfl (lv_at hl 4 rfl) ?_
      refine lv_iconst (v := 1) hx hb d_Md_lookImport_124 (by decide) ?_
      refine lv_icmp_ne (tgt := 134) hx hb d_Md_lookImport_125 (by decide) (fun c_125 => absurd (by decide) c_125) (fun c_125 => ?_)
      refine lv_iload hx hb d_Md_lookImport_128 (lv_at hl 0 rfl) ?_
      refine lv_i2l hx hb d_Md_lookImport_130 rfl ?_
      rw [nI_l (n := b (a2 + 1)) (by have := hb9 (a2 + 1); omega)]
      refine lv_goto (tgt := 177) hx hb d_Md_lookImport_131 (by decide) ?_
      exact cRl (nI ((a2 + 1) + 1)) hx hb hr hlocks d_Md_lookImport_177 hS hP hD (rfl) (Nat.le_refl _) (Nat.le_refl _)
    · have hl : lv_has ls 5 [(3, .int 3), (0, .ref m0), (1, .int t), (2, .int 2)] := hl
      refine lv_iload_n hx hb d_Md_lookImport_28 rfl (lv_at hl 3 rfl) ?_
      refine lv_if_ne (tgt := 35) hx hb d_Md_lookImport_29 (by decide) (fun c_29 => ?_) (fun c_29 => absurd c_29 (by decide))
      refine lv_iload_n hx hb d_Md_lookImport_35 rfl (lv_at hl 3 rfl) ?_
      refine lv_iconst (v := 3) hx hb d_Md_lookImport_36 (by decide) ?_
      refine lv_icmp_le (tgt := 44) hx hb d_Md_lookImport_37 (by decide) (fun c_37 => ?_) (fun c_37 => absurd (by decide) c_37)
      refine lv_iload_n hx hb d_Md_lookImport_44 rfl (lv_at hl 0 rfl) ?_
      refine lv_if_ne (tgt := 73) hx hb d_Md_lookImport_45 (by decide) (fun c_45 => ?_) (fun c_45 => absurd c_45 (by decide))
      refine lv_iload_n hx hb d_Md_lookImport_73 rfl (lv_at hl 0 rfl) ?_
      refine lv_iconst (v := 2) hx hb d_Md_lookImport_74 (by decide) ?_
      refine lv_icmp_ne (tgt := 102) hx hb d_Md_lookImport_75 (by decide) (fun c_75 => ?_) (fun c_75 => absurd c_75 (by decide))
      refine lv_aload_n hx hb d_Md_lookImport_102 rfl (lv_at hl 1 rfl) ?_
      refine va_get (D := D) (ci := 6) (v := .ref (g 30)) (C := R_Md) (T := F_Md) (N := 44) hx hb hts (fun w h => List.mem_cons_of_mem _ (i_Md w h)) hown hE.1 hP 0 rfl rfl 30 (by decide) (hts _ (List.mem_cons_of_mem _ iw3_84)) (fun _ h9 => h9) rfl d_Md_lookImport_103 ?_
      refine lv_aload_n hx hb d_Md_lookImport_106 rfl (lv_at hl 1 rfl) ?_
      refine va_get (D := D) (ci := 6) (v := .int (nI (a2 + 1))) (C := R_Md) (T := F_Md) (N := 44) hx hb hts (fun w h => List.mem_cons_of_mem _ (i_Md w h)) hown hE.1 hP 0 rfl rfl 43 (by decide) (hts _ (List.mem_cons_of_mem _ iw3_97)) (fun _ h9 => h9) rfl d_Md_lookImport_107 ?_
      refine va_iald hx hb hE.1 hP 1 3 rfl rfl (vp_in_nI (by omega) (by omega)) d_Md_lookImport_110 ?_
      rw [nI_clamp (n := (a2 + 1)) (by omega), hyb (a2 + 1) (by omega)]
      refine lv_istore (lv' := [(4, .int (nI (b (a2 + 1)))), (3, .int 3), (0, .ref m0), (1, .int t), (2, .int 2)]) hx hb d_Md_lookImport_111 hl (by decide) rfl (fun ls hl => ?_)
      refine lv_aload_n hx hb d_Md_lookImport_113 rfl (lv_at hl 2 rfl) ?_
      refine lv_dup hx hb d_Md_lookImport_114 rfl ?_
      refine va_get (D := D) (ci := 6) (v := .int (nI (a2 + 1))) (C := R_Md) (T := F_Md) (N := 44) hx hb hts (fun w h => List.mem_cons_of_mem _ (i_Md w h)) hown hE.1 hP 0 rfl rfl 43 (by decide) (hts _ (List.mem_cons_of_mem _ iw3_97)) (fun _ h9 => h9) rfl d_Md_lookImport_115 ?_
      refine lv_iconst (v := 1) hx hb d_Md_lookImport_118 (by decide) ?_
      refine lv_iadd hx hb d_Md_lookImport_119 ?_
      rw [nI_1]
      refine va_put (D := D) (ci := 6) (v := .int (nI ((a2 + 1) + 1))) (ty := .int) (C := R_Md) (T := F_Md) (N := 44) hx hb hts (fun w h => List.mem_cons_of_mem _ (i_Md w h)) t_Md tk_Md n_Md hown hE.1 hP hD hS 0 rfl rfl 43 (by decide) (hts _ (List.mem_cons_of_mem _ iw3_97)) (fun _ h9 => h9) rfl (by decide +kernel) rfl rfl (Nat.le_of_ble_eq_true rfl) d_Md_lookImport_120 (fun H locs hP hD hS => ?_)
      have hP : va_P D cls [(m0, .inr (6, mF g (K.1, K.2.1, K.2.2.1, K.2.2.2.1, K.2.2.2.2.1, K.2.2.2.2.2.1, K.2.2.2.2.2.2.1, K.2.2.2.2.2.2.2.1, nI ((a2 + 1) + 1)) A0 e np B)), ((g 30), .inl (cA 3, 2000, .inl yb))] H := hP
      have hD : va_D A [(m0, .inr (6, mF g (K.1, K.2.1, K.2.2.1, K.2.2.2.1, K.2.2.2.2.1, K.2.2.2.2.2.1, K.2.2.2.2.2.2.1, K.2.2.2.2.2.2.2.1, nI ((a2 + 1) + 1)) A0 e np B)), ((g 30), .inl (cA 3, 2000, .inl yb))] := hD
      refine lv_iload_n hx hb d_Md_lookImport_123 rfl (lv_at hl 4 rfl) ?_
      refine lv_iconst (v := 1) hx hb d_Md_lookImport_124 (by decide) ?_
      refine lv_icmp_ne (tgt := 134) hx hb d_Md_lookImport_125 (by decide) (fun c_125 => ?_) (fun c_125 => absurd c_125 (by decide))
      refine lv_iload_n hx hb d_Md_lookImport_134 rfl (lv_at hl 1 rfl) ?_
      refine lv_iconst (v := 1) hx hb d_Md_lookImport_135 (by decide) ?_
      refine lv_icmp_ne (tgt := 156) hx hb d_Md_lookImport_136 (by decide) (fun c_136 => ?_) (fun c_136 => absurd c_136 (by decide))
      refine lv_iload_n hx hb d_Md_lookImport_156 rfl (lv_at hl 4 rfl) ?_
      refine lv_iconst (v := 2) hx hb d_Md_lookImport_157 (by decide) ?_
      refine lv_icmp_ne (tgt := 174) hx hb d_Md_lookImport_158 (by decide) (fun c_158 => absurd (by decide) c_158) (fun c_158 => ?_)
      refine lv_aload_n hx hb d_Md_lookImport_161 rfl (lv_at hl 2 rfl) ?_
      refine va_get (D := D) (ci := 6) (v := .ref (g 30)) (C := R_Md) (T := F_Md) (N := 44) hx hb hts (fun w h => List.mem_cons_of_mem _ (i_Md w h)) hown hE.1 hP 0 rfl rfl 30 (by decide) (hts _ (List.mem_cons_of_mem _ iw3_84)) (fun _ h9 => h9) rfl d_Md_lookImport_162 ?_
      refine lv_aload_n hx hb d_Md_lookImport_165 rfl (lv_at hl 2 rfl) ?_
      refine va_get (D := D) (ci := 6) (v := .int (nI ((a2 + 1) + 1))) (C := R_Md) (T := F_Md) (N := 44) hx hb hts (fun w h => List.mem_cons_of_mem _ (i_Md w h)) hown hE.1 hP 0 rfl rfl 43 (by decide) (hts _ (List.mem_cons_of_mem _ iw3_97)) (fun _ h9 => h9) rfl d_Md_lookImport_166 ?_
      refine va_iald hx hb hE.1 hP 1 3 rfl rfl (vp_in_nI (by omega) (by omega)) d_Md_lookImport_169 ?_
      rw [nI_clamp (n := ((a2 + 1) + 1)) (by omega), hyb ((a2 + 1) + 1) (by omega)]
      refine lv_i2l hx hb d_Md_lookImport_170 rfl ?_
      rw [nI_l (n := b ((a2 + 1) + 1)) (by have := hb9 ((a2 + 1) + 1); omega)]
      refine lv_goto (tgt := 177) hx hb d_Md_lookImport_171 (by decide) ?_
      exact cRl (nI ((a2 + 1) + 1)) hx hb hr hlocks d_Md_lookImport_177 hS hP hD (rfl) (Nat.le_refl _) (Nat.le_refl _)
    · have hl : lv_has ls 5 [(3, .int 3), (0, .ref m0), (1, .int t), (2, .int 3)] := hl
      refine lv_iload_n hx hb d_Md_lookImport_28 rfl (lv_at hl 3 rfl) ?_
      refine lv_if_ne (tgt := 35) hx hb d_Md_lookImport_29 (by decide) (fun c_29 => ?_) (fun c_29 => absurd c_29 (by decide))
      refine lv_iload_n hx hb d_Md_lookImport_35 rfl (lv_at hl 3 rfl) ?_
      refine lv_iconst (v := 3) hx hb d_Md_lookImport_36 (by decide) ?_
      refine lv_icmp_le (tgt := 44) hx hb d_Md_lookImport_37 (by decide) (fun c_37 => ?_) (fun c_37 => absurd (by decide) c_37)
      refine lv_iload_n hx hb d_Md_lookImport_44 rfl (lv_at hl 0 rfl) ?_
      refine lv_if_ne (tgt := 73) hx hb d_Md_lookImport_45 (by decide) (fun c_45 => ?_) (fun c_45 => absurd c_45 (by decide))
      refine lv_iload_n hx hb d_Md_lookImport_73 rfl (lv_at hl 0 rfl) ?_
      refine lv_iconst (v := 2) hx hb d_Md_lookImport_74 (by decide) ?_
      refine lv_icmp_ne (tgt := 102) hx hb d_Md_lookImport_75 (by decide) (fun c_75 => ?_) (fun c_75 => absurd c_75 (by decide))
      refine lv_aload_n hx hb d_Md_lookImport_102 rfl (lv_at hl 1 rfl) ?_
      refine va_get (D := D) (ci := 6) (v := .ref (g 30)) (C := R_Md) (T := F_Md) (N := 44) hx hb hts (fun w h => List.mem_cons_of_mem _ (i_Md w h)) hown hE.1 hP 0 rfl rfl 30 (by decide) (hts _ (List.mem_cons_of_mem _ iw3_84)) (fun _ h9 => h9) rfl d_Md_lookImport_103 ?_
      refine lv_aload_n hx hb d_Md_lookImport_106 rfl (lv_at hl 1 rfl) ?_
      refine va_get (D := D) (ci := 6) (v := .int (nI (a2 + 1))) (C := R_Md) (T := F_Md) (N := 44) hx hb hts (fun w h => List.mem_cons_of_mem _ (i_Md w h)) hown hE.1 hP 0 rfl rfl 43 (by decide) (hts _ (List.mem_cons_of_mem _ iw3_97)) (fun _ h9 => h9) rfl d_Md_lookImport_107 ?_
      refine va_iald hx hb hE.1 hP 1 3 rfl rfl (vp_in_nI (by omega) (by omega)) d_Md_lookImport_110 ?_
      rw [nI_clamp (n := (a2 + 1)) (by omega), hyb (a2 + 1) (by omega)]
      refine lv_istore (lv' := [(4, .int (nI (b (a2 + 1)))), (3, .int 3), (0, .ref m0), (1, .int t), (2, .int 3)]) hx hb d_Md_lookImport_111 hl (by decide) rfl (fun ls hl => ?_)
      refine lv_aload_n hx hb d_Md_lookImport_113 rfl (lv_at hl 2 rfl) ?_
      refine lv_dup hx hb d_Md_lookImport_114 rfl ?_
      refine va_get (D := D) (ci := 6) (v := .int (nI (a2 + 1))) (C := R_Md) (T := F_Md) (N := 44) hx hb hts (fun w h => List.mem_cons_of_mem _ (i_Md w h)) hown hE.1 hP 0 rfl rfl 43 (by decide) (hts _ (List.mem_cons_of_mem _ iw3_97)) (fun _ h9 => h9) rfl d_Md_lookImport_115 ?_
      refine lv_iconst (v := 1) hx hb d_Md_lookImport_118 (by decide) ?_
      refine lv_iadd hx hb d_Md_lookImport_119 ?_
      rw [nI_1]
      refine va_put (D := D) (ci := 6) (v := .int (nI ((a2 + 1) + 1))) (ty := .int) (C := R_Md) (T := F_Md) (N := 44) hx hb hts (fun w h => List.mem_cons_of_mem _ (i_Md w h)) t_Md tk_Md n_Md hown hE.1 hP hD hS 0 rfl rfl 43 (by decide) (hts _ (List.mem_cons_of_mem _ iw3_97)) (fun _ h9 => h9) rfl (by decide +kernel) rfl rfl (Nat.le_of_ble_eq_true rfl) d_Md_lookImport_120 (fun H locs hP hD hS => ?_)
      have hP : va_P D cls [(m0, .inr (6, mF g (K.1, K.2.1, K.2.2.1, K.2.2.2.1, K.2.2.2.2.1, K.2.2.2.2.2.1, K.2.2.2.2.2.2.1, K.2.2.2.2.2.2.2.1, nI ((a2 + 1) + 1)) A0 e np B)), ((g 30), .inl (cA 3, 2000, .inl yb))] H := hP
      have hD : va_D A [(m0, .inr (6, mF g (K.1, K.2.1, K.2.2.1, K.2.2.2.1, K.2.2.2.2.1, K.2.2.2.2.2.1, K.2.2.2.2.2.2.1, K.2.2.2.2.2.2.2.1, nI ((a2 + 1) + 1)) A0 e np B)), ((g 30), .inl (cA 3, 2000, .inl yb))] := hD
      refine lv_iload_n hx hb d_Md_lookImport_123 rfl (lv_at hl 4 rfl) ?_
      refine lv_iconst (v := 1) hx hb d_Md_lookImport_124 (by decide) ?_
      refine lv_icmp_ne (tgt := 134) hx hb d_Md_lookImport_125 (by decide) (fun c_125 => ?_) (fun c_125 => absurd c_125 (by decide))
      refine lv_iload_n hx hb d_Md_lookImport_134 rfl (lv_at hl 1 rfl) ?_
      refine lv_iconst (v := 1) hx hb d_Md_lookImport_135 (by decide) ?_
      refine lv_icmp_ne (tgt := 156) hx hb d_Md_lookImport_136 (by decide) (fun c_136 => ?_) (fun c_136 => absurd c_136 (by decide))
      refine lv_iload_n hx hb d_Md_lookImport_156 rfl (lv_at hl 4 rfl) ?_
      refine lv_iconst (v := 2) hx hb d_Md_lookImport_157 (by decide) ?_
      refine lv_icmp_ne (tgt := 174) hx hb d_Md_lookImport_158 (by decide) (fun c_158 => ?_) (fun c_158 => absurd c_158 (by decide))
      refine lv_ldc2 hx hb hown (hts _ (List.mem_cons_of_mem _ iw3_204)) d_Md_lookImport_174 ?_
      exact cRl (nI ((a2 + 1) + 1)) hx hb hr hlocks d_Md_lookImport_177 hS hP hD (rfl) (Nat.le_refl _) (Nat.le_refl _)
    · have hl : lv_has ls 5 [(3, .int 3), (0, .ref m0), (1, .int t), (2, .int 4)] := hl
      refine lv_iload_n hx hb d_Md_lookImport_28 rfl (lv_at hl 3 rfl) ?_
      refine lv_if_ne (tgt := 35) hx hb d_Md_lookImport_29 (by decide) (fun c_29 => ?_) (fun c_29 => absurd c_29 (by decide))
      refine lv_iload_n hx hb d_Md_lookImport_35 rfl (lv_at hl 3 rfl) ?_
      refine lv_iconst (v := 3) hx hb d_Md_lookImport_36 (by decide) ?_
      refine lv_icmp_le (tgt := 44) hx hb d_Md_lookImport_37 (by decide) (fun c_37 => absurd c_37 (by decide)) (fun c_37 => ?_)
      refine lv_ldc2 hx hb hown (hts _ (List.mem_cons_of_mem _ iw3_204)) d_Md_lookImport_40 ?_
      exact cRl (nI (a2 + 1)) hx hb hr hlocks d_Md_lookImport_43 hS hP hD (rfl) (Nat.le_refl _) (Nat.le_refl _)
    · have hl : lv_has ls 5 [(3, .int 3), (0, .ref m0), (1, .int t), (2, .int 5)] := hl
      refine lv_iload_n hx hb d_Md_lookImport_28 rfl (lv_at hl 3 rfl) ?_
      refine lv_if_ne (tgt := 35) hx hb d_Md_lookImport_29 (by decide) (fun c_29 => ?_) (fun c_29 => absurd c_29 (by decide))
      refine lv_iload_n hx hb d_Md_lookImport_35 rfl (lv_at hl 3 rfl) ?_
      refine lv_iconst (v := 3) hx hb d_Md_lookImport_36 (by decide) ?_
      refine lv_icmp_le (tgt := 44) hx hb d_Md_lookImport_37 (by decide) (fun c_37 => absurd c_37 (by decide)) (fun c_37 => ?_)
      refine lv_ldc2 hx hb hown (hts _ (List.mem_cons_of_mem _ iw3_204)) d_Md_lookImport_40 ?_
      exact cRl (nI (a2 + 1)) hx hb hr hlocks d_Md_lookImport_43 hS hP hD (rfl) (Nat.le_refl _) (Nat.le_refl _)
    · have hl : lv_has ls 5 [(3, .int 3), (0, .ref m0), (1, .int t), (2, .int 6)] := hl
      refine lv_iload_n hx hb d_Md_lookImport_28 rfl (lv_at hl 3 rfl) ?_
      refine lv_if_ne (tgt := 35) hx hb d_Md_lookImport_29 (by decide) (fun c_29 => ?_) (fun c_29 => absurd c_29 (by decide))
      refine lv_iload_n hx hb d_Md_lookImport_35 rfl (lv_at hl 3 rfl) ?_
      refine lv_iconst (v := 3) hx hb d_Md_lookImport_36 (by decide) ?_
      refine lv_icmp_le (tgt := 44) hx hb d_Md_lookImport_37 (by decide) (fun c_37 => absurd c_37 (by decide)) (fun c_37 => ?_)
      refine lv_ldc2 hx hb hown (hts _ (List.mem_cons_of_mem _ iw3_204)) d_Md_lookImport_40 ?_
      exact cRl (nI (a2 + 1)) hx hb hr hlocks d_Md_lookImport_43 hS hP hD (rfl) (Nat.le_refl _) (Nat.le_refl _)
    · have hl : lv_has ls 5 [(3, .int 3), (0, .ref m0), (1, .int t), (2, .int 7)] := hl
      refine lv_iload_n hx hb d_Md_lookImport_28 rfl (lv_at hl 3 rfl) ?_
      refine lv_if_ne (tgt := 35) hx hb d_Md_lookImport_29 (by decide) (fun c_29 => ?_) (fun c_29 => absurd c_29 (by decide))
      refine lv_iload_n hx hb d_Md_lookImport_35 rfl (lv_at hl 3 rfl) ?_
      refine lv_iconst (v := 3) hx hb d_Md_lookImport_36 (by decide) ?_
      refine lv_icmp_le (tgt := 44) hx hb d_Md_lookImport_37 (by decide) (fun c_37 => absurd c_37 (by decide)) (fun c_37 => ?_)
      refine lv_ldc2 hx hb hown (hts _ (List.mem_cons_of_mem _ iw3_204)) d_Md_lookImport_40 ?_
      exact cRl (nI (a2 + 1)) hx hb hr hlocks d_Md_lookImport_43 hS hP hD (rfl) (Nat.le_refl _) (Nat.le_refl _)
    · have hl := hl
      refine lv_iload_n hx hb d_Md_lookImport_28 rfl (lv_at hl 3 rfl) ?_
      refine lv_if_ne (tgt := 35) hx hb d_Md_lookImport_29 (by decide) (fun c_29 => ?_) (fun c_29 => absurd c_29 (fun q => absurd ((nI_eq (a := wh) (b := 0) (by omega) (by decide)).mp q) (by omega)))
      refine lv_iload_n hx hb d_Md_lookImport_35 rfl (lv_at hl 3 rfl) ?_
      refine lv_iconst (v := 3) hx hb d_Md_lookImport_36 (by decide) ?_
      refine lv_icmp_le (tgt := 44) hx hb d_Md_lookImport_37 (by decide) (fun c_37 => absurd c_37 (nI_ge (a := 3) (b := wh) (by omega) (by omega))) (fun c_37 => ?_)
      refine lv_ldc2 hx hb hown (hts _ (List.mem_cons_of_mem _ iw3_204)) d_Md_lookImport_40 ?_
      exact cRl (nI (a2 + 1)) hx hb hr hlocks d_Md_lookImport_43 hS hP hD (by rw [lkS, if_pos hw8]; rfl) (Nat.le_refl _) (Nat.le_refl _)
