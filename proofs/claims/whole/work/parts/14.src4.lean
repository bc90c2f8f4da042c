set_option maxHeartbeats 4000000 in
set_option maxRecDepth 100000 in
/-- blockType() -/
theorem c_Sr_blockType (l : Launch) (hl9 : l.stackTraces = false) (D : va_G) (cA : Nat → ClassId) (ad : Nat → Nat) (sz : Nat) (h0 h1 : Nat) (bs : Nat → Int32) (a lm : Nat) (f pl : Int32) (hlm : lm ≤ 2000) (hal : a ≤ lm) :
    cM l y_Sr_blockType (.code y_Sr_blockType b_Sr_blockType 5 none :: wAll) ({ frames := 8, cells := 1, slots := 6, locals := 128 }) D cA ad [.ref h0] (wSr cA h0 h1 bs (nI a, nI lm, f, pl)) sz (vP (pBlock (bv bs) lm a) lm f pl) (tP (pBlock (bv bs) lm a)) (wSr cA h0 h1 bs) (fun _ => (0, 0)) := by
  refine cM.ofW (cc := b_Sr_blockType) (maxL := 5) (ret := none) (by decide) (Nat.le_of_ble_eq_true rfl) ?_
  intro pg ev s m bw meth c A ls hF hsz hA hE hP hD hl
  obtain ⟨⟨hx, hb, hml, hown, hts⟩, hr, hno, hlocks, hin⟩ := hF
  subst hsz
  have hown : s.vm.findClass "ModuleBytes$Source" = some m.cls := hown
  have hS : va_S A s.heap s.heap [] := va_S.rf
  have hl : lv_has ls 5 [(0, .ref h0)] := hl
  refine lv_aload_n hx hb d_Sr_blockType_0 rfl (lv_at hl 0 rfl) ?_
  refine va_get (D := D) (ci := 2) (v := .int (nI a)) (C := R_Sr) (T := F_Sr) (N := 5) hx hb hts (fun w h => List.mem_cons_of_mem _ (i_Sr w h)) hown hE.1 hP 0 rfl rfl 1 (by decide) (hts _ (List.mem_cons_of_mem _ iw1_97)) (fun _ h9 => h9) rfl d_Sr_blockType_1 ?_
  refine lv_istore_n (lv' := [(1, .int (nI a)), (0, .ref h0)]) hx hb d_Sr_blockType_4 rfl hl (by decide) rfl (fun ls hl => ?_)
  refine lv_aload_n hx hb d_Sr_blockType_5 rfl (lv_at hl 1 rfl) ?_
  refine lv_bipush (v := 33) hx hb d_Sr_blockType_6 (by decide) ?_
  refine cV (As := [.int 33]) (rest := []) (n := 1) (wc := [(h0, .inr (2, [.ref h1, .int (nI a), .int (nI lm), .int f, .int pl])), (h1, .inl (cA 0, 2000, .inl bs))]) (wr := []) ⟨hx, hb, hml, hown, hts⟩ hno hlocks hl.1 (c_Sr_signed33 l hl9 D cA ad s.heap.size h0 h1 bs a lm f pl hlm hal) iw2_172 iw2_173 iw2_174 iw1_5 iw2_175 (by decide +kernel) rfl ⟨Nat.le_of_ble_eq_true rfl, Nat.le_of_ble_eq_true rfl⟩ ⟨Nat.le_of_ble_eq_true rfl, Nat.le_of_ble_eq_true rfl⟩ rfl (Nat.le_of_ble_eq_true rfl) d_Sr_blockType_8 hE hP hD hS hA [0, 1] [] rfl rfl rfl rfl (by decide) (ci := 2) rfl rfl 0 rfl (fun u h => ⟨u, h.mono (fun f p q => by rw [pBlock_T q]), fun _ h => h, fun h => h, Nat.le_refl _, Nat.le_refl _⟩) (fun v_8 u_8 H locs hp_8 hP hD hS => ?_)
  obtain ⟨x2, a2, hn, rfl, rfl⟩ := hp_8
  have hP : va_P D cls [(h0, .inr (2, [.ref h1, .int (nI a2), .int (nI lm), .int f, .int pl])), (h1, .inl (cA 0, 2000, .inl bs))] H := hP
  have hD : va_D A [(h0, .inr (2, [.ref h1, .int (nI a2), .int (nI lm), .int f, .int pl])), (h1, .inl (cA 0, 2000, .inl bs))] := hD
  refine W.cs (cells' := 0) (slots' := 0) rfl rfl ?_
  refine W.eq (g2 := F0 m 11 ls [.int (nI x2)]) rfl ?_
  obtain ⟨hq, hp, hv⟩ := pSg_ok 4 33 a x2 a2 hal hn
  refine lv_istore_n (lv' := [(2, .int (nI x2)), (1, .int (nI a)), (0, .ref h0)]) hx hb d_Sr_blockType_11 rfl hl (by decide) rfl (fun ls hl => ?_)
  refine lv_iload_n hx hb d_Sr_blockType_12 rfl (lv_at hl 0 rfl) ?_
  refine lv_if_ne (tgt := 17) hx hb d_Sr_blockType_13 (by decide) (fun c_13 => ?_) (fun c_13 => ?_)
  · have hz : ¬ x2 = 0 := fun q => c_13 (congrArg nI q)
    refine lv_iload_n hx hb d_Sr_blockType_17 rfl (lv_at hl 1 rfl) ?_
    refine lv_aload_n hx hb d_Sr_blockType_18 rfl (lv_at hl 2 rfl) ?_
    refine va_get (D := D) (ci := 2) (v := .int (nI lm)) (C := R_Sr) (T := F_Sr) (N := 5) hx hb hts (fun w h => List.mem_cons_of_mem _ (i_Sr w h)) hown hE.1 hP 0 rfl rfl 2 (by decide) (hts _ (List.mem_cons_of_mem _ iw1_100)) (fun _ h9 => h9) rfl d_Sr_blockType_19 ?_
    refine lv_icmp_ge (tgt := 38) hx hb d_Sr_blockType_22 (by decide) (fun c_22 => absurd c_22 (fun q => absurd ((nI_leI (a := lm) (b := a) (by omega) (by omega)).mp q) (by omega))) (fun c_22 => ?_)
    refine lv_aload_n hx hb d_Sr_blockType_25 rfl (lv_at hl 2 rfl) ?_
    refine va_get (D := D) (ci := 2) (v := .ref h1) (C := R_Sr) (T := F_Sr) (N := 5) hx hb hts (fun w h => List.mem_cons_of_mem _ (i_Sr w h)) hown hE.1 hP 0 rfl rfl 0 (by decide) (hts _ (List.mem_cons_of_mem _ iw1_96)) (fun _ h9 => h9) rfl d_Sr_blockType_26 ?_
    refine lv_iload_n hx hb d_Sr_blockType_29 rfl (lv_at hl 1 rfl) ?_
    refine va_bald hx hb hE.1 hP 1 0 rfl rfl (vp_in_nI (by omega) (by omega)) d_Sr_blockType_30 ?_
    rw [nI_clamp (n := a) (by omega)]
    refine lv_sipush (v := 255) hx hb d_Sr_blockType_31 (by decide) ?_
    refine lv_iand hx hb d_Sr_blockType_34 ?_
    rw [bv_and]
    have hB := bv_lt bs a
    refine lv_goto (tgt := 39) hx hb d_Sr_blockType_35 (by decide) ?_
    refine lv_istore_n (lv' := [(3, .int (nI (bv bs a))), (2, .int (nI x2)), (1, .int (nI a)), (0, .ref h0)]) hx hb d_Sr_blockType_39 rfl hl (by decide) rfl (fun ls hl => ?_)
    refine lv_aload_n hx hb d_Sr_blockType_40 rfl (lv_at hl 3 rfl) ?_
    refine va_get (D := D) (ci := 2) (v := .int (nI a2)) (C := R_Sr) (T := F_Sr) (N := 5) hx hb hts (fun w h => List.mem_cons_of_mem _ (i_Sr w h)) hown hE.1 hP 0 rfl rfl 1 (by decide) (hts _ (List.mem_cons_of_mem _ iw1_97)) (fun _ h9 => h9) rfl d_Sr_blockType_41 ?_
    refine lv_iload_n hx hb d_Sr_blockType_44 rfl (lv_at hl 2 rfl) ?_
    refine lv_iconst (v := 1) hx hb d_Sr_blockType_45 (by decide) ?_
    refine lv_iadd hx hb d_Sr_blockType_46 ?_
    refine lv_icmp_ne (tgt := 54) hx hb d_Sr_blockType_47 (by decide) (fun c_47 => ?_) (fun c_47 => ?_)
    · have hone : ¬ a2 = a + 1 := fun q => c_47 ((congrArg nI q).trans (nI_1 a).symm)
      refine lv_iconst (v := 0) hx hb d_Sr_blockType_54 (by decide) ?_
      refine lv_istore (lv' := [(4, .int 0), (3, .int (nI (bv bs a))), (2, .int (nI x2)), (1, .int (nI a)), (0, .ref h0)]) hx hb d_Sr_blockType_55 hl (by decide) rfl (fun ls hl => ?_)
      refine lv_iload hx hb d_Sr_blockType_57 (lv_at hl 0 rfl) ?_
      refine lv_if_eq (tgt := 75) hx hb d_Sr_blockType_59 (by decide) (fun c_59 => ?_) (fun c_59 => absurd (by decide) c_59)
      refine lv_aload_n hx hb d_Sr_blockType_75 rfl (lv_at hl 4 rfl) ?_
      refine lv_bipush (v := 8) hx hb d_Sr_blockType_76 (by decide) ?_
      refine lv_iload_n hx hb d_Sr_blockType_78 rfl (lv_at hl 3 rfl) ?_
      refine cV (As := [.int 8, .int (nI a)]) (rest := []) (n := 2) (wc := [(h0, .inr (2, [.ref h1, .int (nI a2), .int (nI lm), .int f, .int pl])), (h1, .inl (cA 0, 2000, .inl bs))]) (wr := []) ⟨hx, hb, hml, hown, hts⟩ hno hlocks hl.1 (c_Sr_fail l hl9 D cA ad H.size h0 h1 bs (nI a2) (nI lm) f pl 8 (nI a)) iw2_55 iw2_36 iw2_37 iw1_5 iw2_38 (by decide +kernel) rfl ⟨Nat.le_of_ble_eq_true rfl, Nat.le_of_ble_eq_true rfl⟩ ⟨Nat.le_of_ble_eq_true rfl, Nat.le_of_ble_eq_true rfl⟩ rfl (Nat.le_of_ble_eq_true rfl) d_Sr_blockType_79 hE hP hD hS hA [0, 1] [] rfl rfl rfl rfl (by decide) (ci := 2) rfl rfl 0 rfl (fun u h => ⟨u, ⟨8, a, (pBlock_F hn hz (by first | exact fun q => hone q.1 | (rintro ⟨-, q | q⟩ <;> first | exact c_65 (congrArg nI q) | (rw [zI_0.mp c_72] at q; exact absurd q (by decide))))), by rw [h] <;> rfl, by rw [h] <;> rfl⟩, fun _ h => h, fun h => h, Nat.le_refl _, Nat.le_refl _⟩) (fun v_79 u_79 H locs hp_79 hP hD hS => ?_)
      exact hp_79.elim
    · have hone : a2 = a + 1 := nI_lit_eq (by omega) (by omega) (c_47.trans (nI_1 a))
      refine lv_iconst (v := 1) hx hb d_Sr_blockType_50 (by decide) ?_
      refine lv_goto (tgt := 55) hx hb d_Sr_blockType_51 (by decide) ?_
      refine lv_istore (lv' := [(4, .int 1), (3, .int (nI (bv bs a))), (2, .int (nI x2)), (1, .int (nI a)), (0, .ref h0)]) hx hb d_Sr_blockType_55 hl (by decide) rfl (fun ls hl => ?_)
      refine lv_iload hx hb d_Sr_blockType_57 (lv_at hl 0 rfl) ?_
      refine lv_if_eq (tgt := 75) hx hb d_Sr_blockType_59 (by decide) (fun c_59 => absurd c_59 (by decide)) (fun c_59 => ?_)
      refine lv_iload_n hx hb d_Sr_blockType_62 rfl (lv_at hl 1 rfl) ?_
      refine lv_bipush (v := 64) hx hb d_Sr_blockType_63 (by decide) ?_
      refine lv_icmp_eq (tgt := 82) hx hb d_Sr_blockType_65 (by decide) (fun c_65 => ?_) (fun c_65 => ?_)
      · have hh : pBlock (bv bs) lm a = .inr ((), a2) := pBlock_E hn hz (by first | exact hone) (by first | exact Or.inl (nI_lit_eq (k := 64) (by omega) (by omega) c_65) | (refine Or.inr ?_; cases hy : tVal (bv bs a) with | true => rfl | false => exact absurd (zI_0.mpr hy) c_72))
        exact cRv (nI a2, nI lm, f, pl) hx hb hr hlocks d_Sr_blockType_82 hS hP hD (⟨a2, hh, rfl, rfl⟩) (Nat.le_refl _) (Nat.le_refl _)
      · refine lv_iload_n hx hb d_Sr_blockType_68 rfl (lv_at hl 1 rfl) ?_
        refine cS0 (As := [.int (nI (bv bs a))]) (rest := []) (n := 1) (r := (zI (tVal (bv bs a)))) ⟨hx, hb, hml, hown, hts⟩ hno hlocks hl.1 (c_Sr_isValueType l D cA ad H.size (bv bs a) hB) iw2_121 iw2_122 iw1_5 iw2_123 (by decide +kernel) rfl ⟨Nat.le_of_ble_eq_true rfl, Nat.le_of_ble_eq_true rfl⟩ ⟨Nat.le_of_ble_eq_true rfl, Nat.le_of_ble_eq_true rfl⟩ rfl (Nat.le_of_ble_eq_true rfl) d_Sr_blockType_69 hE hP hD hS hA [0, 1] rfl rfl (fun H locs hP hD hS => ?_)
        refine lv_if_ne (tgt := 82) hx hb d_Sr_blockType_72 (by decide) (fun c_72 => ?_) (fun c_72 => ?_)
        · have hh : pBlock (bv bs) lm a = .inr ((), a2) := pBlock_E hn hz (by first | exact hone) (by first | exact Or.inl (nI_lit_eq (k := 64) (by omega) (by omega) c_65) | (refine Or.inr ?_; cases hy : tVal (bv bs a) with | true => rfl | false => exact absurd (zI_0.mpr hy) c_72))
          exact cRv (nI a2, nI lm, f, pl) hx hb hr hlocks d_Sr_blockType_82 hS hP hD (⟨a2, hh, rfl, rfl⟩) (Nat.le_refl _) (Nat.le_refl _)
        · refine lv_aload_n hx hb d_Sr_blockType_75 rfl (lv_at hl 4 rfl) ?_
          refine lv_bipush (v := 8) hx hb d_Sr_blockType_76 (by decide) ?_
          refine lv_iload_n hx hb d_Sr_blockType_78 rfl (lv_at hl 3 rfl) ?_
          refine cV (As := [.int 8, .int (nI a)]) (rest := []) (n := 2) (wc := [(h0, .inr (2, [.ref h1, .int (nI a2), .int (nI lm), .int f, .int pl])), (h1, .inl (cA 0, 2000, .inl bs))]) (wr := []) ⟨hx, hb, hml, hown, hts⟩ hno hlocks hl.1 (c_Sr_fail l hl9 D cA ad H.size h0 h1 bs (nI a2) (nI lm) f pl 8 (nI a)) iw2_55 iw2_36 iw2_37 iw1_5 iw2_38 (by decide +kernel) rfl ⟨Nat.le_of_ble_eq_true rfl, Nat.le_of_ble_eq_true rfl⟩ ⟨Nat.le_of_ble_eq_true rfl, Nat.le_of_ble_eq_true rfl⟩ rfl (Nat.le_of_ble_eq_true rfl) d_Sr_blockType_79 hE hP hD hS hA [0, 1] [] rfl rfl rfl rfl (by decide) (ci := 2) rfl rfl 0 rfl (fun u h => ⟨u, ⟨8, a, (pBlock_F hn hz (by first | exact fun q => hone q.1 | (rintro ⟨-, q | q⟩ <;> first | exact c_65 (congrArg nI q) | (rw [zI_0.mp c_72] at q; exact absurd q (by decide))))), by rw [h] <;> rfl, by rw [h] <;> rfl⟩, fun _ h => h, fun h => h, Nat.le_refl _, Nat.le_refl _⟩) (fun v_79 u_79 H locs hp_79 hP hD hS => ?_)
          exact hp_79.elim
  · exact cRv (nI a2, nI lm, f, pl) hx hb hr hlocks d_Sr_blockType_16 hS hP hD (⟨a2, pBlock_0 hn (nI_lit_eq (k := 0) (by omega) (by omega) c_13), rfl, rfl⟩) (Nat.le_refl _) (Nat.le_refl _)
set_option maxHeartbeats 4000000 in
set_option maxRecDepth 100000 in
theorem c_Sr_needs2 (l : Launch) (D : va_G) (cA : Nat → ClassId) (ad : Nat → Nat) (sz : Nat) (v : Nat) (hv : v < 2097152) :
    cM l y_Sr_needsSize (.code y_Sr_needsSize b_Sr_needsSize 2 (some .boolean) :: wAll) ({ frames := 0, cells := 0, slots := 0, locals := 0 }) D cA ad [.int (nI v), .int 2] [] sz (fun w (_ : Unit) => w = some (.int (zI (nSz 2 v)))) (fun _ => False) (fun _ => []) (fun _ => (0, 0)) := by
  refine cM.ofW (cc := b_Sr_needsSize) (maxL := 2) (ret := (some .boolean)) (by decide) (Nat.le_of_ble_eq_true rfl) ?_
  intro pg ev s m bw meth c A ls hF hsz hA hE hP hD hl
  obtain ⟨⟨hx, hb, hml, hown, hts⟩, hr, hno, hlocks, hin⟩ := hF
  subst hsz
  have hown : s.vm.findClass "ModuleBytes$Source" = some m.cls := hown
  have hS : va_S A s.heap s.heap [] := va_S.rf
  have hl : lv_has ls 2 [(0, .int (nI v)), (1, .int 2)] := hl
  refine lv_iload_n hx hb d_Sr_needsSize_0 rfl (lv_at hl 1 rfl) ?_
  refine lv_lookup (off := 27) (tgt := 28) hx hb d_Sr_needsSize_1 (by decide) (by decide) (by decide) ?_
  refine lv_iload_n hx hb d_Sr_needsSize_28 rfl (lv_at hl 0 rfl) ?_
  refine lv_sipush (v := 128) hx hb d_Sr_needsSize_29 (by decide) ?_
  refine lv_icmp_lt (tgt := 39) hx hb d_Sr_needsSize_32 (by decide) (fun c_32 => ?_) (fun c_32 => ?_)
  · try rw [show (128 : Int32) = nI 128 from rfl] at c_32
    try rw [nI_ltI (by omega) (by omega)] at c_32
    have hh : nSz 2 v = false := by simp [nSz]; omega
    refine lv_iconst (v := 0) hx hb d_Sr_needsSize_39 (by decide) ?_
    refine W.eq (g2 := F0 m 40 ls [.int (zI (nSz 2 v))]) (by rw [← zI_f hh]) ?_
    exact cRz () hx hb hr (zI_nar _) hlocks d_Sr_needsSize_40 hS hP hD rfl (Nat.le_refl _) (Nat.le_refl _)
  · try rw [show (128 : Int32) = nI 128 from rfl] at c_32
    try rw [nI_ltI (by omega) (by omega)] at c_32
    have hh : nSz 2 v = true := by simp [nSz]; omega
    refine lv_iconst (v := 1) hx hb d_Sr_needsSize_35 (by decide) ?_
    refine lv_goto (tgt := 40) hx hb d_Sr_needsSize_36 (by decide) ?_
    refine W.eq (g2 := F0 m 40 ls [.int (zI (nSz 2 v))]) (by rw [← zI_t hh]) ?_
    exact cRz () hx hb hr (zI_nar _) hlocks d_Sr_needsSize_40 hS hP hD rfl (Nat.le_refl _) (Nat.le_refl _)
set_option maxHeartbeats 4000000 in
set_option maxRecDepth 100000 in
theorem c_Sr_needs3 (l : Launch) (D : va_G) (cA : Nat → ClassId) (ad : Nat → Nat) (sz : Nat) (v : Nat) (hv : v < 2097152) :
    cM l y_Sr_needsSize (.code y_Sr_needsSize b_Sr_needsSize 2 (some .boolean) :: wAll) ({ frames := 0, cells := 0, slots := 0, locals := 0 }) D cA ad [.int (nI v), .int 3] [] sz (fun w (_ : Unit) => w = some (.int (zI (nSz 3 v)))) (fun _ => False) (fun _ => []) (fun _ => (0, 0)) := by
  refine cM.ofW (cc := b_Sr_needsSize) (maxL := 2) (ret := (some .boolean)) (by decide) (Nat.le_of_ble_eq_true rfl) ?_
  intro pg ev s m bw meth c A ls hF hsz hA hE hP hD hl
  obtain ⟨⟨hx, hb, hml, hown, hts⟩, hr, hno, hlocks, hin⟩ := hF
  subst hsz
  have hown : s.vm.findClass "ModuleBytes$Source" = some m.cls := hown
  have hS : va_S A s.heap s.heap [] := va_S.rf
  have hl : lv_has ls 2 [(0, .int (nI v)), (1, .int 3)] := hl
  refine lv_iload_n hx hb d_Sr_needsSize_0 rfl (lv_at hl 1 rfl) ?_
  refine lv_lookup (off := 40) (tgt := 41) hx hb d_Sr_needsSize_1 (by decide) (by decide) (by decide) ?_
  refine lv_iload_n hx hb d_Sr_needsSize_41 rfl (lv_at hl 0 rfl) ?_
  refine lv_sipush (v := 2048) hx hb d_Sr_needsSize_42 (by decide) ?_
  refine lv_icmp_lt (tgt := 64) hx hb d_Sr_needsSize_45 (by decide) (fun c_45 => ?_) (fun c_45 => ?_)
  · try rw [show (2048 : Int32) = nI 2048 from rfl] at c_45
    try rw [nI_ltI (by omega) (by omega)] at c_45
    try rw [show (55296 : Int32) = nI 55296 from rfl] at c_51
    try rw [nI_ltI (by omega) (by omega)] at c_51
    try rw [show (57343 : Int32) = nI 57343 from rfl] at c_57
    try rw [nI_leI (by omega) (by omega)] at c_57
    have hh : nSz 3 v = false := by simp [nSz]; omega
    refine lv_iconst (v := 0) hx hb d_Sr_needsSize_64 (by decide) ?_
    refine W.eq (g2 := F0 m 65 ls [.int (zI (nSz 3 v))]) (by rw [← zI_f hh]) ?_
    exact cRz () hx hb hr (zI_nar _) hlocks d_Sr_needsSize_65 hS hP hD rfl (Nat.le_refl _) (Nat.le_refl _)
  · refine lv_iload_n hx hb d_Sr_needsSize_48 rfl (lv_at hl 0 rfl) ?_
    refine lv_ldc hx hb hown (hts _ (List.mem_cons_of_mem _ iw2_99)) d_Sr_needsSize_49 ?_
    refine lv_icmp_lt (tgt := 60) hx hb d_Sr_needsSize_51 (by decide) (fun c_51 => ?_) (fun c_51 => ?_)
    · try rw [show (2048 : Int32) = nI 2048 from rfl] at c_45
      try rw [nI_ltI (by omega) (by omega)] at c_45
      try rw [show (55296 : Int32) = nI 55296 from rfl] at c_51
      try rw [nI_ltI (by omega) (by omega)] at c_51
      try rw [show (57343 : Int32) = nI 57343 from rfl] at c_57
      try rw [nI_leI (by omega) (by omega)] at c_57
      have hh : nSz 3 v = true := by simp [nSz]; omega
      refine lv_iconst (v := 1) hx hb d_Sr_needsSize_60 (by decide) ?_
      refine lv_goto (tgt := 65) hx hb d_Sr_needsSize_61 (by decide) ?_
      refine W.eq (g2 := F0 m 65 ls [.int (zI (nSz 3 v))]) (by rw [← zI_t hh]) ?_
      exact cRz () hx hb hr (zI_nar _) hlocks d_Sr_needsSize_65 hS hP hD rfl (Nat.le_refl _) (Nat.le_refl _)
    · refine lv_iload_n hx hb d_Sr_needsSize_54 rfl (lv_at hl 0 rfl) ?_
      refine lv_ldc hx hb hown (hts _ (List.mem_cons_of_mem _ iw2_100)) d_Sr_needsSize_55 ?_
      refine lv_icmp_le (tgt := 64) hx hb d_Sr_needsSize_57 (by decide) (fun c_57 => ?_) (fun c_57 => ?_)
      · try rw [show (2048 : Int32) = nI 2048 from rfl] at c_45
        try rw [nI_ltI (by omega) (by omega)] at c_45
        try rw [show (55296 : Int32) = nI 55296 from rfl] at c_51
        try rw [nI_ltI (by omega) (by omega)] at c_51
        try rw [show (57343 : Int32) = nI 57343 from rfl] at c_57
        try rw [nI_leI (by omega) (by omega)] at c_57
        have hh : nSz 3 v = false := by simp [nSz]; omega
        refine lv_iconst (v := 0) hx hb d_Sr_needsSize_64 (by decide) ?_
        refine W.eq (g2 := F0 m 65 ls [.int (zI (nSz 3 v))]) (by rw [← zI_f hh]) ?_
        exact cRz () hx hb hr (zI_nar _) hlocks d_Sr_needsSize_65 hS hP hD rfl (Nat.le_refl _) (Nat.le_refl _)
      · try rw [show (2048 : Int32) = nI 2048 from rfl] at c_45
        try rw [nI_ltI (by omega) (by omega)] at c_45
        try rw [show (55296 : Int32) = nI 55296 from rfl] at c_51
        try rw [nI_ltI (by omega) (by omega)] at c_51
        try rw [show (57343 : Int32) = nI 57343 from rfl] at c_57
        try rw [nI_leI (by omega) (by omega)] at c_57
        have hh : nSz 3 v = true := by simp [nSz]; omega
        refine lv_iconst (v := 1) hx hb d_Sr_needsSize_60 (by decide) ?_
        refine lv_goto (tgt := 65) hx hb d_Sr_needsSize_61 (by decide) ?_
        refine W.eq (g2 := F0 m 65 ls [.int (zI (nSz 3 v))]) (by rw [← zI_t hh]) ?_
        exact cRz () hx hb hr (zI_nar _) hlocks d_Sr_needsSize_65 hS hP hD rfl (Nat.le_refl _) (Nat.le_refl _)
set_option maxHeartbeats 4000000 in
set_option maxRecDepth 100000 in
theorem c_Sr_needs4 (l : Launch) (D : va_G) (cA : Nat → ClassId) (ad : Nat → Nat) (sz : Nat) (v : Nat) (hv : v < 2097152) :
    cM l y_Sr_needsSize (.code y_Sr_needsSize b_Sr_needsSize 2 (some .boolean) :: wAll) ({ frames := 0, cells := 0, slots := 0, locals := 0 }) D cA ad [.int (nI v), .int 4] [] sz (fun w (_ : Unit) => w = some (.int (zI (nSz 4 v)))) (fun _ => False) (fun _ => []) (fun _ => (0, 0)) := by
  refine cM.ofW (cc := b_Sr_needsSize) (maxL := 2) (ret := (some .boolean)) (by decide) (Nat.le_of_ble_eq_true rfl) ?_
  intro pg ev s m bw meth c A ls hF hsz hA hE hP hD hl
  obtain ⟨⟨hx, hb, hml, hown, hts⟩, hr, hno, hlocks, hin⟩ := hF
  subst hsz
  have hown : s.vm.findClass "ModuleBytes$Source" = some m.cls := hown
  have hS : va_S A s.heap s.heap [] := va_S.rf
  have hl : lv_has ls 2 [(0, .int (nI v)), (1, .int 4)] := hl
  refine lv_iload_n hx hb d_Sr_needsSize_0 rfl (lv_at hl 1 rfl) ?_
  refine lv_lookup (off := 65) (tgt := 66) hx hb d_Sr_needsSize_1 (by decide) (by decide) (by decide) ?_
  refine lv_iload_n hx hb d_Sr_needsSize_66 rfl (lv_at hl 0 rfl) ?_
  refine lv_ldc hx hb hown (hts _ (List.mem_cons_of_mem _ iw2_101)) d_Sr_needsSize_67 ?_
  refine lv_icmp_lt (tgt := 82) hx hb d_Sr_needsSize_69 (by decide) (fun c_69 => ?_) (fun c_69 => ?_)
  · try rw [show (65536 : Int32) = nI 65536 from rfl] at c_69
    try rw [nI_ltI (by omega) (by omega)] at c_69
    try rw [show (1114111 : Int32) = nI 1114111 from rfl] at c_75
    try rw [nI_ltI (by omega) (by omega)] at c_75
    have hh : nSz 4 v = false := by simp [nSz]; omega
    refine lv_iconst (v := 0) hx hb d_Sr_needsSize_82 (by decide) ?_
    refine W.eq (g2 := F0 m 83 ls [.int (zI (nSz 4 v))]) (by rw [← zI_f hh]) ?_
    exact cRz () hx hb hr (zI_nar _) hlocks d_Sr_needsSize_83 hS hP hD rfl (Nat.le_refl _) (Nat.le_refl _)
  · refine lv_iload_n hx hb d_Sr_needsSize_72 rfl (lv_at hl 0 rfl) ?_
    refine lv_ldc hx hb hown (hts _ (List.mem_cons_of_mem _ iw2_102)) d_Sr_needsSize_73 ?_
    refine lv_icmp_gt (tgt := 82) hx hb d_Sr_needsSize_75 (by decide) (fun c_75 => ?_) (fun c_75 => ?_)
    · try rw [show (65536 : Int32) = nI 65536 from rfl] at c_69
      try rw [nI_ltI (by omega) (by omega)] at c_69
      try rw [show (1114111 : Int32) = nI 1114111 from rfl] at c_75
      try rw [nI_ltI (by omega) (by omega)] at c_75
      have hh : nSz 4 v = false := by simp [nSz]; omega
      refine lv_iconst (v := 0) hx hb d_Sr_needsSize_82 (by decide) ?_
      refine W.eq (g2 := F0 m 83 ls [.int (zI (nSz 4 v))]) (by rw [← zI_f hh]) ?_
      exact cRz () hx hb hr (zI_nar _) hlocks d_Sr_needsSize_83 hS hP hD rfl (Nat.le_refl _) (Nat.le_refl _)
    · try rw [show (65536 : Int32) = nI 65536 from rfl] at c_69
      try rw [nI_ltI (by omega) (by omega)] at c_69
      try rw [show (1114111 : Int32) = nI 1114111 from rfl] at c_75
      try rw [nI_ltI (by omega) (by omega)] at c_75
      have hh : nSz 4 v = true := by simp [nSz]; omega
      refine lv_iconst (v := 1) hx hb d_Sr_needsSize_78 (by decide) ?_
      refine lv_goto (tgt := 83) hx hb d_Sr_needsSize_79 (by decide) ?_
      refine W.eq (g2 := F0 m 83 ls [.int (zI (nSz 4 v))]) (by rw [← zI_t hh]) ?_
      exact cRz () hx hb hr (zI_nar _) hlocks d_Sr_needsSize_83 hS hP hD rfl (Nat.le_refl _) (Nat.le_refl _)
set_option maxHeartbeats 4000000 in
set_option maxRecDepth 100000 in
/-- characterSize(p) -/
theorem c_Sr_characterSize (l : Launch) (hl9 : l.stackTraces = false) (D : va_G) (cA : Nat → ClassId) (ad : Nat → Nat) (sz : Nat) (h0 h1 : Nat) (bs : Nat → Int32) (en p : Nat) (lmI f pl : Int32) (hen : en ≤ 2000) (hpe : p < en) :
    cM l y_Sr_characterSize (.code y_Sr_characterSize b_Sr_characterSize 7 (some .int) :: wAll) ({ frames := 1, cells := 0, slots := 0, locals := 21 }) D cA ad [.ref h0, .int (nI p)] (wSr cA h0 h1 bs (nI en, lmI, f, pl)) sz (fun v u => v = some (.int (nI (pChar (bv bs) en p))) ∧ u = (nI en, lmI, f, pl)) (fun _ => False) (wSr cA h0 h1 bs) (fun _ => (0, 0)) := by
  refine cM.ofW (cc := b_Sr_characterSize) (maxL := 7) (ret := (some .int)) (by decide) (Nat.le_of_ble_eq_true rfl) ?_
  intro pg ev s m bw meth c A ls hF hsz hA hE hP hD hl
  obtain ⟨⟨hx, hb, hml, hown, hts⟩, hr, hno, hlocks, hin⟩ := hF
  subst hsz
  have hown : s.vm.findClass "ModuleBytes$Source" = some m.cls := hown
  have hS : va_S A s.heap s.heap [] := va_S.rf
  have hl : lv_has ls 7 [(0, .ref h0), (1, .int (nI p))] := hl
  refine lv_aload_n hx hb d_Sr_characterSize_0 rfl (lv_at hl 0 rfl) ?_
  refine va_get (D := D) (ci := 2) (v := .ref h1) (C := R_Sr) (T := F_Sr) (N := 5) hx hb hts (fun w h => List.mem_cons_of_mem _ (i_Sr w h)) hown hE.1 hP 0 rfl rfl 0 (by decide) (hts _ (List.mem_cons_of_mem _ iw1_96)) (fun _ h9 => h9) rfl d_Sr_characterSize_1 ?_
  refine lv_iload_n hx hb d_Sr_characterSize_4 rfl (lv_at hl 1 rfl) ?_
  refine va_bald hx hb hE.1 hP 1 0 rfl rfl (vp_in_nI (by omega) (by omega)) d_Sr_characterSize_5 ?_
  rw [nI_clamp (n := p) (by omega)]
  refine lv_sipush (v := 255) hx hb d_Sr_characterSize_6 (by decide) ?_
  refine lv_iand hx hb d_Sr_characterSize_9 ?_
  rw [bv_and]
  have hB := bv_lt bs p
  refine lv_istore_n (lv' := [(2, .int (nI (bv bs p))), (0, .ref h0), (1, .int (nI p))]) hx hb d_Sr_characterSize_10 rfl hl (by decide) rfl (fun ls hl => ?_)
  refine lv_iload_n hx hb d_Sr_characterSize_11 rfl (lv_at hl 0 rfl) ?_
  refine lv_sipush (v := 128) hx hb d_Sr_characterSize_12 (by decide) ?_
  refine lv_icmp_ge (tgt := 20) hx hb d_Sr_characterSize_15 (by decide) (fun c_15 => ?_) (fun c_15 => ?_)
  · have r15 : 128 ≤ bv bs p := (nI_leI (a := 128) (by omega) (by omega)).mp c_15
    refine lv_iload_n hx hb d_Sr_characterSize_20 rfl (lv_at hl 0 rfl) ?_
    refine lv_sipush (v := 240) hx hb d_Sr_characterSize_21 (by decide) ?_
    refine lv_icmp_lt (tgt := 31) hx hb d_Sr_characterSize_24 (by decide) (fun c_24 => ?_) (fun c_24 => ?_)
    · have r24 : bv bs p < 240 := (nI_ltI (b := 240) (by omega) (by omega)).mp c_24
      refine lv_iload_n hx hb d_Sr_characterSize_31 rfl (lv_at hl 0 rfl) ?_
      refine lv_sipush (v := 224) hx hb d_Sr_characterSize_32 (by decide) ?_
      refine lv_icmp_lt (tgt := 42) hx hb d_Sr_characterSize_35 (by decide) (fun c_35 => ?_) (fun c_35 => ?_)
      · have r35 : bv bs p < 224 := (nI_ltI (b := 224) (by omega) (by omega)).mp c_35
        refine lv_iconst (v := 2) hx hb d_Sr_characterSize_42 (by decide) ?_
        have hsz : chS (bv bs p) = 2 := by simp only [chS]; rw [if_neg (by omega), if_neg (by omega)]
        refine lv_istore_n (lv' := [(3, .int 2), (2, .int (nI (bv bs p))), (0, .ref h0), (1, .int (nI p))]) hx hb d_Sr_characterSize_43 rfl hl (by decide) rfl (fun ls hl => ?_)
        refine lv_iload_n hx hb d_Sr_characterSize_44 rfl (lv_at hl 1 rfl) ?_
        refine lv_sipush (v := 192) hx hb d_Sr_characterSize_45 (by decide) ?_
        refine lv_icmp_lt (tgt := 68) hx hb d_Sr_characterSize_48 (by decide) (fun c_48 => ?_) (fun c_48 => ?_)
        · have ho : bv bs p < 192 ∨ 247 < bv bs p ∨ en - p < chS (bv bs p) := by
            first
            | exact Or.inl ((nI_ltI (b := 192) (by omega) (by omega)).mp c_48)
            | exact Or.inr (Or.inl ((nI_ltI (a := 247) (by omega) (by omega)).mp c_55))
            | (refine Or.inr (Or.inr ?_); rw [hsz]; exact Nat.lt_of_not_le (fun q => c_65 (by rw [pk_sub (by omega)]; exact nI_le (a := 2) q (by omega))))
          refine lv_iconst (v := 0) hx hb d_Sr_characterSize_68 (by decide) ?_
          exact cRi (nI en, lmI, f, pl) hx hb hr hlocks d_Sr_characterSize_69 hS hP hD (⟨by rw [pChar_0 (by omega) ho]; rfl, rfl⟩) (Nat.le_refl _) (Nat.le_refl _)
        · refine lv_iload_n hx hb d_Sr_characterSize_51 rfl (lv_at hl 1 rfl) ?_
          refine lv_sipush (v := 247) hx hb d_Sr_characterSize_52 (by decide) ?_
          refine lv_icmp_gt (tgt := 68) hx hb d_Sr_characterSize_55 (by decide) (fun c_55 => ?_) (fun c_55 => ?_)
          · have ho : bv bs p < 192 ∨ 247 < bv bs p ∨ en - p < chS (bv bs p) := by
              first
              | exact Or.inl ((nI_ltI (b := 192) (by omega) (by omega)).mp c_48)
              | exact Or.inr (Or.inl ((nI_ltI (a := 247) (by omega) (by omega)).mp c_55))
              | (refine Or.inr (Or.inr ?_); rw [hsz]; exact Nat.lt_of_not_le (fun q => c_65 (by rw [pk_sub (by omega)]; exact nI_le (a := 2) q (by omega))))
            refine lv_iconst (v := 0) hx hb d_Sr_characterSize_68 (by decide) ?_
            exact cRi (nI en, lmI, f, pl) hx hb hr hlocks d_Sr_characterSize_69 hS hP hD (⟨by rw [pChar_0 (by omega) ho]; rfl, rfl⟩) (Nat.le_refl _) (Nat.le_refl _)
          · refine lv_iload_n hx hb d_Sr_characterSize_58 rfl (lv_at hl 0 rfl) ?_
            refine lv_aload_n hx hb d_Sr_characterSize_59 rfl (lv_at hl 2 rfl) ?_
            refine va_get (D := D) (ci := 2) (v := .int (nI en)) (C := R_Sr) (T := F_Sr) (N := 5) hx hb hts (fun w h => List.mem_cons_of_mem _ (i_Sr w h)) hown hE.1 hP 0 rfl rfl 1 (by decide) (hts _ (List.mem_cons_of_mem _ iw1_97)) (fun _ h9 => h9) rfl d_Sr_characterSize_60 ?_
            refine lv_iload_n hx hb d_Sr_characterSize_63 rfl (lv_at hl 3 rfl) ?_
            refine lv_isub hx hb d_Sr_characterSize_64 ?_
            refine lv_icmp_le (tgt := 70) hx hb d_Sr_characterSize_65 (by decide) (fun c_65 => ?_) (fun c_65 => ?_)
            · have g1 : ¬ bv bs p < 192 := fun q => c_48 (nI_lt (b := 192) q (by omega))
              have g2 : ¬ 247 < bv bs p := fun q => c_55 (nI_lt (a := 247) q (by omega))
              rw [pk_sub (by omega)] at c_65
              have g3 : 2 ≤ en - p := (nI_leI (a := 2) (by omega) (by omega)).mp c_65
              have hgo := pChar_go (b := bv bs) (e := en) (p := p) (by omega) (by rw [hsz]; omega)
              rw [hsz] at hgo
              refine lv_iload_n hx hb d_Sr_characterSize_70 rfl (lv_at hl 1 rfl) ?_
              refine lv_bipush (v := 127) hx hb d_Sr_characterSize_71 (by decide) ?_
              refine lv_iload_n hx hb d_Sr_characterSize_73 rfl (lv_at hl 0 rfl) ?_
              refine lv_ishr hx hb d_Sr_characterSize_74 ?_
              refine lv_iand hx hb d_Sr_characterSize_75 ?_
              rw [pk_andN (n := bv bs p) (by omega) 5 (by decide +kernel)]
              obtain ⟨V0, hV0⟩ : ∃ z, z = bv bs p % 2 ^ 5 := ⟨_, rfl⟩
              rw [← hV0]
              have hT0 : chT (bv bs) p (2 - 1) 1 (bv bs p % 2 ^ (7 - 2)) = chT (bv bs) p 1 1 V0 := by rw [hV0]
              have hW0 : V0 < 32 := by rw [hV0]; exact Nat.mod_lt _ (by decide)
              refine lv_istore (lv' := [(4, .int (nI V0)), (3, .int 2), (2, .int (nI (bv bs p))), (0, .ref h0), (1, .int (nI p))]) hx hb d_Sr_characterSize_76 hl (by decide) rfl (fun ls hl => ?_)
              refine lv_iconst (v := 1) hx hb d_Sr_characterSize_78 (by decide) ?_
              refine lv_istore (lv' := [(5, .int 1), (4, .int (nI V0)), (3, .int 2), (2, .int (nI (bv bs p))), (0, .ref h0), (1, .int (nI p))]) hx hb d_Sr_characterSize_79 hl (by decide) rfl (fun ls hl => ?_)
              refine lv_iload hx hb d_Sr_characterSize_81 (lv_at hl 0 rfl) ?_
              refine lv_iload_n hx hb d_Sr_characterSize_83 rfl (lv_at hl 2 rfl) ?_
              refine lv_icmp_ge (tgt := 140) hx hb d_Sr_characterSize_84 (by decide) (fun c_84 => absurd c_84 (by decide)) (fun c_84 => ?_)
              refine lv_aload_n hx hb d_Sr_characterSize_87 rfl (lv_at hl 4 rfl) ?_
              refine va_get (D := D) (ci := 2) (v := .ref h1) (C := R_Sr) (T := F_Sr) (N := 5) hx hb hts (fun w h => List.mem_cons_of_mem _ (i_Sr w h)) hown hE.1 hP 0 rfl rfl 0 (by decide) (hts _ (List.mem_cons_of_mem _ iw1_96)) (fun _ h9 => h9) rfl d_Sr_characterSize_88 ?_
              refine lv_iload_n hx hb d_Sr_characterSize_91 rfl (lv_at hl 5 rfl) ?_
              refine lv_iload hx hb d_Sr_characterSize_92 (lv_at hl 0 rfl) ?_
              refine lv_iadd hx hb d_Sr_characterSize_94 ?_
              rw [show nI p + 1 = nI (p + 1) from nI_add p 1]
              refine va_bald hx hb hE.1 hP 1 0 rfl rfl (vp_in_nI (by omega) (by omega)) d_Sr_characterSize_95 ?_
              rw [nI_clamp (n := p + 1) (by omega)]
              refine lv_sipush (v := 255) hx hb d_Sr_characterSize_96 (by decide) ?_
              refine lv_iand hx hb d_Sr_characterSize_99 ?_
              rw [bv_and]
              have hB1 := bv_lt bs (p + 1)
              refine lv_istore (lv' := [(6, .int (nI (bv bs (p + 1)))), (5, .int 1), (4, .int (nI V0)), (3, .int 2), (2, .int (nI (bv bs p))), (0, .ref h0), (1, .int (nI p))]) hx hb d_Sr_characterSize_100 hl (by decide) rfl (fun ls hl => ?_)
              refine lv_iload hx hb d_Sr_characterSize_102 (lv_at hl 0 rfl) ?_
              refine lv_sipush (v := 128) hx hb d_Sr_characterSize_104 (by decide) ?_
              refine lv_icmp_lt (tgt := 118) hx hb d_Sr_characterSize_107 (by decide) (fun c_107 => ?_) (fun c_107 => ?_)
              · have hf : bv bs (p + 1) < 128 ∨ 191 < bv bs (p + 1) := by first | exact Or.inl ((nI_ltI (b := 128) (by omega) (by omega)).mp c_107) | exact Or.inr (Nat.lt_of_not_le (fun q => c_115 (nI_le (b := 191) q (by omega))))
                refine lv_iconst (v := 0) hx hb d_Sr_characterSize_118 (by decide) ?_
                exact cRi (nI en, lmI, f, pl) hx hb hr hlocks d_Sr_characterSize_119 hS hP hD (⟨by rw [hgo, hT0, chT_F hf]; rfl, rfl⟩) (Nat.le_refl _) (Nat.le_refl _)
              · refine lv_iload hx hb d_Sr_characterSize_110 (lv_at hl 0 rfl) ?_
                refine lv_sipush (v := 191) hx hb d_Sr_characterSize_112 (by decide) ?_
                refine lv_icmp_le (tgt := 120) hx hb d_Sr_characterSize_115 (by decide) (fun c_115 => ?_) (fun c_115 => ?_)
                · have hl1 : 128 ≤ bv bs (p + 1) := Nat.le_of_not_lt (fun q => c_107 (nI_lt (b := 128) q (by omega)))
                  have hh1 : bv bs (p + 1) ≤ 191 := (nI_leI (b := 191) (by omega) (by omega)).mp c_115
                  refine lv_iload hx hb d_Sr_characterSize_120 (lv_at hl 2 rfl) ?_
                  refine lv_bipush (v := 64) hx hb d_Sr_characterSize_122 (by decide) ?_
                  refine lv_imul hx hb d_Sr_characterSize_124 ?_
                  refine lv_iload hx hb d_Sr_characterSize_125 (lv_at hl 0 rfl) ?_
                  refine lv_sipush (v := 128) hx hb d_Sr_characterSize_127 (by decide) ?_
                  refine lv_isub hx hb d_Sr_characterSize_130 ?_
                  refine lv_iadd hx hb d_Sr_characterSize_131 ?_
                  rw [show nI V0 * 64 + (nI (bv bs (p + 1)) - 128) = nI (V0 * 64 + (bv bs (p + 1) - 128)) from by rw [show (64 : Int32) = nI 64 from rfl, show (128 : Int32) = nI 128 from rfl, pk_mul, pk_sub (by omega), nI_add]]
                  have hT1 := hT0.trans (chT_C (b := bv bs) (p := p) (n := 0) (i := 1) (v := V0) (by omega))
                  obtain ⟨V1, hV1⟩ : ∃ z, z = V0 * 64 + (bv bs (p + 1) - 128) := ⟨_, rfl⟩
                  rw [← hV1] at hT1 ⊢
                  have hW1 : V1 < 2048 := by omega
                  refine lv_istore (lv' := [(4, .int (nI V1)), (6, .int (nI (bv bs (p + 1)))), (5, .int 1), (3, .int 2), (2, .int (nI (bv bs p))), (0, .ref h0), (1, .int (nI p))]) hx hb d_Sr_characterSize_132 hl (by decide) rfl (fun ls hl => ?_)
                  refine lv_iinc (v := 2) (lv' := [(5, .int 2), (4, .int (nI V1)), (6, .int (nI (bv bs (p + 1)))), (3, .int 2), (2, .int (nI (bv bs p))), (0, .ref h0), (1, .int (nI p))]) hx hb d_Sr_characterSize_134 hl (k := 2) rfl (by decide) (by decide) rfl (fun ls hl => ?_)
                  refine lv_goto (tgt := 81) hx hb d_Sr_characterSize_137 (by decide) ?_
                  refine lv_iload hx hb d_Sr_characterSize_81 (lv_at hl 0 rfl) ?_
                  refine lv_iload_n hx hb d_Sr_characterSize_83 rfl (lv_at hl 3 rfl) ?_
                  refine lv_icmp_ge (tgt := 140) hx hb d_Sr_characterSize_84 (by decide) (fun c_84 => ?_) (fun c_84 => absurd (by decide) c_84)
                  refine lv_iload hx hb d_Sr_characterSize_140 (lv_at hl 1 rfl) ?_
                  refine lv_iload_n hx hb d_Sr_characterSize_142 rfl (lv_at hl 3 rfl) ?_
                  refine cS0 (As := [.int (nI V1), .int 2]) (rest := []) (n := 2) (r := (zI (nSz 2 V1))) ⟨hx, hb, hml, hown, hts⟩ hno hlocks hl.1 (c_Sr_needs2 l D cA ad s.heap.size V1 (by omega)) iw2_96 iw2_97 iw1_5 iw2_98 (by decide +kernel) rfl ⟨Nat.le_of_ble_eq_true rfl, Nat.le_of_ble_eq_true rfl⟩ ⟨Nat.le_of_ble_eq_true rfl, Nat.le_of_ble_eq_true rfl⟩ rfl (Nat.le_of_ble_eq_true rfl) d_Sr_characterSize_143 hE hP hD hS hA [0, 1] rfl rfl (fun H locs hP hD hS => ?_)
                  refine lv_if_eq (tgt := 153) hx hb d_Sr_characterSize_146 (by decide) (fun c_146 => ?_) (fun c_146 => ?_)
                  · refine lv_iconst (v := 0) hx hb d_Sr_characterSize_153 (by decide) ?_
                    have hz : nSz 2 V1 = false := zI_0.mp c_146
                    exact cRi (nI en, lmI, f, pl) hx hb hr hlocks d_Sr_characterSize_154 hS hP hD (⟨by rw [hgo, hT1]; simp only [chT, hz]; rfl, rfl⟩) (Nat.le_refl _) (Nat.le_refl _)
                  · refine lv_iload_n hx hb d_Sr_characterSize_149 rfl (lv_at hl 3 rfl) ?_
                    refine lv_goto (tgt := 154) hx hb d_Sr_characterSize_150 (by decide) ?_
                    have hz : nSz 2 V1 = true := by cases hy : nSz 2 V1 with | true => rfl | false => exact absurd (zI_0.mpr hy) c_146
                    exact cRi (nI en, lmI, f, pl) hx hb hr hlocks d_Sr_characterSize_154 hS hP hD (⟨by rw [hgo, hT1]; simp only [chT, hz]; rfl, rfl⟩) (Nat.le_refl _) (Nat.le_refl _)
                · have hf : bv bs (p + 1) < 128 ∨ 191 < bv bs (p + 1) := by first | exact Or.inl ((nI_ltI (b := 128) (by omega) (by omega)).mp c_107) | exact Or.inr (Nat.lt_of_not_le (fun q => c_115 (nI_le (b := 191) q (by omega))))
                  refine lv_iconst (v := 0) hx hb d_Sr_characterSize_118 (by decide) ?_
                  exact cRi (nI en, lmI, f, pl) hx hb hr hlocks d_Sr_characterSize_119 hS hP hD (⟨by rw [hgo, hT0, chT_F hf]; rfl, rfl⟩) (Nat.le_refl _) (Nat.le_refl _)
            · have ho : bv bs p < 192 ∨ 247 < bv bs p ∨ en - p < chS (bv bs p) := by
                first
                | exact Or.inl ((nI_ltI (b := 192) (by omega) (by omega)).mp c_48)
                | exact Or.inr (Or.inl ((nI_ltI (a := 247) (by omega) (by omega)).mp c_55))
                | (refine Or.inr (Or.inr ?_); rw [hsz]; exact Nat.lt_of_not_le (fun q => c_65 (by rw [pk_sub (by omega)]; exact nI_le (a := 2) q (by omega))))
              refine lv_iconst (v := 0) hx hb d_Sr_characterSize_68 (by decide) ?_
              exact cRi (nI en, lmI, f, pl) hx hb hr hlocks d_Sr_characterSize_69 hS hP hD (⟨by rw [pChar_0 (by omega) ho]; rfl, rfl⟩) (Nat.le_refl _) (Nat.le_refl _)
      · have r35 : 224 ≤ bv bs p := Nat.le_of_not_lt (fun q => c_35 (nI_lt (b := 224) q (by omega)))
        refine lv_iconst (v := 3) hx hb d_Sr_characterSize_38 (by decide) ?_
        refine lv_goto (tgt := 43) hx hb d_Sr_characterSize_39 (by decide) ?_
        have hsz : chS (bv bs p) = 3 := by simp only [chS]; rw [if_neg (by omega), if_pos (by omega)]
        refine lv_istore_n (lv' := [(3, .int 3), (2, .int (nI (bv bs p))), (0, .ref h0), (1, .int (nI p))]) hx hb d_Sr_characterSize_43 rfl hl (by decide) rfl (fun ls hl => ?_)
        refine lv_iload_n hx hb d_Sr_characterSize_44 rfl (lv_at hl 1 rfl) ?_
        refine lv_sipush (v := 192) hx hb d_Sr_characterSize_45 (by decide) ?_
        refine lv_icmp_lt (tgt := 68) hx hb d_Sr_characterSize_48 (by decide) (fun c_48 => ?_) (fun c_48 => ?_)
        · have ho : bv bs p < 192 ∨ 247 < bv bs p ∨ en - p < chS (bv bs p) := by
            first
            | exact Or.inl ((nI_ltI (b := 192) (by omega) (by omega)).mp c_48)
            | exact Or.inr (Or.inl ((nI_ltI (a := 247) (by omega) (by omega)).mp c_55))
            | (refine Or.inr (Or.inr ?_); rw [hsz]; exact Nat.lt_of_not_le (fun q => c_65 (by rw [pk_sub (by omega)]; exact nI_le (a := 3) q (by omega))))
          refine lv_iconst (v := 0) hx hb d_Sr_characterSize_68 (by decide) ?_
          exact cRi (nI en, lmI, f, pl) hx hb hr hlocks d_Sr_characterSize_69 hS hP hD (⟨by rw [pChar_0 (by omega) ho]; rfl, rfl⟩) (Nat.le_refl _) (Nat.le_refl _)
        · refine lv_iload_n hx hb d_Sr_characterSize_51 rfl (lv_at hl 1 rfl) ?_
          refine lv_sipush (v := 247) hx hb d_Sr_characterSize_52 (by decide) ?_
          refine lv_icmp_gt (tgt := 68) hx hb d_Sr_characterSize_55 (by decide) (fun c_55 => ?_) (fun c_55 => ?_)
          · have ho : bv bs p < 192 ∨ 247 < bv bs p ∨ en - p < chS (bv bs p) := by
              first
              | exact Or.inl ((nI_ltI (b := 192) (by omega) (by omega)).mp c_48)
              | exact Or.inr (Or.inl ((nI_ltI (a := 247) (by omega) (by omega)).mp c_55))
              | (refine Or.inr (Or.inr ?_); rw [hsz]; exact Nat.lt_of_not_le (fun q => c_65 (by rw [pk_sub (by omega)]; exact nI_le (a := 3) q (by omega))))
            refine lv_iconst (v := 0) hx hb d_Sr_characterSize_68 (by decide) ?_
            exact cRi (nI en, lmI, f, pl) hx hb hr hlocks d_Sr_characterSize_69 hS hP hD (⟨by rw [pChar_0 (by omega) ho]; rfl, rfl⟩) (Nat.le_refl _) (Nat.le_refl _)
          · refine lv_iload_n hx hb d_Sr_characterSize_58 rfl (lv_at hl 0 rfl) ?_
            refine lv_aload_n hx hb d_Sr_characterSize_59 rfl (lv_at hl 2 rfl) ?_
            refine va_get (D := D) (ci := 2) (v := .int (nI en)) (C := R_Sr) (T := F_Sr) (N := 5) hx hb hts (fun w h => List.mem_cons_of_mem _ (i_Sr w h)) hown hE.1 hP 0 rfl rfl 1 (by decide) (hts _ (List.mem_cons_of_mem _ iw1_97)) (fun _ h9 => h9) rfl d_Sr_characterSize_60 ?_
            refine lv_iload_n hx hb d_Sr_characterSize_63 rfl (lv_at hl 3 rfl) ?_
            refine lv_isub hx hb d_Sr_characterSize_64 ?_
            refine lv_icmp_le (tgt := 70) hx hb d_Sr_characterSize_65 (by decide) (fun c_65 => ?_) (fun c_65 => ?_)
            · have g1 : ¬ bv bs p < 192 := fun q => c_48 (nI_lt (b := 192) q (by omega))
              have g2 : ¬ 247 < bv bs p := fun q => c_55 (nI_lt (a := 247) q (by omega))
              rw [pk_sub (by omega)] at c_65
              have g3 : 3 ≤ en - p := (nI_leI (a := 3) (by omega) (by omega)).mp c_65
              have hgo := pChar_go (b := bv bs) (e := en) (p := p) (by omega) (by rw [hsz]; omega)
              rw [hsz] at hgo
              refine lv_iload_n hx hb d_Sr_characterSize_70 rfl (lv_at hl 1 rfl) ?_
              refine lv_bipush (v := 127) hx hb d_Sr_characterSize_71 (by decide) ?_
              refine lv_iload_n hx hb d_Sr_characterSize_73 rfl (lv_at hl 0 rfl) ?_
              refine lv_ishr hx hb d_Sr_characterSize_74 ?_
              refine lv_iand hx hb d_Sr_characterSize_75 ?_
              rw [pk_andN (n := bv bs p) (by omega) 4 (by decide +kernel)]
              obtain ⟨V0, hV0⟩ : ∃ z, z = bv bs p % 2 ^ 4 := ⟨_, rfl⟩
              rw [← hV0]
              have hT0 : chT (bv bs) p (3 - 1) 1 (bv bs p % 2 ^ (7 - 3)) = chT (bv bs) p 2 1 V0 := by rw [hV0]
              have hW0 : V0 < 16 := by rw [hV0]; exact Nat.mod_lt _ (by decide)
              refine lv_istore (lv' := [(4, .int (nI V0)), (3, .int 3), (2, .int (nI (bv bs p))), (0, .ref h0), (1, .int (nI p))]) hx hb d_Sr_characterSize_76 hl (by decide) rfl (fun ls hl => ?_)
              refine lv_iconst (v := 1) hx hb d_Sr_characterSize_78 (by decide) ?_
              refine lv_istore (lv' := [(5, .int 1), (4, .int (nI V0)), (3, .int 3), (2, .int (nI (bv bs p))), (0, .ref h0), (1, .int (nI p))]) hx hb d_Sr_characterSize_79 hl (by decide) rfl (fun ls hl => ?_)
              refine lv_iload hx hb d_Sr_characterSize_81 (lv_at hl 0 rfl) ?_
              refine lv_iload_n hx hb d_Sr_characterSize_83 rfl (lv_at hl 2 rfl) ?_
              refine lv_icmp_ge (tgt := 140) hx hb d_Sr_characterSize_84 (by decide) (fun c_84 => absurd c_84 (by decide)) (fun c_84 => ?_)
              refine lv_aload_n hx hb d_Sr_characterSize_87 rfl (lv_at hl 4 rfl) ?_
              refine va_get (D := D) (ci := 2) (v := .ref h1) (C := R_Sr) (T := F_Sr) (N := 5) hx hb hts (fun w h => List.mem_cons_of_mem _ (i_Sr w h)) hown hE.1 hP 0 rfl rfl 0 (by decide) (hts _ (List.mem_cons_of_mem _ iw1_96)) (fun _ h9 => h9) rfl d_Sr_characterSize_88 ?_
              refine lv_iload_n hx hb d_Sr_characterSize_91 rfl (lv_at hl 5 rfl) ?_
              refine lv_iload hx hb d_Sr_characterSize_92 (lv_at hl 0 rfl) ?_
              refine lv_iadd hx hb d_Sr_characterSize_94 ?_
              rw [show nI p + 1 = nI (p + 1) from nI_add p 1]
              refine va_bald hx hb hE.1 hP 1 0 rfl rfl (vp_in_nI (by omega) (by omega)) d_Sr_characterSize_95 ?_
              rw [nI_clamp (n := p + 1) (by omega)]
              refine lv_sipush (v := 255) hx hb d_Sr_characterSize_96 (by decide) ?_
              refine lv_iand hx hb d_Sr_characterSize_99 ?_
              rw [bv_and]
              have hB1 := bv_lt bs (p + 1)
              refine lv_istore (lv' := [(6, .int (nI (bv bs (p + 1)))), (5, .int 1), (4, .int (nI V0)), (3, .int 3), (2, .int (nI (bv bs p))), (0, .ref h0), (1, .int (nI p))]) hx hb d_Sr_characterSize_100 hl (by decide) rfl (fun ls hl => ?_)
              refine lv_iload hx hb d_Sr_characterSize_102 (lv_at hl 0 rfl) ?_
              refine lv_sipush (v := 128) hx hb d_Sr_characterSize_104 (by decide) ?_
              refine lv_icmp_lt (tgt := 118) hx hb d_Sr_characterSize_107 (by decide) (fun c_107 => ?_) (fun c_107 => ?_)
              · have hf : bv bs (p + 1) < 128 ∨ 191 < bv bs (p + 1) := by first | exact Or.inl ((nI_ltI (b := 128) (by omega) (by omega)).mp c_107) | exact Or.inr (Nat.lt_of_not_le (fun q => c_115 (nI_le (b := 191) q (by omega))))
                refine lv_iconst (v := 0) hx hb d_Sr_characterSize_118 (by decide) ?_
                exact cRi (nI en, lmI, f, pl) hx hb hr hlocks d_Sr_characterSize_119 hS hP hD (⟨by rw [hgo, hT0, chT_F hf]; rfl, rfl⟩) (Nat.le_refl _) (Nat.le_refl _)
              · refine lv_iload hx hb d_Sr_characterSize_110 (lv_at hl 0 rfl) ?_
                refine lv_sipush (v := 191) hx hb d_Sr_characterSize_112 (by decide) ?_
                refine lv_icmp_le (tgt := 120) hx hb d_Sr_characterSize_115 (by decide) (fun c_115 => ?_) (fun c_115 => ?_)
                · have hl1 : 128 ≤ bv bs (p + 1) := Nat.le_of_not_lt (fun q => c_107 (nI_lt (b := 128) q (by omega)))
                  have hh1 : bv bs (p + 1) ≤ 191 := (nI_leI (b := 191) (by omega) (by omega)).mp c_115
                  refine lv_iload hx hb d_Sr_characterSize_120 (lv_at hl 2 rfl) ?_
                  refine lv_bipush (v := 64) hx hb d_Sr_characterSize_122 (by decide) ?_
                  refine lv_imul hx hb d_Sr_characterSize_124 ?_
                  refine lv_iload hx hb d_Sr_characterSize_125 (lv_at hl 0 rfl) ?_
                  refine lv_sipush (v := 128) hx hb d_Sr_characterSize_127 (by decide) ?_
                  refine lv_isub hx hb d_Sr_characterSize_130 ?_
                  refine lv_iadd hx hb d_Sr_characterSize_131 ?_
                  rw [show nI V0 * 64 + (nI (bv bs (p + 1)) - 128) = nI (V0 * 64 + (bv bs (p + 1) - 128)) from by rw [show (64 : Int32) = nI 64 from rfl, show (128 : Int32) = nI 128 from rfl, pk_mul, pk_sub (by omega), nI_add]]
                  have hT1 := hT0.trans (chT_C (b := bv bs) (p := p) (n := 1) (i := 1) (v := V0) (by omega))
                  obtain ⟨V1, hV1⟩ : ∃ z, z = V0 * 64 + (bv bs (p + 1) - 128) := ⟨_, rfl⟩
                  rw [← hV1] at hT1 ⊢
                  have hW1 : V1 < 1024 := by omega
                  refine lv_istore (lv' := [(4, .int (nI V1)), (6, .int (nI (bv bs (p + 1)))), (5, .int 1), (3, .int 3), (2, .int (nI (bv bs p))), (0, .ref h0), (1, .int (nI p))]) hx hb d_Sr_characterSize_132 hl (by decide) rfl (fun ls hl => ?_)
                  refine lv_iinc (v := 2) (lv' := [(5, .int 2), (4, .int (nI V1)), (6, .int (nI (bv bs (p + 1)))), (3, .int 3), (2, .int (nI (bv bs p))), (0, .ref h0), (1, .int (nI p))]) hx hb d_Sr_characterSize_134 hl (k := 2) rfl (by decide) (by decide) rfl (fun ls hl => ?_)
                  refine lv_goto (tgt := 81) hx hb d_Sr_characterSize_137 (by decide) ?_
                  refine lv_iload hx hb d_Sr_characterSize_81 (lv_at hl 0 rfl) ?_
                  refine lv_iload_n hx hb d_Sr_characterSize_83 rfl (lv_at hl 3 rfl) ?_
                  refine lv_icmp_ge (tgt := 140) hx hb d_Sr_characterSize_84 (by decide) (fun c_84 => absurd c_84 (by decide)) (fun c_84 => ?_)
                  refine lv_aload_n hx hb d_Sr_characterSize_87 rfl (lv_at hl 5 rfl) ?_
                  refine va_get (D := D) (ci := 2) (v := .ref h1) (C := R_Sr) (T := F_Sr) (N := 5) hx hb hts (fun w h => List.mem_cons_of_mem _ (i_Sr w h)) hown hE.1 hP 0 rfl rfl 0 (by decide) (hts _ (List.mem_cons_of_mem _ iw1_96)) (fun _ h9 => h9) rfl d_Sr_characterSize_88 ?_
                  refine lv_iload_n hx hb d_Sr_characterSize_91 rfl (lv_at hl 6 rfl) ?_
                  refine lv_iload hx hb d_Sr_characterSize_92 (lv_at hl 0 rfl) ?_
                  refine lv_iadd hx hb d_Sr_characterSize_94 ?_
                  rw [show nI p + 2 = nI (p + 2) from nI_add p 2]
                  refine va_bald hx hb hE.1 hP 1 0 rfl rfl (vp_in_nI (by omega) (by omega)) d_Sr_characterSize_95 ?_
                  rw [nI_clamp (n := p + 2) (by omega)]
                  refine lv_sipush (v := 255) hx hb d_Sr_characterSize_96 (by decide) ?_
                  refine lv_iand hx hb d_Sr_characterSize_99 ?_
                  rw [bv_and]
                  have hB2 := bv_lt bs (p + 2)
                  refine lv_istore (lv' := [(6, .int (nI (bv bs (p + 2)))), (5, .int 2), (4, .int (nI V1)), (3, .int 3), (2, .int (nI (bv bs p))), (0, .ref h0), (1, .int (nI p))]) hx hb d_Sr_characterSize_100 hl (by decide) rfl (fun ls hl => ?_)
                  refine lv_iload hx hb d_Sr_characterSize_102 (lv_at hl 0 rfl) ?_
                  refine lv_sipush (v := 128) hx hb d_Sr_characterSize_104 (by decide) ?_
                  refine lv_icmp_lt (tgt := 118) hx hb d_Sr_characterSize_107 (by decide) (fun c_107 => ?_) (fun c_107 => ?_)
                  · have hf : bv bs (p + 2) < 128 ∨ 191 < bv bs (p + 2) := by first | exact Or.inl ((nI_ltI (b := 128) (by omega) (by omega)).mp c_107) | exact Or.inr (Nat.lt_of_not_le (fun q => c_115 (nI_le (b := 191) q (by omega))))
                    refine lv_iconst (v := 0) hx hb d_Sr_characterSize_118 (by decide) ?_
                    exact cRi (nI en, lmI, f, pl) hx hb hr hlocks d_Sr_characterSize_119 hS hP hD (⟨by rw [hgo, hT1, chT_F hf]; rfl, rfl⟩) (Nat.le_refl _) (Nat.le_refl _)
                  · refine lv_iload hx hb d_Sr_characterSize_110 (lv_at hl 0 rfl) ?_
                    refine lv_sipush (v := 191) hx hb d_Sr_characterSize_112 (by decide) ?_
                    refine lv_icmp_le (tgt := 120) hx hb d_Sr_characterSize_115 (by decide) (fun c_115 => ?_) (fun c_115 => ?_)
                    · have hl2 : 128 ≤ bv bs (p + 2) := Nat.le_of_not_lt (fun q => c_107 (nI_lt (b := 128) q (by omega)))
                      have hh2 : bv bs (p + 2) ≤ 191 := (nI_leI (b := 191) (by omega) (by omega)).mp c_115
                      refine lv_iload hx hb d_Sr_characterSize_120 (lv_at hl 2 rfl) ?_
                      refine lv_bipush (v := 64) hx hb d_Sr_characterSize_122 (by decide) ?_
                      refine lv_imul hx hb d_Sr_characterSize_124 ?_
                      refine lv_iload hx hb d_Sr_characterSize_125 (lv_at hl 0 rfl) ?_
                      refine lv_sipush (v := 128) hx hb d_Sr_characterSize_127 (by decide) ?_
                      refine lv_isub hx hb d_Sr_characterSize_130 ?_
                      refine lv_iadd hx hb d_Sr_characterSize_131 ?_
                      rw [show nI V1 * 64 + (nI (bv bs (p + 2)) - 128) = nI (V1 * 64 + (bv bs (p + 2) - 128)) from by rw [show (64 : Int32) = nI 64 from rfl, show (128 : Int32) = nI 128 from rfl, pk_mul, pk_sub (by omega), nI_add]]
                      have hT2 := hT1.trans (chT_C (b := bv bs) (p := p) (n := 0) (i := 2) (v := V1) (by omega))
                      obtain ⟨V2, hV2⟩ : ∃ z, z = V1 * 64 + (bv bs (p + 2) - 128) := ⟨_, rfl⟩
                      rw [← hV2] at hT2 ⊢
                      have hW2 : V2 < 65536 := by omega
                      refine lv_istore (lv' := [(4, .int (nI V2)), (6, .int (nI (bv bs (p + 2)))), (5, .int 2), (3, .int 3), (2, .int (nI (bv bs p))), (0, .ref h0), (1, .int (nI p))]) hx hb d_Sr_characterSize_132 hl (by decide) rfl (fun ls hl => ?_)
                      refine lv_iinc (v := 3) (lv' := [(5, .int 3), (4, .int (nI V2)), (6, .int (nI (bv bs (p + 2)))), (3, .int 3), (2, .int (nI (bv bs p))), (0, .ref h0), (1, .int (nI p))]) hx hb d_Sr_characterSize_134 hl (k := 2) rfl (by decide) (by decide) rfl (fun ls hl => ?_)
                      refine lv_goto (tgt := 81) hx hb d_Sr_characterSize_137 (by decide) ?_
                      refine lv_iload hx hb d_Sr_characterSize_81 (lv_at hl 0 rfl) ?_
                      refine lv_iload_n hx hb d_Sr_characterSize_83 rfl (lv_at hl 3 rfl) ?_
                      refine lv_icmp_ge (tgt := 140) hx hb d_Sr_characterSize_84 (by decide) (fun c_84 => ?_) (fun c_84 => absurd (by decide) c_84)
                      refine lv_iload hx hb d_Sr_characterSize_140 (lv_at hl 1 rfl) ?_
                      refine lv_iload_n hx hb d_Sr_characterSize_142 rfl (lv_at hl 3 rfl) ?_
                      refine cS0 (As := [.int (nI V2), .int 3]) (rest := []) (n := 2) (r := (zI (nSz 3 V2))) ⟨hx, hb, hml, hown, hts⟩ hno hlocks hl.1 (c_Sr_needs3 l D cA ad s.heap.size V2 (by omega)) iw2_96 iw2_97 iw1_5 iw2_98 (by decide +kernel) rfl ⟨Nat.le_of_ble_eq_true rfl, Nat.le_of_ble_eq_true rfl⟩ ⟨Nat.le_of_ble_eq_true rfl, Nat.le_of_ble_eq_true rfl⟩ rfl (Nat.le_of_ble_eq_true rfl) d_Sr_characterSize_143 hE hP hD hS hA [0, 1] rfl rfl (fun H locs hP hD hS => ?_)
                      refine lv_if_eq (tgt := 153) hx hb d_Sr_characterSize_146 (by decide) (fun c_146 => ?_) (fun c_146 => ?_)
                      · refine lv_iconst (v := 0) hx hb d_Sr_characterSize_153 (by decide) ?_
                        have hz : nSz 3 V2 = false := zI_0.mp c_146
                        exact cRi (nI en, lmI, f, pl) hx hb hr hlocks d_Sr_characterSize_154 hS hP hD (⟨by rw [hgo, hT2]; simp only [chT, hz]; rfl, rfl⟩) (Nat.le_refl _) (Nat.le_refl _)
                      · refine lv_iload_n hx hb d_Sr_characterSize_149 rfl (lv_at hl 3 rfl) ?_
                        refine lv_goto (tgt := 154) hx hb d_Sr_characterSize_150 (by decide) ?_
                        have hz : nSz 3 V2 = true := by cases hy : nSz 3 V2 with | true => rfl | false => exact absurd (zI_0.mpr hy) c_146
                        exact cRi (nI en, lmI, f, pl) hx hb hr hlocks d_Sr_characterSize_154 hS hP hD (⟨by rw [hgo, hT2]; simp only [chT, hz]; rfl, rfl⟩) (Nat.le_refl _) (Nat.le_refl _)
                    · have hf : bv bs (p + 2) < 128 ∨ 191 < bv bs (p + 2) := by first | exact Or.inl ((nI_ltI (b := 128) (by omega) (by omega)).mp c_107) | exact Or.inr (Nat.lt_of_not_le (fun q => c_115 (nI_le (b := 191) q (by omega))))
                      refine lv_iconst (v := 0) hx hb d_Sr_characterSize_118 (by decide) ?_
                      exact cRi (nI en, lmI, f, pl) hx hb hr hlocks d_Sr_characterSize_119 hS hP hD (⟨by rw [hgo, hT1, chT_F hf]; rfl, rfl⟩) (Nat.le_refl _) (Nat.le_refl _)
                · have hf : bv bs (p + 1) < 128 ∨ 191 < bv bs (p + 1) := by first | exact Or.inl ((nI_ltI (b := 128) (by omega) (by omega)).mp c_107) | exact Or.inr (Nat.lt_of_not_le (fun q => c_115 (nI_le (b := 191) q (by omega))))
                  refine lv_iconst (v := 0) hx hb d_Sr_characterSize_118 (by decide) ?_
                  exact cRi (nI en, lmI, f, pl) hx hb hr hlocks d_Sr_characterSize_119 hS hP hD (⟨by rw [hgo, hT0, chT_F hf]; rfl, rfl⟩) (Nat.le_refl _) (Nat.le_refl _)
            · have ho : bv bs p < 192 ∨ 247 < bv bs p ∨ en - p < chS (bv bs p) := by
                first
                | exact Or.inl ((nI_ltI (b := 192) (by omega) (by omega)).mp c_48)
                | exact Or.inr (Or.inl ((nI_ltI (a := 247) (by omega) (by omega)).mp c_55))
                | (refine Or.inr (Or.inr ?_); rw [hsz]; exact Nat.lt_of_not_le (fun q => c_65 (by rw [pk_sub (by omega)]; exact nI_le (a := 3) q (by omega))))
              refine lv_iconst (v := 0) hx hb d_Sr_characterSize_68 (by decide) ?_
              exact cRi (nI en, lmI, f, pl) hx hb hr hlocks d_Sr_characterSize_69 hS hP hD (⟨by rw [pChar_0 (by omega) ho]; rfl, rfl⟩) (Nat.le_refl _) (Nat.le_refl _)
    · have r24 : 240 ≤ bv bs p := Nat.le_of_not_lt (fun q => c_24 (nI_lt (b := 240) q (by omega)))
      refine lv_iconst (v := 4) hx hb d_Sr_characterSize_27 (by decide) ?_
      refine lv_goto (tgt := 43) hx hb d_Sr_characterSize_28 (by decide) ?_
      have hsz : chS (bv bs p) = 4 := by simp only [chS]; rw [if_pos (by omega)]
      refine lv_istore_n (lv' := [(3, .int 4), (2, .int (nI (bv bs p))), (0, .ref h0), (1, .int (nI p))]) hx hb d_Sr_characterSize_43 rfl hl (by decide) rfl (fun ls hl => ?_)
      refine lv_iload_n hx hb d_Sr_characterSize_44 rfl (lv_at hl 1 rfl) ?_
      refine lv_sipush (v := 192) hx hb d_Sr_characterSize_45 (by decide) ?_
      refine lv_icmp_lt (tgt := 68) hx hb d_Sr_characterSize_48 (by decide) (fun c_48 => ?_) (fun c_48 => ?_)
      · have ho : bv bs p < 192 ∨ 247 < bv bs p ∨ en - p < chS (bv bs p) := by
          first
          | exact Or.inl ((nI_ltI (b := 192) (by omega) (by omega)).mp c_48)
          | exact Or.inr (Or.inl ((nI_ltI (a := 247) (by omega) (by omega)).mp c_55))
          | (refine Or.inr (Or.inr ?_); rw [hsz]; exact Nat.lt_of_not_le (fun q => c_65 (by rw [pk_sub (by omega)]; exact nI_le (a := 4) q (by omega))))
        refine lv_iconst (v := 0) hx hb d_Sr_characterSize_68 (by decide) ?_
        exact cRi (nI en, lmI, f, pl) hx hb hr hlocks d_Sr_characterSize_69 hS hP hD (⟨by rw [pChar_0 (by omega) ho]; rfl, rfl⟩) (Nat.le_refl _) (Nat.le_refl _)
      · refine lv_iload_n hx hb d_Sr_characterSize_51 rfl (lv_at hl 1 rfl) ?_
        refine lv_sipush (v := 247) hx hb d_Sr_characterSize_52 (by decide) ?_
        refine lv_icmp_gt (tgt := 68) hx hb d_Sr_characterSize_55 (by decide) (fun c_55 => ?_) (fun c_55 => ?_)
        · have ho : bv bs p < 192 ∨ 247 < bv bs p ∨ en - p < chS (bv bs p) := by
            first
            | exact Or.inl ((nI_ltI (b := 192) (by omega) (by omega)).mp c_48)
            | exact Or.inr (Or.inl ((nI_ltI (a := 247) (by omega) (by omega)).mp c_55))
            | (refine Or.inr (Or.inr ?_); rw [hsz]; exact Nat.lt_of_not_le (fun q => c_65 (by rw [pk_sub (by omega)]; exact nI_le (a := 4) q (by omega))))
          refine lv_iconst (v := 0) hx hb d_Sr_characterSize_68 (by decide) ?_
          exact cRi (nI en, lmI, f, pl) hx hb hr hlocks d_Sr_characterSize_69 hS hP hD (⟨by rw [pChar_0 (by omega) ho]; rfl, rfl⟩) (Nat.le_refl _) (Nat.le_refl _)
        · refine lv_iload_n hx hb d_Sr_characterSize_58 rfl (lv_at hl 0 rfl) ?_
          refine lv_aload_n hx hb d_Sr_characterSize_59 rfl (lv_at hl 2 rfl) ?_
          refine va_get (D := D) (ci := 2) (v := .int (nI en)) (C := R_Sr) (T := F_Sr) (N := 5) hx hb hts (fun w h => List.mem_cons_of_mem _ (i_Sr w h)) hown hE.1 hP 0 rfl rfl 1 (by decide) (hts _ (List.mem_cons_of_mem _ iw1_97)) (fun _ h9 => h9) rfl d_Sr_characterSize_60 ?_
          refine lv_iload_n hx hb d_Sr_characterSize_63 rfl (lv_at hl 3 rfl) ?_
          refine lv_isub hx hb d_Sr_characterSize_64 ?_
          refine lv_icmp_le (tgt := 70) hx hb d_Sr_characterSize_65 (by decide) (fun c_65 => ?_) (fun c_65 => ?_)
          · have g1 : ¬ bv bs p < 192 := fun q => c_48 (nI_lt (b := 192) q (by omega))
            have g2 : ¬ 247 < bv bs p := fun q => c_55 (nI_lt (a := 247) q (by omega))
            rw [pk_sub (by omega)] at c_65
            have g3 : 4 ≤ en - p := (nI_leI (a := 4) (by omega) (by omega)).mp c_65
            have hgo := pChar_go (b := bv bs) (e := en) (p := p) (by omega) (by rw [hsz]; omega)
            rw [hsz] at hgo
            refine lv_iload_n hx hb d_Sr_characterSize_70 rfl (lv_at hl 1 rfl) ?_
            refine lv_bipush (v := 127) hx hb d_Sr_characterSize_71 (by decide) ?_
            refine lv_iload_n hx hb d_Sr_characterSize_73 rfl (lv_at hl 0 rfl) ?_
            refine lv_ishr hx hb d_Sr_characterSize_74 ?_
            refine lv_iand hx hb d_Sr_characterSize_75 ?_
            rw [pk_andN (n := bv bs p) (by omega) 3 (by decide +kernel)]
            obtain ⟨V0, hV0⟩ : ∃ z, z = bv bs p % 2 ^ 3 := ⟨_, rfl⟩
            rw [← hV0]
            have hT0 : chT (bv bs) p (4 - 1) 1 (bv bs p % 2 ^ (7 - 4)) = chT (bv bs) p 3 1 V0 := by rw [hV0]
            have hW0 : V0 < 8 := by rw [hV0]; exact Nat.mod_lt _ (by decide)
            refine lv_istore (lv' := [(4, .int (nI V0)), (3, .int 4), (2, .int (nI (bv bs p))), (0, .ref h0), (1, .int (nI p))]) hx hb d_Sr_characterSize_76 hl (by decide) rfl (fun ls hl => ?_)
            refine lv_iconst (v := 1) hx hb d_Sr_characterSize_78 (by decide) ?_
            refine lv_istore (lv' := [(5, .int 1), (4, .int (nI V0)), (3, .int 4), (2, .int (nI (bv bs p))), (0, .ref h0), (1, .int (nI p))]) hx hb d_Sr_characterSize_79 hl (by decide) rfl (fun ls hl => ?_)
            refine lv_iload hx hb d_Sr_characterSize_81 (lv_at hl 0 rfl) ?_
            refine lv_iload_n hx hb d_Sr_characterSize_83 rfl (lv_at hl 2 rfl) ?_
            refine lv_icmp_ge (tgt := 140) hx hb d_Sr_characterSize_84 (by decide) (fun c_84 => absurd c_84 (by decide)) (fun c_84 => ?_)
            refine lv_aload_n hx hb d_Sr_characterSize_87 rfl (lv_at hl 4 rfl) ?_
            refine va_get (D := D) (ci := 2) (v := .ref h1) (C := R_Sr) (T := F_Sr) (N := 5) hx hb hts (fun w h => List.mem_cons_of_mem _ (i_Sr w h)) hown hE.1 hP 0 rfl rfl 0 (by decide) (hts _ (List.mem_cons_of_mem _ iw1_96)) (fun _ h9 => h9) rfl d_Sr_characterSize_88 ?_
            refine lv_iload_n hx hb d_Sr_characterSize_91 rfl (lv_at hl 5 rfl) ?_
            refine lv_iload hx hb d_Sr_characterSize_92 (lv_at hl 0 rfl) ?_
            refine lv_iadd hx hb d_Sr_characterSize_94 ?_
            rw [show nI p + 1 = nI (p + 1) from nI_add p 1]
            refine va_bald hx hb hE.1 hP 1 0 rfl rfl (vp_in_nI (by omega) (by omega)) d_Sr_characterSize_95 ?_
            rw [nI_clamp (n := p + 1) (by omega)]
            refine lv_sipush (v := 255) hx hb d_Sr_characterSize_96 (by decide) ?_
            refine lv_iand hx hb d_Sr_characterSize_99 ?_
            rw [bv_and]
            have hB1 := bv_lt bs (p + 1)
            refine lv_istore (lv' := [(6, .int (nI (bv bs (p + 1)))), (5, .int 1), (4, .int (nI V0)), (3, .int 4), (2, .int (nI (bv bs p))), (0, .ref h0), (1, .int (nI p))]) hx hb d_Sr_characterSize_100 hl (by decide) rfl (fun ls hl => ?_)
            refine lv_iload hx hb d_Sr_characterSize_102 (lv_at hl 0 rfl) ?_
            refine lv_sipush (v := 128) hx hb d_Sr_characterSize_104 (by decide) ?_
            refine lv_icmp_lt (tgt := 118) hx hb d_Sr_characterSize_107 (by decide) (fun c_107 => ?_) (fun c_107 => ?_)
            · have hf : bv bs (p + 1) < 128 ∨ 191 < bv bs (p + 1) := by first | exact Or.inl ((nI_ltI (b := 128) (by omega) (by omega)).mp c_107) | exact Or.inr (Nat.lt_of_not_le (fun q => c_115 (nI_le (b := 191) q (by omega))))
              refine lv_iconst (v := 0) hx hb d_Sr_characterSize_118 (by decide) ?_
              exact cRi (nI en, lmI, f, pl) hx hb hr hlocks d_Sr_characterSize_119 hS hP hD (⟨by rw [hgo, hT0, chT_F hf]; rfl, rfl⟩) (Nat.le_refl _) (Nat.le_refl _)
            · refine lv_iload hx hb d_Sr_characterSize_110 (lv_at hl 0 rfl) ?_
              refine lv_sipush (v := 191) hx hb d_Sr_characterSize_112 (by decide) ?_
              refine lv_icmp_le (tgt := 120) hx hb d_Sr_characterSize_115 (by decide) (fun c_115 => ?_) (fun c_115 => ?_)
              · have hl1 : 128 ≤ bv bs (p + 1) := Nat.le_of_not_lt (fun q => c_107 (nI_lt (b := 128) q (by omega)))
                have hh1 : bv bs (p + 1) ≤ 191 := (nI_leI (b := 191) (by omega) (by omega)).mp c_115
                refine lv_iload hx hb d_Sr_characterSize_120 (lv_at hl 2 rfl) ?_
                refine lv_bipush (v := 64) hx hb d_Sr_characterSize_122 (by decide) ?_
                refine lv_imul hx hb d_Sr_characterSize_124 ?_
                refine lv_iload hx hb d_Sr_characterSize_125 (lv_at hl 0 rfl) ?_
                refine lv_sipush (v := 128) hx hb d_Sr_characterSize_127 (by decide) ?_
                refine lv_isub hx hb d_Sr_characterSize_130 ?_
                refine lv_iadd hx hb d_Sr_characterSize_131 ?_
                rw [show nI V0 * 64 + (nI (bv bs (p + 1)) - 128) = nI (V0 * 64 + (bv bs (p + 1) - 128)) from by rw [show (64 : Int32) = nI 64 from rfl, show (128 : Int32) = nI 128 from rfl, pk_mul, pk_sub (by omega), nI_add]]
                have hT1 := hT0.trans (chT_C (b := bv bs) (p := p) (n := 2) (i := 1) (v := V0) (by omega))
                obtain ⟨V1, hV1⟩ : ∃ z, z = V0 * 64 + (bv bs (p + 1) - 128) := ⟨_, rfl⟩
                rw [← hV1] at hT1 ⊢
                have hW1 : V1 < 512 := by omega
                refine lv_istore (lv' := [(4, .int (nI V1)), (6, .int (nI (bv bs (p + 1)))), (5, .int 1), (3, .int 4), (2, .int (nI (bv bs p))), (0, .ref h0), (1, .int (nI p))]) hx hb d_Sr_characterSize_132 hl (by decide) rfl (fun ls hl => ?_)
                refine lv_iinc (v := 2) (lv' := [(5, .int 2), (4, .int (nI V1)), (6, .int (nI (bv bs (p + 1)))), (3, .int 4), (2, .int (nI (bv bs p))), (0, .ref h0), (1, .int (nI p))]) hx hb d_Sr_characterSize_134 hl (k := 2) rfl (by decide) (by decide) rfl (fun ls hl => ?_)
                refine lv_goto (tgt := 81) hx hb d_Sr_characterSize_137 (by decide) ?_
                refine lv_iload hx hb d_Sr_characterSize_81 (lv_at hl 0 rfl) ?_
                refine lv_iload_n hx hb d_Sr_characterSize_83 rfl (lv_at hl 3 rfl) ?_
                refine lv_icmp_ge (tgt := 140) hx hb d_Sr_characterSize_84 (by decide) (fun c_84 => absurd c_84 (by decide)) (fun c_84 => ?_)
                refine lv_aload_n hx hb d_Sr_characterSize_87 rfl (lv_at hl 5 rfl) ?_
                refine va_get (D := D) (ci := 2) (v := .ref h1) (C := R_Sr) (T := F_Sr) (N := 5) hx hb hts (fun w h => List.mem_cons_of_mem _ (i_Sr w h)) hown hE.1 hP 0 rfl rfl 0 (by decide) (hts _ (List.mem_cons_of_mem _ iw1_96)) (fun _ h9 => h9) rfl d_Sr_characterSize_88 ?_
                refine lv_iload_n hx hb d_Sr_characterSize_91 rfl (lv_at hl 6 rfl) ?_
                refine lv_iload hx hb d_Sr_characterSize_92 (lv_at hl 0 rfl) ?_
                refine lv_iadd hx hb d_Sr_characterSize_94 ?_
                rw [show nI p + 2 = nI (p + 2) from nI_add p 2]
                refine va_bald hx hb hE.1 hP 1 0 rfl rfl (vp_in_nI (by omega) (by omega)) d_Sr_characterSize_95 ?_
                rw [nI_clamp (n := p + 2) (by omega)]
                refine lv_sipush (v := 255) hx hb d_Sr_characterSize_96 (by decide) ?_
                refine lv_iand hx hb d_Sr_characterSize_99 ?_
                rw [bv_and]
                have hB2 := bv_lt bs (p + 2)
                refine lv_istore (lv' := [(6, .int (nI (bv bs (p + 2)))), (5, .int 2), (4, .int (nI V1)), (3, .int 4), (2, .int (nI (bv bs p))), (0, .ref h0), (1, .int (nI p))]) hx hb d_Sr_characterSize_100 hl (by decide) rfl (fun ls hl => ?_)
                refine lv_iload hx hb d_Sr_characterSize_102 (lv_at hl 0 rfl) ?_
                refine lv_sipush (v := 128) hx hb d_Sr_characterSize_104 (by decide) ?_
                refine lv_icmp_lt (tgt := 118) hx hb d_Sr_characterSize_107 (by decide) (fun c_107 => ?_) (fun c_107 => ?_)
                · have hf : bv bs (p + 2) < 128 ∨ 191 < bv bs (p + 2) := by first | exact Or.inl ((nI_ltI (b := 128) (by omega) (by omega)).mp c_107) | exact Or.inr (Nat.lt_of_not_le (fun q => c_115 (nI_le (b := 191) q (by omega))))
                  refine lv_iconst (v := 0) hx hb d_Sr_characterSize_118 (by decide) ?_
                  exact cRi (nI en, lmI, f, pl) hx hb hr hlocks d_Sr_characterSize_119 hS hP hD (⟨by rw [hgo, hT1, chT_F hf]; rfl, rfl⟩) (Nat.le_refl _) (Nat.le_refl _)
                · refine lv_iload hx hb d_Sr_characterSize_110 (lv_at hl 0 rfl) ?_
                  refine lv_sipush (v := 191) hx hb d_Sr_characterSize_112 (by decide) ?_
                  refine lv_icmp_le (tgt := 120) hx hb d_Sr_characterSize_115 (by decide) (fun c_115 => ?_) (fun c_115 => ?_)
                  · have hl2 : 128 ≤ bv bs (p + 2) := Nat.le_of_not_lt (fun q => c_107 (nI_lt (b := 128) q (by omega)))
                    have hh2 : bv bs (p + 2) ≤ 191 := (nI_leI (b := 191) (by omega) (by omega)).mp c_115
                    refine lv_iload hx hb d_Sr_characterSize_120 (lv_at hl 2 rfl) ?_
                    refine lv_bipush (v := 64) hx hb d_Sr_characterSize_122 (by decide) ?_
                    refine lv_imul hx hb d_Sr_characterSize_124 ?_
                    refine lv_iload hx hb d_Sr_characterSize_125 (lv_at hl 0 rfl) ?_
                    refine lv_sipush (v := 128) hx hb d_Sr_characterSize_127 (by decide) ?_
                    refine lv_isub hx hb d_Sr_characterSize_130 ?_
                    refine lv_iadd hx hb d_Sr_characterSize_131 ?_
                    rw [show nI V1 * 64 + (nI (bv bs (p + 2)) - 128) = nI (V1 * 64 + (bv bs (p + 2) - 128)) from by rw [show (64 : Int32) = nI 64 from rfl, show (128 : Int32) = nI 128 from rfl, pk_mul, pk_sub (by omega), nI_add]]
                    have hT2 := hT1.trans (chT_C (b := bv bs) (p := p) (n := 1) (i := 2) (v := V1) (by omega))
                    obtain ⟨V2, hV2⟩ : ∃ z, z = V1 * 64 + (bv bs (p + 2) - 128) := ⟨_, rfl⟩
                    rw [← hV2] at hT2 ⊢
                    have hW2 : V2 < 32768 := by omega
                    refine lv_istore (lv' := [(4, .int (nI V2)), (6, .int (nI (bv bs (p + 2)))), (5, .int 2), (3, .int 4), (2, .int (nI (bv bs p))), (0, .ref h0), (1, .int (nI p))]) hx hb d_Sr_characterSize_132 hl (by decide) rfl (fun ls hl => ?_)
                    refine lv_iinc (v := 3) (lv' := [(5, .int 3), (4, .int (nI V2)), (6, .int (nI (bv bs (p + 2)))), (3, .int 4), (2, .int (nI (bv bs p))), (0, .ref h0), (1, .int (nI p))]) hx hb d_Sr_characterSize_134 hl (k := 2) rfl (by decide) (by decide) rfl (fun ls hl => ?_)
                    refine lv_goto (tgt := 81) hx hb d_Sr_characterSize_137 (by decide) ?_
                    refine lv_iload hx hb d_Sr_characterSize_81 (lv_at hl 0 rfl) ?_
                    refine lv_iload_n hx hb d_Sr_characterSize_83 rfl (lv_at hl 3 rfl) ?_
                    refine lv_icmp_ge (tgt := 140) hx hb d_Sr_characterSize_84 (by decide) (fun c_84 => absurd c_84 (by decide)) (fun c_84 => ?_)
                    refine lv_aload_n hx hb d_Sr_characterSize_87 rfl (lv_at hl 5 rfl) ?_
                    refine va_get (D := D) (ci := 2) (v := .ref h1) (C := R_Sr) (T := F_Sr) (N := 5) hx hb hts (fun w h => List.mem_cons_of_mem _ (i_Sr w h)) hown hE.1 hP 0 rfl rfl 0 (by decide) (hts _ (List.mem_cons_of_mem _ iw1_96)) (fun _ h9 => h9) rfl d_Sr_characterSize_88 ?_
                    refine lv_iload_n hx hb d_Sr_characterSize_91 rfl (lv_at hl 6 rfl) ?_
                    refine lv_iload hx hb d_Sr_characterSize_92 (lv_at hl 0 rfl) ?_
                    refine lv_iadd hx hb d_Sr_characterSize_94 ?_
                    rw [show nI p + 3 = nI (p + 3) from nI_add p 3]
                    refine va_bald hx hb hE.1 hP 1 0 rfl rfl (vp_in_nI (by omega) (by omega)) d_Sr_characterSize_95 ?_
                    rw [nI_clamp (n := p + 3) (by omega)]
                    refine lv_sipush (v := 255) hx hb d_Sr_characterSize_96 (by decide) ?_
                    refine lv_iand hx hb d_Sr_characterSize_99 ?_
                    rw [bv_and]
                    have hB3 := bv_lt bs (p + 3)
                    refine lv_istore (lv' := [(6, .int (nI (bv bs (p + 3)))), (5, .int 3), (4, .int (nI V2)), (3, .int 4), (2, .int (nI (bv bs p))), (0, .ref h0), (1, .int (nI p))]) hx hb d_Sr_characterSize_100 hl (by decide) rfl (fun ls hl => ?_)
                    refine lv_iload hx hb d_Sr_characterSize_102 (lv_at hl 0 rfl) ?_
                    refine lv_sipush (v := 128) hx hb d_Sr_characterSize_104 (by decide) ?_
                    refine lv_icmp_lt (tgt := 118) hx hb d_Sr_characterSize_107 (by decide) (fun c_107 => ?_) (fun c_107 => ?_)
                    · have hf : bv bs (p + 3) < 128 ∨ 191 < bv bs (p + 3) := by first | exact Or.inl ((nI_ltI (b := 128) (by omega) (by omega)).mp c_107) | exact Or.inr (Nat.lt_of_not_le (fun q => c_115 (nI_le (b := 191) q (by omega))))
                      refine lv_iconst (v := 0) hx hb d_Sr_characterSize_118 (by decide) ?_
                      exact cRi (nI en, lmI, f, pl) hx hb hr hlocks d_Sr_characterSize_119 hS hP hD (⟨by rw [hgo, hT2, chT_F hf]; rfl, rfl⟩) (Nat.le_refl _) (Nat.le_refl _)
                    · refine lv_iload hx hb d_Sr_characterSize_110 (lv_at hl 0 rfl) ?_
                      refine lv_sipush (v := 191) hx hb d_Sr_characterSize_112 (by decide) ?_
                      refine lv_icmp_le (tgt := 120) hx hb d_Sr_characterSize_115 (by decide) (fun c_115 => ?_) (fun c_115 => ?_)
                      · have hl3 : 128 ≤ bv bs (p + 3) := Nat.le_of_not_lt (fun q => c_107 (nI_lt (b := 128) q (by omega)))
                        have hh3 : bv bs (p + 3) ≤ 191 := (nI_leI (b := 191) (by omega) (by omega)).mp c_115
                        refine lv_iload hx hb d_Sr_characterSize_120 (lv_at hl 2 rfl) ?_
                        refine lv_bipush (v := 64) hx hb d_Sr_characterSize_122 (by decide) ?_
                        refine lv_imul hx hb d_Sr_characterSize_124 ?_
                        refine lv_iload hx hb d_Sr_characterSize_125 (lv_at hl 0 rfl) ?_
                        refine lv_sipush (v := 128) hx hb d_Sr_characterSize_127 (by decide) ?_
                        refine lv_isub hx hb d_Sr_characterSize_130 ?_
                        refine lv_iadd hx hb d_Sr_characterSize_131 ?_
                        rw [show nI V2 * 64 + (nI (bv bs (p + 3)) - 128) = nI (V2 * 64 + (bv bs (p + 3) - 128)) from by rw [show (64 : Int32) = nI 64 from rfl, show (128 : Int32) = nI 128 from rfl, pk_mul, pk_sub (by omega), nI_add]]
                        have hT3 := hT2.trans (chT_C (b := bv bs) (p := p) (n := 0) (i := 3) (v := V2) (by omega))
                        obtain ⟨V3, hV3⟩ : ∃ z, z = V2 * 64 + (bv bs (p + 3) - 128) := ⟨_, rfl⟩
                        rw [← hV3] at hT3 ⊢
                        have hW3 : V3 < 2097152 := by omega
                        refine lv_istore (lv' := [(4, .int (nI V3)), (6, .int (nI (bv bs (p + 3)))), (5, .int 3), (3, .int 4), (2, .int (nI (bv bs p))), (0, .ref h0), (1, .int (nI p))]) hx hb d_Sr_characterSize_132 hl (by decide) rfl (fun ls hl => ?_)
                        refine lv_iinc (v := 4) (lv' := [(5, .int 4), (4, .int (nI V3)), (6, .int (nI (bv bs (p + 3)))), (3, .int 4), (2, .int (nI (bv bs p))), (0, .ref h0), (1, .int (nI p))]) hx hb d_Sr_characterSize_134 hl (k := 2) rfl (by decide) (by decide) rfl (fun ls hl => ?_)
                        refine lv_goto (tgt := 81) hx hb d_Sr_characterSize_137 (by decide) ?_
                        refine lv_iload hx hb d_Sr_characterSize_81 (lv_at hl 0 rfl) ?_
                        refine lv_iload_n hx hb d_Sr_characterSize_83 rfl (lv_at hl 3 rfl) ?_
                        refine lv_icmp_ge (tgt := 140) hx hb d_Sr_characterSize_84 (by decide) (fun c_84 => ?_) (fun c_84 => absurd (by decide) c_84)
                        refine lv_iload hx hb d_Sr_characterSize_140 (lv_at hl 1 rfl) ?_
                        refine lv_iload_n hx hb d_Sr_characterSize_142 rfl (lv_at hl 3 rfl) ?_
                        refine cS0 (As := [.int (nI V3), .int 4]) (rest := []) (n := 2) (r := (zI (nSz 4 V3))) ⟨hx, hb, hml, hown, hts⟩ hno hlocks hl.1 (c_Sr_needs4 l D cA ad s.heap.size V3 (by omega)) iw2_96 iw2_97 iw1_5 iw2_98 (by decide +kernel) rfl ⟨Nat.le_of_ble_eq_true rfl, Nat.le_of_ble_eq_true rfl⟩ ⟨Nat.le_of_ble_eq_true rfl, Nat.le_of_ble_eq_true rfl⟩ rfl (Nat.le_of_ble_eq_true rfl) d_Sr_characterSize_143 hE hP hD hS hA [0, 1] rfl rfl (fun H locs hP hD hS => ?_)
                        refine lv_if_eq (tgt := 153) hx hb d_Sr_characterSize_146 (by decide) (fun c_146 => ?_) (fun c_146 => ?_)
                        · refine lv_iconst (v := 0) hx hb d_Sr_characterSize_153 (by decide) ?_
                          have hz : nSz 4 V3 = false := zI_0.mp c_146
                          exact cRi (nI en, lmI, f, pl) hx hb hr hlocks d_Sr_characterSize_154 hS hP hD (⟨by rw [hgo, hT3]; simp only [chT, hz]; rfl, rfl⟩) (Nat.le_refl _) (Nat.le_refl _)
                        · refine lv_iload_n hx hb d_Sr_characterSize_149 rfl (lv_at hl 3 rfl) ?_
                          refine lv_goto (tgt := 154) hx hb d_Sr_characterSize_150 (by decide) ?_
                          have hz : nSz 4 V3 = true := by cases hy : nSz 4 V3 with | true => rfl | false => exact absurd (zI_0.mpr hy) c_146
                          exact cRi (nI en, lmI, f, pl) hx hb hr hlocks d_Sr_characterSize_154 hS hP hD (⟨by rw [hgo, hT3]; simp only [chT, hz]; rfl, rfl⟩) (Nat.le_refl _) (Nat.le_refl _)
                      · have hf : bv bs (p + 3) < 128 ∨ 191 < bv bs (p + 3) := by first | exact Or.inl ((nI_ltI (b := 128) (by omega) (by omega)).mp c_107) | exact Or.inr (Nat.lt_of_not_le (fun q => c_115 (nI_le (b := 191) q (by omega))))
                        refine lv_iconst (v := 0) hx hb d_Sr_characterSize_118 (by decide) ?_
                        exact cRi (nI en, lmI, f, pl) hx hb hr hlocks d_Sr_characterSize_119 hS hP hD (⟨by rw [hgo, hT2, chT_F hf]; rfl, rfl⟩) (Nat.le_refl _) (Nat.le_refl _)
                  · have hf : bv bs (p + 2) < 128 ∨ 191 < bv bs (p + 2) := by first | exact Or.inl ((nI_ltI (b := 128) (by omega) (by omega)).mp c_107) | exact Or.inr (Nat.lt_of_not_le (fun q => c_115 (nI_le (b := 191) q (by omega))))
                    refine lv_iconst (v := 0) hx hb d_Sr_characterSize_118 (by decide) ?_
                    exact cRi (nI en, lmI, f, pl) hx hb hr hlocks d_Sr_characterSize_119 hS hP hD (⟨by rw [hgo, hT1, chT_F hf]; rfl, rfl⟩) (Nat.le_refl _) (Nat.le_refl _)
              · have hf : bv bs (p + 1) < 128 ∨ 191 < bv bs (p + 1) := by first | exact Or.inl ((nI_ltI (b := 128) (by omega) (by omega)).mp c_107) | exact Or.inr (Nat.lt_of_not_le (fun q => c_115 (nI_le (b := 191) q (by omega))))
                refine lv_iconst (v := 0) hx hb d_Sr_characterSize_118 (by decide) ?_
                exact cRi (nI en, lmI, f, pl) hx hb hr hlocks d_Sr_characterSize_119 hS hP hD (⟨by rw [hgo, hT0, chT_F hf]; rfl, rfl⟩) (Nat.le_refl _) (Nat.le_refl _)
          · have ho : bv bs p < 192 ∨ 247 < bv bs p ∨ en - p < chS (bv bs p) := by
              first
              | exact Or.inl ((nI_ltI (b := 192) (by omega) (by omega)).mp c_48)
              | exact Or.inr (Or.inl ((nI_ltI (a := 247) (by omega) (by omega)).mp c_55))
              | (refine Or.inr (Or.inr ?_); rw [hsz]; exact Nat.lt_of_not_le (fun q => c_65 (by rw [pk_sub (by omega)]; exact nI_le (a := 4) q (by omega))))
            refine lv_iconst (v := 0) hx hb d_Sr_characterSize_68 (by decide) ?_
            exact cRi (nI en, lmI, f, pl) hx hb hr hlocks d_Sr_characterSize_69 hS hP hD (⟨by rw [pChar_0 (by omega) ho]; rfl, rfl⟩) (Nat.le_refl _) (Nat.le_refl _)
  · have r15 : bv bs p < 128 := Nat.lt_of_not_le (fun q => c_15 (nI_le (a := 128) q (by omega)))
    refine lv_iconst (v := 1) hx hb d_Sr_characterSize_18 (by decide) ?_
    exact cRi (nI en, lmI, f, pl) hx hb hr hlocks d_Sr_characterSize_19 hS hP hD (⟨by rw [pChar_1 r15]; rfl, rfl⟩) (Nat.le_refl _) (Nat.le_refl _)
