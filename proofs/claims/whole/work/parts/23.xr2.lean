set_option maxHeartbeats 4000000 in
set_option maxRecDepth 100000 in
/-- shapeBehind252(bg) -/
theorem c_Xr_shapeBehind252 (l : Launch) (hl9 : l.stackTraces = false) (D : va_G) (cA : Nat → ClassId) (ad : Nat → Nat) (sz : Nat) (x0 z0 h0 h1 : Nat) (bs : Nat → Int32) (dep : Int32) (dc : Bool) (a lm bg : Nat) (f pl : Int32) (hlm : lm ≤ 2000) (hal : a ≤ lm) :
    cM l y_Xr_shapeBehind252 (.code y_Xr_shapeBehind252 b_Xr_shapeBehind252 4 (some .int) :: wAll) ({ frames := 8, cells := 1, slots := 6, locals := 128 }) D cA ad [.ref x0, .int (nI bg)] (wXs cA x0 z0 h0 h1 bs dep (zI dc) (nI a, nI lm, f, pl)) sz (iP (pS252 (bv bs) lm dc bg a) lm f pl) (tP (pS252 (bv bs) lm dc bg a)) (wXs cA x0 z0 h0 h1 bs dep (zI dc)) (fun _ => (0, 0)) := by
  refine cM.ofW (cc := b_Xr_shapeBehind252) (maxL := 4) (ret := (some .int)) (by decide) (Nat.le_of_ble_eq_true rfl) ?_
  intro pg ev s m bw meth cdx A ls hF hsz hA hE hP hD hl
  obtain ⟨⟨hx, hb, hml, hown, hts⟩, hr, hno, hlocks, hin⟩ := hF
  subst hsz
  have hown : s.vm.findClass "ModuleBytes$ExpressionReader" = some m.cls := hown
  have hS : va_S A s.heap s.heap [] := va_S.rf
  have hl : lv_has ls 4 [(0, .ref x0), (1, .int (nI bg))] := hl
  have hP : va_P D cls [(x0, .inr (3, [.ref h0, .ref z0, .int dep, .int (zI dc)])), (h0, .inr (2, [.ref h1, .int (nI a), .int (nI lm), .int f, .int pl])), (h1, .inl (cA 0, 2000, .inl bs))] s.heap := hP
  have hD : va_D A [(x0, .inr (3, [.ref h0, .ref z0, .int dep, .int (zI dc)])), (h0, .inr (2, [.ref h1, .int (nI a), .int (nI lm), .int f, .int pl])), (h1, .inl (cA 0, 2000, .inl bs))] := hD
  refine lv_aload_n hx hb d_Xr_shapeBehind252_0 rfl (lv_at hl 0 rfl) ?_
  refine va_get (D := D) (ci := 3) (v := .ref h0) (C := R_Xr) (T := F_Xr) (N := 4) hx hb hts (fun w h => List.mem_cons_of_mem _ (i_Xr w h)) hown hE.1 hP 0 rfl rfl 0 (by decide) (hts _ (List.mem_cons_of_mem _ iw1_123)) (fun _ h9 => h9) rfl d_Xr_shapeBehind252_1 ?_
  refine cV (As := []) (rest := []) (n := 0) (wc := [(h0, .inr (2, [.ref h1, .int (nI a), .int (nI lm), .int f, .int pl])), (h1, .inl (cA 0, 2000, .inl bs))]) (wr := [(x0, .inr (3, [.ref h0, .ref z0, .int dep, .int (zI dc)]))]) ⟨hx, hb, hml, hown, hts⟩ hno hlocks hl.1 (c_Sr_u32 l hl9 D cA ad s.heap.size h0 h1 bs a lm f pl hlm (by omega)) iw2_189 iw2_51 iw2_52 iw1_5 iw2_53 (by decide +kernel) rfl ⟨Nat.le_of_ble_eq_true rfl, Nat.le_of_ble_eq_true rfl⟩ ⟨Nat.le_of_ble_eq_true rfl, Nat.le_of_ble_eq_true rfl⟩ rfl (Nat.le_of_ble_eq_true rfl) d_Xr_shapeBehind252_4 hE hP hD hS hA [1, 2] [0] rfl rfl rfl rfl (by decide) (ci := 2) rfl rfl 1 rfl (fun u h => ⟨u, h.mono (fun f p q => by rw [pS252_T q]), fun _ h => h, fun h => h, Nat.le_refl _, Nat.le_refl _⟩) (fun v_4 u_4 H locs hp_4 hP hD hS => ?_)
  obtain ⟨v0, a0_, hn0, rfl, rfl⟩ := hp_4
  have hP : va_P D cls [(x0, .inr (3, [.ref h0, .ref z0, .int dep, .int (zI dc)])), (h0, .inr (2, [.ref h1, .int (nI a0_), .int (nI lm), .int f, .int pl])), (h1, .inl (cA 0, 2000, .inl bs))] H := hP
  have hD : va_D A [(x0, .inr (3, [.ref h0, .ref z0, .int dep, .int (zI dc)])), (h0, .inr (2, [.ref h1, .int (nI a0_), .int (nI lm), .int f, .int pl])), (h1, .inl (cA 0, 2000, .inl bs))] := hD
  refine W.cs (cells' := 0) (slots' := 0) rfl rfl ?_
  refine W.eq (g2 := F0 m 7 ls [.long (lN v0)]) rfl ?_
  have ho0 := pU32_ok (by omega) hn0
  refine lv_lstore_n (lv' := [(2, .long (lN v0)), (0, .ref x0), (1, .int (nI bg))]) hx hb d_Xr_shapeBehind252_7 rfl hl (by decide) rfl (fun ls hl => ?_)
  refine lv_lload_n hx hb d_Xr_shapeBehind252_8 rfl (lv_at hl 0 rfl) ?_
  refine lv_ldc2 hx hb hown (hts _ (List.mem_cons_of_mem _ iw2_190)) d_Xr_shapeBehind252_9 ?_
  refine W.lcmp hx hb d_Xr_shapeBehind252_12 ?_
  refine lv_if_eq (tgt := 24) hx hb d_Xr_shapeBehind252_13 (by decide) (fun c_13 => ?_) (fun c_13 => ?_)
  · refine lv_aload_n hx hb d_Xr_shapeBehind252_24 rfl (lv_at hl 1 rfl) ?_
    refine va_get (D := D) (ci := 3) (v := .int (zI dc)) (C := R_Xr) (T := F_Xr) (N := 4) hx hb hts (fun w h => List.mem_cons_of_mem _ (i_Xr w h)) hown hE.1 hP 0 rfl rfl 3 (by decide) (hts _ (List.mem_cons_of_mem _ iw1_126)) (fun _ h9 => h9) rfl d_Xr_shapeBehind252_25 ?_
    refine lv_if_ne (tgt := 41) hx hb d_Xr_shapeBehind252_28 (by decide) (fun c_28 => ?_) (fun c_28 => ?_)
    · have hok : ¬ ((v0 = 8 ∨ v0 = 9) ∧ dc = false) := by
        rintro ⟨q, q2⟩
        first
        | exact c_28 (zI_0.mpr q2)
        | (rw [lg_cmp_eq, show (8 : Int64) = lN 8 from rfl, pk_lEQ (by omega) (by omega)] at c_13; rw [lg_cmp_eq, show (9 : Int64) = lN 9 from rfl, pk_lEQ (by omega) (by omega)] at c_21; omega)
      refine lv_lload_n hx hb d_Xr_shapeBehind252_41 rfl (lv_at hl 0 rfl) ?_
      refine lv_ldc2 hx hb hown (hts _ (List.mem_cons_of_mem _ iw2_192)) d_Xr_shapeBehind252_42 ?_
      refine W.lcmp hx hb d_Xr_shapeBehind252_45 ?_
      refine lv_if_gt (tgt := 51) hx hb d_Xr_shapeBehind252_46 (by decide) (fun c_46 => ?_) (fun c_46 => ?_)
      · refine lv_lload_n hx hb d_Xr_shapeBehind252_51 rfl (lv_at hl 0 rfl) ?_
        refine lv_ldc2 hx hb hown (hts _ (List.mem_cons_of_mem _ iw2_193)) d_Xr_shapeBehind252_52 ?_
        refine W.lcmp hx hb d_Xr_shapeBehind252_55 ?_
        refine lv_if_le (tgt := 61) hx hb d_Xr_shapeBehind252_56 (by decide) (fun c_56 => ?_) (fun c_56 => ?_)
        · refine lv_lload_n hx hb d_Xr_shapeBehind252_61 rfl (lv_at hl 0 rfl) ?_
          refine lv_l2i hx hb d_Xr_shapeBehind252_62 rfl ?_
          rw [lN_i]
          try rw [lg_cmp_eq, show (8 : Int64) = lN 8 from rfl, pk_lEQ (by omega) (by omega)] at c_13
          try rw [lg_cmp_eq, show (9 : Int64) = lN 9 from rfl, pk_lEQ (by omega) (by omega)] at c_21
          try rw [lg_cmp_gt, show (7 : Int64) = lN 7 from rfl, pk_lLT (by omega) (by omega)] at c_46
          try rw [lg_cmp_le, show (17 : Int64) = lN 17 from rfl, pk_lLE (by omega) (by omega)] at c_56
          by_cases k_8 : v0 = 8
          · refine W.eq (g2 := F0 m 63 ls [.int 8]) (by rw [k_8]; rfl) ?_
            refine lv_tableIn (off := 41) (tgt := 104) hx hb d_Xr_shapeBehind252_63 (by decide) (by decide) (by decide) (by decide) ?_
            refine lv_bipush (v := 8) hx hb d_Xr_shapeBehind252_104 (by decide) ?_
            try rw [lg_cmp_eq, show (8 : Int64) = lN 8 from rfl, pk_lEQ (by omega) (by omega)] at c_13
            try rw [lg_cmp_eq, show (9 : Int64) = lN 9 from rfl, pk_lEQ (by omega) (by omega)] at c_21
            try rw [lg_cmp_gt, show (7 : Int64) = lN 7 from rfl, pk_lLT (by omega) (by omega)] at c_46
            try rw [lg_cmp_le, show (17 : Int64) = lN 17 from rfl, pk_lLE (by omega) (by omega)] at c_56
            have hh : sh252 v0 = 8 := by first | (exfalso; omega) | (unfold sh252; repeat (first | rw [if_pos (by omega)] | rw [if_neg (by omega)]))
            exact cRi (nI a0_, nI lm, f, pl) hx hb hr hlocks d_Xr_shapeBehind252_106 hS hP hD (⟨sh252 v0, a0_, pS252_E hn0 hok, by rw [hh]; rfl, rfl⟩) (Nat.le_refl _) (Nat.le_refl _)
          by_cases k_9 : v0 = 9
          · refine W.eq (g2 := F0 m 63 ls [.int 9]) (by rw [k_9]; rfl) ?_
            refine lv_tableIn (off := 52) (tgt := 115) hx hb d_Xr_shapeBehind252_63 (by decide) (by decide) (by decide) (by decide) ?_
            refine lv_iconst (v := 2) hx hb d_Xr_shapeBehind252_115 (by decide) ?_
            try rw [lg_cmp_eq, show (8 : Int64) = lN 8 from rfl, pk_lEQ (by omega) (by omega)] at c_13
            try rw [lg_cmp_eq, show (9 : Int64) = lN 9 from rfl, pk_lEQ (by omega) (by omega)] at c_21
            try rw [lg_cmp_gt, show (7 : Int64) = lN 7 from rfl, pk_lLT (by omega) (by omega)] at c_46
            try rw [lg_cmp_le, show (17 : Int64) = lN 17 from rfl, pk_lLE (by omega) (by omega)] at c_56
            have hh : sh252 v0 = 2 := by first | (exfalso; omega) | (unfold sh252; repeat (first | rw [if_pos (by omega)] | rw [if_neg (by omega)]))
            exact cRi (nI a0_, nI lm, f, pl) hx hb hr hlocks d_Xr_shapeBehind252_116 hS hP hD (⟨sh252 v0, a0_, pS252_E hn0 hok, by rw [hh]; rfl, rfl⟩) (Nat.le_refl _) (Nat.le_refl _)
          by_cases k_10 : v0 = 10
          · refine W.eq (g2 := F0 m 63 ls [.int 10]) (by rw [k_10]; rfl) ?_
            refine lv_tableIn (off := 44) (tgt := 107) hx hb d_Xr_shapeBehind252_63 (by decide) (by decide) (by decide) (by decide) ?_
            refine lv_bipush (v := 7) hx hb d_Xr_shapeBehind252_107 (by decide) ?_
            try rw [lg_cmp_eq, show (8 : Int64) = lN 8 from rfl, pk_lEQ (by omega) (by omega)] at c_13
            try rw [lg_cmp_eq, show (9 : Int64) = lN 9 from rfl, pk_lEQ (by omega) (by omega)] at c_21
            try rw [lg_cmp_gt, show (7 : Int64) = lN 7 from rfl, pk_lLT (by omega) (by omega)] at c_46
            try rw [lg_cmp_le, show (17 : Int64) = lN 17 from rfl, pk_lLE (by omega) (by omega)] at c_56
            have hh : sh252 v0 = 7 := by first | (exfalso; omega) | (unfold sh252; repeat (first | rw [if_pos (by omega)] | rw [if_neg (by omega)]))
            exact cRi (nI a0_, nI lm, f, pl) hx hb hr hlocks d_Xr_shapeBehind252_109 hS hP hD (⟨sh252 v0, a0_, pS252_E hn0 hok, by rw [hh]; rfl, rfl⟩) (Nat.le_refl _) (Nat.le_refl _)
          by_cases k_11 : v0 = 11
          · refine W.eq (g2 := F0 m 63 ls [.int 11]) (by rw [k_11]; rfl) ?_
            refine lv_tableIn (off := 47) (tgt := 110) hx hb d_Xr_shapeBehind252_63 (by decide) (by decide) (by decide) (by decide) ?_
            refine lv_bipush (v := 6) hx hb d_Xr_shapeBehind252_110 (by decide) ?_
            try rw [lg_cmp_eq, show (8 : Int64) = lN 8 from rfl, pk_lEQ (by omega) (by omega)] at c_13
            try rw [lg_cmp_eq, show (9 : Int64) = lN 9 from rfl, pk_lEQ (by omega) (by omega)] at c_21
            try rw [lg_cmp_gt, show (7 : Int64) = lN 7 from rfl, pk_lLT (by omega) (by omega)] at c_46
            try rw [lg_cmp_le, show (17 : Int64) = lN 17 from rfl, pk_lLE (by omega) (by omega)] at c_56
            have hh : sh252 v0 = 6 := by first | (exfalso; omega) | (unfold sh252; repeat (first | rw [if_pos (by omega)] | rw [if_neg (by omega)]))
            exact cRi (nI a0_, nI lm, f, pl) hx hb hr hlocks d_Xr_shapeBehind252_112 hS hP hD (⟨sh252 v0, a0_, pS252_E hn0 hok, by rw [hh]; rfl, rfl⟩) (Nat.le_refl _) (Nat.le_refl _)
          by_cases k_12 : v0 = 12
          · refine W.eq (g2 := F0 m 63 ls [.int 12]) (by rw [k_12]; rfl) ?_
            refine lv_tableIn (off := 50) (tgt := 113) hx hb d_Xr_shapeBehind252_63 (by decide) (by decide) (by decide) (by decide) ?_
            refine lv_iconst (v := 3) hx hb d_Xr_shapeBehind252_113 (by decide) ?_
            try rw [lg_cmp_eq, show (8 : Int64) = lN 8 from rfl, pk_lEQ (by omega) (by omega)] at c_13
            try rw [lg_cmp_eq, show (9 : Int64) = lN 9 from rfl, pk_lEQ (by omega) (by omega)] at c_21
            try rw [lg_cmp_gt, show (7 : Int64) = lN 7 from rfl, pk_lLT (by omega) (by omega)] at c_46
            try rw [lg_cmp_le, show (17 : Int64) = lN 17 from rfl, pk_lLE (by omega) (by omega)] at c_56
            have hh : sh252 v0 = 3 := by first | (exfalso; omega) | (unfold sh252; repeat (first | rw [if_pos (by omega)] | rw [if_neg (by omega)]))
            exact cRi (nI a0_, nI lm, f, pl) hx hb hr hlocks d_Xr_shapeBehind252_114 hS hP hD (⟨sh252 v0, a0_, pS252_E hn0 hok, by rw [hh]; rfl, rfl⟩) (Nat.le_refl _) (Nat.le_refl _)
          by_cases k_13 : v0 = 13
          · refine W.eq (g2 := F0 m 63 ls [.int 13]) (by rw [k_13]; rfl) ?_
            refine lv_tableIn (off := 52) (tgt := 115) hx hb d_Xr_shapeBehind252_63 (by decide) (by decide) (by decide) (by decide) ?_
            refine lv_iconst (v := 2) hx hb d_Xr_shapeBehind252_115 (by decide) ?_
            try rw [lg_cmp_eq, show (8 : Int64) = lN 8 from rfl, pk_lEQ (by omega) (by omega)] at c_13
            try rw [lg_cmp_eq, show (9 : Int64) = lN 9 from rfl, pk_lEQ (by omega) (by omega)] at c_21
            try rw [lg_cmp_gt, show (7 : Int64) = lN 7 from rfl, pk_lLT (by omega) (by omega)] at c_46
            try rw [lg_cmp_le, show (17 : Int64) = lN 17 from rfl, pk_lLE (by omega) (by omega)] at c_56
            have hh : sh252 v0 = 2 := by first | (exfalso; omega) | (unfold sh252; repeat (first | rw [if_pos (by omega)] | rw [if_neg (by omega)]))
            exact cRi (nI a0_, nI lm, f, pl) hx hb hr hlocks d_Xr_shapeBehind252_116 hS hP hD (⟨sh252 v0, a0_, pS252_E hn0 hok, by rw [hh]; rfl, rfl⟩) (Nat.le_refl _) (Nat.le_refl _)
          by_cases k_14 : v0 = 14
          · refine W.eq (g2 := F0 m 63 ls [.int 14]) (by rw [k_14]; rfl) ?_
            refine lv_tableIn (off := 50) (tgt := 113) hx hb d_Xr_shapeBehind252_63 (by decide) (by decide) (by decide) (by decide) ?_
            refine lv_iconst (v := 3) hx hb d_Xr_shapeBehind252_113 (by decide) ?_
            try rw [lg_cmp_eq, show (8 : Int64) = lN 8 from rfl, pk_lEQ (by omega) (by omega)] at c_13
            try rw [lg_cmp_eq, show (9 : Int64) = lN 9 from rfl, pk_lEQ (by omega) (by omega)] at c_21
            try rw [lg_cmp_gt, show (7 : Int64) = lN 7 from rfl, pk_lLT (by omega) (by omega)] at c_46
            try rw [lg_cmp_le, show (17 : Int64) = lN 17 from rfl, pk_lLE (by omega) (by omega)] at c_56
            have hh : sh252 v0 = 3 := by first | (exfalso; omega) | (unfold sh252; repeat (first | rw [if_pos (by omega)] | rw [if_neg (by omega)]))
            exact cRi (nI a0_, nI lm, f, pl) hx hb hr hlocks d_Xr_shapeBehind252_114 hS hP hD (⟨sh252 v0, a0_, pS252_E hn0 hok, by rw [hh]; rfl, rfl⟩) (Nat.le_refl _) (Nat.le_refl _)
          refine lv_tableOut (tgt := 115) hx hb d_Xr_shapeBehind252_63 (by rw [nI_toInt (by omega)]; omega) (by decide) ?_
          refine lv_iconst (v := 2) hx hb d_Xr_shapeBehind252_115 (by decide) ?_
          try rw [lg_cmp_eq, show (8 : Int64) = lN 8 from rfl, pk_lEQ (by omega) (by omega)] at c_13
          try rw [lg_cmp_eq, show (9 : Int64) = lN 9 from rfl, pk_lEQ (by omega) (by omega)] at c_21
          try rw [lg_cmp_gt, show (7 : Int64) = lN 7 from rfl, pk_lLT (by omega) (by omega)] at c_46
          try rw [lg_cmp_le, show (17 : Int64) = lN 17 from rfl, pk_lLE (by omega) (by omega)] at c_56
          have hh : sh252 v0 = 2 := by first | (exfalso; omega) | (unfold sh252; repeat (first | rw [if_pos (by omega)] | rw [if_neg (by omega)]))
          exact cRi (nI a0_, nI lm, f, pl) hx hb hr hlocks d_Xr_shapeBehind252_116 hS hP hD (⟨sh252 v0, a0_, pS252_E hn0 hok, by rw [hh]; rfl, rfl⟩) (Nat.le_refl _) (Nat.le_refl _)
        · refine lv_iconst (v := 0) hx hb d_Xr_shapeBehind252_59 (by decide) ?_
          try rw [lg_cmp_eq, show (8 : Int64) = lN 8 from rfl, pk_lEQ (by omega) (by omega)] at c_13
          try rw [lg_cmp_eq, show (9 : Int64) = lN 9 from rfl, pk_lEQ (by omega) (by omega)] at c_21
          try rw [lg_cmp_gt, show (7 : Int64) = lN 7 from rfl, pk_lLT (by omega) (by omega)] at c_46
          try rw [lg_cmp_le, show (17 : Int64) = lN 17 from rfl, pk_lLE (by omega) (by omega)] at c_56
          have hh : sh252 v0 = 0 := by first | (exfalso; omega) | (unfold sh252; repeat (first | rw [if_pos (by omega)] | rw [if_neg (by omega)]))
          exact cRi (nI a0_, nI lm, f, pl) hx hb hr hlocks d_Xr_shapeBehind252_60 hS hP hD (⟨sh252 v0, a0_, pS252_E hn0 hok, by rw [hh]; rfl, rfl⟩) (Nat.le_refl _) (Nat.le_refl _)
      · refine lv_iconst (v := 1) hx hb d_Xr_shapeBehind252_49 (by decide) ?_
        try rw [lg_cmp_eq, show (8 : Int64) = lN 8 from rfl, pk_lEQ (by omega) (by omega)] at c_13
        try rw [lg_cmp_eq, show (9 : Int64) = lN 9 from rfl, pk_lEQ (by omega) (by omega)] at c_21
        try rw [lg_cmp_gt, show (7 : Int64) = lN 7 from rfl, pk_lLT (by omega) (by omega)] at c_46
        try rw [lg_cmp_le, show (17 : Int64) = lN 17 from rfl, pk_lLE (by omega) (by omega)] at c_56
        have hh : sh252 v0 = 1 := by first | (exfalso; omega) | (unfold sh252; repeat (first | rw [if_pos (by omega)] | rw [if_neg (by omega)]))
        exact cRi (nI a0_, nI lm, f, pl) hx hb hr hlocks d_Xr_shapeBehind252_50 hS hP hD (⟨sh252 v0, a0_, pS252_E hn0 hok, by rw [hh]; rfl, rfl⟩) (Nat.le_refl _) (Nat.le_refl _)
    · refine lv_aload_n hx hb d_Xr_shapeBehind252_31 rfl (lv_at hl 1 rfl) ?_
      refine va_get (D := D) (ci := 3) (v := .ref h0) (C := R_Xr) (T := F_Xr) (N := 4) hx hb hts (fun w h => List.mem_cons_of_mem _ (i_Xr w h)) hown hE.1 hP 0 rfl rfl 0 (by decide) (hts _ (List.mem_cons_of_mem _ iw1_123)) (fun _ h9 => h9) rfl d_Xr_shapeBehind252_32 ?_
      refine lv_bipush (v := 11) hx hb d_Xr_shapeBehind252_35 (by decide) ?_
      refine lv_iload_n hx hb d_Xr_shapeBehind252_37 rfl (lv_at hl 2 rfl) ?_
      try rw [lg_cmp_eq, show (8 : Int64) = lN 8 from rfl, pk_lEQ (by omega) (by omega)] at c_13
      try rw [lg_cmp_eq, show (9 : Int64) = lN 9 from rfl, pk_lEQ (by omega) (by omega)] at c_21
      try rw [lg_cmp_gt, show (7 : Int64) = lN 7 from rfl, pk_lLT (by omega) (by omega)] at c_46
      try rw [lg_cmp_le, show (17 : Int64) = lN 17 from rfl, pk_lLE (by omega) (by omega)] at c_56
      have hbad : (v0 = 8 ∨ v0 = 9) ∧ dc = false := ⟨by omega, zI_0.mp c_28⟩
      refine cV (As := [.int 11, .int (nI bg)]) (rest := []) (n := 2) (wc := [(h0, .inr (2, [.ref h1, .int (nI a0_), .int (nI lm), .int f, .int pl])), (h1, .inl (cA 0, 2000, .inl bs))]) (wr := [(x0, .inr (3, [.ref h0, .ref z0, .int dep, .int (zI dc)]))]) ⟨hx, hb, hml, hown, hts⟩ hno hlocks hl.1 (c_Sr_fail l hl9 D cA ad H.size h0 h1 bs (nI a0_) (nI lm) f pl 11 (nI bg)) iw2_184 iw2_36 iw2_37 iw1_5 iw2_38 (by decide +kernel) rfl ⟨Nat.le_of_ble_eq_true rfl, Nat.le_of_ble_eq_true rfl⟩ ⟨Nat.le_of_ble_eq_true rfl, Nat.le_of_ble_eq_true rfl⟩ rfl (Nat.le_of_ble_eq_true rfl) d_Xr_shapeBehind252_38 hE hP hD hS hA [1, 2] [0] rfl rfl rfl rfl (by decide) (ci := 2) rfl rfl 1 rfl (fun u h => ⟨u, ⟨11, bg, pS252_F hn0 hbad, by rw [h] <;> rfl, by rw [h]⟩, fun _ h => h, fun h => h, Nat.le_refl _, Nat.le_refl _⟩) (fun v_38 u_38 H locs hp_38 hP hD hS => ?_)
      exact hp_38.elim
  · refine lv_lload_n hx hb d_Xr_shapeBehind252_16 rfl (lv_at hl 0 rfl) ?_
    refine lv_ldc2 hx hb hown (hts _ (List.mem_cons_of_mem _ iw2_191)) d_Xr_shapeBehind252_17 ?_
    refine W.lcmp hx hb d_Xr_shapeBehind252_20 ?_
    refine lv_if_ne (tgt := 41) hx hb d_Xr_shapeBehind252_21 (by decide) (fun c_21 => ?_) (fun c_21 => ?_)
    · have hok : ¬ ((v0 = 8 ∨ v0 = 9) ∧ dc = false) := by
        rintro ⟨q, q2⟩
        first
        | exact c_28 (zI_0.mpr q2)
        | (rw [lg_cmp_eq, show (8 : Int64) = lN 8 from rfl, pk_lEQ (by omega) (by omega)] at c_13; rw [lg_cmp_eq, show (9 : Int64) = lN 9 from rfl, pk_lEQ (by omega) (by omega)] at c_21; omega)
      refine lv_lload_n hx hb d_Xr_shapeBehind252_41 rfl (lv_at hl 0 rfl) ?_
      refine lv_ldc2 hx hb hown (hts _ (List.mem_cons_of_mem _ iw2_192)) d_Xr_shapeBehind252_42 ?_
      refine W.lcmp hx hb d_Xr_shapeBehind252_45 ?_
      refine lv_if_gt (tgt := 51) hx hb d_Xr_shapeBehind252_46 (by decide) (fun c_46 => ?_) (fun c_46 => ?_)
      · refine lv_lload_n hx hb d_Xr_shapeBehind252_51 rfl (lv_at hl 0 rfl) ?_
        refine lv_ldc2 hx hb hown (hts _ (List.mem_cons_of_mem _ iw2_193)) d_Xr_shapeBehind252_52 ?_
        refine W.lcmp hx hb d_Xr_shapeBehind252_55 ?_
        refine lv_if_le (tgt := 61) hx hb d_Xr_shapeBehind252_56 (by decide) (fun c_56 => ?_) (fun c_56 => ?_)
        · refine lv_lload_n hx hb d_Xr_shapeBehind252_61 rfl (lv_at hl 0 rfl) ?_
          refine lv_l2i hx hb d_Xr_shapeBehind252_62 rfl ?_
          rw [lN_i]
          try rw [lg_cmp_eq, show (8 : Int64) = lN 8 from rfl, pk_lEQ (by omega) (by omega)] at c_13
          try rw [lg_cmp_eq, show (9 : Int64) = lN 9 from rfl, pk_lEQ (by omega) (by omega)] at c_21
          try rw [lg_cmp_gt, show (7 : Int64) = lN 7 from rfl, pk_lLT (by omega) (by omega)] at c_46
          try rw [lg_cmp_le, show (17 : Int64) = lN 17 from rfl, pk_lLE (by omega) (by omega)] at c_56
          by_cases k_8 : v0 = 8
          · refine W.eq (g2 := F0 m 63 ls [.int 8]) (by rw [k_8]; rfl) ?_
            refine lv_tableIn (off := 41) (tgt := 104) hx hb d_Xr_shapeBehind252_63 (by decide) (by decide) (by decide) (by decide) ?_
            refine lv_bipush (v := 8) hx hb d_Xr_shapeBehind252_104 (by decide) ?_
            try rw [lg_cmp_eq, show (8 : Int64) = lN 8 from rfl, pk_lEQ (by omega) (by omega)] at c_13
            try rw [lg_cmp_eq, show (9 : Int64) = lN 9 from rfl, pk_lEQ (by omega) (by omega)] at c_21
            try rw [lg_cmp_gt, show (7 : Int64) = lN 7 from rfl, pk_lLT (by omega) (by omega)] at c_46
            try rw [lg_cmp_le, show (17 : Int64) = lN 17 from rfl, pk_lLE (by omega) (by omega)] at c_56
            have hh : sh252 v0 = 8 := by first | (exfalso; omega) | (unfold sh252; repeat (first | rw [if_pos (by omega)] | rw [if_neg (by omega)]))
            exact cRi (nI a0_, nI lm, f, pl) hx hb hr hlocks d_Xr_shapeBehind252_106 hS hP hD (⟨sh252 v0, a0_, pS252_E hn0 hok, by rw [hh]; rfl, rfl⟩) (Nat.le_refl _) (Nat.le_refl _)
          by_cases k_9 : v0 = 9
          · refine W.eq (g2 := F0 m 63 ls [.int 9]) (by rw [k_9]; rfl) ?_
            refine lv_tableIn (off := 52) (tgt := 115) hx hb d_Xr_shapeBehind252_63 (by decide) (by decide) (by decide) (by decide) ?_
            refine lv_iconst (v := 2) hx hb d_Xr_shapeBehind252_115 (by decide) ?_
            try rw [lg_cmp_eq, show (8 : Int64) = lN 8 from rfl, pk_lEQ (by omega) (by omega)] at c_13
            try rw [lg_cmp_eq, show (9 : Int64) = lN 9 from rfl, pk_lEQ (by omega) (by omega)] at c_21
            try rw [lg_cmp_gt, show (7 : Int64) = lN 7 from rfl, pk_lLT (by omega) (by omega)] at c_46
            try rw [lg_cmp_le, show (17 : Int64) = lN 17 from rfl, pk_lLE (by omega) (by omega)] at c_56
            have hh : sh252 v0 = 2 := by first | (exfalso; omega) | (unfold sh252; repeat (first | rw [if_pos (by omega)] | rw [if_neg (by omega)]))
            exact cRi (nI a0_, nI lm, f, pl) hx hb hr hlocks d_Xr_shapeBehind252_116 hS hP hD (⟨sh252 v0, a0_, pS252_E hn0 hok, by rw [hh]; rfl, rfl⟩) (Nat.le_refl _) (Nat.le_refl _)
          by_cases k_10 : v0 = 10
          · refine W.eq (g2 := F0 m 63 ls [.int 10]) (by rw [k_10]; rfl) ?_
            refine lv_tableIn (off := 44) (tgt := 107) hx hb d_Xr_shapeBehind252_63 (by decide) (by decide) (by decide) (by decide) ?_
            refine lv_bipush (v := 7) hx hb d_Xr_shapeBehind252_107 (by decide) ?_
            try rw [lg_cmp_eq, show (8 : Int64) = lN 8 from rfl, pk_lEQ (by omega) (by omega)] at c_13
            try rw [lg_cmp_eq, show (9 : Int64) = lN 9 from rfl, pk_lEQ (by omega) (by omega)] at c_21
            try rw [lg_cmp_gt, show (7 : Int64) = lN 7 from rfl, pk_lLT (by omega) (by omega)] at c_46
            try rw [lg_cmp_le, show (17 : Int64) = lN 17 from rfl, pk_lLE (by omega) (by omega)] at c_56
            have hh : sh252 v0 = 7 := by first | (exfalso; omega) | (unfold sh252; repeat (first | rw [if_pos (by omega)] | rw [if_neg (by omega)]))
            exact cRi (nI a0_, nI lm, f, pl) hx hb hr hlocks d_Xr_shapeBehind252_109 hS hP hD (⟨sh252 v0, a0_, pS252_E hn0 hok, by rw [hh]; rfl, rfl⟩) (Nat.le_refl _) (Nat.le_refl _)
          by_cases k_11 : v0 = 11
          · refine W.eq (g2 := F0 m 63 ls [.int 11]) (by rw [k_11]; rfl) ?_
            refine lv_tableIn (off := 47) (tgt := 110) hx hb d_Xr_shapeBehind252_63 (by decide) (by decide) (by decide) (by decide) ?_
            refine lv_bipush (v := 6) hx hb d_Xr_shapeBehind252_110 (by decide) ?_
            try rw [lg_cmp_eq, show (8 : Int64) = lN 8 from rfl, pk_lEQ (by omega) (by omega)] at c_13
            try rw [lg_cmp_eq, show (9 : Int64) = lN 9 from rfl, pk_lEQ (by omega) (by omega)] at c_21
            try rw [lg_cmp_gt, show (7 : Int64) = lN 7 from rfl, pk_lLT (by omega) (by omega)] at c_46
            try rw [lg_cmp_le, show (17 : Int64) = lN 17 from rfl, pk_lLE (by omega) (by omega)] at c_56
            have hh : sh252 v0 = 6 := by first | (exfalso; omega) | (unfold sh252; repeat (first | rw [if_pos (by omega)] | rw [if_neg (by omega)]))
            exact cRi (nI a0_, nI lm, f, pl) hx hb hr hlocks d_Xr_shapeBehind252_112 hS hP hD (⟨sh252 v0, a0_, pS252_E hn0 hok, by rw [hh]; rfl, rfl⟩) (Nat.le_refl _) (Nat.le_refl _)
          by_cases k_12 : v0 = 12
          · refine W.eq (g2 := F0 m 63 ls [.int 12]) (by rw [k_12]; rfl) ?_
            refine lv_tableIn (off := 50) (tgt := 113) hx hb d_Xr_shapeBehind252_63 (by decide) (by decide) (by decide) (by decide) ?_
            refine lv_iconst (v := 3) hx hb d_Xr_shapeBehind252_113 (by decide) ?_
            try rw [lg_cmp_eq, show (8 : Int64) = lN 8 from rfl, pk_lEQ (by omega) (by omega)] at c_13
            try rw [lg_cmp_eq, show (9 : Int64) = lN 9 from rfl, pk_lEQ (by omega) (by omega)] at c_21
            try rw [lg_cmp_gt, show (7 : Int64) = lN 7 from rfl, pk_lLT (by omega) (by omega)] at c_46
            try rw [lg_cmp_le, show (17 : Int64) = lN 17 from rfl, pk_lLE (by omega) (by omega)] at c_56
            have hh : sh252 v0 = 3 := by first | (exfalso; omega) | (unfold sh252; repeat (first | rw [if_pos (by omega)] | rw [if_neg (by omega)]))
            exact cRi (nI a0_, nI lm, f, pl) hx hb hr hlocks d_Xr_shapeBehind252_114 hS hP hD (⟨sh252 v0, a0_, pS252_E hn0 hok, by rw [hh]; rfl, rfl⟩) (Nat.le_refl _) (Nat.le_refl _)
          by_cases k_13 : v0 = 13
          · refine W.eq (g2 := F0 m 63 ls [.int 13]) (by rw [k_13]; rfl) ?_
            refine lv_tableIn (off := 52) (tgt := 115) hx hb d_Xr_shapeBehind252_63 (by decide) (by decide) (by decide) (by decide) ?_
            refine lv_iconst (v := 2) hx hb d_Xr_shapeBehind252_115 (by decide) ?_
            try rw [lg_cmp_eq, show (8 : Int64) = lN 8 from rfl, pk_lEQ (by omega) (by omega)] at c_13
            try rw [lg_cmp_eq, show (9 : Int64) = lN 9 from rfl, pk_lEQ (by omega) (by omega)] at c_21
            try rw [lg_cmp_gt, show (7 : Int64) = lN 7 from rfl, pk_lLT (by omega) (by omega)] at c_46
            try rw [lg_cmp_le, show (17 : Int64) = lN 17 from rfl, pk_lLE (by omega) (by omega)] at c_56
            have hh : sh252 v0 = 2 := by first | (exfalso; omega) | (unfold sh252; repeat (first | rw [if_pos (by omega)] | rw [if_neg (by omega)]))
            exact cRi (nI a0_, nI lm, f, pl) hx hb hr hlocks d_Xr_shapeBehind252_116 hS hP hD (⟨sh252 v0, a0_, pS252_E hn0 hok, by rw [hh]; rfl, rfl⟩) (Nat.le_refl _) (Nat.le_refl _)
          by_cases k_14 : v0 = 14
          · refine W.eq (g2 := F0 m 63 ls [.int 14]) (by rw [k_14]; rfl) ?_
            refine lv_tableIn (off := 50) (tgt := 113) hx hb d_Xr_shapeBehind252_63 (by decide) (by decide) (by decide) (by decide) ?_
            refine lv_iconst (v := 3) hx hb d_Xr_shapeBehind252_113 (by decide) ?_
            try rw [lg_cmp_eq, show (8 : Int64) = lN 8 from rfl, pk_lEQ (by omega) (by omega)] at c_13
            try rw [lg_cmp_eq, show (9 : Int64) = lN 9 from rfl, pk_lEQ (by omega) (by omega)] at c_21
            try rw [lg_cmp_gt, show (7 : Int64) = lN 7 from rfl, pk_lLT (by omega) (by omega)] at c_46
            try rw [lg_cmp_le, show (17 : Int64) = lN 17 from rfl, pk_lLE (by omega) (by omega)] at c_56
            have hh : sh252 v0 = 3 := by first | (exfalso; omega) | (unfold sh252; repeat (first | rw [if_pos (by omega)] | rw [if_neg (by omega)]))
            exact cRi (nI a0_, nI lm, f, pl) hx hb hr hlocks d_Xr_shapeBehind252_114 hS hP hD (⟨sh252 v0, a0_, pS252_E hn0 hok, by rw [hh]; rfl, rfl⟩) (Nat.le_refl _) (Nat.le_refl _)
          refine lv_tableOut (tgt := 115) hx hb d_Xr_shapeBehind252_63 (by rw [nI_toInt (by omega)]; omega) (by decide) ?_
          refine lv_iconst (v := 2) hx hb d_Xr_shapeBehind252_115 (by decide) ?_
          try rw [lg_cmp_eq, show (8 : Int64) = lN 8 from rfl, pk_lEQ (by omega) (by omega)] at c_13
          try rw [lg_cmp_eq, show (9 : Int64) = lN 9 from rfl, pk_lEQ (by omega) (by omega)] at c_21
          try rw [lg_cmp_gt, show (7 : Int64) = lN 7 from rfl, pk_lLT (by omega) (by omega)] at c_46
          try rw [lg_cmp_le, show (17 : Int64) = lN 17 from rfl, pk_lLE (by omega) (by omega)] at c_56
          have hh : sh252 v0 = 2 := by first | (exfalso; omega) | (unfold sh252; repeat (first | rw [if_pos (by omega)] | rw [if_neg (by omega)]))
          exact cRi (nI a0_, nI lm, f, pl) hx hb hr hlocks d_Xr_shapeBehind252_116 hS hP hD (⟨sh252 v0, a0_, pS252_E hn0 hok, by rw [hh]; rfl, rfl⟩) (Nat.le_refl _) (Nat.le_refl _)
        · refine lv_iconst (v := 0) hx hb d_Xr_shapeBehind252_59 (by decide) ?_
          try rw [lg_cmp_eq, show (8 : Int64) = lN 8 from rfl, pk_lEQ (by omega) (by omega)] at c_13
          try rw [lg_cmp_eq, show (9 : Int64) = lN 9 from rfl, pk_lEQ (by omega) (by omega)] at c_21
          try rw [lg_cmp_gt, show (7 : Int64) = lN 7 from rfl, pk_lLT (by omega) (by omega)] at c_46
          try rw [lg_cmp_le, show (17 : Int64) = lN 17 from rfl, pk_lLE (by omega) (by omega)] at c_56
          have hh : sh252 v0 = 0 := by first | (exfalso; omega) | (unfold sh252; repeat (first | rw [if_pos (by omega)] | rw [if_neg (by omega)]))
          exact cRi (nI a0_, nI lm, f, pl) hx hb hr hlocks d_Xr_shapeBehind252_60 hS hP hD (⟨sh252 v0, a0_, pS252_E hn0 hok, by rw [hh]; rfl, rfl⟩) (Nat.le_refl _) (Nat.le_refl _)
      · refine lv_iconst (v := 1) hx hb d_Xr_shapeBehind252_49 (by decide) ?_
        try rw [lg_cmp_eq, show (8 : Int64) = lN 8 from rfl, pk_lEQ (by omega) (by omega)] at c_13
        try rw [lg_cmp_eq, show (9 : Int64) = lN 9 from rfl, pk_lEQ (by omega) (by omega)] at c_21
        try rw [lg_cmp_gt, show (7 : Int64) = lN 7 from rfl, pk_lLT (by omega) (by omega)] at c_46
        try rw [lg_cmp_le, show (17 : Int64) = lN 17 from rfl, pk_lLE (by omega) (by omega)] at c_56
        have hh : sh252 v0 = 1 := by first | (exfalso; omega) | (unfold sh252; repeat (first | rw [if_pos (by omega)] | rw [if_neg (by omega)]))
        exact cRi (nI a0_, nI lm, f, pl) hx hb hr hlocks d_Xr_shapeBehind252_50 hS hP hD (⟨sh252 v0, a0_, pS252_E hn0 hok, by rw [hh]; rfl, rfl⟩) (Nat.le_refl _) (Nat.le_refl _)
    · refine lv_aload_n hx hb d_Xr_shapeBehind252_24 rfl (lv_at hl 1 rfl) ?_
      refine va_get (D := D) (ci := 3) (v := .int (zI dc)) (C := R_Xr) (T := F_Xr) (N := 4) hx hb hts (fun w h => List.mem_cons_of_mem _ (i_Xr w h)) hown hE.1 hP 0 rfl rfl 3 (by decide) (hts _ (List.mem_cons_of_mem _ iw1_126)) (fun _ h9 => h9) rfl d_Xr_shapeBehind252_25 ?_
      refine lv_if_ne (tgt := 41) hx hb d_Xr_shapeBehind252_28 (by decide) (fun c_28 => ?_) (fun c_28 => ?_)
      · have hok : ¬ ((v0 = 8 ∨ v0 = 9) ∧ dc = false) := by
          rintro ⟨q, q2⟩
          first
          | exact c_28 (zI_0.mpr q2)
          | (rw [lg_cmp_eq, show (8 : Int64) = lN 8 from rfl, pk_lEQ (by omega) (by omega)] at c_13; rw [lg_cmp_eq, show (9 : Int64) = lN 9 from rfl, pk_lEQ (by omega) (by omega)] at c_21; omega)
        refine lv_lload_n hx hb d_Xr_shapeBehind252_41 rfl (lv_at hl 0 rfl) ?_
        refine lv_ldc2 hx hb hown (hts _ (List.mem_cons_of_mem _ iw2_192)) d_Xr_shapeBehind252_42 ?_
        refine W.lcmp hx hb d_Xr_shapeBehind252_45 ?_
        refine lv_if_gt (tgt := 51) hx hb d_Xr_shapeBehind252_46 (by decide) (fun c_46 => ?_) (fun c_46 => ?_)
        · refine lv_lload_n hx hb d_Xr_shapeBehind252_51 rfl (lv_at hl 0 rfl) ?_
          refine lv_ldc2 hx hb hown (hts _ (List.mem_cons_of_mem _ iw2_193)) d_Xr_shapeBehind252_52 ?_
          refine W.lcmp hx hb d_Xr_shapeBehind252_55 ?_
          refine lv_if_le (tgt := 61) hx hb d_Xr_shapeBehind252_56 (by decide) (fun c_56 => ?_) (fun c_56 => ?_)
          · refine lv_lload_n hx hb d_Xr_shapeBehind252_61 rfl (lv_at hl 0 rfl) ?_
            refine lv_l2i hx hb d_Xr_shapeBehind252_62 rfl ?_
            rw [lN_i]
            try rw [lg_cmp_eq, show (8 : Int64) = lN 8 from rfl, pk_lEQ (by omega) (by omega)] at c_13
            try rw [lg_cmp_eq, show (9 : Int64) = lN 9 from rfl, pk_lEQ (by omega) (by omega)] at c_21
            try rw [lg_cmp_gt, show (7 : Int64) = lN 7 from rfl, pk_lLT (by omega) (by omega)] at c_46
            try rw [lg_cmp_le, show (17 : Int64) = lN 17 from rfl, pk_lLE (by omega) (by omega)] at c_56
            by_cases k_8 : v0 = 8
            · refine W.eq (g2 := F0 m 63 ls [.int 8]) (by rw [k_8]; rfl) ?_
              refine lv_tableIn (off := 41) (tgt := 104) hx hb d_Xr_shapeBehind252_63 (by decide) (by decide) (by decide) (by decide) ?_
              refine lv_bipush (v := 8) hx hb d_Xr_shapeBehind252_104 (by decide) ?_
              try rw [lg_cmp_eq, show (8 : Int64) = lN 8 from rfl, pk_lEQ (by omega) (by omega)] at c_13
              try rw [lg_cmp_eq, show (9 : Int64) = lN 9 from rfl, pk_lEQ (by omega) (by omega)] at c_21
              try rw [lg_cmp_gt, show (7 : Int64) = lN 7 from rfl, pk_lLT (by omega) (by omega)] at c_46
              try rw [lg_cmp_le, show (17 : Int64) = lN 17 from rfl, pk_lLE (by omega) (by omega)] at c_56
              have hh : sh252 v0 = 8 := by first | (exfalso; omega) | (unfold sh252; repeat (first | rw [if_pos (by omega)] | rw [if_neg (by omega)]))
              exact cRi (nI a0_, nI lm, f, pl) hx hb hr hlocks d_Xr_shapeBehind252_106 hS hP hD (⟨sh252 v0, a0_, pS252_E hn0 hok, by rw [hh]; rfl, rfl⟩) (Nat.le_refl _) (Nat.le_refl _)
            by_cases k_9 : v0 = 9
            · refine W.eq (g2 := F0 m 63 ls [.int 9]) (by rw [k_9]; rfl) ?_
              refine lv_tableIn (off := 52) (tgt := 115) hx hb d_Xr_shapeBehind252_63 (by decide) (by decide) (by decide) (by decide) ?_
              refine lv_iconst (v := 2) hx hb d_Xr_shapeBehind252_115 (by decide) ?_
              try rw [lg_cmp_eq, show (8 : Int64) = lN 8 from rfl, pk_lEQ (by omega) (by omega)] at c_13
              try rw [lg_cmp_eq, show (9 : Int64) = lN 9 from rfl, pk_lEQ (by omega) (by omega)] at c_21
              try rw [lg_cmp_gt, show (7 : Int64) = lN 7 from rfl, pk_lLT (by omega) (by omega)] at c_46
              try rw [lg_cmp_le, show (17 : Int64) = lN 17 from rfl, pk_lLE (by omega) (by omega)] at c_56
              have hh : sh252 v0 = 2 := by first | (exfalso; omega) | (unfold sh252; repeat (first | rw [if_pos (by omega)] | rw [if_neg (by omega)]))
              exact cRi (nI a0_, nI lm, f, pl) hx hb hr hlocks d_Xr_shapeBehind252_116 hS hP hD (⟨sh252 v0, a0_, pS252_E hn0 hok, by rw [hh]; rfl, rfl⟩) (Nat.le_refl _) (Nat.le_refl _)
            by_cases k_10 : v0 = 10
            · refine W.eq (g2 := F0 m 63 ls [.int 10]) (by rw [k_10]; rfl) ?_
              refine lv_tableIn (off := 44) (tgt := 107) hx hb d_Xr_shapeBehind252_63 (by decide) (by decide) (by decide) (by decide) ?_
              refine lv_bipush (v := 7) hx hb d_Xr_shapeBehind252_107 (by decide) ?_
              try rw [lg_cmp_eq, show (8 : Int64) = lN 8 from rfl, pk_lEQ (by omega) (by omega)] at c_13
              try rw [lg_cmp_eq, show (9 : Int64) = lN 9 from rfl, pk_lEQ (by omega) (by omega)] at c_21
              try rw [lg_cmp_gt, show (7 : Int64) = lN 7 from rfl, pk_lLT (by omega) (by omega)] at c_46
              try rw [lg_cmp_le, show (17 : Int64) = lN 17 from rfl, pk_lLE (by omega) (by omega)] at c_56
              have hh : sh252 v0 = 7 := by first | (exfalso; omega) | (unfold sh252; repeat (first | rw [if_pos (by omega)] | rw [if_neg (by omega)]))
              exact cRi (nI a0_, nI lm, f, pl) hx hb hr hlocks d_Xr_shapeBehind252_109 hS hP hD (⟨sh252 v0, a0_, pS252_E hn0 hok, by rw [hh]; rfl, rfl⟩) (Nat.le_refl _) (Nat.le_refl _)
            by_cases k_11 : v0 = 11
            · refine W.eq (g2 := F0 m 63 ls [.int 11]) (by rw [k_11]; rfl) ?_
              refine lv_tableIn (off := 47) (tgt := 110) hx hb d_Xr_shapeBehind252_63 (by decide) (by decide) (by decide) (by decide) ?_
              refine lv_bipush (v := 6) hx hb d_Xr_shapeBehind252_110 (by decide) ?_
              try rw [lg_cmp_eq, show (8 : Int64) = lN 8 from rfl, pk_lEQ (by omega) (by omega)] at c_13
              try rw [lg_cmp_eq, show (9 : Int64) = lN 9 from rfl, pk_lEQ (by omega) (by omega)] at c_21
              try rw [lg_cmp_gt, show (7 : Int64) = lN 7 from rfl, pk_lLT (by omega) (by omega)] at c_46
              try rw [lg_cmp_le, show (17 : Int64) = lN 17 from rfl, pk_lLE (by omega) (by omega)] at c_56
              have hh : sh252 v0 = 6 := by first | (exfalso; omega) | (unfold sh252; repeat (first | rw [if_pos (by omega)] | rw [if_neg (by omega)]))
              exact cRi (nI a0_, nI lm, f, pl) hx hb hr hlocks d_Xr_shapeBehind252_112 hS hP hD (⟨sh252 v0, a0_, pS252_E hn0 hok, by rw [hh]; rfl, rfl⟩) (Nat.le_refl _) (Nat.le_refl _)
            by_cases k_12 : v0 = 12
            · refine W.eq (g2 := F0 m 63 ls [.int 12]) (by rw [k_12]; rfl) ?_
              refine lv_tableIn (off := 50) (tgt := 113) hx hb d_Xr_shapeBehind252_63 (by decide) (by decide) (by decide) (by decide) ?_
              refine lv_iconst (v := 3) hx hb d_Xr_shapeBehind252_113 (by decide) ?_
              try rw [lg_cmp_eq, show (8 : Int64) = lN 8 from rfl, pk_lEQ (by omega) (by omega)] at c_13
              try rw [lg_cmp_eq, show (9 : Int64) = lN 9 from rfl, pk_lEQ (by omega) (by omega)] at c_21
              try rw [lg_cmp_gt, show (7 : Int64) = lN 7 from rfl, pk_lLT (by omega) (by omega)] at c_46
              try rw [lg_cmp_le, show (17 : Int64) = lN 17 from rfl, pk_lLE (by omega) (by omega)] at c_56
              have hh : sh252 v0 = 3 := by first | (exfalso; omega) | (unfold sh252; repeat (first | rw [if_pos (by omega)] | rw [if_neg (by omega)]))
              exact cRi (nI a0_, nI lm, f, pl) hx hb hr hlocks d_Xr_shapeBehind252_114 hS hP hD (⟨sh252 v0, a0_, pS252_E hn0 hok, by rw [hh]; rfl, rfl⟩) (Nat.le_refl _) (Nat.le_refl _)
            by_cases k_13 : v0 = 13
            · refine W.eq (g2 := F0 m 63 ls [.int 13]) (by rw [k_13]; rfl) ?_
              refine lv_tableIn (off := 52) (tgt := 115) hx hb d_Xr_shapeBehind252_63 (by decide) (by decide) (by decide) (by decide) ?_
              refine lv_iconst (v := 2) hx hb d_Xr_shapeBehind252_115 (by decide) ?_
              try rw [lg_cmp_eq, show (8 : Int64) = lN 8 from rfl, pk_lEQ (by omega) (by omega)] at c_13
              try rw [lg_cmp_eq, show (9 : Int64) = lN 9 from rfl, pk_lEQ (by omega) (by omega)] at c_21
              try rw [lg_cmp_gt, show (7 : Int64) = lN 7 from rfl, pk_lLT (by omega) (by omega)] at c_46
              try rw [lg_cmp_le, show (17 : Int64) = lN 17 from rfl, pk_lLE (by omega) (by omega)] at c_56
              have hh : sh252 v0 = 2 := by first | (exfalso; omega) | (unfold sh252; repeat (first | rw [if_pos (by omega)] | rw [if_neg (by omega)]))
              exact cRi (nI a0_, nI lm, f, pl) hx hb hr hlocks d_Xr_shapeBehind252_116 hS hP hD (⟨sh252 v0, a0_, pS252_E hn0 hok, by rw [hh]; rfl, rfl⟩) (Nat.le_refl _) (Nat.le_refl _)
            by_cases k_14 : v0 = 14
            · refine W.eq (g2 := F0 m 63 ls [.int 14]) (by rw [k_14]; rfl) ?_
              refine lv_tableIn (off := 50) (tgt := 113) hx hb d_Xr_shapeBehind252_63 (by decide) (by decide) (by decide) (by decide) ?_
              refine lv_iconst (v := 3) hx hb d_Xr_shapeBehind252_113 (by decide) ?_
              try rw [lg_cmp_eq, show (8 : Int64) = lN 8 from rfl, pk_lEQ (by omega) (by omega)] at c_13
              try rw [lg_cmp_eq, show (9 : Int64) = lN 9 from rfl, pk_lEQ (by omega) (by omega)] at c_21
              try rw [lg_cmp_gt, show (7 : Int64) = lN 7 from rfl, pk_lLT (by omega) (by omega)] at c_46
              try rw [lg_cmp_le, show (17 : Int64) = lN 17 from rfl, pk_lLE (by omega) (by omega)] at c_56
              have hh : sh252 v0 = 3 := by first | (exfalso; omega) | (unfold sh252; repeat (first | rw [if_pos (by omega)] | rw [if_neg (by omega)]))
              exact cRi (nI a0_, nI lm, f, pl) hx hb hr hlocks d_Xr_shapeBehind252_114 hS hP hD (⟨sh252 v0, a0_, pS252_E hn0 hok, by rw [hh]; rfl, rfl⟩) (Nat.le_refl _) (Nat.le_refl _)
            refine lv_tableOut (tgt := 115) hx hb d_Xr_shapeBehind252_63 (by rw [nI_toInt (by omega)]; omega) (by decide) ?_
            refine lv_iconst (v := 2) hx hb d_Xr_shapeBehind252_115 (by decide) ?_
            try rw [lg_cmp_eq, show (8 : Int64) = lN 8 from rfl, pk_lEQ (by omega) (by omega)] at c_13
            try rw [lg_cmp_eq, show (9 : Int64) = lN 9 from rfl, pk_lEQ (by omega) (by omega)] at c_21
            try rw [lg_cmp_gt, show (7 : Int64) = lN 7 from rfl, pk_lLT (by omega) (by omega)] at c_46
            try rw [lg_cmp_le, show (17 : Int64) = lN 17 from rfl, pk_lLE (by omega) (by omega)] at c_56
            have hh : sh252 v0 = 2 := by first | (exfalso; omega) | (unfold sh252; repeat (first | rw [if_pos (by omega)] | rw [if_neg (by omega)]))
            exact cRi (nI a0_, nI lm, f, pl) hx hb hr hlocks d_Xr_shapeBehind252_116 hS hP hD (⟨sh252 v0, a0_, pS252_E hn0 hok, by rw [hh]; rfl, rfl⟩) (Nat.le_refl _) (Nat.le_refl _)
          · refine lv_iconst (v := 0) hx hb d_Xr_shapeBehind252_59 (by decide) ?_
            try rw [lg_cmp_eq, show (8 : Int64) = lN 8 from rfl, pk_lEQ (by omega) (by omega)] at c_13
            try rw [lg_cmp_eq, show (9 : Int64) = lN 9 from rfl, pk_lEQ (by omega) (by omega)] at c_21
            try rw [lg_cmp_gt, show (7 : Int64) = lN 7 from rfl, pk_lLT (by omega) (by omega)] at c_46
            try rw [lg_cmp_le, show (17 : Int64) = lN 17 from rfl, pk_lLE (by omega) (by omega)] at c_56
            have hh : sh252 v0 = 0 := by first | (exfalso; omega) | (unfold sh252; repeat (first | rw [if_pos (by omega)] | rw [if_neg (by omega)]))
            exact cRi (nI a0_, nI lm, f, pl) hx hb hr hlocks d_Xr_shapeBehind252_60 hS hP hD (⟨sh252 v0, a0_, pS252_E hn0 hok, by rw [hh]; rfl, rfl⟩) (Nat.le_refl _) (Nat.le_refl _)
        · refine lv_iconst (v := 1) hx hb d_Xr_shapeBehind252_49 (by decide) ?_
          try rw [lg_cmp_eq, show (8 : Int64) = lN 8 from rfl, pk_lEQ (by omega) (by omega)] at c_13
          try rw [lg_cmp_eq, show (9 : Int64) = lN 9 from rfl, pk_lEQ (by omega) (by omega)] at c_21
          try rw [lg_cmp_gt, show (7 : Int64) = lN 7 from rfl, pk_lLT (by omega) (by omega)] at c_46
          try rw [lg_cmp_le, show (17 : Int64) = lN 17 from rfl, pk_lLE (by omega) (by omega)] at c_56
          have hh : sh252 v0 = 1 := by first | (exfalso; omega) | (unfold sh252; repeat (first | rw [if_pos (by omega)] | rw [if_neg (by omega)]))
          exact cRi (nI a0_, nI lm, f, pl) hx hb hr hlocks d_Xr_shapeBehind252_50 hS hP hD (⟨sh252 v0, a0_, pS252_E hn0 hok, by rw [hh]; rfl, rfl⟩) (Nat.le_refl _) (Nat.le_refl _)
      · refine lv_aload_n hx hb d_Xr_shapeBehind252_31 rfl (lv_at hl 1 rfl) ?_
        refine va_get (D := D) (ci := 3) (v := .ref h0) (C := R_Xr) (T := F_Xr) (N := 4) hx hb hts (fun w h => List.mem_cons_of_mem _ (i_Xr w h)) hown hE.1 hP 0 rfl rfl 0 (by decide) (hts _ (List.mem_cons_of_mem _ iw1_123)) (fun _ h9 => h9) rfl d_Xr_shapeBehind252_32 ?_
        refine lv_bipush (v := 11) hx hb d_Xr_shapeBehind252_35 (by decide) ?_
        refine lv_iload_n hx hb d_Xr_shapeBehind252_37 rfl (lv_at hl 2 rfl) ?_
        try rw [lg_cmp_eq, show (8 : Int64) = lN 8 from rfl, pk_lEQ (by omega) (by omega)] at c_13
        try rw [lg_cmp_eq, show (9 : Int64) = lN 9 from rfl, pk_lEQ (by omega) (by omega)] at c_21
        try rw [lg_cmp_gt, show (7 : Int64) = lN 7 from rfl, pk_lLT (by omega) (by omega)] at c_46
        try rw [lg_cmp_le, show (17 : Int64) = lN 17 from rfl, pk_lLE (by omega) (by omega)] at c_56
        have hbad : (v0 = 8 ∨ v0 = 9) ∧ dc = false := ⟨by omega, zI_0.mp c_28⟩
        refine cV (As := [.int 11, .int (nI bg)]) (rest := []) (n := 2) (wc := [(h0, .inr (2, [.ref h1, .int (nI a0_), .int (nI lm), .int f, .int pl])), (h1, .inl (cA 0, 2000, .inl bs))]) (wr := [(x0, .inr (3, [.ref h0, .ref z0, .int dep, .int (zI dc)]))]) ⟨hx, hb, hml, hown, hts⟩ hno hlocks hl.1 (c_Sr_fail l hl9 D cA ad H.size h0 h1 bs (nI a0_) (nI lm) f pl 11 (nI bg)) iw2_184 iw2_36 iw2_37 iw1_5 iw2_38 (by decide +kernel) rfl ⟨Nat.le_of_ble_eq_true rfl, Nat.le_of_ble_eq_true rfl⟩ ⟨Nat.le_of_ble_eq_true rfl, Nat.le_of_ble_eq_true rfl⟩ rfl (Nat.le_of_ble_eq_true rfl) d_Xr_shapeBehind252_38 hE hP hD hS hA [1, 2] [0] rfl rfl rfl rfl (by decide) (ci := 2) rfl rfl 1 rfl (fun u h => ⟨u, ⟨11, bg, pS252_F hn0 hbad, by rw [h] <;> rfl, by rw [h]⟩, fun _ h => h, fun h => h, Nat.le_refl _, Nat.le_refl _⟩) (fun v_38 u_38 H locs hp_38 hP hD hS => ?_)
        exact hp_38.elim
set_option maxHeartbeats 4000000 in
set_option maxRecDepth 100000 in
/-- readOperands(1, bg) -/
theorem c_Xr_ops1 (l : Launch) (hl9 : l.stackTraces = false) (D : va_G) (cA : Nat → ClassId) (ad : Nat → Nat) (sz : Nat) (x0 z0 h0 h1 : Nat) (bs : Nat → Int32) (dep dcI : Int32) (a lm bg : Nat) (f pl : Int32) (hlm : lm ≤ 2000) (hal : a ≤ lm) :
    cM l y_Xr_readOperands (.code y_Xr_readOperands b_Xr_readOperands 5 none :: wAll) ({ frames := 8, cells := 1, slots := 6, locals := 128 }) D cA ad [.ref x0, .int 1, .int (nI bg)] (wXs cA x0 z0 h0 h1 bs dep dcI (nI a, nI lm, f, pl)) sz (vP (pShape (bv bs) lm bg 1 a) lm f pl) (tP (pShape (bv bs) lm bg 1 a)) (wXs cA x0 z0 h0 h1 bs dep dcI) (fun _ => (0, 0)) := by
  refine cM.ofW (cc := b_Xr_readOperands) (maxL := 5) (ret := none) (by decide) (Nat.le_of_ble_eq_true rfl) ?_
  intro pg ev s m bw meth cdx A ls hF hsz hA hE hP hD hl
  obtain ⟨⟨hx, hb, hml, hown, hts⟩, hr, hno, hlocks, hin⟩ := hF
  subst hsz
  have hown : s.vm.findClass "ModuleBytes$ExpressionReader" = some m.cls := hown
  have hS : va_S A s.heap s.heap [] := va_S.rf
  have hl : lv_has ls 5 [(0, .ref x0), (1, .int 1), (2, .int (nI bg))] := hl
  have hP : va_P D cls [(x0, .inr (3, [.ref h0, .ref z0, .int dep, .int dcI])), (h0, .inr (2, [.ref h1, .int (nI a), .int (nI lm), .int f, .int pl])), (h1, .inl (cA 0, 2000, .inl bs))] s.heap := hP
  have hD : va_D A [(x0, .inr (3, [.ref h0, .ref z0, .int dep, .int dcI])), (h0, .inr (2, [.ref h1, .int (nI a), .int (nI lm), .int f, .int pl])), (h1, .inl (cA 0, 2000, .inl bs))] := hD
  have hsh : pShape (bv bs) lm bg 1 a = .inr ((), a) := rfl
  refine lv_iload_n hx hb d_Xr_readOperands_0 rfl (lv_at hl 1 rfl) ?_
  refine lv_tableIn (off := 67) (tgt := 68) hx hb d_Xr_readOperands_1 (by decide) (by decide) (by decide) (by decide) ?_
  refine lv_goto (tgt := 291) hx hb d_Xr_readOperands_68 (by decide) ?_
  exact cRv (nI a, nI lm, f, pl) hx hb hr hlocks d_Xr_readOperands_291 hS hP hD (⟨a, by rw [hsh], rfl, rfl⟩) (Nat.le_refl _) (Nat.le_refl _)
set_option maxHeartbeats 4000000 in
set_option maxRecDepth 100000 in
/-- readOperands(2, bg) -/
theorem c_Xr_ops2 (l : Launch) (hl9 : l.stackTraces = false) (D : va_G) (cA : Nat → ClassId) (ad : Nat → Nat) (sz : Nat) (x0 z0 h0 h1 : Nat) (bs : Nat → Int32) (dep dcI : Int32) (a lm bg : Nat) (f pl : Int32) (hlm : lm ≤ 2000) (hal : a ≤ lm) :
    cM l y_Xr_readOperands (.code y_Xr_readOperands b_Xr_readOperands 5 none :: wAll) ({ frames := 8, cells := 1, slots := 6, locals := 128 }) D cA ad [.ref x0, .int 2, .int (nI bg)] (wXs cA x0 z0 h0 h1 bs dep dcI (nI a, nI lm, f, pl)) sz (vP (pShape (bv bs) lm bg 2 a) lm f pl) (tP (pShape (bv bs) lm bg 2 a)) (wXs cA x0 z0 h0 h1 bs dep dcI) (fun _ => (0, 0)) := by
  refine cM.ofW (cc := b_Xr_readOperands) (maxL := 5) (ret := none) (by decide) (Nat.le_of_ble_eq_true rfl) ?_
  intro pg ev s m bw meth cdx A ls hF hsz hA hE hP hD hl
  obtain ⟨⟨hx, hb, hml, hown, hts⟩, hr, hno, hlocks, hin⟩ := hF
  subst hsz
  have hown : s.vm.findClass "ModuleBytes$ExpressionReader" = some m.cls := hown
  have hS : va_S A s.heap s.heap [] := va_S.rf
  have hl : lv_has ls 5 [(0, .ref x0), (1, .int 2), (2, .int (nI bg))] := hl
  have hP : va_P D cls [(x0, .inr (3, [.ref h0, .ref z0, .int dep, .int dcI])), (h0, .inr (2, [.ref h1, .int (nI a), .int (nI lm), .int f, .int pl])), (h1, .inl (cA 0, 2000, .inl bs))] s.heap := hP
  have hD : va_D A [(x0, .inr (3, [.ref h0, .ref z0, .int dep, .int dcI])), (h0, .inr (2, [.ref h1, .int (nI a), .int (nI lm), .int f, .int pl])), (h1, .inl (cA 0, 2000, .inl bs))] := hD
  have hsh : pShape (bv bs) lm bg 2 a = bnd (pU32 (bv bs) lm a) (fun _ b0 => .inr ((), b0)) := rfl
  refine lv_iload_n hx hb d_Xr_readOperands_0 rfl (lv_at hl 1 rfl) ?_
  refine lv_tableIn (off := 70) (tgt := 71) hx hb d_Xr_readOperands_1 (by decide) (by decide) (by decide) (by decide) ?_
  refine lv_aload_n hx hb d_Xr_readOperands_71 rfl (lv_at hl 0 rfl) ?_
  refine va_get (D := D) (ci := 3) (v := .ref h0) (C := R_Xr) (T := F_Xr) (N := 4) hx hb hts (fun w h => List.mem_cons_of_mem _ (i_Xr w h)) hown hE.1 hP 0 rfl rfl 0 (by decide) (hts _ (List.mem_cons_of_mem _ iw1_123)) (fun _ h9 => h9) rfl d_Xr_readOperands_72 ?_
  refine cV (As := []) (rest := []) (n := 0) (wc := [(h0, .inr (2, [.ref h1, .int (nI a), .int (nI lm), .int f, .int pl])), (h1, .inl (cA 0, 2000, .inl bs))]) (wr := [(x0, .inr (3, [.ref h0, .ref z0, .int dep, .int dcI]))]) ⟨hx, hb, hml, hown, hts⟩ hno hlocks hl.1 (c_Sr_u32 l hl9 D cA ad s.heap.size h0 h1 bs a lm f pl hlm (by omega)) iw2_189 iw2_51 iw2_52 iw1_5 iw2_53 (by decide +kernel) rfl ⟨Nat.le_of_ble_eq_true rfl, Nat.le_of_ble_eq_true rfl⟩ ⟨Nat.le_of_ble_eq_true rfl, Nat.le_of_ble_eq_true rfl⟩ rfl (Nat.le_of_ble_eq_true rfl) d_Xr_readOperands_75 hE hP hD hS hA [1, 2] [0] rfl rfl rfl rfl (by decide) (ci := 2) rfl rfl 1 rfl (fun u h => ⟨u, h.mono (fun f p q => by rw [hsh, bnd_T q]), fun _ h => h, fun h => h, Nat.le_refl _, Nat.le_refl _⟩) (fun v_75 u_75 H locs hp_75 hP hD hS => ?_)
  obtain ⟨v0, a0_, hn0, rfl, rfl⟩ := hp_75
  have hP : va_P D cls [(x0, .inr (3, [.ref h0, .ref z0, .int dep, .int dcI])), (h0, .inr (2, [.ref h1, .int (nI a0_), .int (nI lm), .int f, .int pl])), (h1, .inl (cA 0, 2000, .inl bs))] H := hP
  have hD : va_D A [(x0, .inr (3, [.ref h0, .ref z0, .int dep, .int dcI])), (h0, .inr (2, [.ref h1, .int (nI a0_), .int (nI lm), .int f, .int pl])), (h1, .inl (cA 0, 2000, .inl bs))] := hD
  refine W.cs (cells' := 0) (slots' := 0) rfl rfl ?_
  refine W.eq (g2 := F0 m 78 ls [.long (lN v0)]) rfl ?_
  have ho0 := pU32_ok (by omega) hn0
  refine lv_pop2_2 hx hb d_Xr_readOperands_78 rfl ?_
  refine lv_goto (tgt := 291) hx hb d_Xr_readOperands_79 (by decide) ?_
  exact cRv (nI a0_, nI lm, f, pl) hx hb hr hlocks d_Xr_readOperands_291 hS hP hD (⟨a0_, by rw [hsh, bnd_E hn0], rfl, rfl⟩) (Nat.le_refl _) (Nat.le_refl _)
set_option maxHeartbeats 4000000 in
set_option maxRecDepth 100000 in
/-- readOperands(3, bg) -/
theorem c_Xr_ops3 (l : Launch) (hl9 : l.stackTraces = false) (D : va_G) (cA : Nat → ClassId) (ad : Nat → Nat) (sz : Nat) (x0 z0 h0 h1 : Nat) (bs : Nat → Int32) (dep dcI : Int32) (a lm bg : Nat) (f pl : Int32) (hlm : lm ≤ 2000) (hal : a ≤ lm) :
    cM l y_Xr_readOperands (.code y_Xr_readOperands b_Xr_readOperands 5 none :: wAll) ({ frames := 8, cells := 1, slots := 6, locals := 128 }) D cA ad [.ref x0, .int 3, .int (nI bg)] (wXs cA x0 z0 h0 h1 bs dep dcI (nI a, nI lm, f, pl)) sz (vP (pShape (bv bs) lm bg 3 a) lm f pl) (tP (pShape (bv bs) lm bg 3 a)) (wXs cA x0 z0 h0 h1 bs dep dcI) (fun _ => (0, 0)) := by
  refine cM.ofW (cc := b_Xr_readOperands) (maxL := 5) (ret := none) (by decide) (Nat.le_of_ble_eq_true rfl) ?_
  intro pg ev s m bw meth cdx A ls hF hsz hA hE hP hD hl
  obtain ⟨⟨hx, hb, hml, hown, hts⟩, hr, hno, hlocks, hin⟩ := hF
  subst hsz
  have hown : s.vm.findClass "ModuleBytes$ExpressionReader" = some m.cls := hown
  have hS : va_S A s.heap s.heap [] := va_S.rf
  have hl : lv_has ls 5 [(0, .ref x0), (1, .int 3), (2, .int (nI bg))] := hl
  have hP : va_P D cls [(x0, .inr (3, [.ref h0, .ref z0, .int dep, .int dcI])), (h0, .inr (2, [.ref h1, .int (nI a), .int (nI lm), .int f, .int pl])), (h1, .inl (cA 0, 2000, .inl bs))] s.heap := hP
  have hD : va_D A [(x0, .inr (3, [.ref h0, .ref z0, .int dep, .int dcI])), (h0, .inr (2, [.ref h1, .int (nI a), .int (nI lm), .int f, .int pl])), (h1, .inl (cA 0, 2000, .inl bs))] := hD
  have hsh : pShape (bv bs) lm bg 3 a = bnd (pU32 (bv bs) lm a) (fun _ b0 => bnd (pU32 (bv bs) lm b0) (fun _ b1 => .inr ((), b1))) := rfl
  refine lv_iload_n hx hb d_Xr_readOperands_0 rfl (lv_at hl 1 rfl) ?_
  refine lv_tableIn (off := 81) (tgt := 82) hx hb d_Xr_readOperands_1 (by decide) (by decide) (by decide) (by decide) ?_
  refine lv_aload_n hx hb d_Xr_readOperands_82 rfl (lv_at hl 0 rfl) ?_
  refine va_get (D := D) (ci := 3) (v := .ref h0) (C := R_Xr) (T := F_Xr) (N := 4) hx hb hts (fun w h => List.mem_cons_of_mem _ (i_Xr w h)) hown hE.1 hP 0 rfl rfl 0 (by decide) (hts _ (List.mem_cons_of_mem _ iw1_123)) (fun _ h9 => h9) rfl d_Xr_readOperands_83 ?_
  refine cV (As := []) (rest := []) (n := 0) (wc := [(h0, .inr (2, [.ref h1, .int (nI a), .int (nI lm), .int f, .int pl])), (h1, .inl (cA 0, 2000, .inl bs))]) (wr := [(x0, .inr (3, [.ref h0, .ref z0, .int dep, .int dcI]))]) ⟨hx, hb, hml, hown, hts⟩ hno hlocks hl.1 (c_Sr_u32 l hl9 D cA ad s.heap.size h0 h1 bs a lm f pl hlm (by omega)) iw2_189 iw2_51 iw2_52 iw1_5 iw2_53 (by decide +kernel) rfl ⟨Nat.le_of_ble_eq_true rfl, Nat.le_of_ble_eq_true rfl⟩ ⟨Nat.le_of_ble_eq_true rfl, Nat.le_of_ble_eq_true rfl⟩ rfl (Nat.le_of_ble_eq_true rfl) d_Xr_readOperands_86 hE hP hD hS hA [1, 2] [0] rfl rfl rfl rfl (by decide) (ci := 2) rfl rfl 1 rfl (fun u h => ⟨u, h.mono (fun f p q => by rw [hsh, bnd_T q]), fun _ h => h, fun h => h, Nat.le_refl _, Nat.le_refl _⟩) (fun v_86 u_86 H locs hp_86 hP hD hS => ?_)
  obtain ⟨v0, a0_, hn0, rfl, rfl⟩ := hp_86
  have hP : va_P D cls [(x0, .inr (3, [.ref h0, .ref z0, .int dep, .int dcI])), (h0, .inr (2, [.ref h1, .int (nI a0_), .int (nI lm), .int f, .int pl])), (h1, .inl (cA 0, 2000, .inl bs))] H := hP
  have hD : va_D A [(x0, .inr (3, [.ref h0, .ref z0, .int dep, .int dcI])), (h0, .inr (2, [.ref h1, .int (nI a0_), .int (nI lm), .int f, .int pl])), (h1, .inl (cA 0, 2000, .inl bs))] := hD
  refine W.cs (cells' := 0) (slots' := 0) rfl rfl ?_
  refine W.eq (g2 := F0 m 89 ls [.long (lN v0)]) rfl ?_
  have ho0 := pU32_ok (by omega) hn0
  refine lv_pop2_2 hx hb d_Xr_readOperands_89 rfl ?_
  refine lv_aload_n hx hb d_Xr_readOperands_90 rfl (lv_at hl 0 rfl) ?_
  refine va_get (D := D) (ci := 3) (v := .ref h0) (C := R_Xr) (T := F_Xr) (N := 4) hx hb hts (fun w h => List.mem_cons_of_mem _ (i_Xr w h)) hown hE.1 hP 0 rfl rfl 0 (by decide) (hts _ (List.mem_cons_of_mem _ iw1_123)) (fun _ h9 => h9) rfl d_Xr_readOperands_91 ?_
  refine cV (As := []) (rest := []) (n := 0) (wc := [(h0, .inr (2, [.ref h1, .int (nI a0_), .int (nI lm), .int f, .int pl])), (h1, .inl (cA 0, 2000, .inl bs))]) (wr := [(x0, .inr (3, [.ref h0, .ref z0, .int dep, .int dcI]))]) ⟨hx, hb, hml, hown, hts⟩ hno hlocks hl.1 (c_Sr_u32 l hl9 D cA ad H.size h0 h1 bs a0_ lm f pl hlm (by omega)) iw2_189 iw2_51 iw2_52 iw1_5 iw2_53 (by decide +kernel) rfl ⟨Nat.le_of_ble_eq_true rfl, Nat.le_of_ble_eq_true rfl⟩ ⟨Nat.le_of_ble_eq_true rfl, Nat.le_of_ble_eq_true rfl⟩ rfl (Nat.le_of_ble_eq_true rfl) d_Xr_readOperands_94 hE hP hD hS hA [1, 2] [0] rfl rfl rfl rfl (by decide) (ci := 2) rfl rfl 1 rfl (fun u h => ⟨u, h.mono (fun f p q => by rw [hsh, bnd_E hn0, bnd_T q]), fun _ h => h, fun h => h, Nat.le_refl _, Nat.le_refl _⟩) (fun v_94 u_94 H locs hp_94 hP hD hS => ?_)
  obtain ⟨v1, a1_, hn1, rfl, rfl⟩ := hp_94
  have hP : va_P D cls [(x0, .inr (3, [.ref h0, .ref z0, .int dep, .int dcI])), (h0, .inr (2, [.ref h1, .int (nI a1_), .int (nI lm), .int f, .int pl])), (h1, .inl (cA 0, 2000, .inl bs))] H := hP
  have hD : va_D A [(x0, .inr (3, [.ref h0, .ref z0, .int dep, .int dcI])), (h0, .inr (2, [.ref h1, .int (nI a1_), .int (nI lm), .int f, .int pl])), (h1, .inl (cA 0, 2000, .inl bs))] := hD
  refine W.cs (cells' := 0) (slots' := 0) rfl rfl ?_
  refine W.eq (g2 := F0 m 97 ls [.long (lN v1)]) rfl ?_
  have ho1 := pU32_ok (by omega) hn1
  refine lv_pop2_2 hx hb d_Xr_readOperands_97 rfl ?_
  refine lv_goto (tgt := 291) hx hb d_Xr_readOperands_98 (by decide) ?_
  exact cRv (nI a1_, nI lm, f, pl) hx hb hr hlocks d_Xr_readOperands_291 hS hP hD (⟨a1_, by rw [hsh, bnd_E hn0, bnd_E hn1], rfl, rfl⟩) (Nat.le_refl _) (Nat.le_refl _)
set_option maxHeartbeats 4000000 in
set_option maxRecDepth 100000 in
/-- readOperands(6, bg) -/
theorem c_Xr_ops6 (l : Launch) (hl9 : l.stackTraces = false) (D : va_G) (cA : Nat → ClassId) (ad : Nat → Nat) (sz : Nat) (x0 z0 h0 h1 : Nat) (bs : Nat → Int32) (dep dcI : Int32) (a lm bg : Nat) (f pl : Int32) (hlm : lm ≤ 2000) (hal : a ≤ lm) :
    cM l y_Xr_readOperands (.code y_Xr_readOperands b_Xr_readOperands 5 none :: wAll) ({ frames := 8, cells := 1, slots := 6, locals := 128 }) D cA ad [.ref x0, .int 6, .int (nI bg)] (wXs cA x0 z0 h0 h1 bs dep dcI (nI a, nI lm, f, pl)) sz (vP (pShape (bv bs) lm bg 6 a) lm f pl) (tP (pShape (bv bs) lm bg 6 a)) (wXs cA x0 z0 h0 h1 bs dep dcI) (fun _ => (0, 0)) := by
  refine cM.ofW (cc := b_Xr_readOperands) (maxL := 5) (ret := none) (by decide) (Nat.le_of_ble_eq_true rfl) ?_
  intro pg ev s m bw meth cdx A ls hF hsz hA hE hP hD hl
  obtain ⟨⟨hx, hb, hml, hown, hts⟩, hr, hno, hlocks, hin⟩ := hF
  subst hsz
  have hown : s.vm.findClass "ModuleBytes$ExpressionReader" = some m.cls := hown
  have hS : va_S A s.heap s.heap [] := va_S.rf
  have hl : lv_has ls 5 [(0, .ref x0), (1, .int 6), (2, .int (nI bg))] := hl
  have hP : va_P D cls [(x0, .inr (3, [.ref h0, .ref z0, .int dep, .int dcI])), (h0, .inr (2, [.ref h1, .int (nI a), .int (nI lm), .int f, .int pl])), (h1, .inl (cA 0, 2000, .inl bs))] s.heap := hP
  have hD : va_D A [(x0, .inr (3, [.ref h0, .ref z0, .int dep, .int dcI])), (h0, .inr (2, [.ref h1, .int (nI a), .int (nI lm), .int f, .int pl])), (h1, .inl (cA 0, 2000, .inl bs))] := hD
  have hsh : pShape (bv bs) lm bg 6 a = bnd (pChoice (bv bs) lm 0 a) (fun _ b0 => .inr ((), b0)) := rfl
  refine lv_iload_n hx hb d_Xr_readOperands_0 rfl (lv_at hl 1 rfl) ?_
  refine lv_tableIn (off := 164) (tgt := 165) hx hb d_Xr_readOperands_1 (by decide) (by decide) (by decide) (by decide) ?_
  refine lv_aload_n hx hb d_Xr_readOperands_165 rfl (lv_at hl 0 rfl) ?_
  refine va_get (D := D) (ci := 3) (v := .ref h0) (C := R_Xr) (T := F_Xr) (N := 4) hx hb hts (fun w h => List.mem_cons_of_mem _ (i_Xr w h)) hown hE.1 hP 0 rfl rfl 0 (by decide) (hts _ (List.mem_cons_of_mem _ iw1_123)) (fun _ h9 => h9) rfl d_Xr_readOperands_166 ?_
  refine lv_iconst (v := 0) hx hb d_Xr_readOperands_169 (by decide) ?_
  refine cV (As := [.int 0]) (rest := []) (n := 1) (wc := [(h0, .inr (2, [.ref h1, .int (nI a), .int (nI lm), .int f, .int pl])), (h1, .inl (cA 0, 2000, .inl bs))]) (wr := [(x0, .inr (3, [.ref h0, .ref z0, .int dep, .int dcI]))]) ⟨hx, hb, hml, hown, hts⟩ hno hlocks hl.1 (c_Sr_choice l hl9 D cA ad s.heap.size h0 h1 bs a lm f pl hlm (by omega) 0 (by decide)) iw2_199 iw2_129 iw2_130 iw1_5 iw2_131 (by decide +kernel) rfl ⟨Nat.le_of_ble_eq_true rfl, Nat.le_of_ble_eq_true rfl⟩ ⟨Nat.le_of_ble_eq_true rfl, Nat.le_of_ble_eq_true rfl⟩ rfl (Nat.le_of_ble_eq_true rfl) d_Xr_readOperands_170 hE hP hD hS hA [1, 2] [0] rfl rfl rfl rfl (by decide) (ci := 2) rfl rfl 1 rfl (fun u h => ⟨u, h.mono (fun f p q => by rw [hsh, bnd_T q]), fun _ h => h, fun h => h, Nat.le_refl _, Nat.le_refl _⟩) (fun v_170 u_170 H locs hp_170 hP hD hS => ?_)
  obtain ⟨v0, a0_, hn0, rfl, rfl⟩ := hp_170
  have hP : va_P D cls [(x0, .inr (3, [.ref h0, .ref z0, .int dep, .int dcI])), (h0, .inr (2, [.ref h1, .int (nI a0_), .int (nI lm), .int f, .int pl])), (h1, .inl (cA 0, 2000, .inl bs))] H := hP
  have hD : va_D A [(x0, .inr (3, [.ref h0, .ref z0, .int dep, .int dcI])), (h0, .inr (2, [.ref h1, .int (nI a0_), .int (nI lm), .int f, .int pl])), (h1, .inl (cA 0, 2000, .inl bs))] := hD
  refine W.cs (cells' := 0) (slots' := 0) rfl rfl ?_
  refine W.eq (g2 := F0 m 173 ls [.int (nI v0)]) rfl ?_
  have ho0 := pChoice_ok hn0
  refine lv_pop hx hb d_Xr_readOperands_173 rfl ?_
  refine lv_goto (tgt := 291) hx hb d_Xr_readOperands_174 (by decide) ?_
  exact cRv (nI a0_, nI lm, f, pl) hx hb hr hlocks d_Xr_readOperands_291 hS hP hD (⟨a0_, by rw [hsh, bnd_E hn0], rfl, rfl⟩) (Nat.le_refl _) (Nat.le_refl _)
set_option maxHeartbeats 4000000 in
set_option maxRecDepth 100000 in
/-- readOperands(7, bg) -/
theorem c_Xr_ops7 (l : Launch) (hl9 : l.stackTraces = false) (D : va_G) (cA : Nat → ClassId) (ad : Nat → Nat) (sz : Nat) (x0 z0 h0 h1 : Nat) (bs : Nat → Int32) (dep dcI : Int32) (a lm bg : Nat) (f pl : Int32) (hlm : lm ≤ 2000) (hal : a ≤ lm) :
    cM l y_Xr_readOperands (.code y_Xr_readOperands b_Xr_readOperands 5 none :: wAll) ({ frames := 8, cells := 1, slots := 6, locals := 128 }) D cA ad [.ref x0, .int 7, .int (nI bg)] (wXs cA x0 z0 h0 h1 bs dep dcI (nI a, nI lm, f, pl)) sz (vP (pShape (bv bs) lm bg 7 a) lm f pl) (tP (pShape (bv bs) lm bg 7 a)) (wXs cA x0 z0 h0 h1 bs dep dcI) (fun _ => (0, 0)) := by
  refine cM.ofW (cc := b_Xr_readOperands) (maxL := 5) (ret := none) (by decide) (Nat.le_of_ble_eq_true rfl) ?_
  intro pg ev s m bw meth cdx A ls hF hsz hA hE hP hD hl
  obtain ⟨⟨hx, hb, hml, hown, hts⟩, hr, hno, hlocks, hin⟩ := hF
  subst hsz
  have hown : s.vm.findClass "ModuleBytes$ExpressionReader" = some m.cls := hown
  have hS : va_S A s.heap s.heap [] := va_S.rf
  have hl : lv_has ls 5 [(0, .ref x0), (1, .int 7), (2, .int (nI bg))] := hl
  have hP : va_P D cls [(x0, .inr (3, [.ref h0, .ref z0, .int dep, .int dcI])), (h0, .inr (2, [.ref h1, .int (nI a), .int (nI lm), .int f, .int pl])), (h1, .inl (cA 0, 2000, .inl bs))] s.heap := hP
  have hD : va_D A [(x0, .inr (3, [.ref h0, .ref z0, .int dep, .int dcI])), (h0, .inr (2, [.ref h1, .int (nI a), .int (nI lm), .int f, .int pl])), (h1, .inl (cA 0, 2000, .inl bs))] := hD
  have hsh : pShape (bv bs) lm bg 7 a = bnd (pChoice (bv bs) lm 0 a) (fun _ b0 => bnd (pChoice (bv bs) lm 0 b0) (fun _ b1 => .inr ((), b1))) := rfl
  refine lv_iload_n hx hb d_Xr_readOperands_0 rfl (lv_at hl 1 rfl) ?_
  refine lv_tableIn (off := 176) (tgt := 177) hx hb d_Xr_readOperands_1 (by decide) (by decide) (by decide) (by decide) ?_
  refine lv_aload_n hx hb d_Xr_readOperands_177 rfl (lv_at hl 0 rfl) ?_
  refine va_get (D := D) (ci := 3) (v := .ref h0) (C := R_Xr) (T := F_Xr) (N := 4) hx hb hts (fun w h => List.mem_cons_of_mem _ (i_Xr w h)) hown hE.1 hP 0 rfl rfl 0 (by decide) (hts _ (List.mem_cons_of_mem _ iw1_123)) (fun _ h9 => h9) rfl d_Xr_readOperands_178 ?_
  refine lv_iconst (v := 0) hx hb d_Xr_readOperands_181 (by decide) ?_
  refine cV (As := [.int 0]) (rest := []) (n := 1) (wc := [(h0, .inr (2, [.ref h1, .int (nI a), .int (nI lm), .int f, .int pl])), (h1, .inl (cA 0, 2000, .inl bs))]) (wr := [(x0, .inr (3, [.ref h0, .ref z0, .int dep, .int dcI]))]) ⟨hx, hb, hml, hown, hts⟩ hno hlocks hl.1 (c_Sr_choice l hl9 D cA ad s.heap.size h0 h1 bs a lm f pl hlm (by omega) 0 (by decide)) iw2_199 iw2_129 iw2_130 iw1_5 iw2_131 (by decide +kernel) rfl ⟨Nat.le_of_ble_eq_true rfl, Nat.le_of_ble_eq_true rfl⟩ ⟨Nat.le_of_ble_eq_true rfl, Nat.le_of_ble_eq_true rfl⟩ rfl (Nat.le_of_ble_eq_true rfl) d_Xr_readOperands_182 hE hP hD hS hA [1, 2] [0] rfl rfl rfl rfl (by decide) (ci := 2) rfl rfl 1 rfl (fun u h => ⟨u, h.mono (fun f p q => by rw [hsh, bnd_T q]), fun _ h => h, fun h => h, Nat.le_refl _, Nat.le_refl _⟩) (fun v_182 u_182 H locs hp_182 hP hD hS => ?_)
  obtain ⟨v0, a0_, hn0, rfl, rfl⟩ := hp_182
  have hP : va_P D cls [(x0, .inr (3, [.ref h0, .ref z0, .int dep, .int dcI])), (h0, .inr (2, [.ref h1, .int (nI a0_), .int (nI lm), .int f, .int pl])), (h1, .inl (cA 0, 2000, .inl bs))] H := hP
  have hD : va_D A [(x0, .inr (3, [.ref h0, .ref z0, .int dep, .int dcI])), (h0, .inr (2, [.ref h1, .int (nI a0_), .int (nI lm), .int f, .int pl])), (h1, .inl (cA 0, 2000, .inl bs))] := hD
  refine W.cs (cells' := 0) (slots' := 0) rfl rfl ?_
  refine W.eq (g2 := F0 m 185 ls [.int (nI v0)]) rfl ?_
  have ho0 := pChoice_ok hn0
  refine lv_pop hx hb d_Xr_readOperands_185 rfl ?_
  refine lv_aload_n hx hb d_Xr_readOperands_186 rfl (lv_at hl 0 rfl) ?_
  refine va_get (D := D) (ci := 3) (v := .ref h0) (C := R_Xr) (T := F_Xr) (N := 4) hx hb hts (fun w h => List.mem_cons_of_mem _ (i_Xr w h)) hown hE.1 hP 0 rfl rfl 0 (by decide) (hts _ (List.mem_cons_of_mem _ iw1_123)) (fun _ h9 => h9) rfl d_Xr_readOperands_187 ?_
  refine lv_iconst (v := 0) hx hb d_Xr_readOperands_190 (by decide) ?_
  refine cV (As := [.int 0]) (rest := []) (n := 1) (wc := [(h0, .inr (2, [.ref h1, .int (nI a0_), .int (nI lm), .int f, .int pl])), (h1, .inl (cA 0, 2000, .inl bs))]) (wr := [(x0, .inr (3, [.ref h0, .ref z0, .int dep, .int dcI]))]) ⟨hx, hb, hml, hown, hts⟩ hno hlocks hl.1 (c_Sr_choice l hl9 D cA ad H.size h0 h1 bs a0_ lm f pl hlm (by omega) 0 (by decide)) iw2_199 iw2_129 iw2_130 iw1_5 iw2_131 (by decide +kernel) rfl ⟨Nat.le_of_ble_eq_true rfl, Nat.le_of_ble_eq_true rfl⟩ ⟨Nat.le_of_ble_eq_true rfl, Nat.le_of_ble_eq_true rfl⟩ rfl (Nat.le_of_ble_eq_true rfl) d_Xr_readOperands_191 hE hP hD hS hA [1, 2] [0] rfl rfl rfl rfl (by decide) (ci := 2) rfl rfl 1 rfl (fun u h => ⟨u, h.mono (fun f p q => by rw [hsh, bnd_E hn0, bnd_T q]), fun _ h => h, fun h => h, Nat.le_refl _, Nat.le_refl _⟩) (fun v_191 u_191 H locs hp_191 hP hD hS => ?_)
  obtain ⟨v1, a1_, hn1, rfl, rfl⟩ := hp_191
  have hP : va_P D cls [(x0, .inr (3, [.ref h0, .ref z0, .int dep, .int dcI])), (h0, .inr (2, [.ref h1, .int (nI a1_), .int (nI lm), .int f, .int pl])), (h1, .inl (cA 0, 2000, .inl bs))] H := hP
  have hD : va_D A [(x0, .inr (3, [.ref h0, .ref z0, .int dep, .int dcI])), (h0, .inr (2, [.ref h1, .int (nI a1_), .int (nI lm), .int f, .int pl])), (h1, .inl (cA 0, 2000, .inl bs))] := hD
  refine W.cs (cells' := 0) (slots' := 0) rfl rfl ?_
  refine W.eq (g2 := F0 m 194 ls [.int (nI v1)]) rfl ?_
  have ho1 := pChoice_ok hn1
  refine lv_pop hx hb d_Xr_readOperands_194 rfl ?_
  refine lv_goto (tgt := 291) hx hb d_Xr_readOperands_195 (by decide) ?_
  exact cRv (nI a1_, nI lm, f, pl) hx hb hr hlocks d_Xr_readOperands_291 hS hP hD (⟨a1_, by rw [hsh, bnd_E hn0, bnd_E hn1], rfl, rfl⟩) (Nat.le_refl _) (Nat.le_refl _)
set_option maxHeartbeats 4000000 in
set_option maxRecDepth 100000 in
/-- readOperands(8, bg) -/
theorem c_Xr_ops8 (l : Launch) (hl9 : l.stackTraces = false) (D : va_G) (cA : Nat → ClassId) (ad : Nat → Nat) (sz : Nat) (x0 z0 h0 h1 : Nat) (bs : Nat → Int32) (dep dcI : Int32) (a lm bg : Nat) (f pl : Int32) (hlm : lm ≤ 2000) (hal : a ≤ lm) :
    cM l y_Xr_readOperands (.code y_Xr_readOperands b_Xr_readOperands 5 none :: wAll) ({ frames := 8, cells := 1, slots := 6, locals := 128 }) D cA ad [.ref x0, .int 8, .int (nI bg)] (wXs cA x0 z0 h0 h1 bs dep dcI (nI a, nI lm, f, pl)) sz (vP (pShape (bv bs) lm bg 8 a) lm f pl) (tP (pShape (bv bs) lm bg 8 a)) (wXs cA x0 z0 h0 h1 bs dep dcI) (fun _ => (0, 0)) := by
  refine cM.ofW (cc := b_Xr_readOperands) (maxL := 5) (ret := none) (by decide) (Nat.le_of_ble_eq_true rfl) ?_
  intro pg ev s m bw meth cdx A ls hF hsz hA hE hP hD hl
  obtain ⟨⟨hx, hb, hml, hown, hts⟩, hr, hno, hlocks, hin⟩ := hF
  subst hsz
  have hown : s.vm.findClass "ModuleBytes$ExpressionReader" = some m.cls := hown
  have hS : va_S A s.heap s.heap [] := va_S.rf
  have hl : lv_has ls 5 [(0, .ref x0), (1, .int 8), (2, .int (nI bg))] := hl
  have hP : va_P D cls [(x0, .inr (3, [.ref h0, .ref z0, .int dep, .int dcI])), (h0, .inr (2, [.ref h1, .int (nI a), .int (nI lm), .int f, .int pl])), (h1, .inl (cA 0, 2000, .inl bs))] s.heap := hP
  have hD : va_D A [(x0, .inr (3, [.ref h0, .ref z0, .int dep, .int dcI])), (h0, .inr (2, [.ref h1, .int (nI a), .int (nI lm), .int f, .int pl])), (h1, .inl (cA 0, 2000, .inl bs))] := hD
  have hsh : pShape (bv bs) lm bg 8 a = bnd (pU32 (bv bs) lm a) (fun _ b0 => bnd (pChoice (bv bs) lm 0 b0) (fun _ b1 => .inr ((), b1))) := rfl
  refine lv_iload_n hx hb d_Xr_readOperands_0 rfl (lv_at hl 1 rfl) ?_
  refine lv_tableIn (off := 197) (tgt := 198) hx hb d_Xr_readOperands_1 (by decide) (by decide) (by decide) (by decide) ?_
  refine lv_aload_n hx hb d_Xr_readOperands_198 rfl (lv_at hl 0 rfl) ?_
  refine va_get (D := D) (ci := 3) (v := .ref h0) (C := R_Xr) (T := F_Xr) (N := 4) hx hb hts (fun w h => List.mem_cons_of_mem _ (i_Xr w h)) hown hE.1 hP 0 rfl rfl 0 (by decide) (hts _ (List.mem_cons_of_mem _ iw1_123)) (fun _ h9 => h9) rfl d_Xr_readOperands_199 ?_
  refine cV (As := []) (rest := []) (n := 0) (wc := [(h0, .inr (2, [.ref h1, .int (nI a), .int (nI lm), .int f, .int pl])), (h1, .inl (cA 0, 2000, .inl bs))]) (wr := [(x0, .inr (3, [.ref h0, .ref z0, .int dep, .int dcI]))]) ⟨hx, hb, hml, hown, hts⟩ hno hlocks hl.1 (c_Sr_u32 l hl9 D cA ad s.heap.size h0 h1 bs a lm f pl hlm (by omega)) iw2_189 iw2_51 iw2_52 iw1_5 iw2_53 (by decide +kernel) rfl ⟨Nat.le_of_ble_eq_true rfl, Nat.le_of_ble_eq_true rfl⟩ ⟨Nat.le_of_ble_eq_true rfl, Nat.le_of_ble_eq_true rfl⟩ rfl (Nat.le_of_ble_eq_true rfl) d_Xr_readOperands_202 hE hP hD hS hA [1, 2] [0] rfl rfl rfl rfl (by decide) (ci := 2) rfl rfl 1 rfl (fun u h => ⟨u, h.mono (fun f p q => by rw [hsh, bnd_T q]), fun _ h => h, fun h => h, Nat.le_refl _, Nat.le_refl _⟩) (fun v_202 u_202 H locs hp_202 hP hD hS => ?_)
  obtain ⟨v0, a0_, hn0, rfl, rfl⟩ := hp_202
  have hP : va_P D cls [(x0, .inr (3, [.ref h0, .ref z0, .int dep, .int dcI])), (h0, .inr (2, [.ref h1, .int (nI a0_), .int (nI lm), .int f, .int pl])), (h1, .inl (cA 0, 2000, .inl bs))] H := hP
  have hD : va_D A [(x0, .inr (3, [.ref h0, .ref z0, .int dep, .int dcI])), (h0, .inr (2, [.ref h1, .int (nI a0_), .int (nI lm), .int f, .int pl])), (h1, .inl (cA 0, 2000, .inl bs))] := hD
  refine W.cs (cells' := 0) (slots' := 0) rfl rfl ?_
  refine W.eq (g2 := F0 m 205 ls [.long (lN v0)]) rfl ?_
  have ho0 := pU32_ok (by omega) hn0
  refine lv_pop2_2 hx hb d_Xr_readOperands_205 rfl ?_
  refine lv_aload_n hx hb d_Xr_readOperands_206 rfl (lv_at hl 0 rfl) ?_
  refine va_get (D := D) (ci := 3) (v := .ref h0) (C := R_Xr) (T := F_Xr) (N := 4) hx hb hts (fun w h => List.mem_cons_of_mem _ (i_Xr w h)) hown hE.1 hP 0 rfl rfl 0 (by decide) (hts _ (List.mem_cons_of_mem _ iw1_123)) (fun _ h9 => h9) rfl d_Xr_readOperands_207 ?_
  refine lv_iconst (v := 0) hx hb d_Xr_readOperands_210 (by decide) ?_
  refine cV (As := [.int 0]) (rest := []) (n := 1) (wc := [(h0, .inr (2, [.ref h1, .int (nI a0_), .int (nI lm), .int f, .int pl])), (h1, .inl (cA 0, 2000, .inl bs))]) (wr := [(x0, .inr (3, [.ref h0, .ref z0, .int dep, .int dcI]))]) ⟨hx, hb, hml, hown, hts⟩ hno hlocks hl.1 (c_Sr_choice l hl9 D cA ad H.size h0 h1 bs a0_ lm f pl hlm (by omega) 0 (by decide)) iw2_199 iw2_129 iw2_130 iw1_5 iw2_131 (by decide +kernel) rfl ⟨Nat.le_of_ble_eq_true rfl, Nat.le_of_ble_eq_true rfl⟩ ⟨Nat.le_of_ble_eq_true rfl, Nat.le_of_ble_eq_true rfl⟩ rfl (Nat.le_of_ble_eq_true rfl) d_Xr_readOperands_211 hE hP hD hS hA [1, 2] [0] rfl rfl rfl rfl (by decide) (ci := 2) rfl rfl 1 rfl (fun u h => ⟨u, h.mono (fun f p q => by rw [hsh, bnd_E hn0, bnd_T q]), fun _ h => h, fun h => h, Nat.le_refl _, Nat.le_refl _⟩) (fun v_211 u_211 H locs hp_211 hP hD hS => ?_)
  obtain ⟨v1, a1_, hn1, rfl, rfl⟩ := hp_211
  have hP : va_P D cls [(x0, .inr (3, [.ref h0, .ref z0, .int dep, .int dcI])), (h0, .inr (2, [.ref h1, .int (nI a1_), .int (nI lm), .int f, .int pl])), (h1, .inl (cA 0, 2000, .inl bs))] H := hP
  have hD : va_D A [(x0, .inr (3, [.ref h0, .ref z0, .int dep, .int dcI])), (h0, .inr (2, [.ref h1, .int (nI a1_), .int (nI lm), .int f, .int pl])), (h1, .inl (cA 0, 2000, .inl bs))] := hD
  refine W.cs (cells' := 0) (slots' := 0) rfl rfl ?_
  refine W.eq (g2 := F0 m 214 ls [.int (nI v1)]) rfl ?_
  have ho1 := pChoice_ok hn1
  refine lv_pop hx hb d_Xr_readOperands_214 rfl ?_
  refine lv_goto (tgt := 291) hx hb d_Xr_readOperands_215 (by decide) ?_
  exact cRv (nI a1_, nI lm, f, pl) hx hb hr hlocks d_Xr_readOperands_291 hS hP hD (⟨a1_, by rw [hsh, bnd_E hn0, bnd_E hn1], rfl, rfl⟩) (Nat.le_refl _) (Nat.le_refl _)
set_option maxHeartbeats 4000000 in
set_option maxRecDepth 100000 in
/-- readOperands(9, bg) -/
theorem c_Xr_ops9 (l : Launch) (hl9 : l.stackTraces = false) (D : va_G) (cA : Nat → ClassId) (ad : Nat → Nat) (sz : Nat) (x0 z0 h0 h1 : Nat) (bs : Nat → Int32) (dep dcI : Int32) (a lm bg : Nat) (f pl : Int32) (hlm : lm ≤ 2000) (hal : a ≤ lm) :
    cM l y_Xr_readOperands (.code y_Xr_readOperands b_Xr_readOperands 5 none :: wAll) ({ frames := 8, cells := 1, slots := 6, locals := 128 }) D cA ad [.ref x0, .int 9, .int (nI bg)] (wXs cA x0 z0 h0 h1 bs dep dcI (nI a, nI lm, f, pl)) sz (vP (pShape (bv bs) lm bg 9 a) lm f pl) (tP (pShape (bv bs) lm bg 9 a)) (wXs cA x0 z0 h0 h1 bs dep dcI) (fun _ => (0, 0)) := by
  refine cM.ofW (cc := b_Xr_readOperands) (maxL := 5) (ret := none) (by decide) (Nat.le_of_ble_eq_true rfl) ?_
  intro pg ev s m bw meth cdx A ls hF hsz hA hE hP hD hl
  obtain ⟨⟨hx, hb, hml, hown, hts⟩, hr, hno, hlocks, hin⟩ := hF
  subst hsz
  have hown : s.vm.findClass "ModuleBytes$ExpressionReader" = some m.cls := hown
  have hS : va_S A s.heap s.heap [] := va_S.rf
  have hl : lv_has ls 5 [(0, .ref x0), (1, .int 9), (2, .int (nI bg))] := hl
  have hP : va_P D cls [(x0, .inr (3, [.ref h0, .ref z0, .int dep, .int dcI])), (h0, .inr (2, [.ref h1, .int (nI a), .int (nI lm), .int f, .int pl])), (h1, .inl (cA 0, 2000, .inl bs))] s.heap := hP
  have hD : va_D A [(x0, .inr (3, [.ref h0, .ref z0, .int dep, .int dcI])), (h0, .inr (2, [.ref h1, .int (nI a), .int (nI lm), .int f, .int pl])), (h1, .inl (cA 0, 2000, .inl bs))] := hD
  have hsh : pShape (bv bs) lm bg 9 a = bnd (pS32 (bv bs) lm a) (fun _ b0 => .inr ((), b0)) := rfl
  refine lv_iload_n hx hb d_Xr_readOperands_0 rfl (lv_at hl 1 rfl) ?_
  refine lv_tableIn (off := 217) (tgt := 218) hx hb d_Xr_readOperands_1 (by decide) (by decide) (by decide) (by decide) ?_
  refine lv_aload_n hx hb d_Xr_readOperands_218 rfl (lv_at hl 0 rfl) ?_
  refine va_get (D := D) (ci := 3) (v := .ref h0) (C := R_Xr) (T := F_Xr) (N := 4) hx hb hts (fun w h => List.mem_cons_of_mem _ (i_Xr w h)) hown hE.1 hP 0 rfl rfl 0 (by decide) (hts _ (List.mem_cons_of_mem _ iw1_123)) (fun _ h9 => h9) rfl d_Xr_readOperands_219 ?_
  refine lv_bipush (v := 32) hx hb d_Xr_readOperands_222 (by decide) ?_
  refine cV (As := [.int 32]) (rest := []) (n := 1) (wc := [(h0, .inr (2, [.ref h1, .int (nI a), .int (nI lm), .int f, .int pl])), (h1, .inl (cA 0, 2000, .inl bs))]) (wr := [(x0, .inr (3, [.ref h0, .ref z0, .int dep, .int dcI]))]) ⟨hx, hb, hml, hown, hts⟩ hno hlocks hl.1 (c_Sr_signed32 l hl9 D cA ad s.heap.size h0 h1 bs a lm f pl hlm (by omega)) iw2_200 iw2_173 iw2_174 iw1_5 iw2_175 (by decide +kernel) rfl ⟨Nat.le_of_ble_eq_true rfl, Nat.le_of_ble_eq_true rfl⟩ ⟨Nat.le_of_ble_eq_true rfl, Nat.le_of_ble_eq_true rfl⟩ rfl (Nat.le_of_ble_eq_true rfl) d_Xr_readOperands_224 hE hP hD hS hA [1, 2] [0] rfl rfl rfl rfl (by decide) (ci := 2) rfl rfl 1 rfl (fun u h => ⟨u, h.mono (fun f p q => by rw [hsh, bnd_T q]), fun _ h => h, fun h => h, Nat.le_refl _, Nat.le_refl _⟩) (fun v_224 u_224 H locs hp_224 hP hD hS => ?_)
  obtain ⟨v0, a0_, hn0, rfl, rfl⟩ := hp_224
  have hP : va_P D cls [(x0, .inr (3, [.ref h0, .ref z0, .int dep, .int dcI])), (h0, .inr (2, [.ref h1, .int (nI a0_), .int (nI lm), .int f, .int pl])), (h1, .inl (cA 0, 2000, .inl bs))] H := hP
  have hD : va_D A [(x0, .inr (3, [.ref h0, .ref z0, .int dep, .int dcI])), (h0, .inr (2, [.ref h1, .int (nI a0_), .int (nI lm), .int f, .int pl])), (h1, .inl (cA 0, 2000, .inl bs))] := hD
  refine W.cs (cells' := 0) (slots' := 0) rfl rfl ?_
  refine W.eq (g2 := F0 m 227 ls [.int (nI v0)]) rfl ?_
  have ho0 := pSg_ok 4 32 _ _ _ (by omega) hn0
  refine lv_pop hx hb d_Xr_readOperands_227 rfl ?_
  refine lv_goto (tgt := 291) hx hb d_Xr_readOperands_228 (by decide) ?_
  exact cRv (nI a0_, nI lm, f, pl) hx hb hr hlocks d_Xr_readOperands_291 hS hP hD (⟨a0_, by rw [hsh, bnd_E hn0], rfl, rfl⟩) (Nat.le_refl _) (Nat.le_refl _)
set_option maxHeartbeats 4000000 in
set_option maxRecDepth 100000 in
/-- readOperands(10, bg) -/
theorem c_Xr_ops10 (l : Launch) (hl9 : l.stackTraces = false) (D : va_G) (cA : Nat → ClassId) (ad : Nat → Nat) (sz : Nat) (x0 z0 h0 h1 : Nat) (bs : Nat → Int32) (dep dcI : Int32) (a lm bg : Nat) (f pl : Int32) (hlm : lm ≤ 2000) (hal : a ≤ lm) :
    cM l y_Xr_readOperands (.code y_Xr_readOperands b_Xr_readOperands 5 none :: wAll) ({ frames := 8, cells := 1, slots := 6, locals := 128 }) D cA ad [.ref x0, .int 10, .int (nI bg)] (wXs cA x0 z0 h0 h1 bs dep dcI (nI a, nI lm, f, pl)) sz (vP (pShape (bv bs) lm bg 10 a) lm f pl) (tP (pShape (bv bs) lm bg 10 a)) (wXs cA x0 z0 h0 h1 bs dep dcI) (fun _ => (0, 0)) := by
  refine cM.ofW (cc := b_Xr_readOperands) (maxL := 5) (ret := none) (by decide) (Nat.le_of_ble_eq_true rfl) ?_
  intro pg ev s m bw meth cdx A ls hF hsz hA hE hP hD hl
  obtain ⟨⟨hx, hb, hml, hown, hts⟩, hr, hno, hlocks, hin⟩ := hF
  subst hsz
  have hown : s.vm.findClass "ModuleBytes$ExpressionReader" = some m.cls := hown
  have hS : va_S A s.heap s.heap [] := va_S.rf
  have hl : lv_has ls 5 [(0, .ref x0), (1, .int 10), (2, .int (nI bg))] := hl
  have hP : va_P D cls [(x0, .inr (3, [.ref h0, .ref z0, .int dep, .int dcI])), (h0, .inr (2, [.ref h1, .int (nI a), .int (nI lm), .int f, .int pl])), (h1, .inl (cA 0, 2000, .inl bs))] s.heap := hP
  have hD : va_D A [(x0, .inr (3, [.ref h0, .ref z0, .int dep, .int dcI])), (h0, .inr (2, [.ref h1, .int (nI a), .int (nI lm), .int f, .int pl])), (h1, .inl (cA 0, 2000, .inl bs))] := hD
  have hsh : pShape (bv bs) lm bg 10 a = bnd (pS64 (bv bs) lm a) (fun _ b0 => .inr ((), b0)) := rfl
  refine lv_iload_n hx hb d_Xr_readOperands_0 rfl (lv_at hl 1 rfl) ?_
  refine lv_tableIn (off := 230) (tgt := 231) hx hb d_Xr_readOperands_1 (by decide) (by decide) (by decide) (by decide) ?_
  refine lv_aload_n hx hb d_Xr_readOperands_231 rfl (lv_at hl 0 rfl) ?_
  refine va_get (D := D) (ci := 3) (v := .ref h0) (C := R_Xr) (T := F_Xr) (N := 4) hx hb hts (fun w h => List.mem_cons_of_mem _ (i_Xr w h)) hown hE.1 hP 0 rfl rfl 0 (by decide) (hts _ (List.mem_cons_of_mem _ iw1_123)) (fun _ h9 => h9) rfl d_Xr_readOperands_232 ?_
  refine lv_bipush (v := 64) hx hb d_Xr_readOperands_235 (by decide) ?_
  refine cV (As := [.int 64]) (rest := []) (n := 1) (wc := [(h0, .inr (2, [.ref h1, .int (nI a), .int (nI lm), .int f, .int pl])), (h1, .inl (cA 0, 2000, .inl bs))]) (wr := [(x0, .inr (3, [.ref h0, .ref z0, .int dep, .int dcI]))]) ⟨hx, hb, hml, hown, hts⟩ hno hlocks hl.1 (c_Sr_signed64 l hl9 D cA ad s.heap.size h0 h1 bs a lm f pl hlm (by omega)) iw2_200 iw2_173 iw2_174 iw1_5 iw2_175 (by decide +kernel) rfl ⟨Nat.le_of_ble_eq_true rfl, Nat.le_of_ble_eq_true rfl⟩ ⟨Nat.le_of_ble_eq_true rfl, Nat.le_of_ble_eq_true rfl⟩ rfl (Nat.le_of_ble_eq_true rfl) d_Xr_readOperands_237 hE hP hD hS hA [1, 2] [0] rfl rfl rfl rfl (by decide) (ci := 2) rfl rfl 1 rfl (fun u h => ⟨u, h.mono (fun f p q => by rw [hsh, bnd_T q]), fun _ h => h, fun h => h, Nat.le_refl _, Nat.le_refl _⟩) (fun v_237 u_237 H locs hp_237 hP hD hS => ?_)
  obtain ⟨v0, a0_, hn0, rfl, rfl⟩ := hp_237
  have hP : va_P D cls [(x0, .inr (3, [.ref h0, .ref z0, .int dep, .int dcI])), (h0, .inr (2, [.ref h1, .int (nI a0_), .int (nI lm), .int f, .int pl])), (h1, .inl (cA 0, 2000, .inl bs))] H := hP
  have hD : va_D A [(x0, .inr (3, [.ref h0, .ref z0, .int dep, .int dcI])), (h0, .inr (2, [.ref h1, .int (nI a0_), .int (nI lm), .int f, .int pl])), (h1, .inl (cA 0, 2000, .inl bs))] := hD
  refine W.cs (cells' := 0) (slots' := 0) rfl rfl ?_
  refine W.eq (g2 := F0 m 240 ls [.int (nI v0)]) rfl ?_
  have ho0 := pSg_ok 9 64 _ _ _ (by omega) hn0
  refine lv_pop hx hb d_Xr_readOperands_240 rfl ?_
  refine lv_goto (tgt := 291) hx hb d_Xr_readOperands_241 (by decide) ?_
  exact cRv (nI a0_, nI lm, f, pl) hx hb hr hlocks d_Xr_readOperands_291 hS hP hD (⟨a0_, by rw [hsh, bnd_E hn0], rfl, rfl⟩) (Nat.le_refl _) (Nat.le_refl _)
set_option maxHeartbeats 4000000 in
set_option maxRecDepth 100000 in
/-- readOperands(11, bg) -/
theorem c_Xr_ops11 (l : Launch) (hl9 : l.stackTraces = false) (D : va_G) (cA : Nat → ClassId) (ad : Nat → Nat) (sz : Nat) (x0 z0 h0 h1 : Nat) (bs : Nat → Int32) (dep dcI : Int32) (a lm bg : Nat) (f pl : Int32) (hlm : lm ≤ 2000) (hal : a ≤ lm) :
    cM l y_Xr_readOperands (.code y_Xr_readOperands b_Xr_readOperands 5 none :: wAll) ({ frames := 8, cells := 1, slots := 6, locals := 128 }) D cA ad [.ref x0, .int 11, .int (nI bg)] (wXs cA x0 z0 h0 h1 bs dep dcI (nI a, nI lm, f, pl)) sz (vP (pShape (bv bs) lm bg 11 a) lm f pl) (tP (pShape (bv bs) lm bg 11 a)) (wXs cA x0 z0 h0 h1 bs dep dcI) (fun _ => (0, 0)) := by
  refine cM.ofW (cc := b_Xr_readOperands) (maxL := 5) (ret := none) (by decide) (Nat.le_of_ble_eq_true rfl) ?_
  intro pg ev s m bw meth cdx A ls hF hsz hA hE hP hD hl
  obtain ⟨⟨hx, hb, hml, hown, hts⟩, hr, hno, hlocks, hin⟩ := hF
  subst hsz
  have hown : s.vm.findClass "ModuleBytes$ExpressionReader" = some m.cls := hown
  have hS : va_S A s.heap s.heap [] := va_S.rf
  have hl : lv_has ls 5 [(0, .ref x0), (1, .int 11), (2, .int (nI bg))] := hl
  have hP : va_P D cls [(x0, .inr (3, [.ref h0, .ref z0, .int dep, .int dcI])), (h0, .inr (2, [.ref h1, .int (nI a), .int (nI lm), .int f, .int pl])), (h1, .inl (cA 0, 2000, .inl bs))] s.heap := hP
  have hD : va_D A [(x0, .inr (3, [.ref h0, .ref z0, .int dep, .int dcI])), (h0, .inr (2, [.ref h1, .int (nI a), .int (nI lm), .int f, .int pl])), (h1, .inl (cA 0, 2000, .inl bs))] := hD
  have hsh : pShape (bv bs) lm bg 11 a = pSkip lm 4 a := rfl
  refine lv_iload_n hx hb d_Xr_readOperands_0 rfl (lv_at hl 1 rfl) ?_
  refine lv_tableIn (off := 243) (tgt := 244) hx hb d_Xr_readOperands_1 (by decide) (by decide) (by decide) (by decide) ?_
  refine lv_aload_n hx hb d_Xr_readOperands_244 rfl (lv_at hl 0 rfl) ?_
  refine va_get (D := D) (ci := 3) (v := .ref h0) (C := R_Xr) (T := F_Xr) (N := 4) hx hb hts (fun w h => List.mem_cons_of_mem _ (i_Xr w h)) hown hE.1 hP 0 rfl rfl 0 (by decide) (hts _ (List.mem_cons_of_mem _ iw1_123)) (fun _ h9 => h9) rfl d_Xr_readOperands_245 ?_
  refine lv_ldc2 hx hb hown (hts _ (List.mem_cons_of_mem _ iw2_201)) d_Xr_readOperands_248 ?_
  refine cV (As := [.long 4]) (rest := []) (n := 1) (wc := [(h0, .inr (2, [.ref h1, .int (nI a), .int (nI lm), .int f, .int pl])), (h1, .inl (cA 0, 2000, .inl bs))]) (wr := [(x0, .inr (3, [.ref h0, .ref z0, .int dep, .int dcI]))]) ⟨hx, hb, hml, hown, hts⟩ hno hlocks hl.1 (c_Sr_skip l hl9 D cA ad s.heap.size h0 h1 bs a lm f pl hlm (by omega) 4 (by decide)) iw2_202 iw2_85 iw2_86 iw1_5 iw2_87 (by decide +kernel) rfl ⟨Nat.le_of_ble_eq_true rfl, Nat.le_of_ble_eq_true rfl⟩ ⟨Nat.le_of_ble_eq_true rfl, Nat.le_of_ble_eq_true rfl⟩ rfl (Nat.le_of_ble_eq_true rfl) d_Xr_readOperands_251 hE hP hD hS hA [1, 2] [0] rfl rfl rfl rfl (by decide) (ci := 2) rfl rfl 1 rfl (fun u h => ⟨u, h.mono (fun f p q => by rw [hsh]; exact q), fun _ h => h, fun h => h, Nat.le_refl _, Nat.le_refl _⟩) (fun v_251 u_251 H locs hp_251 hP hD hS => ?_)
  obtain ⟨a0_, hn0, rfl, rfl⟩ := hp_251
  have hP : va_P D cls [(x0, .inr (3, [.ref h0, .ref z0, .int dep, .int dcI])), (h0, .inr (2, [.ref h1, .int (nI a0_), .int (nI lm), .int f, .int pl])), (h1, .inl (cA 0, 2000, .inl bs))] H := hP
  have hD : va_D A [(x0, .inr (3, [.ref h0, .ref z0, .int dep, .int dcI])), (h0, .inr (2, [.ref h1, .int (nI a0_), .int (nI lm), .int f, .int pl])), (h1, .inl (cA 0, 2000, .inl bs))] := hD
  refine W.cs (cells' := 0) (slots' := 0) rfl rfl ?_
  refine W.eq (g2 := F0 m 254 ls []) rfl ?_
  have ho0 := pSkip_ok hn0
  refine lv_goto (tgt := 291) hx hb d_Xr_readOperands_254 (by decide) ?_
  exact cRv (nI a0_, nI lm, f, pl) hx hb hr hlocks d_Xr_readOperands_291 hS hP hD (⟨a0_, by rw [hsh]; exact hn0, rfl, rfl⟩) (Nat.le_refl _) (Nat.le_refl _)
set_option maxHeartbeats 4000000 in
set_option maxRecDepth 100000 in
/-- readOperands(12, bg) -/
theorem c_Xr_ops12 (l : Launch) (hl9 : l.stackTraces = false) (D : va_G) (cA : Nat → ClassId) (ad : Nat → Nat) (sz : Nat) (x0 z0 h0 h1 : Nat) (bs : Nat → Int32) (dep dcI : Int32) (a lm bg : Nat) (f pl : Int32) (hlm : lm ≤ 2000) (hal : a ≤ lm) :
    cM l y_Xr_readOperands (.code y_Xr_readOperands b_Xr_readOperands 5 none :: wAll) ({ frames := 8, cells := 1, slots := 6, locals := 128 }) D cA ad [.ref x0, .int 12, .int (nI bg)] (wXs cA x0 z0 h0 h1 bs dep dcI (nI a, nI lm, f, pl)) sz (vP (pShape (bv bs) lm bg 12 a) lm f pl) (tP (pShape (bv bs) lm bg 12 a)) (wXs cA x0 z0 h0 h1 bs dep dcI) (fun _ => (0, 0)) := by
  refine cM.ofW (cc := b_Xr_readOperands) (maxL := 5) (ret := none) (by decide) (Nat.le_of_ble_eq_true rfl) ?_
  intro pg ev s m bw meth cdx A ls hF hsz hA hE hP hD hl
  obtain ⟨⟨hx, hb, hml, hown, hts⟩, hr, hno, hlocks, hin⟩ := hF
  subst hsz
  have hown : s.vm.findClass "ModuleBytes$ExpressionReader" = some m.cls := hown
  have hS : va_S A s.heap s.heap [] := va_S.rf
  have hl : lv_has ls 5 [(0, .ref x0), (1, .int 12), (2, .int (nI bg))] := hl
  have hP : va_P D cls [(x0, .inr (3, [.ref h0, .ref z0, .int dep, .int dcI])), (h0, .inr (2, [.ref h1, .int (nI a), .int (nI lm), .int f, .int pl])), (h1, .inl (cA 0, 2000, .inl bs))] s.heap := hP
  have hD : va_D A [(x0, .inr (3, [.ref h0, .ref z0, .int dep, .int dcI])), (h0, .inr (2, [.ref h1, .int (nI a), .int (nI lm), .int f, .int pl])), (h1, .inl (cA 0, 2000, .inl bs))] := hD
  have hsh : pShape (bv bs) lm bg 12 a = pSkip lm 8 a := rfl
  refine lv_iload_n hx hb d_Xr_readOperands_0 rfl (lv_at hl 1 rfl) ?_
  refine lv_tableIn (off := 256) (tgt := 257) hx hb d_Xr_readOperands_1 (by decide) (by decide) (by decide) (by decide) ?_
  refine lv_aload_n hx hb d_Xr_readOperands_257 rfl (lv_at hl 0 rfl) ?_
  refine va_get (D := D) (ci := 3) (v := .ref h0) (C := R_Xr) (T := F_Xr) (N := 4) hx hb hts (fun w h => List.mem_cons_of_mem _ (i_Xr w h)) hown hE.1 hP 0 rfl rfl 0 (by decide) (hts _ (List.mem_cons_of_mem _ iw1_123)) (fun _ h9 => h9) rfl d_Xr_readOperands_258 ?_
  refine lv_ldc2 hx hb hown (hts _ (List.mem_cons_of_mem _ iw2_190)) d_Xr_readOperands_261 ?_
  refine cV (As := [.long 8]) (rest := []) (n := 1) (wc := [(h0, .inr (2, [.ref h1, .int (nI a), .int (nI lm), .int f, .int pl])), (h1, .inl (cA 0, 2000, .inl bs))]) (wr := [(x0, .inr (3, [.ref h0, .ref z0, .int dep, .int dcI]))]) ⟨hx, hb, hml, hown, hts⟩ hno hlocks hl.1 (c_Sr_skip l hl9 D cA ad s.heap.size h0 h1 bs a lm f pl hlm (by omega) 8 (by decide)) iw2_202 iw2_85 iw2_86 iw1_5 iw2_87 (by decide +kernel) rfl ⟨Nat.le_of_ble_eq_true rfl, Nat.le_of_ble_eq_true rfl⟩ ⟨Nat.le_of_ble_eq_true rfl, Nat.le_of_ble_eq_true rfl⟩ rfl (Nat.le_of_ble_eq_true rfl) d_Xr_readOperands_264 hE hP hD hS hA [1, 2] [0] rfl rfl rfl rfl (by decide) (ci := 2) rfl rfl 1 rfl (fun u h => ⟨u, h.mono (fun f p q => by rw [hsh]; exact q), fun _ h => h, fun h => h, Nat.le_refl _, Nat.le_refl _⟩) (fun v_264 u_264 H locs hp_264 hP hD hS => ?_)
  obtain ⟨a0_, hn0, rfl, rfl⟩ := hp_264
  have hP : va_P D cls [(x0, .inr (3, [.ref h0, .ref z0, .int dep, .int dcI])), (h0, .inr (2, [.ref h1, .int (nI a0_), .int (nI lm), .int f, .int pl])), (h1, .inl (cA 0, 2000, .inl bs))] H := hP
  have hD : va_D A [(x0, .inr (3, [.ref h0, .ref z0, .int dep, .int dcI])), (h0, .inr (2, [.ref h1, .int (nI a0_), .int (nI lm), .int f, .int pl])), (h1, .inl (cA 0, 2000, .inl bs))] := hD
  refine W.cs (cells' := 0) (slots' := 0) rfl rfl ?_
  refine W.eq (g2 := F0 m 267 ls []) rfl ?_
  have ho0 := pSkip_ok hn0
  refine lv_goto (tgt := 291) hx hb d_Xr_readOperands_267 (by decide) ?_
  exact cRv (nI a0_, nI lm, f, pl) hx hb hr hlocks d_Xr_readOperands_291 hS hP hD (⟨a0_, by rw [hsh]; exact hn0, rfl, rfl⟩) (Nat.le_refl _) (Nat.le_refl _)
set_option maxHeartbeats 4000000 in
set_option maxRecDepth 100000 in
/-- readOperands(13, bg) -/
theorem c_Xr_ops13 (l : Launch) (hl9 : l.stackTraces = false) (D : va_G) (cA : Nat → ClassId) (ad : Nat → Nat) (sz : Nat) (x0 z0 h0 h1 : Nat) (bs : Nat → Int32) (dep dcI : Int32) (a lm bg : Nat) (f pl : Int32) (hlm : lm ≤ 2000) (hal : a ≤ lm) :
    cM l y_Xr_readOperands (.code y_Xr_readOperands b_Xr_readOperands 5 none :: wAll) ({ frames := 8, cells := 1, slots := 6, locals := 128 }) D cA ad [.ref x0, .int 13, .int (nI bg)] (wXs cA x0 z0 h0 h1 bs dep dcI (nI a, nI lm, f, pl)) sz (vP (pShape (bv bs) lm bg 13 a) lm f pl) (tP (pShape (bv bs) lm bg 13 a)) (wXs cA x0 z0 h0 h1 bs dep dcI) (fun _ => (0, 0)) := by
  refine cM.ofW (cc := b_Xr_readOperands) (maxL := 5) (ret := none) (by decide) (Nat.le_of_ble_eq_true rfl) ?_
  intro pg ev s m bw meth cdx A ls hF hsz hA hE hP hD hl
  obtain ⟨⟨hx, hb, hml, hown, hts⟩, hr, hno, hlocks, hin⟩ := hF
  subst hsz
  have hown : s.vm.findClass "ModuleBytes$ExpressionReader" = some m.cls := hown
  have hS : va_S A s.heap s.heap [] := va_S.rf
  have hl : lv_has ls 5 [(0, .ref x0), (1, .int 13), (2, .int (nI bg))] := hl
  have hP : va_P D cls [(x0, .inr (3, [.ref h0, .ref z0, .int dep, .int dcI])), (h0, .inr (2, [.ref h1, .int (nI a), .int (nI lm), .int f, .int pl])), (h1, .inl (cA 0, 2000, .inl bs))] s.heap := hP
  have hD : va_D A [(x0, .inr (3, [.ref h0, .ref z0, .int dep, .int dcI])), (h0, .inr (2, [.ref h1, .int (nI a), .int (nI lm), .int f, .int pl])), (h1, .inl (cA 0, 2000, .inl bs))] := hD
  have hsh : pShape (bv bs) lm bg 13 a = bnd (pType tRef (bv bs) lm a) (fun _ b0 => .inr ((), b0)) := rfl
  refine lv_iload_n hx hb d_Xr_readOperands_0 rfl (lv_at hl 1 rfl) ?_
  refine lv_tableIn (off := 269) (tgt := 270) hx hb d_Xr_readOperands_1 (by decide) (by decide) (by decide) (by decide) ?_
  refine lv_aload_n hx hb d_Xr_readOperands_270 rfl (lv_at hl 0 rfl) ?_
  refine va_get (D := D) (ci := 3) (v := .ref h0) (C := R_Xr) (T := F_Xr) (N := 4) hx hb hts (fun w h => List.mem_cons_of_mem _ (i_Xr w h)) hown hE.1 hP 0 rfl rfl 0 (by decide) (hts _ (List.mem_cons_of_mem _ iw1_123)) (fun _ h9 => h9) rfl d_Xr_readOperands_271 ?_
  refine cV (As := []) (rest := []) (n := 0) (wc := [(h0, .inr (2, [.ref h1, .int (nI a), .int (nI lm), .int f, .int pl])), (h1, .inl (cA 0, 2000, .inl bs))]) (wr := [(x0, .inr (3, [.ref h0, .ref z0, .int dep, .int dcI]))]) ⟨hx, hb, hml, hown, hts⟩ hno hlocks hl.1 (c_Sr_referenceType l hl9 D cA ad s.heap.size h0 h1 bs a lm f pl hlm (by omega)) iw2_203 iw2_137 iw2_138 iw1_5 iw2_139 (by decide +kernel) rfl ⟨Nat.le_of_ble_eq_true rfl, Nat.le_of_ble_eq_true rfl⟩ ⟨Nat.le_of_ble_eq_true rfl, Nat.le_of_ble_eq_true rfl⟩ rfl (Nat.le_of_ble_eq_true rfl) d_Xr_readOperands_274 hE hP hD hS hA [1, 2] [0] rfl rfl rfl rfl (by decide) (ci := 2) rfl rfl 1 rfl (fun u h => ⟨u, h.mono (fun f p q => by rw [hsh, bnd_T q]), fun _ h => h, fun h => h, Nat.le_refl _, Nat.le_refl _⟩) (fun v_274 u_274 H locs hp_274 hP hD hS => ?_)
  obtain ⟨v0, a0_, hn0, rfl, rfl⟩ := hp_274
  have hP : va_P D cls [(x0, .inr (3, [.ref h0, .ref z0, .int dep, .int dcI])), (h0, .inr (2, [.ref h1, .int (nI a0_), .int (nI lm), .int f, .int pl])), (h1, .inl (cA 0, 2000, .inl bs))] H := hP
  have hD : va_D A [(x0, .inr (3, [.ref h0, .ref z0, .int dep, .int dcI])), (h0, .inr (2, [.ref h1, .int (nI a0_), .int (nI lm), .int f, .int pl])), (h1, .inl (cA 0, 2000, .inl bs))] := hD
  refine W.cs (cells' := 0) (slots' := 0) rfl rfl ?_
  refine W.eq (g2 := F0 m 277 ls [.int (nI v0)]) rfl ?_
  have ho0 := pType_ok hn0
  refine lv_pop hx hb d_Xr_readOperands_277 rfl ?_
  refine lv_goto (tgt := 291) hx hb d_Xr_readOperands_278 (by decide) ?_
  exact cRv (nI a0_, nI lm, f, pl) hx hb hr hlocks d_Xr_readOperands_291 hS hP hD (⟨a0_, by rw [hsh, bnd_E hn0], rfl, rfl⟩) (Nat.le_refl _) (Nat.le_refl _)
set_option maxHeartbeats 4000000 in
set_option maxRecDepth 100000 in
/-- readOperands(0, bg) -/
theorem c_Xr_ops0 (l : Launch) (hl9 : l.stackTraces = false) (D : va_G) (cA : Nat → ClassId) (ad : Nat → Nat) (sz : Nat) (x0 z0 h0 h1 : Nat) (bs : Nat → Int32) (dep dcI : Int32) (a lm bg : Nat) (f pl : Int32) (hlm : lm ≤ 2000) (hal : a ≤ lm) :
    cM l y_Xr_readOperands (.code y_Xr_readOperands b_Xr_readOperands 5 none :: wAll) ({ frames := 8, cells := 1, slots := 6, locals := 128 }) D cA ad [.ref x0, .int 0, .int (nI bg)] (wXs cA x0 z0 h0 h1 bs dep dcI (nI a, nI lm, f, pl)) sz (vP (pShape (bv bs) lm bg 0 a) lm f pl) (tP (pShape (bv bs) lm bg 0 a)) (wXs cA x0 z0 h0 h1 bs dep dcI) (fun _ => (0, 0)) := by
  refine cM.ofW (cc := b_Xr_readOperands) (maxL := 5) (ret := none) (by decide) (Nat.le_of_ble_eq_true rfl) ?_
  intro pg ev s m bw meth cdx A ls hF hsz hA hE hP hD hl
  obtain ⟨⟨hx, hb, hml, hown, hts⟩, hr, hno, hlocks, hin⟩ := hF
  subst hsz
  have hown : s.vm.findClass "ModuleBytes$ExpressionReader" = some m.cls := hown
  have hS : va_S A s.heap s.heap [] := va_S.rf
  have hl : lv_has ls 5 [(0, .ref x0), (1, .int 0), (2, .int (nI bg))] := hl
  have hP : va_P D cls [(x0, .inr (3, [.ref h0, .ref z0, .int dep, .int dcI])), (h0, .inr (2, [.ref h1, .int (nI a), .int (nI lm), .int f, .int pl])), (h1, .inl (cA 0, 2000, .inl bs))] s.heap := hP
  have hD : va_D A [(x0, .inr (3, [.ref h0, .ref z0, .int dep, .int dcI])), (h0, .inr (2, [.ref h1, .int (nI a), .int (nI lm), .int f, .int pl])), (h1, .inl (cA 0, 2000, .inl bs))] := hD
  refine lv_iload_n hx hb d_Xr_readOperands_0 rfl (lv_at hl 1 rfl) ?_
  refine lv_tableOut (tgt := 281) hx hb d_Xr_readOperands_1 (by decide) (by decide) ?_
  refine lv_aload_n hx hb d_Xr_readOperands_281 rfl (lv_at hl 0 rfl) ?_
  refine va_get (D := D) (ci := 3) (v := .ref h0) (C := R_Xr) (T := F_Xr) (N := 4) hx hb hts (fun w h => List.mem_cons_of_mem _ (i_Xr w h)) hown hE.1 hP 0 rfl rfl 0 (by decide) (hts _ (List.mem_cons_of_mem _ iw1_123)) (fun _ h9 => h9) rfl d_Xr_readOperands_282 ?_
  refine lv_bipush (v := 10) hx hb d_Xr_readOperands_285 (by decide) ?_
  refine lv_iload_n hx hb d_Xr_readOperands_287 rfl (lv_at hl 2 rfl) ?_
  refine cV (As := [.int 10, .int (nI bg)]) (rest := []) (n := 2) (wc := [(h0, .inr (2, [.ref h1, .int (nI a), .int (nI lm), .int f, .int pl])), (h1, .inl (cA 0, 2000, .inl bs))]) (wr := [(x0, .inr (3, [.ref h0, .ref z0, .int dep, .int dcI]))]) ⟨hx, hb, hml, hown, hts⟩ hno hlocks hl.1 (c_Sr_fail l hl9 D cA ad s.heap.size h0 h1 bs (nI a) (nI lm) f pl 10 (nI bg)) iw2_184 iw2_36 iw2_37 iw1_5 iw2_38 (by decide +kernel) rfl ⟨Nat.le_of_ble_eq_true rfl, Nat.le_of_ble_eq_true rfl⟩ ⟨Nat.le_of_ble_eq_true rfl, Nat.le_of_ble_eq_true rfl⟩ rfl (Nat.le_of_ble_eq_true rfl) d_Xr_readOperands_288 hE hP hD hS hA [1, 2] [0] rfl rfl rfl rfl (by decide) (ci := 2) rfl rfl 1 rfl (fun u h => ⟨u, ⟨10, bg, rfl, by rw [h] <;> rfl, by rw [h]⟩, fun _ h => h, fun h => h, Nat.le_refl _, Nat.le_refl _⟩) (fun v_288 u_288 H locs hp_288 hP hD hS => ?_)
  exact hp_288.elim
set_option maxHeartbeats 4000000 in
set_option maxRecDepth 100000 in
/-- readOperands(4, bg) -/
theorem c_Xr_ops4 (l : Launch) (hl9 : l.stackTraces = false) (D : va_G) (cA : Nat → ClassId) (ad : Nat → Nat) (sz : Nat) (x0 z0 h0 h1 : Nat) (bs : Nat → Int32) (dep dcI : Int32) (a lm bg : Nat) (f pl : Int32) (hlm : lm ≤ 2000) (hal : a ≤ lm) :
    cM l y_Xr_readOperands (.code y_Xr_readOperands b_Xr_readOperands 5 none :: wAll) ({ frames := 8, cells := 1, slots := 6, locals := 128 }) D cA ad [.ref x0, .int 4, .int (nI bg)] (wXs cA x0 z0 h0 h1 bs dep dcI (nI a, nI lm, f, pl)) sz (vP (pShape (bv bs) lm bg 4 a) lm f pl) (tP (pShape (bv bs) lm bg 4 a)) (wXs cA x0 z0 h0 h1 bs dep dcI) (fun _ => (0, 0)) := by
  refine cM.ofW (cc := b_Xr_readOperands) (maxL := 5) (ret := none) (by decide) (Nat.le_of_ble_eq_true rfl) ?_
  intro pg ev s m bw meth cdx A ls hF hsz hA hE hP hD hl
  obtain ⟨⟨hx, hb, hml, hown, hts⟩, hr, hno, hlocks, hin⟩ := hF
  subst hsz
  have hown : s.vm.findClass "ModuleBytes$ExpressionReader" = some m.cls := hown
  have hS : va_S A s.heap s.heap [] := va_S.rf
  have hl : lv_has ls 5 [(0, .ref x0), (1, .int 4), (2, .int (nI bg))] := hl
  have hP : va_P D cls [(x0, .inr (3, [.ref h0, .ref z0, .int dep, .int dcI])), (h0, .inr (2, [.ref h1, .int (nI a), .int (nI lm), .int f, .int pl])), (h1, .inl (cA 0, 2000, .inl bs))] s.heap := hP
  have hD : va_D A [(x0, .inr (3, [.ref h0, .ref z0, .int dep, .int dcI])), (h0, .inr (2, [.ref h1, .int (nI a), .int (nI lm), .int f, .int pl])), (h1, .inl (cA 0, 2000, .inl bs))] := hD
  have hsh : pShape (bv bs) lm bg 4 a = bnd (pU32 (bv bs) lm a) (fun n a1 => rep (pU32 (bv bs) lm) (n + 1) a1) := rfl
  refine lv_iload_n hx hb d_Xr_readOperands_0 rfl (lv_at hl 1 rfl) ?_
  refine lv_tableIn (off := 100) (tgt := 101) hx hb d_Xr_readOperands_1 (by decide) (by decide) (by decide) (by decide) ?_
  refine lv_aload_n hx hb d_Xr_readOperands_101 rfl (lv_at hl 0 rfl) ?_
  refine va_get (D := D) (ci := 3) (v := .ref h0) (C := R_Xr) (T := F_Xr) (N := 4) hx hb hts (fun w h => List.mem_cons_of_mem _ (i_Xr w h)) hown hE.1 hP 0 rfl rfl 0 (by decide) (hts _ (List.mem_cons_of_mem _ iw1_123)) (fun _ h9 => h9) rfl d_Xr_readOperands_102 ?_
  refine cV (As := []) (rest := []) (n := 0) (wc := [(h0, .inr (2, [.ref h1, .int (nI a), .int (nI lm), .int f, .int pl])), (h1, .inl (cA 0, 2000, .inl bs))]) (wr := [(x0, .inr (3, [.ref h0, .ref z0, .int dep, .int dcI]))]) ⟨hx, hb, hml, hown, hts⟩ hno hlocks hl.1 (c_Sr_u32 l hl9 D cA ad s.heap.size h0 h1 bs a lm f pl hlm (by omega)) iw2_189 iw2_51 iw2_52 iw1_5 iw2_53 (by decide +kernel) rfl ⟨Nat.le_of_ble_eq_true rfl, Nat.le_of_ble_eq_true rfl⟩ ⟨Nat.le_of_ble_eq_true rfl, Nat.le_of_ble_eq_true rfl⟩ rfl (Nat.le_of_ble_eq_true rfl) d_Xr_readOperands_105 hE hP hD hS hA [1, 2] [0] rfl rfl rfl rfl (by decide) (ci := 2) rfl rfl 1 rfl (fun u h => ⟨u, h.mono (fun f p q => by rw [hsh, bnd_T q]), fun _ h => h, fun h => h, Nat.le_refl _, Nat.le_refl _⟩) (fun v_105 u_105 H locs hp_105 hP hD hS => ?_)
  obtain ⟨v0, a0_, hn0, rfl, rfl⟩ := hp_105
  have hP : va_P D cls [(x0, .inr (3, [.ref h0, .ref z0, .int dep, .int dcI])), (h0, .inr (2, [.ref h1, .int (nI a0_), .int (nI lm), .int f, .int pl])), (h1, .inl (cA 0, 2000, .inl bs))] H := hP
  have hD : va_D A [(x0, .inr (3, [.ref h0, .ref z0, .int dep, .int dcI])), (h0, .inr (2, [.ref h1, .int (nI a0_), .int (nI lm), .int f, .int pl])), (h1, .inl (cA 0, 2000, .inl bs))] := hD
  refine W.cs (cells' := 0) (slots' := 0) rfl rfl ?_
  refine W.eq (g2 := F0 m 108 ls [.long (lN v0)]) rfl ?_
  have ho0 := pU32_ok (by omega) hn0
  refine lv_lstore_n (lv' := [(3, .long (lN v0)), (0, .ref x0), (1, .int 4), (2, .int (nI bg))]) hx hb d_Xr_readOperands_108 rfl hl (by decide) rfl (fun ls hl => ?_)
  have key : ∀ (j a3 : Nat) (H : Heap) (locs : List Loc) (ls : Array Slot), j < 4294967296 → a3 ≤ lm → pShape (bv bs) lm bg 4 a = rep (pU32 (bv bs) lm) (j + 1) a3 → va_P D cls [(x0, .inr (3, [.ref h0, .ref z0, .int dep, .int dcI])), (h0, .inr (2, [.ref h1, .int (nI a3), .int (nI lm), .int f, .int pl])), (h1, .inl (cA 0, 2000, .inl bs))] H → va_D A [(x0, .inr (3, [.ref h0, .ref z0, .int dep, .int dcI])), (h0, .inr (2, [.ref h1, .int (nI a3), .int (nI lm), .int f, .int pl])), (h1, .inl (cA 0, 2000, .inl bs))] → va_S A s.heap H locs → lv_has ls 5 [(0, .ref x0), (1, .int 4), (2, .int (nI bg)), (3, .long (lN j))] → W pg l ev ({ frames := 8, cells := 1, slots := 6, locals := 128 }) s m ([.ref x0, .int 4, .int (nI bg)] : List Value).toArray bw meth cdx H locs 0 0 (tx_Q bw (cQ D (vP (pShape (bv bs) lm bg 4 a) lm f pl) (tP (pShape (bv bs) lm bg 4 a)) (wXs cA x0 z0 h0 h1 bs dep dcI) (fun _ => (0, 0)) A) ([.ref x0, .int 4, .int (nI bg)] : List Value).toArray s A) (F0 m 109 ls []) := by
    intro j
    induction j with
    | zero =>
      intro a3 H locs ls hj ha3 hrep hP hD hS hl
      refine lv_lload_n hx hb d_Xr_readOperands_109 rfl (lv_at hl 3 rfl) ?_
      refine lv_lconst (v := 0) hx hb d_Xr_readOperands_110 (by decide) ?_
      refine W.lcmp hx hb d_Xr_readOperands_111 ?_
      refine lv_if_lt (tgt := 130) hx hb d_Xr_readOperands_112 (by decide) (fun c_112 => absurd c_112 ((by rw [lg_cmp_lt, show (0 : Int64) = lN 0 from rfl, pk_lLT (by omega) (by omega)]; omega))) (fun c_112 => ?_)
      refine lv_aload_n hx hb d_Xr_readOperands_115 rfl (lv_at hl 0 rfl) ?_
      refine va_get (D := D) (ci := 3) (v := .ref h0) (C := R_Xr) (T := F_Xr) (N := 4) hx hb hts (fun w h => List.mem_cons_of_mem _ (i_Xr w h)) hown hE.1 hP 0 rfl rfl 0 (by decide) (hts _ (List.mem_cons_of_mem _ iw1_123)) (fun _ h9 => h9) rfl d_Xr_readOperands_116 ?_
      refine cV (As := []) (rest := []) (n := 0) (wc := [(h0, .inr (2, [.ref h1, .int (nI a3), .int (nI lm), .int f, .int pl])), (h1, .inl (cA 0, 2000, .inl bs))]) (wr := [(x0, .inr (3, [.ref h0, .ref z0, .int dep, .int dcI]))]) ⟨hx, hb, hml, hown, hts⟩ hno hlocks hl.1 (c_Sr_u32 l hl9 D cA ad H.size h0 h1 bs a3 lm f pl hlm (by omega)) iw2_189 iw2_51 iw2_52 iw1_5 iw2_53 (by decide +kernel) rfl ⟨Nat.le_of_ble_eq_true rfl, Nat.le_of_ble_eq_true rfl⟩ ⟨Nat.le_of_ble_eq_true rfl, Nat.le_of_ble_eq_true rfl⟩ rfl (Nat.le_of_ble_eq_true rfl) d_Xr_readOperands_119 hE hP hD hS hA [1, 2] [0] rfl rfl rfl rfl (by decide) (ci := 2) rfl rfl 1 rfl (fun u h => ⟨u, h.mono (fun f p q => by rw [hrep, rep, bnd_T q]), fun _ h => h, fun h => h, Nat.le_refl _, Nat.le_refl _⟩) (fun v_119 u_119 H locs hp_119 hP hD hS => ?_)
      obtain ⟨v9, a9_, hn9, rfl, rfl⟩ := hp_119
      have hP : va_P D cls [(x0, .inr (3, [.ref h0, .ref z0, .int dep, .int dcI])), (h0, .inr (2, [.ref h1, .int (nI a9_), .int (nI lm), .int f, .int pl])), (h1, .inl (cA 0, 2000, .inl bs))] H := hP
      have hD : va_D A [(x0, .inr (3, [.ref h0, .ref z0, .int dep, .int dcI])), (h0, .inr (2, [.ref h1, .int (nI a9_), .int (nI lm), .int f, .int pl])), (h1, .inl (cA 0, 2000, .inl bs))] := hD
      refine W.cs (cells' := 0) (slots' := 0) rfl rfl ?_
      refine W.eq (g2 := F0 m 122 ls [.long (lN v9)]) rfl ?_
      have ho9 := pU32_ok (by omega) hn9
      refine lv_pop2_2 hx hb d_Xr_readOperands_122 rfl ?_
      refine lv_lload_n hx hb d_Xr_readOperands_123 rfl (lv_at hl 3 rfl) ?_
      refine lv_lconst (v := 1) hx hb d_Xr_readOperands_124 (by decide) ?_
      refine lv_lsub hx hb d_Xr_readOperands_125 ?_
      refine lv_lstore_n (lv' := [(3, .long ((lN 0) - 1)), (0, .ref x0), (1, .int 4), (2, .int (nI bg))]) hx hb d_Xr_readOperands_126 rfl hl (by decide) rfl (fun ls hl => ?_)
      refine lv_goto (tgt := 109) hx hb d_Xr_readOperands_127 (by decide) ?_
      refine lv_lload_n hx hb d_Xr_readOperands_109 rfl (lv_at hl 0 rfl) ?_
      refine lv_lconst (v := 0) hx hb d_Xr_readOperands_110 (by decide) ?_
      refine W.lcmp hx hb d_Xr_readOperands_111 ?_
      refine lv_if_lt (tgt := 130) hx hb d_Xr_readOperands_112 (by decide) (fun c_112 => ?_) (fun c_112 => absurd ((by decide +kernel)) c_112)
      refine lv_goto (tgt := 291) hx hb d_Xr_readOperands_130 (by decide) ?_
      exact cRv (nI a9_, nI lm, f, pl) hx hb hr hlocks d_Xr_readOperands_291 hS hP hD (⟨a9_, by rw [hrep, rep, bnd_E hn9]; rfl, rfl, rfl⟩) (Nat.le_refl _) (Nat.le_refl _)
    | succ j ih =>
      intro a3 H locs ls hj ha3 hrep hP hD hS hl
      refine lv_lload_n hx hb d_Xr_readOperands_109 rfl (lv_at hl 3 rfl) ?_
      refine lv_lconst (v := 0) hx hb d_Xr_readOperands_110 (by decide) ?_
      refine W.lcmp hx hb d_Xr_readOperands_111 ?_
      refine lv_if_lt (tgt := 130) hx hb d_Xr_readOperands_112 (by decide) (fun c_112 => absurd c_112 ((by rw [lg_cmp_lt, show (0 : Int64) = lN 0 from rfl, pk_lLT (by omega) (by omega)]; omega))) (fun c_112 => ?_)
      refine lv_aload_n hx hb d_Xr_readOperands_115 rfl (lv_at hl 0 rfl) ?_
      refine va_get (D := D) (ci := 3) (v := .ref h0) (C := R_Xr) (T := F_Xr) (N := 4) hx hb hts (fun w h => List.mem_cons_of_mem _ (i_Xr w h)) hown hE.1 hP 0 rfl rfl 0 (by decide) (hts _ (List.mem_cons_of_mem _ iw1_123)) (fun _ h9 => h9) rfl d_Xr_readOperands_116 ?_
      refine cV (As := []) (rest := []) (n := 0) (wc := [(h0, .inr (2, [.ref h1, .int (nI a3), .int (nI lm), .int f, .int pl])), (h1, .inl (cA 0, 2000, .inl bs))]) (wr := [(x0, .inr (3, [.ref h0, .ref z0, .int dep, .int dcI]))]) ⟨hx, hb, hml, hown, hts⟩ hno hlocks hl.1 (c_Sr_u32 l hl9 D cA ad H.size h0 h1 bs a3 lm f pl hlm (by omega)) iw2_189 iw2_51 iw2_52 iw1_5 iw2_53 (by decide +kernel) rfl ⟨Nat.le_of_ble_eq_true rfl, Nat.le_of_ble_eq_true rfl⟩ ⟨Nat.le_of_ble_eq_true rfl, Nat.le_of_ble_eq_true rfl⟩ rfl (Nat.le_of_ble_eq_true rfl) d_Xr_readOperands_119 hE hP hD hS hA [1, 2] [0] rfl rfl rfl rfl (by decide) (ci := 2) rfl rfl 1 rfl (fun u h => ⟨u, h.mono (fun f p q => by rw [hrep, rep, bnd_T q]), fun _ h => h, fun h => h, Nat.le_refl _, Nat.le_refl _⟩) (fun v_119 u_119 H locs hp_119 hP hD hS => ?_)
      obtain ⟨v9, a9_, hn9, rfl, rfl⟩ := hp_119
      have hP : va_P D cls [(x0, .inr (3, [.ref h0, .ref z0, .int dep, .int dcI])), (h0, .inr (2, [.ref h1, .int (nI a9_), .int (nI lm), .int f, .int pl])), (h1, .inl (cA 0, 2000, .inl bs))] H := hP
      have hD : va_D A [(x0, .inr (3, [.ref h0, .ref z0, .int dep, .int dcI])), (h0, .inr (2, [.ref h1, .int (nI a9_), .int (nI lm), .int f, .int pl])), (h1, .inl (cA 0, 2000, .inl bs))] := hD
      refine W.cs (cells' := 0) (slots' := 0) rfl rfl ?_
      refine W.eq (g2 := F0 m 122 ls [.long (lN v9)]) rfl ?_
      have ho9 := pU32_ok (by omega) hn9
      refine lv_pop2_2 hx hb d_Xr_readOperands_122 rfl ?_
      refine lv_lload_n hx hb d_Xr_readOperands_123 rfl (lv_at hl 3 rfl) ?_
      refine lv_lconst (v := 1) hx hb d_Xr_readOperands_124 (by decide) ?_
      refine lv_lsub hx hb d_Xr_readOperands_125 ?_
      refine lv_lstore_n (lv' := [(3, .long ((lN (j + 1)) - 1)), (0, .ref x0), (1, .int 4), (2, .int (nI bg))]) hx hb d_Xr_readOperands_126 rfl hl (by decide) rfl (fun ls hl => ?_)
      refine lv_goto (tgt := 109) hx hb d_Xr_readOperands_127 (by decide) ?_
      rw [show lN (j + 1) - 1 = lN j from lN_sub (a := j + 1) (b := 1) (by omega)] at hl
      exact ih a9_ H locs ls (by omega) (by omega) (by rw [hrep, rep, bnd_E hn9]) hP hD hS (lv_sub hl [1, 2, 3, 0] rfl)
  exact key v0 a0_ H _ ls (by omega) (by omega) (by rw [hsh, bnd_E hn0]) hP hD hS (lv_sub hl [1, 2, 3, 0] rfl)
set_option maxHeartbeats 4000000 in
set_option maxRecDepth 100000 in
/-- readOperands(5, bg) -/
theorem c_Xr_ops5 (l : Launch) (hl9 : l.stackTraces = false) (D : va_G) (cA : Nat → ClassId) (ad : Nat → Nat) (sz : Nat) (x0 z0 h0 h1 : Nat) (bs : Nat → Int32) (dep dcI : Int32) (a lm bg : Nat) (f pl : Int32) (hlm : lm ≤ 2000) (hal : a ≤ lm) :
    cM l y_Xr_readOperands (.code y_Xr_readOperands b_Xr_readOperands 5 none :: wAll) ({ frames := 8, cells := 1, slots := 6, locals := 128 }) D cA ad [.ref x0, .int 5, .int (nI bg)] (wXs cA x0 z0 h0 h1 bs dep dcI (nI a, nI lm, f, pl)) sz (vP (pShape (bv bs) lm bg 5 a) lm f pl) (tP (pShape (bv bs) lm bg 5 a)) (wXs cA x0 z0 h0 h1 bs dep dcI) (fun _ => (0, 0)) := by
  refine cM.ofW (cc := b_Xr_readOperands) (maxL := 5) (ret := none) (by decide) (Nat.le_of_ble_eq_true rfl) ?_
  intro pg ev s m bw meth cdx A ls hF hsz hA hE hP hD hl
  obtain ⟨⟨hx, hb, hml, hown, hts⟩, hr, hno, hlocks, hin⟩ := hF
  subst hsz
  have hown : s.vm.findClass "ModuleBytes$ExpressionReader" = some m.cls := hown
  have hS : va_S A s.heap s.heap [] := va_S.rf
  have hl : lv_has ls 5 [(0, .ref x0), (1, .int 5), (2, .int (nI bg))] := hl
  have hP : va_P D cls [(x0, .inr (3, [.ref h0, .ref z0, .int dep, .int dcI])), (h0, .inr (2, [.ref h1, .int (nI a), .int (nI lm), .int f, .int pl])), (h1, .inl (cA 0, 2000, .inl bs))] s.heap := hP
  have hD : va_D A [(x0, .inr (3, [.ref h0, .ref z0, .int dep, .int dcI])), (h0, .inr (2, [.ref h1, .int (nI a), .int (nI lm), .int f, .int pl])), (h1, .inl (cA 0, 2000, .inl bs))] := hD
  have hsh : pShape (bv bs) lm bg 5 a = bnd (pU32 (bv bs) lm a) (fun n a1 => rep (pType tVal (bv bs) lm) n a1) := rfl
  refine lv_iload_n hx hb d_Xr_readOperands_0 rfl (lv_at hl 1 rfl) ?_
  refine lv_tableIn (off := 132) (tgt := 133) hx hb d_Xr_readOperands_1 (by decide) (by decide) (by decide) (by decide) ?_
  refine lv_aload_n hx hb d_Xr_readOperands_133 rfl (lv_at hl 0 rfl) ?_
  refine va_get (D := D) (ci := 3) (v := .ref h0) (C := R_Xr) (T := F_Xr) (N := 4) hx hb hts (fun w h => List.mem_cons_of_mem _ (i_Xr w h)) hown hE.1 hP 0 rfl rfl 0 (by decide) (hts _ (List.mem_cons_of_mem _ iw1_123)) (fun _ h9 => h9) rfl d_Xr_readOperands_134 ?_
  refine cV (As := []) (rest := []) (n := 0) (wc := [(h0, .inr (2, [.ref h1, .int (nI a), .int (nI lm), .int f, .int pl])), (h1, .inl (cA 0, 2000, .inl bs))]) (wr := [(x0, .inr (3, [.ref h0, .ref z0, .int dep, .int dcI]))]) ⟨hx, hb, hml, hown, hts⟩ hno hlocks hl.1 (c_Sr_u32 l hl9 D cA ad s.heap.size h0 h1 bs a lm f pl hlm (by omega)) iw2_189 iw2_51 iw2_52 iw1_5 iw2_53 (by decide +kernel) rfl ⟨Nat.le_of_ble_eq_true rfl, Nat.le_of_ble_eq_true rfl⟩ ⟨Nat.le_of_ble_eq_true rfl, Nat.le_of_ble_eq_true rfl⟩ rfl (Nat.le_of_ble_eq_true rfl) d_Xr_readOperands_137 hE hP hD hS hA [1, 2] [0] rfl rfl rfl rfl (by decide) (ci := 2) rfl rfl 1 rfl (fun u h => ⟨u, h.mono (fun f p q => by rw [hsh, bnd_T q]), fun _ h => h, fun h => h, Nat.le_refl _, Nat.le_refl _⟩) (fun v_137 u_137 H locs hp_137 hP hD hS => ?_)
  obtain ⟨v0, a0_, hn0, rfl, rfl⟩ := hp_137
  have hP : va_P D cls [(x0, .inr (3, [.ref h0, .ref z0, .int dep, .int dcI])), (h0, .inr (2, [.ref h1, .int (nI a0_), .int (nI lm), .int f, .int pl])), (h1, .inl (cA 0, 2000, .inl bs))] H := hP
  have hD : va_D A [(x0, .inr (3, [.ref h0, .ref z0, .int dep, .int dcI])), (h0, .inr (2, [.ref h1, .int (nI a0_), .int (nI lm), .int f, .int pl])), (h1, .inl (cA 0, 2000, .inl bs))] := hD
  refine W.cs (cells' := 0) (slots' := 0) rfl rfl ?_
  refine W.eq (g2 := F0 m 140 ls [.long (lN v0)]) rfl ?_
  have ho0 := pU32_ok (by omega) hn0
  refine lv_lstore_n (lv' := [(3, .long (lN v0)), (0, .ref x0), (1, .int 5), (2, .int (nI bg))]) hx hb d_Xr_readOperands_140 rfl hl (by decide) rfl (fun ls hl => ?_)
  have key : ∀ (j a3 : Nat) (H : Heap) (locs : List Loc) (ls : Array Slot), j < 4294967296 → a3 ≤ lm → pShape (bv bs) lm bg 5 a = rep (pType tVal (bv bs) lm) j a3 → va_P D cls [(x0, .inr (3, [.ref h0, .ref z0, .int dep, .int dcI])), (h0, .inr (2, [.ref h1, .int (nI a3), .int (nI lm), .int f, .int pl])), (h1, .inl (cA 0, 2000, .inl bs))] H → va_D A [(x0, .inr (3, [.ref h0, .ref z0, .int dep, .int dcI])), (h0, .inr (2, [.ref h1, .int (nI a3), .int (nI lm), .int f, .int pl])), (h1, .inl (cA 0, 2000, .inl bs))] → va_S A s.heap H locs → lv_has ls 5 [(0, .ref x0), (1, .int 5), (2, .int (nI bg)), (3, .long (lN j))] → W pg l ev ({ frames := 8, cells := 1, slots := 6, locals := 128 }) s m ([.ref x0, .int 5, .int (nI bg)] : List Value).toArray bw meth cdx H locs 0 0 (tx_Q bw (cQ D (vP (pShape (bv bs) lm bg 5 a) lm f pl) (tP (pShape (bv bs) lm bg 5 a)) (wXs cA x0 z0 h0 h1 bs dep dcI) (fun _ => (0, 0)) A) ([.ref x0, .int 5, .int (nI bg)] : List Value).toArray s A) (F0 m 141 ls []) := by
    intro j
    induction j with
    | zero =>
      intro a3 H locs ls hj ha3 hrep hP hD hS hl
      refine lv_lload_n hx hb d_Xr_readOperands_141 rfl (lv_at hl 3 rfl) ?_
      refine lv_lconst (v := 0) hx hb d_Xr_readOperands_142 (by decide) ?_
      refine W.lcmp hx hb d_Xr_readOperands_143 ?_
      refine lv_if_le (tgt := 162) hx hb d_Xr_readOperands_144 (by decide) (fun c_144 => ?_) (fun c_144 => absurd ((by decide +kernel)) c_144)
      refine lv_goto (tgt := 291) hx hb d_Xr_readOperands_162 (by decide) ?_
      exact cRv (nI a3, nI lm, f, pl) hx hb hr hlocks d_Xr_readOperands_291 hS hP hD (⟨a3, by rw [hrep]; rfl, rfl, rfl⟩) (Nat.le_refl _) (Nat.le_refl _)
    | succ j ih =>
      intro a3 H locs ls hj ha3 hrep hP hD hS hl
      refine lv_lload_n hx hb d_Xr_readOperands_141 rfl (lv_at hl 3 rfl) ?_
      refine lv_lconst (v := 0) hx hb d_Xr_readOperands_142 (by decide) ?_
      refine W.lcmp hx hb d_Xr_readOperands_143 ?_
      refine lv_if_le (tgt := 162) hx hb d_Xr_readOperands_144 (by decide) (fun c_144 => absurd c_144 ((by rw [lg_cmp_le, show (0 : Int64) = lN 0 from rfl, pk_lLE (by omega) (by omega)]; omega))) (fun c_144 => ?_)
      refine lv_aload_n hx hb d_Xr_readOperands_147 rfl (lv_at hl 0 rfl) ?_
      refine va_get (D := D) (ci := 3) (v := .ref h0) (C := R_Xr) (T := F_Xr) (N := 4) hx hb hts (fun w h => List.mem_cons_of_mem _ (i_Xr w h)) hown hE.1 hP 0 rfl rfl 0 (by decide) (hts _ (List.mem_cons_of_mem _ iw1_123)) (fun _ h9 => h9) rfl d_Xr_readOperands_148 ?_
      refine cV (As := []) (rest := []) (n := 0) (wc := [(h0, .inr (2, [.ref h1, .int (nI a3), .int (nI lm), .int f, .int pl])), (h1, .inl (cA 0, 2000, .inl bs))]) (wr := [(x0, .inr (3, [.ref h0, .ref z0, .int dep, .int dcI]))]) ⟨hx, hb, hml, hown, hts⟩ hno hlocks hl.1 (c_Sr_valueType l hl9 D cA ad H.size h0 h1 bs a3 lm f pl hlm (by omega)) iw2_198 iw2_118 iw2_119 iw1_5 iw2_120 (by decide +kernel) rfl ⟨Nat.le_of_ble_eq_true rfl, Nat.le_of_ble_eq_true rfl⟩ ⟨Nat.le_of_ble_eq_true rfl, Nat.le_of_ble_eq_true rfl⟩ rfl (Nat.le_of_ble_eq_true rfl) d_Xr_readOperands_151 hE hP hD hS hA [1, 2] [0] rfl rfl rfl rfl (by decide) (ci := 2) rfl rfl 1 rfl (fun u h => ⟨u, h.mono (fun f p q => by rw [hrep, rep, bnd_T q]), fun _ h => h, fun h => h, Nat.le_refl _, Nat.le_refl _⟩) (fun v_151 u_151 H locs hp_151 hP hD hS => ?_)
      obtain ⟨v9, a9_, hn9, rfl, rfl⟩ := hp_151
      have hP : va_P D cls [(x0, .inr (3, [.ref h0, .ref z0, .int dep, .int dcI])), (h0, .inr (2, [.ref h1, .int (nI a9_), .int (nI lm), .int f, .int pl])), (h1, .inl (cA 0, 2000, .inl bs))] H := hP
      have hD : va_D A [(x0, .inr (3, [.ref h0, .ref z0, .int dep, .int dcI])), (h0, .inr (2, [.ref h1, .int (nI a9_), .int (nI lm), .int f, .int pl])), (h1, .inl (cA 0, 2000, .inl bs))] := hD
      refine W.cs (cells' := 0) (slots' := 0) rfl rfl ?_
      refine W.eq (g2 := F0 m 154 ls [.int (nI v9)]) rfl ?_
      have ho9 := pType_ok hn9
      refine lv_pop hx hb d_Xr_readOperands_154 rfl ?_
      refine lv_lload_n hx hb d_Xr_readOperands_155 rfl (lv_at hl 3 rfl) ?_
      refine lv_lconst (v := 1) hx hb d_Xr_readOperands_156 (by decide) ?_
      refine lv_lsub hx hb d_Xr_readOperands_157 ?_
      refine lv_lstore_n (lv' := [(3, .long ((lN (j + 1)) - 1)), (0, .ref x0), (1, .int 5), (2, .int (nI bg))]) hx hb d_Xr_readOperands_158 rfl hl (by decide) rfl (fun ls hl => ?_)
      refine lv_goto (tgt := 141) hx hb d_Xr_readOperands_159 (by decide) ?_
      rw [show lN (j + 1) - 1 = lN j from lN_sub (a := j + 1) (b := 1) (by omega)] at hl
      exact ih a9_ H locs ls (by omega) (by omega) (by rw [hrep, rep, bnd_E hn9]) hP hD hS (lv_sub hl [1, 2, 3, 0] rfl)
  exact key v0 a0_ H _ ls (by omega) (by omega) (by rw [hsh, bnd_E hn0]) hP hD hS (lv_sub hl [1, 2, 3, 0] rfl)
