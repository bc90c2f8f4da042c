set_option maxHeartbeats 4000000 in
set_option maxRecDepth 100000 in
/-- choice(mo) -/
theorem c_Sr_choice (l : Launch) (hl9 : l.stackTraces = false) (D : va_G) (cA : Nat → ClassId) (ad : Nat → Nat) (sz : Nat) (h0 h1 : Nat) (bs : Nat → Int32) (a lm : Nat) (f pl : Int32) (hlm : lm ≤ 2000) (hal : a ≤ lm) (mo : Nat) (hmo : mo < 256) :
    cM l y_Sr_choice (.code y_Sr_choice b_Sr_choice 3 (some .int) :: wAll) ({ frames := 7, cells := 1, slots := 6, locals := 104 }) D cA ad [.ref h0, .int (nI mo)] (wSr cA h0 h1 bs (nI a, nI lm, f, pl)) sz (iP (pChoice (bv bs) lm mo a) lm f pl) (tP (pChoice (bv bs) lm mo a)) (wSr cA h0 h1 bs) (fun _ => (0, 0)) := by
  refine cM.ofW (cc := b_Sr_choice) (maxL := 3) (ret := (some .int)) (by decide) (Nat.le_of_ble_eq_true rfl) ?_
  intro pg ev s m bw meth c A ls hF hsz hA hE hP hD hl
  obtain ⟨⟨hx, hb, hml, hown, hts⟩, hr, hno, hlocks, hin⟩ := hF
  subst hsz
  have hown : s.vm.findClass "ModuleBytes$Source" = some m.cls := hown
  have hS : va_S A s.heap s.heap [] := va_S.rf
  have hl : lv_has ls 3 [(0, .ref h0), (1, .int (nI mo))] := hl
  refine lv_aload_n hx hb d_Sr_choice_0 rfl (lv_at hl 0 rfl) ?_
  refine cV (As := []) (rest := []) (n := 0) (wc := [(h0, .inr (2, [.ref h1, .int (nI a), .int (nI lm), .int f, .int pl])), (h1, .inl (cA 0, 2000, .inl bs))]) (wr := []) ⟨hx, hb, hml, hown, hts⟩ hno hlocks hl.1 (c_Sr_next l hl9 D cA ad s.heap.size h0 h1 bs a lm f pl hlm (by omega)) iw2_54 iw1_207 iw1_208 iw1_5 iw1_209 (by decide +kernel) rfl ⟨Nat.le_of_ble_eq_true rfl, Nat.le_of_ble_eq_true rfl⟩ ⟨Nat.le_of_ble_eq_true rfl, Nat.le_of_ble_eq_true rfl⟩ rfl (Nat.le_of_ble_eq_true rfl) d_Sr_choice_1 hE hP hD hS hA [0, 1] [] rfl rfl rfl rfl (by decide) (ci := 2) rfl rfl 0 rfl (fun u h => ⟨u, h.mono (fun f p q => by rw [pChoice_T q]), fun _ h => h, fun h => h, Nat.le_refl _, Nat.le_refl _⟩) (fun v_1 u_1 H locs hp_1 hP hD hS => ?_)
  obtain ⟨g, a_, hn, rfl, rfl⟩ := hp_1
  have hP : va_P D cls [(h0, .inr (2, [.ref h1, .int (nI a_), .int (nI lm), .int f, .int pl])), (h1, .inl (cA 0, 2000, .inl bs))] H := hP
  have hD : va_D A [(h0, .inr (2, [.ref h1, .int (nI a_), .int (nI lm), .int f, .int pl])), (h1, .inl (cA 0, 2000, .inl bs))] := hD
  refine W.cs (cells' := 0) (slots' := 0) rfl rfl ?_
  refine W.eq (g2 := F0 m 4 ls [.int (nI g)]) rfl ?_
  obtain ⟨hq, rfl, hg⟩ := pNext_ok hn
  have hB : g < 256 := by rw [hg]; exact bv_lt _ _
  have hP : va_P D cls [(h0, .inr (2, [.ref h1, .int (nI (a + 1)), .int (nI lm), .int f, .int pl])), (h1, .inl (cA 0, 2000, .inl bs))] H := hP
  have hD : va_D A [(h0, .inr (2, [.ref h1, .int (nI (a + 1)), .int (nI lm), .int f, .int pl])), (h1, .inl (cA 0, 2000, .inl bs))] := hD
  refine lv_istore_n (lv' := [(2, .int (nI g)), (0, .ref h0), (1, .int (nI mo))]) hx hb d_Sr_choice_4 rfl hl (by decide) rfl (fun ls hl => ?_)
  refine lv_iload_n hx hb d_Sr_choice_5 rfl (lv_at hl 0 rfl) ?_
  refine lv_iload_n hx hb d_Sr_choice_6 rfl (lv_at hl 2 rfl) ?_
  refine lv_icmp_le (tgt := 22) hx hb d_Sr_choice_7 (by decide) (fun c_7 => ?_) (fun c_7 => ?_)
  · have hm : ¬ mo < g := Nat.not_lt.mpr ((nI_leI (by omega) (by omega)).mp c_7)
    refine lv_iload_n hx hb d_Sr_choice_22 rfl (lv_at hl 0 rfl) ?_
    exact cRi (nI (a + 1), nI lm, f, pl) hx hb hr hlocks d_Sr_choice_23 hS hP hD (⟨g, a + 1, pChoice_E hn hm, rfl, rfl⟩) (Nat.le_refl _) (Nat.le_refl _)
  · have hm : mo < g := Nat.lt_of_not_le (fun q => c_7 (nI_le q (by omega)))
    refine lv_aload_n hx hb d_Sr_choice_10 rfl (lv_at hl 1 rfl) ?_
    refine lv_bipush (v := 7) hx hb d_Sr_choice_11 (by decide) ?_
    refine lv_aload_n hx hb d_Sr_choice_13 rfl (lv_at hl 1 rfl) ?_
    refine va_get (D := D) (ci := 2) (v := .int (nI (a + 1))) (C := R_Sr) (T := F_Sr) (N := 5) hx hb hts (fun w h => List.mem_cons_of_mem _ (i_Sr w h)) hown hE.1 hP 0 rfl rfl 1 (by decide) (hts _ (List.mem_cons_of_mem _ iw1_97)) (fun _ h9 => h9) rfl d_Sr_choice_14 ?_
    refine lv_iconst (v := 1) hx hb d_Sr_choice_17 (by decide) ?_
    refine lv_isub hx hb d_Sr_choice_18 ?_
    refine cV (As := [.int 7, .int ((nI (a + 1)) - 1)]) (rest := []) (n := 2) (wc := [(h0, .inr (2, [.ref h1, .int (nI (a + 1)), .int (nI lm), .int f, .int pl])), (h1, .inl (cA 0, 2000, .inl bs))]) (wr := []) ⟨hx, hb, hml, hown, hts⟩ hno hlocks hl.1 (c_Sr_fail l hl9 D cA ad H.size h0 h1 bs (nI (a + 1)) (nI lm) f pl 7 (nI (a + 1) - 1)) iw2_55 iw2_36 iw2_37 iw1_5 iw2_38 (by decide +kernel) rfl ⟨Nat.le_of_ble_eq_true rfl, Nat.le_of_ble_eq_true rfl⟩ ⟨Nat.le_of_ble_eq_true rfl, Nat.le_of_ble_eq_true rfl⟩ rfl (Nat.le_of_ble_eq_true rfl) d_Sr_choice_19 hE hP hD hS hA [0, 1] [] rfl rfl rfl rfl (by decide) (ci := 2) rfl rfl 0 rfl (fun u h => ⟨u, ⟨7, a, pChoice_F hn hm, by rw [h] <;> rfl, by rw [h] <;> exact nI_pred _⟩, fun _ h => h, fun h => h, Nat.le_refl _, Nat.le_refl _⟩) (fun v_19 u_19 H locs hp_19 hP hD hS => ?_)
    exact hp_19.elim
set_option maxHeartbeats 4000000 in
set_option maxRecDepth 100000 in
/-- numberedChoice(mo) -/
theorem c_Sr_numberedChoice (l : Launch) (hl9 : l.stackTraces = false) (D : va_G) (cA : Nat → ClassId) (ad : Nat → Nat) (sz : Nat) (h0 h1 : Nat) (bs : Nat → Int32) (a lm : Nat) (f pl : Int32) (hlm : lm ≤ 2000) (hal : a ≤ lm) (mo : Nat) (hmo : mo < 256) :
    cM l y_Sr_numberedChoice (.code y_Sr_numberedChoice b_Sr_numberedChoice 5 (some .int) :: wAll) ({ frames := 8, cells := 1, slots := 6, locals := 128 }) D cA ad [.ref h0, .int (nI mo)] (wSr cA h0 h1 bs (nI a, nI lm, f, pl)) sz (iP (pNChoice (bv bs) lm mo a) lm f pl) (tP (pNChoice (bv bs) lm mo a)) (wSr cA h0 h1 bs) (fun _ => (0, 0)) := by
  refine cM.ofW (cc := b_Sr_numberedChoice) (maxL := 5) (ret := (some .int)) (by decide) (Nat.le_of_ble_eq_true rfl) ?_
  intro pg ev s m bw meth c A ls hF hsz hA hE hP hD hl
  obtain ⟨⟨hx, hb, hml, hown, hts⟩, hr, hno, hlocks, hin⟩ := hF
  subst hsz
  have hown : s.vm.findClass "ModuleBytes$Source" = some m.cls := hown
  have hS : va_S A s.heap s.heap [] := va_S.rf
  have hl : lv_has ls 5 [(0, .ref h0), (1, .int (nI mo))] := hl
  refine lv_aload_n hx hb d_Sr_numberedChoice_0 rfl (lv_at hl 0 rfl) ?_
  refine va_get (D := D) (ci := 2) (v := .int (nI a)) (C := R_Sr) (T := F_Sr) (N := 5) hx hb hts (fun w h => List.mem_cons_of_mem _ (i_Sr w h)) hown hE.1 hP 0 rfl rfl 1 (by decide) (hts _ (List.mem_cons_of_mem _ iw1_97)) (fun _ h9 => h9) rfl d_Sr_numberedChoice_1 ?_
  refine lv_istore_n (lv' := [(2, .int (nI a)), (0, .ref h0), (1, .int (nI mo))]) hx hb d_Sr_numberedChoice_4 rfl hl (by decide) rfl (fun ls hl => ?_)
  refine lv_aload_n hx hb d_Sr_numberedChoice_5 rfl (lv_at hl 1 rfl) ?_
  refine cV (As := []) (rest := []) (n := 0) (wc := [(h0, .inr (2, [.ref h1, .int (nI a), .int (nI lm), .int f, .int pl])), (h1, .inl (cA 0, 2000, .inl bs))]) (wr := []) ⟨hx, hb, hml, hown, hts⟩ hno hlocks hl.1 (c_Sr_u32 l hl9 D cA ad s.heap.size h0 h1 bs a lm f pl hlm (by omega)) iw2_50 iw2_51 iw2_52 iw1_5 iw2_53 (by decide +kernel) rfl ⟨Nat.le_of_ble_eq_true rfl, Nat.le_of_ble_eq_true rfl⟩ ⟨Nat.le_of_ble_eq_true rfl, Nat.le_of_ble_eq_true rfl⟩ rfl (Nat.le_of_ble_eq_true rfl) d_Sr_numberedChoice_6 hE hP hD hS hA [0, 1] [] rfl rfl rfl rfl (by decide) (ci := 2) rfl rfl 0 rfl (fun u h => ⟨u, h.mono (fun f p q => by rw [pNChoice_T q]), fun _ h => h, fun h => h, Nat.le_refl _, Nat.le_refl _⟩) (fun v_6 u_6 H locs hp_6 hP hD hS => ?_)
  obtain ⟨v2, a2, hn, rfl, rfl⟩ := hp_6
  have hP : va_P D cls [(h0, .inr (2, [.ref h1, .int (nI a2), .int (nI lm), .int f, .int pl])), (h1, .inl (cA 0, 2000, .inl bs))] H := hP
  have hD : va_D A [(h0, .inr (2, [.ref h1, .int (nI a2), .int (nI lm), .int f, .int pl])), (h1, .inl (cA 0, 2000, .inl bs))] := hD
  refine W.cs (cells' := 0) (slots' := 0) rfl rfl ?_
  refine W.eq (g2 := F0 m 9 ls [.long (lN v2)]) rfl ?_
  obtain ⟨hq, hp, hv⟩ := pU32_ok (by omega) hn
  refine lv_lstore_n (lv' := [(3, .long (lN v2)), (2, .int (nI a)), (0, .ref h0), (1, .int (nI mo))]) hx hb d_Sr_numberedChoice_9 rfl hl (by decide) rfl (fun ls hl => ?_)
  refine lv_lload_n hx hb d_Sr_numberedChoice_10 rfl (lv_at hl 0 rfl) ?_
  refine lv_iload_n hx hb d_Sr_numberedChoice_11 rfl (lv_at hl 3 rfl) ?_
  refine lv_i2l hx hb d_Sr_numberedChoice_12 rfl ?_
  refine W.lcmp hx hb d_Sr_numberedChoice_13 ?_
  refine lv_if_le (tgt := 24) hx hb d_Sr_numberedChoice_14 (by decide) (fun c_14 => ?_) (fun c_14 => ?_)
  · rw [lg_cmp_le, nI_l (by omega), pk_lLE (by omega) (by omega)] at c_14
    have hm : ¬ mo < v2 := by omega
    refine lv_lload_n hx hb d_Sr_numberedChoice_24 rfl (lv_at hl 0 rfl) ?_
    refine lv_l2i hx hb d_Sr_numberedChoice_25 rfl ?_
    exact cRi (nI a2, nI lm, f, pl) hx hb hr hlocks d_Sr_numberedChoice_26 hS hP hD (⟨v2, a2, pNChoice_E hn hm, by rw [lN_i], rfl⟩) (Nat.le_refl _) (Nat.le_refl _)
  · rw [lg_cmp_le, nI_l (by omega), pk_lLE (by omega) (by omega)] at c_14
    have hm : mo < v2 := by omega
    refine lv_aload_n hx hb d_Sr_numberedChoice_17 rfl (lv_at hl 2 rfl) ?_
    refine lv_bipush (v := 7) hx hb d_Sr_numberedChoice_18 (by decide) ?_
    refine lv_iload_n hx hb d_Sr_numberedChoice_20 rfl (lv_at hl 1 rfl) ?_
    refine cV (As := [.int 7, .int (nI a)]) (rest := []) (n := 2) (wc := [(h0, .inr (2, [.ref h1, .int (nI a2), .int (nI lm), .int f, .int pl])), (h1, .inl (cA 0, 2000, .inl bs))]) (wr := []) ⟨hx, hb, hml, hown, hts⟩ hno hlocks hl.1 (c_Sr_fail l hl9 D cA ad H.size h0 h1 bs (nI a2) (nI lm) f pl 7 (nI a)) iw2_55 iw2_36 iw2_37 iw1_5 iw2_38 (by decide +kernel) rfl ⟨Nat.le_of_ble_eq_true rfl, Nat.le_of_ble_eq_true rfl⟩ ⟨Nat.le_of_ble_eq_true rfl, Nat.le_of_ble_eq_true rfl⟩ rfl (Nat.le_of_ble_eq_true rfl) d_Sr_numberedChoice_21 hE hP hD hS hA [0, 1] [] rfl rfl rfl rfl (by decide) (ci := 2) rfl rfl 0 rfl (fun u h => ⟨u, ⟨7, a, pNChoice_F hn hm, by rw [h] <;> rfl, by rw [h] <;> rfl⟩, fun _ h => h, fun h => h, Nat.le_refl _, Nat.le_refl _⟩) (fun v_21 u_21 H locs hp_21 hP hD hS => ?_)
    exact hp_21.elim
set_option maxHeartbeats 4000000 in
set_option maxRecDepth 100000 in
/-- skip(n) -/
theorem c_Sr_skip (l : Launch) (hl9 : l.stackTraces = false) (D : va_G) (cA : Nat → ClassId) (ad : Nat → Nat) (sz : Nat) (h0 h1 : Nat) (bs : Nat → Int32) (a lm : Nat) (f pl : Int32) (hlm : lm ≤ 2000) (hal : a ≤ lm) (n : Nat) (hn : n < 4294967296) :
    cM l y_Sr_skip (.code y_Sr_skip b_Sr_skip 3 none :: wAll) ({ frames := 7, cells := 1, slots := 6, locals := 104 }) D cA ad [.ref h0, .long (lN n)] (wSr cA h0 h1 bs (nI a, nI lm, f, pl)) sz (vP (pSkip lm n a) lm f pl) (tP (pSkip lm n a)) (wSr cA h0 h1 bs) (fun _ => (0, 0)) := by
  refine cM.ofW (cc := b_Sr_skip) (maxL := 3) (ret := none) (by decide) (Nat.le_of_ble_eq_true rfl) ?_
  intro pg ev s m bw meth c A ls hF hsz hA hE hP hD hl
  obtain ⟨⟨hx, hb, hml, hown, hts⟩, hr, hno, hlocks, hin⟩ := hF
  subst hsz
  have hown : s.vm.findClass "ModuleBytes$Source" = some m.cls := hown
  have hS : va_S A s.heap s.heap [] := va_S.rf
  have hl : lv_has ls 3 [(0, .ref h0), (1, .long (lN n))] := hl
  refine lv_lload_n hx hb d_Sr_skip_0 rfl (lv_at hl 1 rfl) ?_
  refine lv_aload_n hx hb d_Sr_skip_1 rfl (lv_at hl 0 rfl) ?_
  refine va_get (D := D) (ci := 2) (v := .int (nI lm)) (C := R_Sr) (T := F_Sr) (N := 5) hx hb hts (fun w h => List.mem_cons_of_mem _ (i_Sr w h)) hown hE.1 hP 0 rfl rfl 2 (by decide) (hts _ (List.mem_cons_of_mem _ iw1_100)) (fun _ h9 => h9) rfl d_Sr_skip_2 ?_
  refine lv_aload_n hx hb d_Sr_skip_5 rfl (lv_at hl 0 rfl) ?_
  refine va_get (D := D) (ci := 2) (v := .int (nI a)) (C := R_Sr) (T := F_Sr) (N := 5) hx hb hts (fun w h => List.mem_cons_of_mem _ (i_Sr w h)) hown hE.1 hP 0 rfl rfl 1 (by decide) (hts _ (List.mem_cons_of_mem _ iw1_97)) (fun _ h9 => h9) rfl d_Sr_skip_6 ?_
  refine lv_isub hx hb d_Sr_skip_9 ?_
  refine lv_i2l hx hb d_Sr_skip_10 rfl ?_
  refine W.lcmp hx hb d_Sr_skip_11 ?_
  refine lv_if_le (tgt := 24) hx hb d_Sr_skip_12 (by decide) (fun c_12 => ?_) (fun c_12 => ?_)
  · rw [lg_cmp_le, pk_sub hal, nI_l (by omega), pk_lLE (by omega) (by omega)] at c_12
    have hm : ¬ lm - a < n := by omega
    refine lv_aload_n hx hb d_Sr_skip_24 rfl (lv_at hl 0 rfl) ?_
    refine lv_dup hx hb d_Sr_skip_25 rfl ?_
    refine va_get (D := D) (ci := 2) (v := .int (nI a)) (C := R_Sr) (T := F_Sr) (N := 5) hx hb hts (fun w h => List.mem_cons_of_mem _ (i_Sr w h)) hown hE.1 hP 0 rfl rfl 1 (by decide) (hts _ (List.mem_cons_of_mem _ iw1_97)) (fun _ h9 => h9) rfl d_Sr_skip_26 ?_
    refine lv_lload_n hx hb d_Sr_skip_29 rfl (lv_at hl 1 rfl) ?_
    refine lv_l2i hx hb d_Sr_skip_30 rfl ?_
    refine lv_iadd hx hb d_Sr_skip_31 ?_
    refine va_put (D := D) (ci := 2) (v := .int ((nI a) + ((lN n).toInt32))) (ty := .int) (C := R_Sr) (T := F_Sr) (N := 5) hx hb hts (fun w h => List.mem_cons_of_mem _ (i_Sr w h)) t_Sr tk_Sr n_Sr hown hE.1 hP hD hS 0 rfl rfl 1 (by decide) (hts _ (List.mem_cons_of_mem _ iw1_97)) (fun _ h9 => h9) rfl (by decide +kernel) rfl rfl (Nat.le_of_ble_eq_true rfl) d_Sr_skip_32 (fun H locs hP hD hS => ?_)
    have hP : va_P D cls [(h0, .inr (2, [.ref h1, .int ((nI a) + ((lN n).toInt32)), .int (nI lm), .int f, .int pl])), (h1, .inl (cA 0, 2000, .inl bs))] H := hP
    have hD : va_D A [(h0, .inr (2, [.ref h1, .int ((nI a) + ((lN n).toInt32)), .int (nI lm), .int f, .int pl])), (h1, .inl (cA 0, 2000, .inl bs))] := hD
    rw [lN_i, nI_add] at hP hD
    exact cRv (nI (a + n), nI lm, f, pl) hx hb hr hlocks d_Sr_skip_35 hS hP hD (⟨a + n, if_neg hm, rfl, rfl⟩) (Nat.le_refl _) (Nat.le_refl _)
  · rw [lg_cmp_le, pk_sub hal, nI_l (by omega), pk_lLE (by omega) (by omega)] at c_12
    have hm : lm - a < n := by omega
    refine lv_aload_n hx hb d_Sr_skip_15 rfl (lv_at hl 0 rfl) ?_
    refine lv_iconst (v := 1) hx hb d_Sr_skip_16 (by decide) ?_
    refine lv_aload_n hx hb d_Sr_skip_17 rfl (lv_at hl 0 rfl) ?_
    refine va_get (D := D) (ci := 2) (v := .int (nI lm)) (C := R_Sr) (T := F_Sr) (N := 5) hx hb hts (fun w h => List.mem_cons_of_mem _ (i_Sr w h)) hown hE.1 hP 0 rfl rfl 2 (by decide) (hts _ (List.mem_cons_of_mem _ iw1_100)) (fun _ h9 => h9) rfl d_Sr_skip_18 ?_
    refine cV (As := [.int 1, .int (nI lm)]) (rest := []) (n := 2) (wc := [(h0, .inr (2, [.ref h1, .int (nI a), .int (nI lm), .int f, .int pl])), (h1, .inl (cA 0, 2000, .inl bs))]) (wr := []) ⟨hx, hb, hml, hown, hts⟩ hno hlocks hl.1 (c_Sr_fail l hl9 D cA ad s.heap.size h0 h1 bs (nI a) (nI lm) f pl 1 (nI lm)) iw2_55 iw2_36 iw2_37 iw1_5 iw2_38 (by decide +kernel) rfl ⟨Nat.le_of_ble_eq_true rfl, Nat.le_of_ble_eq_true rfl⟩ ⟨Nat.le_of_ble_eq_true rfl, Nat.le_of_ble_eq_true rfl⟩ rfl (Nat.le_of_ble_eq_true rfl) d_Sr_skip_21 hE hP hD hS hA [0, 1] [] rfl rfl rfl rfl (by decide) (ci := 2) rfl rfl 0 rfl (fun u h => ⟨u, ⟨1, lm, if_pos hm, by rw [h] <;> rfl, by rw [h] <;> rfl⟩, fun _ h => h, fun h => h, Nat.le_refl _, Nat.le_refl _⟩) (fun v_21 u_21 H locs hp_21 hP hD hS => ?_)
    exact hp_21.elim
set_option maxHeartbeats 4000000 in
set_option maxRecDepth 100000 in
/-- enter() -/
theorem c_Sr_enter (l : Launch) (hl9 : l.stackTraces = false) (D : va_G) (cA : Nat → ClassId) (ad : Nat → Nat) (sz : Nat) (h0 h1 : Nat) (bs : Nat → Int32) (a lm : Nat) (f pl : Int32) (hlm : lm ≤ 2000) (hal : a ≤ lm) :
    cM l y_Sr_enter (.code y_Sr_enter b_Sr_enter 5 (some .int) :: wAll) ({ frames := 8, cells := 1, slots := 6, locals := 128 }) D cA ad [.ref h0] (wSr cA h0 h1 bs (nI a, nI lm, f, pl)) sz (fun v u => ∃ l2 a2 : Nat, pEnter (bv bs) lm a = .inr (l2, a2) ∧ v = some (.int (nI lm)) ∧ u = (nI a2, nI l2, f, pl)) (tP (pEnter (bv bs) lm a)) (wSr cA h0 h1 bs) (fun _ => (0, 0)) := by
  refine cM.ofW (cc := b_Sr_enter) (maxL := 5) (ret := (some .int)) (by decide) (Nat.le_of_ble_eq_true rfl) ?_
  intro pg ev s m bw meth c A ls hF hsz hA hE hP hD hl
  obtain ⟨⟨hx, hb, hml, hown, hts⟩, hr, hno, hlocks, hin⟩ := hF
  subst hsz
  have hown : s.vm.findClass "ModuleBytes$Source" = some m.cls := hown
  have hS : va_S A s.heap s.heap [] := va_S.rf
  have hl : lv_has ls 5 [(0, .ref h0)] := hl
  refine lv_aload_n hx hb d_Sr_enter_0 rfl (lv_at hl 0 rfl) ?_
  refine va_get (D := D) (ci := 2) (v := .int (nI a)) (C := R_Sr) (T := F_Sr) (N := 5) hx hb hts (fun w h => List.mem_cons_of_mem _ (i_Sr w h)) hown hE.1 hP 0 rfl rfl 1 (by decide) (hts _ (List.mem_cons_of_mem _ iw1_97)) (fun _ h9 => h9) rfl d_Sr_enter_1 ?_
  refine lv_istore_n (lv' := [(1, .int (nI a)), (0, .ref h0)]) hx hb d_Sr_enter_4 rfl hl (by decide) rfl (fun ls hl => ?_)
  refine lv_aload_n hx hb d_Sr_enter_5 rfl (lv_at hl 1 rfl) ?_
  refine cV (As := []) (rest := []) (n := 0) (wc := [(h0, .inr (2, [.ref h1, .int (nI a), .int (nI lm), .int f, .int pl])), (h1, .inl (cA 0, 2000, .inl bs))]) (wr := []) ⟨hx, hb, hml, hown, hts⟩ hno hlocks hl.1 (c_Sr_u32 l hl9 D cA ad s.heap.size h0 h1 bs a lm f pl hlm (by omega)) iw2_50 iw2_51 iw2_52 iw1_5 iw2_53 (by decide +kernel) rfl ⟨Nat.le_of_ble_eq_true rfl, Nat.le_of_ble_eq_true rfl⟩ ⟨Nat.le_of_ble_eq_true rfl, Nat.le_of_ble_eq_true rfl⟩ rfl (Nat.le_of_ble_eq_true rfl) d_Sr_enter_6 hE hP hD hS hA [0, 1] [] rfl rfl rfl rfl (by decide) (ci := 2) rfl rfl 0 rfl (fun u h => ⟨u, h.mono (fun f p q => by rw [pEnter_T q]), fun _ h => h, fun h => h, Nat.le_refl _, Nat.le_refl _⟩) (fun v_6 u_6 H locs hp_6 hP hD hS => ?_)
  obtain ⟨v2, a2, hn, rfl, rfl⟩ := hp_6
  have hP : va_P D cls [(h0, .inr (2, [.ref h1, .int (nI a2), .int (nI lm), .int f, .int pl])), (h1, .inl (cA 0, 2000, .inl bs))] H := hP
  have hD : va_D A [(h0, .inr (2, [.ref h1, .int (nI a2), .int (nI lm), .int f, .int pl])), (h1, .inl (cA 0, 2000, .inl bs))] := hD
  refine W.cs (cells' := 0) (slots' := 0) rfl rfl ?_
  refine W.eq (g2 := F0 m 9 ls [.long (lN v2)]) rfl ?_
  obtain ⟨hq, hp, hv⟩ := pU32_ok (by omega) hn
  refine lv_lstore_n (lv' := [(2, .long (lN v2)), (1, .int (nI a)), (0, .ref h0)]) hx hb d_Sr_enter_9 rfl hl (by decide) rfl (fun ls hl => ?_)
  refine lv_lload_n hx hb d_Sr_enter_10 rfl (lv_at hl 0 rfl) ?_
  refine lv_aload_n hx hb d_Sr_enter_11 rfl (lv_at hl 2 rfl) ?_
  refine va_get (D := D) (ci := 2) (v := .int (nI lm)) (C := R_Sr) (T := F_Sr) (N := 5) hx hb hts (fun w h => List.mem_cons_of_mem _ (i_Sr w h)) hown hE.1 hP 0 rfl rfl 2 (by decide) (hts _ (List.mem_cons_of_mem _ iw1_100)) (fun _ h9 => h9) rfl d_Sr_enter_12 ?_
  refine lv_aload_n hx hb d_Sr_enter_15 rfl (lv_at hl 2 rfl) ?_
  refine va_get (D := D) (ci := 2) (v := .int (nI a2)) (C := R_Sr) (T := F_Sr) (N := 5) hx hb hts (fun w h => List.mem_cons_of_mem _ (i_Sr w h)) hown hE.1 hP 0 rfl rfl 1 (by decide) (hts _ (List.mem_cons_of_mem _ iw1_97)) (fun _ h9 => h9) rfl d_Sr_enter_16 ?_
  refine lv_isub hx hb d_Sr_enter_19 ?_
  refine lv_i2l hx hb d_Sr_enter_20 rfl ?_
  refine W.lcmp hx hb d_Sr_enter_21 ?_
  refine lv_if_le (tgt := 31) hx hb d_Sr_enter_22 (by decide) (fun c_22 => ?_) (fun c_22 => ?_)
  · rw [lg_cmp_le, pk_sub (by omega), nI_l (by omega), pk_lLE (by omega) (by omega)] at c_22
    have hm : ¬ lm - a2 < v2 := by omega
    refine lv_aload_n hx hb d_Sr_enter_31 rfl (lv_at hl 2 rfl) ?_
    refine va_get (D := D) (ci := 2) (v := .int (nI lm)) (C := R_Sr) (T := F_Sr) (N := 5) hx hb hts (fun w h => List.mem_cons_of_mem _ (i_Sr w h)) hown hE.1 hP 0 rfl rfl 2 (by decide) (hts _ (List.mem_cons_of_mem _ iw1_100)) (fun _ h9 => h9) rfl d_Sr_enter_32 ?_
    refine lv_istore (lv' := [(4, .int (nI lm)), (2, .long (lN v2)), (1, .int (nI a)), (0, .ref h0)]) hx hb d_Sr_enter_35 hl (by decide) rfl (fun ls hl => ?_)
    refine lv_aload_n hx hb d_Sr_enter_37 rfl (lv_at hl 3 rfl) ?_
    refine lv_aload_n hx hb d_Sr_enter_38 rfl (lv_at hl 3 rfl) ?_
    refine va_get (D := D) (ci := 2) (v := .int (nI a2)) (C := R_Sr) (T := F_Sr) (N := 5) hx hb hts (fun w h => List.mem_cons_of_mem _ (i_Sr w h)) hown hE.1 hP 0 rfl rfl 1 (by decide) (hts _ (List.mem_cons_of_mem _ iw1_97)) (fun _ h9 => h9) rfl d_Sr_enter_39 ?_
    refine lv_lload_n hx hb d_Sr_enter_42 rfl (lv_at hl 1 rfl) ?_
    refine lv_l2i hx hb d_Sr_enter_43 rfl ?_
    refine lv_iadd hx hb d_Sr_enter_44 ?_
    refine va_put (D := D) (ci := 2) (v := .int ((nI a2) + ((lN v2).toInt32))) (ty := .int) (C := R_Sr) (T := F_Sr) (N := 5) hx hb hts (fun w h => List.mem_cons_of_mem _ (i_Sr w h)) t_Sr tk_Sr n_Sr hown hE.1 hP hD hS 0 rfl rfl 2 (by decide) (hts _ (List.mem_cons_of_mem _ iw1_100)) (fun _ h9 => h9) rfl (by decide +kernel) rfl rfl (Nat.le_of_ble_eq_true rfl) d_Sr_enter_45 (fun H locs hP hD hS => ?_)
    have hP : va_P D cls [(h0, .inr (2, [.ref h1, .int (nI a2), .int ((nI a2) + ((lN v2).toInt32)), .int f, .int pl])), (h1, .inl (cA 0, 2000, .inl bs))] H := hP
    have hD : va_D A [(h0, .inr (2, [.ref h1, .int (nI a2), .int ((nI a2) + ((lN v2).toInt32)), .int f, .int pl])), (h1, .inl (cA 0, 2000, .inl bs))] := hD
    refine lv_iload hx hb d_Sr_enter_48 (lv_at hl 0 rfl) ?_
    rw [lN_i, nI_add] at hP hD
    exact cRi (nI a2, nI (a2 + v2), f, pl) hx hb hr hlocks d_Sr_enter_50 hS hP hD (⟨a2 + v2, a2, pEnter_E hn hm, rfl, rfl⟩) (Nat.le_refl _) (Nat.le_refl _)
  · rw [lg_cmp_le, pk_sub (by omega), nI_l (by omega), pk_lLE (by omega) (by omega)] at c_22
    have hm : lm - a2 < v2 := by omega
    refine lv_aload_n hx hb d_Sr_enter_25 rfl (lv_at hl 2 rfl) ?_
    refine lv_iconst (v := 2) hx hb d_Sr_enter_26 (by decide) ?_
    refine lv_iload_n hx hb d_Sr_enter_27 rfl (lv_at hl 1 rfl) ?_
    refine cV (As := [.int 2, .int (nI a)]) (rest := []) (n := 2) (wc := [(h0, .inr (2, [.ref h1, .int (nI a2), .int (nI lm), .int f, .int pl])), (h1, .inl (cA 0, 2000, .inl bs))]) (wr := []) ⟨hx, hb, hml, hown, hts⟩ hno hlocks hl.1 (c_Sr_fail l hl9 D cA ad H.size h0 h1 bs (nI a2) (nI lm) f pl 2 (nI a)) iw2_55 iw2_36 iw2_37 iw1_5 iw2_38 (by decide +kernel) rfl ⟨Nat.le_of_ble_eq_true rfl, Nat.le_of_ble_eq_true rfl⟩ ⟨Nat.le_of_ble_eq_true rfl, Nat.le_of_ble_eq_true rfl⟩ rfl (Nat.le_of_ble_eq_true rfl) d_Sr_enter_28 hE hP hD hS hA [0, 1] [] rfl rfl rfl rfl (by decide) (ci := 2) rfl rfl 0 rfl (fun u h => ⟨u, ⟨2, a, pEnter_F hn hm, by rw [h] <;> rfl, by rw [h] <;> rfl⟩, fun _ h => h, fun h => h, Nat.le_refl _, Nat.le_refl _⟩) (fun v_28 u_28 H locs hp_28 hP hD hS => ?_)
    exact hp_28.elim
set_option maxHeartbeats 4000000 in
set_option maxRecDepth 100000 in
/-- leave(o) -/
theorem c_Sr_leave (l : Launch) (hl9 : l.stackTraces = false) (D : va_G) (cA : Nat → ClassId) (ad : Nat → Nat) (sz : Nat) (h0 h1 : Nat) (bs : Nat → Int32) (a lm : Nat) (f pl : Int32) (hlm : lm ≤ 2000) (hal : a ≤ lm) (o : Nat) :
    cM l y_Sr_leave (.code y_Sr_leave b_Sr_leave 2 none :: wAll) ({ frames := 7, cells := 1, slots := 6, locals := 104 }) D cA ad [.ref h0, .int (nI o)] (wSr cA h0 h1 bs (nI a, nI lm, f, pl)) sz (fun v u => pLeave lm a = .inr ((), a) ∧ v = none ∧ u = (nI a, nI o, f, pl)) (tP (pLeave lm a)) (wSr cA h0 h1 bs) (fun _ => (0, 0)) := by
  refine cM.ofW (cc := b_Sr_leave) (maxL := 2) (ret := none) (by decide) (Nat.le_of_ble_eq_true rfl) ?_
  intro pg ev s m bw meth c A ls hF hsz hA hE hP hD hl
  obtain ⟨⟨hx, hb, hml, hown, hts⟩, hr, hno, hlocks, hin⟩ := hF
  subst hsz
  have hown : s.vm.findClass "ModuleBytes$Source" = some m.cls := hown
  have hS : va_S A s.heap s.heap [] := va_S.rf
  have hl : lv_has ls 2 [(0, .ref h0), (1, .int (nI o))] := hl
  refine lv_aload_n hx hb d_Sr_leave_0 rfl (lv_at hl 0 rfl) ?_
  refine va_get (D := D) (ci := 2) (v := .int (nI a)) (C := R_Sr) (T := F_Sr) (N := 5) hx hb hts (fun w h => List.mem_cons_of_mem _ (i_Sr w h)) hown hE.1 hP 0 rfl rfl 1 (by decide) (hts _ (List.mem_cons_of_mem _ iw1_97)) (fun _ h9 => h9) rfl d_Sr_leave_1 ?_
  refine lv_aload_n hx hb d_Sr_leave_4 rfl (lv_at hl 0 rfl) ?_
  refine va_get (D := D) (ci := 2) (v := .int (nI lm)) (C := R_Sr) (T := F_Sr) (N := 5) hx hb hts (fun w h => List.mem_cons_of_mem _ (i_Sr w h)) hown hE.1 hP 0 rfl rfl 2 (by decide) (hts _ (List.mem_cons_of_mem _ iw1_100)) (fun _ h9 => h9) rfl d_Sr_leave_5 ?_
  refine lv_icmp_ge (tgt := 20) hx hb d_Sr_leave_8 (by decide) (fun c_8 => ?_) (fun c_8 => ?_)
  · have hm : ¬ a < lm := Nat.not_lt.mpr ((nI_leI (by omega) (by omega)).mp c_8)
    refine lv_aload_n hx hb d_Sr_leave_20 rfl (lv_at hl 0 rfl) ?_
    refine lv_iload_n hx hb d_Sr_leave_21 rfl (lv_at hl 1 rfl) ?_
    refine va_put (D := D) (ci := 2) (v := .int (nI o)) (ty := .int) (C := R_Sr) (T := F_Sr) (N := 5) hx hb hts (fun w h => List.mem_cons_of_mem _ (i_Sr w h)) t_Sr tk_Sr n_Sr hown hE.1 hP hD hS 0 rfl rfl 2 (by decide) (hts _ (List.mem_cons_of_mem _ iw1_100)) (fun _ h9 => h9) rfl (by decide +kernel) rfl rfl (Nat.le_of_ble_eq_true rfl) d_Sr_leave_22 (fun H locs hP hD hS => ?_)
    have hP : va_P D cls [(h0, .inr (2, [.ref h1, .int (nI a), .int (nI o), .int f, .int pl])), (h1, .inl (cA 0, 2000, .inl bs))] H := hP
    have hD : va_D A [(h0, .inr (2, [.ref h1, .int (nI a), .int (nI o), .int f, .int pl])), (h1, .inl (cA 0, 2000, .inl bs))] := hD
    exact cRv (nI a, nI o, f, pl) hx hb hr hlocks d_Sr_leave_25 hS hP hD (⟨if_neg hm, rfl, rfl⟩) (Nat.le_refl _) (Nat.le_refl _)
  · have hm : a < lm := Nat.lt_of_not_le (fun q => c_8 (nI_le q (by omega)))
    refine lv_aload_n hx hb d_Sr_leave_11 rfl (lv_at hl 0 rfl) ?_
    refine lv_iconst (v := 3) hx hb d_Sr_leave_12 (by decide) ?_
    refine lv_aload_n hx hb d_Sr_leave_13 rfl (lv_at hl 0 rfl) ?_
    refine va_get (D := D) (ci := 2) (v := .int (nI a)) (C := R_Sr) (T := F_Sr) (N := 5) hx hb hts (fun w h => List.mem_cons_of_mem _ (i_Sr w h)) hown hE.1 hP 0 rfl rfl 1 (by decide) (hts _ (List.mem_cons_of_mem _ iw1_97)) (fun _ h9 => h9) rfl d_Sr_leave_14 ?_
    refine cV (As := [.int 3, .int (nI a)]) (rest := []) (n := 2) (wc := [(h0, .inr (2, [.ref h1, .int (nI a), .int (nI lm), .int f, .int pl])), (h1, .inl (cA 0, 2000, .inl bs))]) (wr := []) ⟨hx, hb, hml, hown, hts⟩ hno hlocks hl.1 (c_Sr_fail l hl9 D cA ad s.heap.size h0 h1 bs (nI a) (nI lm) f pl 3 (nI a)) iw2_55 iw2_36 iw2_37 iw1_5 iw2_38 (by decide +kernel) rfl ⟨Nat.le_of_ble_eq_true rfl, Nat.le_of_ble_eq_true rfl⟩ ⟨Nat.le_of_ble_eq_true rfl, Nat.le_of_ble_eq_true rfl⟩ rfl (Nat.le_of_ble_eq_true rfl) d_Sr_leave_17 hE hP hD hS hA [0, 1] [] rfl rfl rfl rfl (by decide) (ci := 2) rfl rfl 0 rfl (fun u h => ⟨u, ⟨3, a, if_pos hm, by rw [h] <;> rfl, by rw [h] <;> rfl⟩, fun _ h => h, fun h => h, Nat.le_refl _, Nat.le_refl _⟩) (fun v_17 u_17 H locs hp_17 hP hD hS => ?_)
    exact hp_17.elim
set_option maxHeartbeats 4000000 in
set_option maxRecDepth 100000 in
theorem c_Sr_isReferenceType (l : Launch) (D : va_G) (cA : Nat → ClassId) (ad : Nat → Nat) (sz : Nat) (g : Nat) (hg : g < 256) :
    cM l y_Sr_isReferenceType (.code y_Sr_isReferenceType b_Sr_isReferenceType 1 (some .boolean) :: wAll) ({ frames := 0, cells := 0, slots := 0, locals := 0 }) D cA ad [.int (nI g)] [] sz (fun v (_ : Unit) => v = some (.int (zI (tRef g)))) (fun _ => False) (fun _ => []) (fun _ => (0, 0)) := by
  refine cM.ofW (cc := b_Sr_isReferenceType) (maxL := 1) (ret := (some .boolean)) (by decide) (Nat.le_of_ble_eq_true rfl) ?_
  intro pg ev s m bw meth c A ls hF hsz hA hE hP hD hl
  obtain ⟨⟨hx, hb, hml, hown, hts⟩, hr, hno, hlocks, hin⟩ := hF
  subst hsz
  have hown : s.vm.findClass "ModuleBytes$Source" = some m.cls := hown
  have hS : va_S A s.heap s.heap [] := va_S.rf
  have hl : lv_has ls 1 [(0, .int (nI g))] := hl
  refine lv_iload_n hx hb d_Sr_isReferenceType_0 rfl (lv_at hl 0 rfl) ?_
  refine lv_bipush (v := 112) hx hb d_Sr_isReferenceType_1 (by decide) ?_
  refine lv_icmp_eq (tgt := 12) hx hb d_Sr_isReferenceType_3 (by decide) (fun c_3 => ?_) (fun c_3 => ?_)
  · have hh : tRef g = true := by first | (rw [nI_lit_eq (k := 112) (by omega) (by omega) c_3]; rfl) | (rw [nI_lit_eq (k := 111) (by omega) (by omega) c_9]; rfl)
    refine lv_iconst (v := 1) hx hb d_Sr_isReferenceType_12 (by decide) ?_
    refine lv_goto (tgt := 17) hx hb d_Sr_isReferenceType_13 (by decide) ?_
    refine W.eq (g2 := F0 m 17 ls [.int (zI (tRef g))]) (by rw [← zI_t hh]) ?_
    exact cRz () hx hb hr (zI_nar _) hlocks d_Sr_isReferenceType_17 hS hP hD rfl (Nat.le_refl _) (Nat.le_refl _)
  · have q3 : g ≠ 112 := fun q => c_3 (congrArg nI q)
    refine lv_iload_n hx hb d_Sr_isReferenceType_6 rfl (lv_at hl 0 rfl) ?_
    refine lv_bipush (v := 111) hx hb d_Sr_isReferenceType_7 (by decide) ?_
    refine lv_icmp_ne (tgt := 16) hx hb d_Sr_isReferenceType_9 (by decide) (fun c_9 => ?_) (fun c_9 => ?_)
    · have q9 : g ≠ 111 := fun q => c_9 (congrArg nI q)
      have hh : tRef g = false := by simp [tRef, q3, q9]
      refine lv_iconst (v := 0) hx hb d_Sr_isReferenceType_16 (by decide) ?_
      refine W.eq (g2 := F0 m 17 ls [.int (zI (tRef g))]) (by rw [← zI_f hh]) ?_
      exact cRz () hx hb hr (zI_nar _) hlocks d_Sr_isReferenceType_17 hS hP hD rfl (Nat.le_refl _) (Nat.le_refl _)
    · have hh : tRef g = true := by first | (rw [nI_lit_eq (k := 112) (by omega) (by omega) c_3]; rfl) | (rw [nI_lit_eq (k := 111) (by omega) (by omega) c_9]; rfl)
      refine lv_iconst (v := 1) hx hb d_Sr_isReferenceType_12 (by decide) ?_
      refine lv_goto (tgt := 17) hx hb d_Sr_isReferenceType_13 (by decide) ?_
      refine W.eq (g2 := F0 m 17 ls [.int (zI (tRef g))]) (by rw [← zI_t hh]) ?_
      exact cRz () hx hb hr (zI_nar _) hlocks d_Sr_isReferenceType_17 hS hP hD rfl (Nat.le_refl _) (Nat.le_refl _)
set_option maxHeartbeats 4000000 in
set_option maxRecDepth 100000 in
theorem c_Sr_isValueType (l : Launch) (D : va_G) (cA : Nat → ClassId) (ad : Nat → Nat) (sz : Nat) (g : Nat) (hg : g < 256) :
    cM l y_Sr_isValueType (.code y_Sr_isValueType b_Sr_isValueType 1 (some .boolean) :: wAll) ({ frames := 0, cells := 0, slots := 0, locals := 0 }) D cA ad [.int (nI g)] [] sz (fun v (_ : Unit) => v = some (.int (zI (tVal g)))) (fun _ => False) (fun _ => []) (fun _ => (0, 0)) := by
  refine cM.ofW (cc := b_Sr_isValueType) (maxL := 1) (ret := (some .boolean)) (by decide) (Nat.le_of_ble_eq_true rfl) ?_
  intro pg ev s m bw meth c A ls hF hsz hA hE hP hD hl
  obtain ⟨⟨hx, hb, hml, hown, hts⟩, hr, hno, hlocks, hin⟩ := hF
  subst hsz
  have hown : s.vm.findClass "ModuleBytes$Source" = some m.cls := hown
  have hS : va_S A s.heap s.heap [] := va_S.rf
  have hl : lv_has ls 1 [(0, .int (nI g))] := hl
  refine lv_iload_n hx hb d_Sr_isValueType_0 rfl (lv_at hl 0 rfl) ?_
  refine lv_bipush (v := 124) hx hb d_Sr_isValueType_1 (by decide) ?_
  refine lv_icmp_lt (tgt := 12) hx hb d_Sr_isValueType_3 (by decide) (fun c_3 => ?_) (fun c_3 => ?_)
  · refine lv_iload_n hx hb d_Sr_isValueType_12 rfl (lv_at hl 0 rfl) ?_
    refine lv_bipush (v := 112) hx hb d_Sr_isValueType_13 (by decide) ?_
    refine lv_icmp_eq (tgt := 24) hx hb d_Sr_isValueType_15 (by decide) (fun c_15 => ?_) (fun c_15 => ?_)
    · have hh : tVal g = true := by
        first
        | (rw [nI_lit_eq (k := 112) (by omega) (by omega) c_15]; rfl)
        | (rw [nI_lit_eq (k := 111) (by omega) (by omega) c_21]; rfl)
        | (have r1 : 124 ≤ g := Nat.le_of_not_lt (fun q => c_3 (nI_lt (b := 124) q (by omega))); have r2 : g ≤ 127 := (nI_leI (b := 127) (by omega) (by omega)).mp c_9; simp [tVal, r1, r2])
      refine lv_iconst (v := 1) hx hb d_Sr_isValueType_24 (by decide) ?_
      refine lv_goto (tgt := 29) hx hb d_Sr_isValueType_25 (by decide) ?_
      refine W.eq (g2 := F0 m 29 ls [.int (zI (tVal g))]) (by rw [← zI_t hh]) ?_
      exact cRz () hx hb hr (zI_nar _) hlocks d_Sr_isValueType_29 hS hP hD rfl (Nat.le_refl _) (Nat.le_refl _)
    · refine lv_iload_n hx hb d_Sr_isValueType_18 rfl (lv_at hl 0 rfl) ?_
      refine lv_bipush (v := 111) hx hb d_Sr_isValueType_19 (by decide) ?_
      refine lv_icmp_ne (tgt := 28) hx hb d_Sr_isValueType_21 (by decide) (fun c_21 => ?_) (fun c_21 => ?_)
      · have q15 : g ≠ 112 := fun q => c_15 (congrArg nI q)
        have q21 : g ≠ 111 := fun q => c_21 (congrArg nI q)
        have qr : ¬ (124 ≤ g ∧ g ≤ 127) := fun q => by first | exact absurd ((nI_ltI (b := 124) (by omega) (by omega)).mp c_3) (by omega) | exact c_9 (nI_le (b := 127) q.2 (by omega))
        have hh : tVal g = false := by simp [tVal, q15, q21]; omega
        refine lv_iconst (v := 0) hx hb d_Sr_isValueType_28 (by decide) ?_
        refine W.eq (g2 := F0 m 29 ls [.int (zI (tVal g))]) (by rw [← zI_f hh]) ?_
        exact cRz () hx hb hr (zI_nar _) hlocks d_Sr_isValueType_29 hS hP hD rfl (Nat.le_refl _) (Nat.le_refl _)
      · have hh : tVal g = true := by
          first
          | (rw [nI_lit_eq (k := 112) (by omega) (by omega) c_15]; rfl)
          | (rw [nI_lit_eq (k := 111) (by omega) (by omega) c_21]; rfl)
          | (have r1 : 124 ≤ g := Nat.le_of_not_lt (fun q => c_3 (nI_lt (b := 124) q (by omega))); have r2 : g ≤ 127 := (nI_leI (b := 127) (by omega) (by omega)).mp c_9; simp [tVal, r1, r2])
        refine lv_iconst (v := 1) hx hb d_Sr_isValueType_24 (by decide) ?_
        refine lv_goto (tgt := 29) hx hb d_Sr_isValueType_25 (by decide) ?_
        refine W.eq (g2 := F0 m 29 ls [.int (zI (tVal g))]) (by rw [← zI_t hh]) ?_
        exact cRz () hx hb hr (zI_nar _) hlocks d_Sr_isValueType_29 hS hP hD rfl (Nat.le_refl _) (Nat.le_refl _)
  · refine lv_iload_n hx hb d_Sr_isValueType_6 rfl (lv_at hl 0 rfl) ?_
    refine lv_bipush (v := 127) hx hb d_Sr_isValueType_7 (by decide) ?_
    refine lv_icmp_le (tgt := 24) hx hb d_Sr_isValueType_9 (by decide) (fun c_9 => ?_) (fun c_9 => ?_)
    · have hh : tVal g = true := by
        first
        | (rw [nI_lit_eq (k := 112) (by omega) (by omega) c_15]; rfl)
        | (rw [nI_lit_eq (k := 111) (by omega) (by omega) c_21]; rfl)
        | (have r1 : 124 ≤ g := Nat.le_of_not_lt (fun q => c_3 (nI_lt (b := 124) q (by omega))); have r2 : g ≤ 127 := (nI_leI (b := 127) (by omega) (by omega)).mp c_9; simp [tVal, r1, r2])
      refine lv_iconst (v := 1) hx hb d_Sr_isValueType_24 (by decide) ?_
      refine lv_goto (tgt := 29) hx hb d_Sr_isValueType_25 (by decide) ?_
      refine W.eq (g2 := F0 m 29 ls [.int (zI (tVal g))]) (by rw [← zI_t hh]) ?_
      exact cRz () hx hb hr (zI_nar _) hlocks d_Sr_isValueType_29 hS hP hD rfl (Nat.le_refl _) (Nat.le_refl _)
    · refine lv_iload_n hx hb d_Sr_isValueType_12 rfl (lv_at hl 0 rfl) ?_
      refine lv_bipush (v := 112) hx hb d_Sr_isValueType_13 (by decide) ?_
      refine lv_icmp_eq (tgt := 24) hx hb d_Sr_isValueType_15 (by decide) (fun c_15 => ?_) (fun c_15 => ?_)
      · have hh : tVal g = true := by
          first
          | (rw [nI_lit_eq (k := 112) (by omega) (by omega) c_15]; rfl)
          | (rw [nI_lit_eq (k := 111) (by omega) (by omega) c_21]; rfl)
          | (have r1 : 124 ≤ g := Nat.le_of_not_lt (fun q => c_3 (nI_lt (b := 124) q (by omega))); have r2 : g ≤ 127 := (nI_leI (b := 127) (by omega) (by omega)).mp c_9; simp [tVal, r1, r2])
        refine lv_iconst (v := 1) hx hb d_Sr_isValueType_24 (by decide) ?_
        refine lv_goto (tgt := 29) hx hb d_Sr_isValueType_25 (by decide) ?_
        refine W.eq (g2 := F0 m 29 ls [.int (zI (tVal g))]) (by rw [← zI_t hh]) ?_
        exact cRz () hx hb hr (zI_nar _) hlocks d_Sr_isValueType_29 hS hP hD rfl (Nat.le_refl _) (Nat.le_refl _)
      · refine lv_iload_n hx hb d_Sr_isValueType_18 rfl (lv_at hl 0 rfl) ?_
        refine lv_bipush (v := 111) hx hb d_Sr_isValueType_19 (by decide) ?_
        refine lv_icmp_ne (tgt := 28) hx hb d_Sr_isValueType_21 (by decide) (fun c_21 => ?_) (fun c_21 => ?_)
        · have q15 : g ≠ 112 := fun q => c_15 (congrArg nI q)
          have q21 : g ≠ 111 := fun q => c_21 (congrArg nI q)
          have qr : ¬ (124 ≤ g ∧ g ≤ 127) := fun q => by first | exact absurd ((nI_ltI (b := 124) (by omega) (by omega)).mp c_3) (by omega) | exact c_9 (nI_le (b := 127) q.2 (by omega))
          have hh : tVal g = false := by simp [tVal, q15, q21]; omega
          refine lv_iconst (v := 0) hx hb d_Sr_isValueType_28 (by decide) ?_
          refine W.eq (g2 := F0 m 29 ls [.int (zI (tVal g))]) (by rw [← zI_f hh]) ?_
          exact cRz () hx hb hr (zI_nar _) hlocks d_Sr_isValueType_29 hS hP hD rfl (Nat.le_refl _) (Nat.le_refl _)
        · have hh : tVal g = true := by
            first
            | (rw [nI_lit_eq (k := 112) (by omega) (by omega) c_15]; rfl)
            | (rw [nI_lit_eq (k := 111) (by omega) (by omega) c_21]; rfl)
            | (have r1 : 124 ≤ g := Nat.le_of_not_lt (fun q => c_3 (nI_lt (b := 124) q (by omega))); have r2 : g ≤ 127 := (nI_leI (b := 127) (by omega) (by omega)).mp c_9; simp [tVal, r1, r2])
          refine lv_iconst (v := 1) hx hb d_Sr_isValueType_24 (by decide) ?_
          refine lv_goto (tgt := 29) hx hb d_Sr_isValueType_25 (by decide) ?_
          refine W.eq (g2 := F0 m 29 ls [.int (zI (tVal g))]) (by rw [← zI_t hh]) ?_
          exact cRz () hx hb hr (zI_nar _) hlocks d_Sr_isValueType_29 hS hP hD rfl (Nat.le_refl _) (Nat.le_refl _)
