set_option maxHeartbeats 4000000 in
set_option maxRecDepth 100000 in
/-- referenceType() -/
theorem c_Sr_referenceType (l : Launch) (hl9 : l.stackTraces = false) (D : va_G) (cA : Nat → ClassId) (ad : Nat → Nat) (sz : Nat) (h0 h1 : Nat) (bs : Nat → Int32) (a lm : Nat) (f pl : Int32) (hlm : lm ≤ 2000) (hal : a ≤ lm) :
    cM l y_Sr_referenceType (.code y_Sr_referenceType b_Sr_referenceType 2 (some .int) :: wAll) ({ frames := 7, cells := 1, slots := 6, locals := 104 }) D cA ad [.ref h0] (wSr cA h0 h1 bs (nI a, nI lm, f, pl)) sz (iP (pType tRef (bv bs) lm a) lm f pl) (tP (pType tRef (bv bs) lm a)) (wSr cA h0 h1 bs) (fun _ => (0, 0)) := by
  refine cM.ofW (cc := b_Sr_referenceType) (maxL := 2) (ret := (some .int)) (by decide) (Nat.le_of_ble_eq_true rfl) ?_
  intro pg ev s m bw meth c A ls hF hsz hA hE hP hD hl
  obtain ⟨⟨hx, hb, hml, hown, hts⟩, hr, hno, hlocks, hin⟩ := hF
  subst hsz
  have hown : s.vm.findClass "ModuleBytes$Source" = some m.cls := hown
  have hS : va_S A s.heap s.heap [] := va_S.rf
  have hl : lv_has ls 2 [(0, .ref h0)] := hl
  refine lv_aload_n hx hb d_Sr_referenceType_0 rfl (lv_at hl 0 rfl) ?_
  refine cV (As := []) (rest := []) (n := 0) (wc := [(h0, .inr (2, [.ref h1, .int (nI a), .int (nI lm), .int f, .int pl])), (h1, .inl (cA 0, 2000, .inl bs))]) (wr := []) ⟨hx, hb, hml, hown, hts⟩ hno hlocks hl.1 (c_Sr_next l hl9 D cA ad s.heap.size h0 h1 bs a lm f pl hlm (by omega)) iw2_54 iw1_207 iw1_208 iw1_5 iw1_209 (by decide +kernel) rfl ⟨Nat.le_of_ble_eq_true rfl, Nat.le_of_ble_eq_true rfl⟩ ⟨Nat.le_of_ble_eq_true rfl, Nat.le_of_ble_eq_true rfl⟩ rfl (Nat.le_of_ble_eq_true rfl) d_Sr_referenceType_1 hE hP hD hS hA [0, 1] [] rfl rfl rfl rfl (by decide) (ci := 2) rfl rfl 0 rfl (fun u h => ⟨u, h.mono (fun f p q => by rw [pType_T q]), fun _ h => h, fun h => h, Nat.le_refl _, Nat.le_refl _⟩) (fun v_1 u_1 H locs hp_1 hP hD hS => ?_)
  obtain ⟨g, a_, hn, rfl, rfl⟩ := hp_1
  have hP : va_P D cls [(h0, .inr (2, [.ref h1, .int (nI a_), .int (nI lm), .int f, .int pl])), (h1, .inl (cA 0, 2000, .inl bs))] H := hP
  have hD : va_D A [(h0, .inr (2, [.ref h1, .int (nI a_), .int (nI lm), .int f, .int pl])), (h1, .inl (cA 0, 2000, .inl bs))] := hD
  refine W.cs (cells' := 0) (slots' := 0) rfl rfl ?_
  refine W.eq (g2 := F0 m 4 ls [.int (nI g)]) rfl ?_
  obtain ⟨hq, rfl, hg⟩ := pNext_ok hn
  have hB : g < 256 := by rw [hg]; exact bv_lt _ _
  have hP : va_P D cls [(h0, .inr (2, [.ref h1, .int (nI (a + 1)), .int (nI lm), .int f, .int pl])), (h1, .inl (cA 0, 2000, .inl bs))] H := hP
  have hD : va_D A [(h0, .inr (2, [.ref h1, .int (nI (a + 1)), .int (nI lm), .int f, .int pl])), (h1, .inl (cA 0, 2000, .inl bs))] := hD
  refine lv_istore_n (lv' := [(1, .int (nI g)), (0, .ref h0)]) hx hb d_Sr_referenceType_4 rfl hl (by decide) rfl (fun ls hl => ?_)
  refine lv_iload_n hx hb d_Sr_referenceType_5 rfl (lv_at hl 0 rfl) ?_
  refine cS0 (As := [.int (nI g)]) (rest := []) (n := 1) (r := (zI (tRef g))) ⟨hx, hb, hml, hown, hts⟩ hno hlocks hl.1 (c_Sr_isReferenceType l D cA ad H.size g hB) iw2_140 iw2_141 iw1_5 iw2_142 (by decide +kernel) rfl ⟨Nat.le_of_ble_eq_true rfl, Nat.le_of_ble_eq_true rfl⟩ ⟨Nat.le_of_ble_eq_true rfl, Nat.le_of_ble_eq_true rfl⟩ rfl (Nat.le_of_ble_eq_true rfl) d_Sr_referenceType_6 hE hP hD hS hA [0, 1] rfl rfl (fun H locs hP hD hS => ?_)
  refine lv_if_ne (tgt := 24) hx hb d_Sr_referenceType_9 (by decide) (fun c_9 => ?_) (fun c_9 => ?_)
  · have hm : tRef g = true := by cases hz : tRef g with | true => rfl | false => exact absurd (zI_0.mpr hz) c_9
    refine lv_iload_n hx hb d_Sr_referenceType_24 rfl (lv_at hl 0 rfl) ?_
    exact cRi (nI (a + 1), nI lm, f, pl) hx hb hr hlocks d_Sr_referenceType_25 hS hP hD (⟨g, a + 1, pType_E hn hm, rfl, rfl⟩) (Nat.le_refl _) (Nat.le_refl _)
  · have hm : ¬ tRef g = true := by rw [zI_0.mp c_9]; decide
    refine lv_aload_n hx hb d_Sr_referenceType_12 rfl (lv_at hl 1 rfl) ?_
    refine lv_bipush (v := 8) hx hb d_Sr_referenceType_13 (by decide) ?_
    refine lv_aload_n hx hb d_Sr_referenceType_15 rfl (lv_at hl 1 rfl) ?_
    refine va_get (D := D) (ci := 2) (v := .int (nI (a + 1))) (C := R_Sr) (T := F_Sr) (N := 5) hx hb hts (fun w h => List.mem_cons_of_mem _ (i_Sr w h)) hown hE.1 hP 0 rfl rfl 1 (by decide) (hts _ (List.mem_cons_of_mem _ iw1_97)) (fun _ h9 => h9) rfl d_Sr_referenceType_16 ?_
    refine lv_iconst (v := 1) hx hb d_Sr_referenceType_19 (by decide) ?_
    refine lv_isub hx hb d_Sr_referenceType_20 ?_
    refine cV (As := [.int 8, .int ((nI (a + 1)) - 1)]) (rest := []) (n := 2) (wc := [(h0, .inr (2, [.ref h1, .int (nI (a + 1)), .int (nI lm), .int f, .int pl])), (h1, .inl (cA 0, 2000, .inl bs))]) (wr := []) ⟨hx, hb, hml, hown, hts⟩ hno hlocks hl.1 (c_Sr_fail l hl9 D cA ad H.size h0 h1 bs (nI (a + 1)) (nI lm) f pl 8 (nI (a + 1) - 1)) iw2_55 iw2_36 iw2_37 iw1_5 iw2_38 (by decide +kernel) rfl ⟨Nat.le_of_ble_eq_true rfl, Nat.le_of_ble_eq_true rfl⟩ ⟨Nat.le_of_ble_eq_true rfl, Nat.le_of_ble_eq_true rfl⟩ rfl (Nat.le_of_ble_eq_true rfl) d_Sr_referenceType_21 hE hP hD hS hA [0, 1] [] rfl rfl rfl rfl (by decide) (ci := 2) rfl rfl 0 rfl (fun u h => ⟨u, ⟨8, a, pType_F hn hm, by rw [h] <;> rfl, by rw [h] <;> exact nI_pred _⟩, fun _ h => h, fun h => h, Nat.le_refl _, Nat.le_refl _⟩) (fun v_21 u_21 H locs hp_21 hP hD hS => ?_)
    exact hp_21.elim
set_option maxHeartbeats 4000000 in
set_option maxRecDepth 100000 in
/-- valueType() -/
theorem c_Sr_valueType (l : Launch) (hl9 : l.stackTraces = false) (D : va_G) (cA : Nat → ClassId) (ad : Nat → Nat) (sz : Nat) (h0 h1 : Nat) (bs : Nat → Int32) (a lm : Nat) (f pl : Int32) (hlm : lm ≤ 2000) (hal : a ≤ lm) :
    cM l y_Sr_valueType (.code y_Sr_valueType b_Sr_valueType 2 (some .int) :: wAll) ({ frames := 7, cells := 1, slots := 6, locals := 104 }) D cA ad [.ref h0] (wSr cA h0 h1 bs (nI a, nI lm, f, pl)) sz (iP (pType tVal (bv bs) lm a) lm f pl) (tP (pType tVal (bv bs) lm a)) (wSr cA h0 h1 bs) (fun _ => (0, 0)) := by
  refine cM.ofW (cc := b_Sr_valueType) (maxL := 2) (ret := (some .int)) (by decide) (Nat.le_of_ble_eq_true rfl) ?_
  intro pg ev s m bw meth c A ls hF hsz hA hE hP hD hl
  obtain ⟨⟨hx, hb, hml, hown, hts⟩, hr, hno, hlocks, hin⟩ := hF
  subst hsz
  have hown : s.vm.findClass "ModuleBytes$Source" = some m.cls := hown
  have hS : va_S A s.heap s.heap [] := va_S.rf
  have hl : lv_has ls 2 [(0, .ref h0)] := hl
  refine lv_aload_n hx hb d_Sr_valueType_0 rfl (lv_at hl 0 rfl) ?_
  refine cV (As := []) (rest := []) (n := 0) (wc := [(h0, .inr (2, [.ref h1, .int (nI a), .int (nI lm), .int f, .int pl])), (h1, .inl (cA 0, 2000, .inl bs))]) (wr := []) ⟨hx, hb, hml, hown, hts⟩ hno hlocks hl.1 (c_Sr_next l hl9 D cA ad s.heap.size h0 h1 bs a lm f pl hlm (by omega)) iw2_54 iw1_207 iw1_208 iw1_5 iw1_209 (by decide +kernel) rfl ⟨Nat.le_of_ble_eq_true rfl, Nat.le_of_ble_eq_true rfl⟩ ⟨Nat.le_of_ble_eq_true rfl, Nat.le_of_ble_eq_true rfl⟩ rfl (Nat.le_of_ble_eq_true rfl) d_Sr_valueType_1 hE hP hD hS hA [0, 1] [] rfl rfl rfl rfl (by decide) (ci := 2) rfl rfl 0 rfl (fun u h => ⟨u, h.mono (fun f p q => by rw [pType_T q]), fun _ h => h, fun h => h, Nat.le_refl _, Nat.le_refl _⟩) (fun v_1 u_1 H locs hp_1 hP hD hS => ?_)
  obtain ⟨g, a_, hn, rfl, rfl⟩ := hp_1
  have hP : va_P D cls [(h0, .inr (2, [.ref h1, .int (nI a_), .int (nI lm), .int f, .int pl])), (h1, .inl (cA 0, 2000, .inl bs))] H := hP
  have hD : va_D A [(h0, .inr (2, [.ref h1, .int (nI a_), .int (nI lm), .int f, .int pl])), (h1, .inl (cA 0, 2000, .inl bs))] := hD
  refine W.cs (cells' := 0) (slots' := 0) rfl rfl ?_
  refine W.eq (g2 := F0 m 4 ls [.int (nI g)]) rfl ?_
  obtain ⟨hq, rfl, hg⟩ := pNext_ok hn
  have hB : g < 256 := by rw [hg]; exact bv_lt _ _
  have hP : va_P D cls [(h0, .inr (2, [.ref h1, .int (nI (a + 1)), .int (nI lm), .int f, .int pl])), (h1, .inl (cA 0, 2000, .inl bs))] H := hP
  have hD : va_D A [(h0, .inr (2, [.ref h1, .int (nI (a + 1)), .int (nI lm), .int f, .int pl])), (h1, .inl (cA 0, 2000, .inl bs))] := hD
  refine lv_istore_n (lv' := [(1, .int (nI g)), (0, .ref h0)]) hx hb d_Sr_valueType_4 rfl hl (by decide) rfl (fun ls hl => ?_)
  refine lv_iload_n hx hb d_Sr_valueType_5 rfl (lv_at hl 0 rfl) ?_
  refine cS0 (As := [.int (nI g)]) (rest := []) (n := 1) (r := (zI (tVal g))) ⟨hx, hb, hml, hown, hts⟩ hno hlocks hl.1 (c_Sr_isValueType l D cA ad H.size g hB) iw2_121 iw2_122 iw1_5 iw2_123 (by decide +kernel) rfl ⟨Nat.le_of_ble_eq_true rfl, Nat.le_of_ble_eq_true rfl⟩ ⟨Nat.le_of_ble_eq_true rfl, Nat.le_of_ble_eq_true rfl⟩ rfl (Nat.le_of_ble_eq_true rfl) d_Sr_valueType_6 hE hP hD hS hA [0, 1] rfl rfl (fun H locs hP hD hS => ?_)
  refine lv_if_ne (tgt := 24) hx hb d_Sr_valueType_9 (by decide) (fun c_9 => ?_) (fun c_9 => ?_)
  · have hm : tVal g = true := by cases hz : tVal g with | true => rfl | false => exact absurd (zI_0.mpr hz) c_9
    refine lv_iload_n hx hb d_Sr_valueType_24 rfl (lv_at hl 0 rfl) ?_
    exact cRi (nI (a + 1), nI lm, f, pl) hx hb hr hlocks d_Sr_valueType_25 hS hP hD (⟨g, a + 1, pType_E hn hm, rfl, rfl⟩) (Nat.le_refl _) (Nat.le_refl _)
  · have hm : ¬ tVal g = true := by rw [zI_0.mp c_9]; decide
    refine lv_aload_n hx hb d_Sr_valueType_12 rfl (lv_at hl 1 rfl) ?_
    refine lv_bipush (v := 8) hx hb d_Sr_valueType_13 (by decide) ?_
    refine lv_aload_n hx hb d_Sr_valueType_15 rfl (lv_at hl 1 rfl) ?_
    refine va_get (D := D) (ci := 2) (v := .int (nI (a + 1))) (C := R_Sr) (T := F_Sr) (N := 5) hx hb hts (fun w h => List.mem_cons_of_mem _ (i_Sr w h)) hown hE.1 hP 0 rfl rfl 1 (by decide) (hts _ (List.mem_cons_of_mem _ iw1_97)) (fun _ h9 => h9) rfl d_Sr_valueType_16 ?_
    refine lv_iconst (v := 1) hx hb d_Sr_valueType_19 (by decide) ?_
    refine lv_isub hx hb d_Sr_valueType_20 ?_
    refine cV (As := [.int 8, .int ((nI (a + 1)) - 1)]) (rest := []) (n := 2) (wc := [(h0, .inr (2, [.ref h1, .int (nI (a + 1)), .int (nI lm), .int f, .int pl])), (h1, .inl (cA 0, 2000, .inl bs))]) (wr := []) ⟨hx, hb, hml, hown, hts⟩ hno hlocks hl.1 (c_Sr_fail l hl9 D cA ad H.size h0 h1 bs (nI (a + 1)) (nI lm) f pl 8 (nI (a + 1) - 1)) iw2_55 iw2_36 iw2_37 iw1_5 iw2_38 (by decide +kernel) rfl ⟨Nat.le_of_ble_eq_true rfl, Nat.le_of_ble_eq_true rfl⟩ ⟨Nat.le_of_ble_eq_true rfl, Nat.le_of_ble_eq_true rfl⟩ rfl (Nat.le_of_ble_eq_true rfl) d_Sr_valueType_21 hE hP hD hS hA [0, 1] [] rfl rfl rfl rfl (by decide) (ci := 2) rfl rfl 0 rfl (fun u h => ⟨u, ⟨8, a, pType_F hn hm, by rw [h] <;> rfl, by rw [h] <;> exact nI_pred _⟩, fun _ h => h, fun h => h, Nat.le_refl _, Nat.le_refl _⟩) (fun v_21 u_21 H locs hp_21 hP hD hS => ?_)
    exact hp_21.elim
set_option maxHeartbeats 4000000 in
set_option maxRecDepth 100000 in
/-- functionMark() -/
theorem c_Sr_functionMark (l : Launch) (hl9 : l.stackTraces = false) (D : va_G) (cA : Nat → ClassId) (ad : Nat → Nat) (sz : Nat) (h0 h1 : Nat) (bs : Nat → Int32) (a lm : Nat) (f pl : Int32) (hlm : lm ≤ 2000) (hal : a ≤ lm) :
    cM l y_Sr_functionMark (.code y_Sr_functionMark b_Sr_functionMark 1 none :: wAll) ({ frames := 7, cells := 1, slots := 6, locals := 104 }) D cA ad [.ref h0] (wSr cA h0 h1 bs (nI a, nI lm, f, pl)) sz (fun v u => ∃ g a2 : Nat, pType tFun (bv bs) lm a = .inr (g, a2) ∧ v = none ∧ u = (nI a2, nI lm, f, pl)) (tP (pType tFun (bv bs) lm a)) (wSr cA h0 h1 bs) (fun _ => (0, 0)) := by
  refine cM.ofW (cc := b_Sr_functionMark) (maxL := 1) (ret := none) (by decide) (Nat.le_of_ble_eq_true rfl) ?_
  intro pg ev s m bw meth c A ls hF hsz hA hE hP hD hl
  obtain ⟨⟨hx, hb, hml, hown, hts⟩, hr, hno, hlocks, hin⟩ := hF
  subst hsz
  have hown : s.vm.findClass "ModuleBytes$Source" = some m.cls := hown
  have hS : va_S A s.heap s.heap [] := va_S.rf
  have hl : lv_has ls 1 [(0, .ref h0)] := hl
  refine lv_aload_n hx hb d_Sr_functionMark_0 rfl (lv_at hl 0 rfl) ?_
  refine cV (As := []) (rest := []) (n := 0) (wc := [(h0, .inr (2, [.ref h1, .int (nI a), .int (nI lm), .int f, .int pl])), (h1, .inl (cA 0, 2000, .inl bs))]) (wr := []) ⟨hx, hb, hml, hown, hts⟩ hno hlocks hl.1 (c_Sr_next l hl9 D cA ad s.heap.size h0 h1 bs a lm f pl hlm (by omega)) iw2_54 iw1_207 iw1_208 iw1_5 iw1_209 (by decide +kernel) rfl ⟨Nat.le_of_ble_eq_true rfl, Nat.le_of_ble_eq_true rfl⟩ ⟨Nat.le_of_ble_eq_true rfl, Nat.le_of_ble_eq_true rfl⟩ rfl (Nat.le_of_ble_eq_true rfl) d_Sr_functionMark_1 hE hP hD hS hA [0, 1] [] rfl rfl rfl rfl (by decide) (ci := 2) rfl rfl 0 rfl (fun u h => ⟨u, h.mono (fun f p q => by rw [pType_T q]), fun _ h => h, fun h => h, Nat.le_refl _, Nat.le_refl _⟩) (fun v_1 u_1 H locs hp_1 hP hD hS => ?_)
  obtain ⟨g, a_, hn, rfl, rfl⟩ := hp_1
  have hP : va_P D cls [(h0, .inr (2, [.ref h1, .int (nI a_), .int (nI lm), .int f, .int pl])), (h1, .inl (cA 0, 2000, .inl bs))] H := hP
  have hD : va_D A [(h0, .inr (2, [.ref h1, .int (nI a_), .int (nI lm), .int f, .int pl])), (h1, .inl (cA 0, 2000, .inl bs))] := hD
  refine W.cs (cells' := 0) (slots' := 0) rfl rfl ?_
  refine W.eq (g2 := F0 m 4 ls [.int (nI g)]) rfl ?_
  obtain ⟨hq, rfl, hg⟩ := pNext_ok hn
  have hB : g < 256 := by rw [hg]; exact bv_lt _ _
  have hP : va_P D cls [(h0, .inr (2, [.ref h1, .int (nI (a + 1)), .int (nI lm), .int f, .int pl])), (h1, .inl (cA 0, 2000, .inl bs))] H := hP
  have hD : va_D A [(h0, .inr (2, [.ref h1, .int (nI (a + 1)), .int (nI lm), .int f, .int pl])), (h1, .inl (cA 0, 2000, .inl bs))] := hD
  refine lv_bipush (v := 96) hx hb d_Sr_functionMark_4 (by decide) ?_
  refine lv_icmp_eq (tgt := 21) hx hb d_Sr_functionMark_6 (by decide) (fun c_6 => ?_) (fun c_6 => ?_)
  · have hm : tFun g = true := by rw [nI_lit_eq (k := 96) (by omega) (by omega) c_6]; rfl
    exact cRv (nI (a + 1), nI lm, f, pl) hx hb hr hlocks d_Sr_functionMark_21 hS hP hD (⟨g, a + 1, pType_E hn hm, rfl, rfl⟩) (Nat.le_refl _) (Nat.le_refl _)
  · have hm : ¬ tFun g = true := fun q => c_6 (congrArg nI (by simpa [tFun] using q))
    refine lv_aload_n hx hb d_Sr_functionMark_9 rfl (lv_at hl 0 rfl) ?_
    refine lv_bipush (v := 8) hx hb d_Sr_functionMark_10 (by decide) ?_
    refine lv_aload_n hx hb d_Sr_functionMark_12 rfl (lv_at hl 0 rfl) ?_
    refine va_get (D := D) (ci := 2) (v := .int (nI (a + 1))) (C := R_Sr) (T := F_Sr) (N := 5) hx hb hts (fun w h => List.mem_cons_of_mem _ (i_Sr w h)) hown hE.1 hP 0 rfl rfl 1 (by decide) (hts _ (List.mem_cons_of_mem _ iw1_97)) (fun _ h9 => h9) rfl d_Sr_functionMark_13 ?_
    refine lv_iconst (v := 1) hx hb d_Sr_functionMark_16 (by decide) ?_
    refine lv_isub hx hb d_Sr_functionMark_17 ?_
    refine cV (As := [.int 8, .int ((nI (a + 1)) - 1)]) (rest := []) (n := 2) (wc := [(h0, .inr (2, [.ref h1, .int (nI (a + 1)), .int (nI lm), .int f, .int pl])), (h1, .inl (cA 0, 2000, .inl bs))]) (wr := []) ⟨hx, hb, hml, hown, hts⟩ hno hlocks hl.1 (c_Sr_fail l hl9 D cA ad H.size h0 h1 bs (nI (a + 1)) (nI lm) f pl 8 (nI (a + 1) - 1)) iw2_55 iw2_36 iw2_37 iw1_5 iw2_38 (by decide +kernel) rfl ⟨Nat.le_of_ble_eq_true rfl, Nat.le_of_ble_eq_true rfl⟩ ⟨Nat.le_of_ble_eq_true rfl, Nat.le_of_ble_eq_true rfl⟩ rfl (Nat.le_of_ble_eq_true rfl) d_Sr_functionMark_18 hE hP hD hS hA [0, 1] [] rfl rfl rfl rfl (by decide) (ci := 2) rfl rfl 0 rfl (fun u h => ⟨u, ⟨8, a, pType_F hn hm, by rw [h] <;> rfl, by rw [h] <;> exact nI_pred _⟩, fun _ h => h, fun h => h, Nat.le_refl _, Nat.le_refl _⟩) (fun v_18 u_18 H locs hp_18 hP hD hS => ?_)
    exact hp_18.elim
set_option maxHeartbeats 4000000 in
set_option maxRecDepth 100000 in
/-- signedBelowZero(32) -/
theorem c_Sr_signed32 (l : Launch) (hl9 : l.stackTraces = false) (D : va_G) (cA : Nat → ClassId) (ad : Nat → Nat) (sz : Nat) (h0 h1 : Nat) (bs : Nat → Int32) (a lm : Nat) (f pl : Int32) (hlm : lm ≤ 2000) (hal : a ≤ lm) :
    cM l y_Sr_signedBelowZero (.code y_Sr_signedBelowZero b_Sr_signedBelowZero 5 (some .boolean) :: wAll) ({ frames := 7, cells := 1, slots := 6, locals := 104 }) D cA ad [.ref h0, .int 32] (wSr cA h0 h1 bs (nI a, nI lm, f, pl)) sz (iP (pS32 (bv bs) lm a) lm f pl) (tP (pS32 (bv bs) lm a)) (wSr cA h0 h1 bs) (fun _ => (0, 0)) := by
  refine cM.ofW (cc := b_Sr_signedBelowZero) (maxL := 5) (ret := (some .boolean)) (by decide) (Nat.le_of_ble_eq_true rfl) ?_
  intro pg ev s m bw meth c A ls hF hsz hA hE hP hD hl
  obtain ⟨⟨hx, hb, hml, hown, hts⟩, hr, hno, hlocks, hin⟩ := hF
  subst hsz
  have hown : s.vm.findClass "ModuleBytes$Source" = some m.cls := hown
  have hS : va_S A s.heap s.heap [] := va_S.rf
  have hl : lv_has ls 5 [(0, .ref h0), (1, .int 32)] := hl
  have hU0 : pS32 (bv bs) lm a = pSg (bv bs) lm 5 32 a := rfl
  refine lv_iconst (v := 0) hx hb d_Sr_signedBelowZero_0 (by decide) ?_
  refine lv_istore_n (lv' := [(2, .int 0), (0, .ref h0), (1, .int 32)]) hx hb d_Sr_signedBelowZero_1 rfl hl (by decide) rfl (fun ls hl => ?_)
  refine lv_iload_n hx hb d_Sr_signedBelowZero_2 rfl (lv_at hl 2 rfl) ?_
  refine lv_istore_n (lv' := [(3, .int 32), (2, .int 0), (0, .ref h0), (1, .int 32)]) hx hb d_Sr_signedBelowZero_3 rfl hl (by decide) rfl (fun ls hl => ?_)
  refine lv_iload_n hx hb d_Sr_signedBelowZero_4 rfl (lv_at hl 0 rfl) ?_
  refine lv_if_le (tgt := 69) hx hb d_Sr_signedBelowZero_5 (by decide) (fun c_5 => absurd c_5 (by decide)) (fun c_5 => ?_)
  refine lv_aload_n hx hb d_Sr_signedBelowZero_8 rfl (lv_at hl 2 rfl) ?_
  refine cV (As := []) (rest := []) (n := 0) (wc := [(h0, .inr (2, [.ref h1, .int (nI a), .int (nI lm), .int f, .int pl])), (h1, .inl (cA 0, 2000, .inl bs))]) (wr := []) ⟨hx, hb, hml, hown, hts⟩ hno hlocks hl.1 (c_Sr_next l hl9 D cA ad s.heap.size h0 h1 bs a lm f pl hlm (by omega)) iw2_54 iw1_207 iw1_208 iw1_5 iw1_209 (by decide +kernel) rfl ⟨Nat.le_of_ble_eq_true rfl, Nat.le_of_ble_eq_true rfl⟩ ⟨Nat.le_of_ble_eq_true rfl, Nat.le_of_ble_eq_true rfl⟩ rfl (Nat.le_of_ble_eq_true rfl) d_Sr_signedBelowZero_9 hE hP hD hS hA [0, 1] [] rfl rfl rfl rfl (by decide) (ci := 2) rfl rfl 0 rfl (fun u h => ⟨u, h.mono (fun f p q => by rw [hU0, pSg_T q]), fun _ h => h, fun h => h, Nat.le_refl _, Nat.le_refl _⟩) (fun v_9 u_9 H locs hp_9 hP hD hS => ?_)
  obtain ⟨g0, a0_, hn0, rfl, rfl⟩ := hp_9
  have hP : va_P D cls [(h0, .inr (2, [.ref h1, .int (nI a0_), .int (nI lm), .int f, .int pl])), (h1, .inl (cA 0, 2000, .inl bs))] H := hP
  have hD : va_D A [(h0, .inr (2, [.ref h1, .int (nI a0_), .int (nI lm), .int f, .int pl])), (h1, .inl (cA 0, 2000, .inl bs))] := hD
  refine W.cs (cells' := 0) (slots' := 0) rfl rfl ?_
  refine W.eq (g2 := F0 m 12 ls [.int (nI g0)]) rfl ?_
  obtain ⟨hq0, rfl, hg0⟩ := pNext_ok hn0
  have hB0 : g0 < 256 := by rw [hg0]; exact bv_lt _ _
  have hP : va_P D cls [(h0, .inr (2, [.ref h1, .int (nI (a + 1)), .int (nI lm), .int f, .int pl])), (h1, .inl (cA 0, 2000, .inl bs))] H := hP
  have hD : va_D A [(h0, .inr (2, [.ref h1, .int (nI (a + 1)), .int (nI lm), .int f, .int pl])), (h1, .inl (cA 0, 2000, .inl bs))] := hD
  refine lv_istore_n (lv' := [(2, .int (nI g0)), (3, .int 32), (0, .ref h0), (1, .int 32)]) hx hb d_Sr_signedBelowZero_12 rfl hl (by decide) rfl (fun ls hl => ?_)
  have ho0 : ¬ (32 ≤ 7 ∧ sTop 32 g0 = false) := fun q => absurd q.1 (by decide)
  refine lv_iload_n hx hb d_Sr_signedBelowZero_13 rfl (lv_at hl 1 rfl) ?_
  refine lv_bipush (v := 7) hx hb d_Sr_signedBelowZero_14 (by decide) ?_
  refine lv_icmp_gt (tgt := 53) hx hb d_Sr_signedBelowZero_16 (by decide) (fun c_16 => ?_) (fun c_16 => absurd (by decide) c_16)
  refine lv_iload_n hx hb d_Sr_signedBelowZero_53 rfl (lv_at hl 0 rfl) ?_
  refine lv_sipush (v := 128) hx hb d_Sr_signedBelowZero_54 (by decide) ?_
  refine lv_icmp_ge (tgt := 63) hx hb d_Sr_signedBelowZero_57 (by decide) (fun c_57 => ?_) (fun c_57 => ?_)
  · have hd0 : ¬ g0 < 128 := fun q => absurd ((nI_leI (a := 128) (b := g0) (by omega) (by omega)).mp c_57) (by omega)
    have hU1 := hU0.trans (pSg_C hn0 ho0 hd0)
    refine lv_iinc (v := 25) (lv' := [(3, .int 25), (2, .int (nI g0)), (0, .ref h0), (1, .int 32)]) hx hb d_Sr_signedBelowZero_63 hl (k := 1) rfl (by decide) (by decide) rfl (fun ls hl => ?_)
    refine lv_goto (tgt := 4) hx hb d_Sr_signedBelowZero_66 (by decide) ?_
    refine lv_iload_n hx hb d_Sr_signedBelowZero_4 rfl (lv_at hl 0 rfl) ?_
    refine lv_if_le (tgt := 69) hx hb d_Sr_signedBelowZero_5 (by decide) (fun c_5 => absurd c_5 (by decide)) (fun c_5 => ?_)
    refine lv_aload_n hx hb d_Sr_signedBelowZero_8 rfl (lv_at hl 2 rfl) ?_
    refine cV (As := []) (rest := []) (n := 0) (wc := [(h0, .inr (2, [.ref h1, .int (nI (a + 1)), .int (nI lm), .int f, .int pl])), (h1, .inl (cA 0, 2000, .inl bs))]) (wr := []) ⟨hx, hb, hml, hown, hts⟩ hno hlocks hl.1 (c_Sr_next l hl9 D cA ad H.size h0 h1 bs (a + 1) lm f pl hlm (by omega)) iw2_54 iw1_207 iw1_208 iw1_5 iw1_209 (by decide +kernel) rfl ⟨Nat.le_of_ble_eq_true rfl, Nat.le_of_ble_eq_true rfl⟩ ⟨Nat.le_of_ble_eq_true rfl, Nat.le_of_ble_eq_true rfl⟩ rfl (Nat.le_of_ble_eq_true rfl) d_Sr_signedBelowZero_9 hE hP hD hS hA [0, 1] [] rfl rfl rfl rfl (by decide) (ci := 2) rfl rfl 0 rfl (fun u h => ⟨u, h.mono (fun f p q => by rw [hU1, pSg_T q]), fun _ h => h, fun h => h, Nat.le_refl _, Nat.le_refl _⟩) (fun v_9 u_9 H locs hp_9 hP hD hS => ?_)
    obtain ⟨g1, a1_, hn1, rfl, rfl⟩ := hp_9
    have hP : va_P D cls [(h0, .inr (2, [.ref h1, .int (nI a1_), .int (nI lm), .int f, .int pl])), (h1, .inl (cA 0, 2000, .inl bs))] H := hP
    have hD : va_D A [(h0, .inr (2, [.ref h1, .int (nI a1_), .int (nI lm), .int f, .int pl])), (h1, .inl (cA 0, 2000, .inl bs))] := hD
    refine W.cs (cells' := 0) (slots' := 0) rfl rfl ?_
    refine W.eq (g2 := F0 m 12 ls [.int (nI g1)]) rfl ?_
    obtain ⟨hq1, rfl, hg1⟩ := pNext_ok hn1
    have hB1 : g1 < 256 := by rw [hg1]; exact bv_lt _ _
    have hP : va_P D cls [(h0, .inr (2, [.ref h1, .int (nI ((a + 1) + 1)), .int (nI lm), .int f, .int pl])), (h1, .inl (cA 0, 2000, .inl bs))] H := hP
    have hD : va_D A [(h0, .inr (2, [.ref h1, .int (nI ((a + 1) + 1)), .int (nI lm), .int f, .int pl])), (h1, .inl (cA 0, 2000, .inl bs))] := hD
    refine lv_istore_n (lv' := [(2, .int (nI g1)), (3, .int 25), (0, .ref h0), (1, .int 32)]) hx hb d_Sr_signedBelowZero_12 rfl hl (by decide) rfl (fun ls hl => ?_)
    have ho1 : ¬ (25 ≤ 7 ∧ sTop 25 g1 = false) := fun q => absurd q.1 (by decide)
    refine lv_iload_n hx hb d_Sr_signedBelowZero_13 rfl (lv_at hl 1 rfl) ?_
    refine lv_bipush (v := 7) hx hb d_Sr_signedBelowZero_14 (by decide) ?_
    refine lv_icmp_gt (tgt := 53) hx hb d_Sr_signedBelowZero_16 (by decide) (fun c_16 => ?_) (fun c_16 => absurd (by decide) c_16)
    refine lv_iload_n hx hb d_Sr_signedBelowZero_53 rfl (lv_at hl 0 rfl) ?_
    refine lv_sipush (v := 128) hx hb d_Sr_signedBelowZero_54 (by decide) ?_
    refine lv_icmp_ge (tgt := 63) hx hb d_Sr_signedBelowZero_57 (by decide) (fun c_57 => ?_) (fun c_57 => ?_)
    · have hd1 : ¬ g1 < 128 := fun q => absurd ((nI_leI (a := 128) (b := g1) (by omega) (by omega)).mp c_57) (by omega)
      have hU2 := hU1.trans (pSg_C hn1 ho1 hd1)
      refine lv_iinc (v := 18) (lv' := [(3, .int 18), (2, .int (nI g1)), (0, .ref h0), (1, .int 32)]) hx hb d_Sr_signedBelowZero_63 hl (k := 1) rfl (by decide) (by decide) rfl (fun ls hl => ?_)
      refine lv_goto (tgt := 4) hx hb d_Sr_signedBelowZero_66 (by decide) ?_
      refine lv_iload_n hx hb d_Sr_signedBelowZero_4 rfl (lv_at hl 0 rfl) ?_
      refine lv_if_le (tgt := 69) hx hb d_Sr_signedBelowZero_5 (by decide) (fun c_5 => absurd c_5 (by decide)) (fun c_5 => ?_)
      refine lv_aload_n hx hb d_Sr_signedBelowZero_8 rfl (lv_at hl 2 rfl) ?_
      refine cV (As := []) (rest := []) (n := 0) (wc := [(h0, .inr (2, [.ref h1, .int (nI ((a + 1) + 1)), .int (nI lm), .int f, .int pl])), (h1, .inl (cA 0, 2000, .inl bs))]) (wr := []) ⟨hx, hb, hml, hown, hts⟩ hno hlocks hl.1 (c_Sr_next l hl9 D cA ad H.size h0 h1 bs ((a + 1) + 1) lm f pl hlm (by omega)) iw2_54 iw1_207 iw1_208 iw1_5 iw1_209 (by decide +kernel) rfl ⟨Nat.le_of_ble_eq_true rfl, Nat.le_of_ble_eq_true rfl⟩ ⟨Nat.le_of_ble_eq_true rfl, Nat.le_of_ble_eq_true rfl⟩ rfl (Nat.le_of_ble_eq_true rfl) d_Sr_signedBelowZero_9 hE hP hD hS hA [0, 1] [] rfl rfl rfl rfl (by decide) (ci := 2) rfl rfl 0 rfl (fun u h => ⟨u, h.mono (fun f p q => by rw [hU2, pSg_T q]), fun _ h => h, fun h => h, Nat.le_refl _, Nat.le_refl _⟩) (fun v_9 u_9 H locs hp_9 hP hD hS => ?_)
      obtain ⟨g2, a2_, hn2, rfl, rfl⟩ := hp_9
      have hP : va_P D cls [(h0, .inr (2, [.ref h1, .int (nI a2_), .int (nI lm), .int f, .int pl])), (h1, .inl (cA 0, 2000, .inl bs))] H := hP
      have hD : va_D A [(h0, .inr (2, [.ref h1, .int (nI a2_), .int (nI lm), .int f, .int pl])), (h1, .inl (cA 0, 2000, .inl bs))] := hD
      refine W.cs (cells' := 0) (slots' := 0) rfl rfl ?_
      refine W.eq (g2 := F0 m 12 ls [.int (nI g2)]) rfl ?_
      obtain ⟨hq2, rfl, hg2⟩ := pNext_ok hn2
      have hB2 : g2 < 256 := by rw [hg2]; exact bv_lt _ _
      have hP : va_P D cls [(h0, .inr (2, [.ref h1, .int (nI (((a + 1) + 1) + 1)), .int (nI lm), .int f, .int pl])), (h1, .inl (cA 0, 2000, .inl bs))] H := hP
      have hD : va_D A [(h0, .inr (2, [.ref h1, .int (nI (((a + 1) + 1) + 1)), .int (nI lm), .int f, .int pl])), (h1, .inl (cA 0, 2000, .inl bs))] := hD
      refine lv_istore_n (lv' := [(2, .int (nI g2)), (3, .int 18), (0, .ref h0), (1, .int 32)]) hx hb d_Sr_signedBelowZero_12 rfl hl (by decide) rfl (fun ls hl => ?_)
      have ho2 : ¬ (18 ≤ 7 ∧ sTop 18 g2 = false) := fun q => absurd q.1 (by decide)
      refine lv_iload_n hx hb d_Sr_signedBelowZero_13 rfl (lv_at hl 1 rfl) ?_
      refine lv_bipush (v := 7) hx hb d_Sr_signedBelowZero_14 (by decide) ?_
      refine lv_icmp_gt (tgt := 53) hx hb d_Sr_signedBelowZero_16 (by decide) (fun c_16 => ?_) (fun c_16 => absurd (by decide) c_16)
      refine lv_iload_n hx hb d_Sr_signedBelowZero_53 rfl (lv_at hl 0 rfl) ?_
      refine lv_sipush (v := 128) hx hb d_Sr_signedBelowZero_54 (by decide) ?_
      refine lv_icmp_ge (tgt := 63) hx hb d_Sr_signedBelowZero_57 (by decide) (fun c_57 => ?_) (fun c_57 => ?_)
      · have hd2 : ¬ g2 < 128 := fun q => absurd ((nI_leI (a := 128) (b := g2) (by omega) (by omega)).mp c_57) (by omega)
        have hU3 := hU2.trans (pSg_C hn2 ho2 hd2)
        refine lv_iinc (v := 11) (lv' := [(3, .int 11), (2, .int (nI g2)), (0, .ref h0), (1, .int 32)]) hx hb d_Sr_signedBelowZero_63 hl (k := 1) rfl (by decide) (by decide) rfl (fun ls hl => ?_)
        refine lv_goto (tgt := 4) hx hb d_Sr_signedBelowZero_66 (by decide) ?_
        refine lv_iload_n hx hb d_Sr_signedBelowZero_4 rfl (lv_at hl 0 rfl) ?_
        refine lv_if_le (tgt := 69) hx hb d_Sr_signedBelowZero_5 (by decide) (fun c_5 => absurd c_5 (by decide)) (fun c_5 => ?_)
        refine lv_aload_n hx hb d_Sr_signedBelowZero_8 rfl (lv_at hl 2 rfl) ?_
        refine cV (As := []) (rest := []) (n := 0) (wc := [(h0, .inr (2, [.ref h1, .int (nI (((a + 1) + 1) + 1)), .int (nI lm), .int f, .int pl])), (h1, .inl (cA 0, 2000, .inl bs))]) (wr := []) ⟨hx, hb, hml, hown, hts⟩ hno hlocks hl.1 (c_Sr_next l hl9 D cA ad H.size h0 h1 bs (((a + 1) + 1) + 1) lm f pl hlm (by omega)) iw2_54 iw1_207 iw1_208 iw1_5 iw1_209 (by decide +kernel) rfl ⟨Nat.le_of_ble_eq_true rfl, Nat.le_of_ble_eq_true rfl⟩ ⟨Nat.le_of_ble_eq_true rfl, Nat.le_of_ble_eq_true rfl⟩ rfl (Nat.le_of_ble_eq_true rfl) d_Sr_signedBelowZero_9 hE hP hD hS hA [0, 1] [] rfl rfl rfl rfl (by decide) (ci := 2) rfl rfl 0 rfl (fun u h => ⟨u, h.mono (fun f p q => by rw [hU3, pSg_T q]), fun _ h => h, fun h => h, Nat.le_refl _, Nat.le_refl _⟩) (fun v_9 u_9 H locs hp_9 hP hD hS => ?_)
        obtain ⟨g3, a3_, hn3, rfl, rfl⟩ := hp_9
        have hP : va_P D cls [(h0, .inr (2, [.ref h1, .int (nI a3_), .int (nI lm), .int f, .int pl])), (h1, .inl (cA 0, 2000, .inl bs))] H := hP
        have hD : va_D A [(h0, .inr (2, [.ref h1, .int (nI a3_), .int (nI lm), .int f, .int pl])), (h1, .inl (cA 0, 2000, .inl bs))] := hD
        refine W.cs (cells' := 0) (slots' := 0) rfl rfl ?_
        refine W.eq (g2 := F0 m 12 ls [.int (nI g3)]) rfl ?_
        obtain ⟨hq3, rfl, hg3⟩ := pNext_ok hn3
        have hB3 : g3 < 256 := by rw [hg3]; exact bv_lt _ _
        have hP : va_P D cls [(h0, .inr (2, [.ref h1, .int (nI ((((a + 1) + 1) + 1) + 1)), .int (nI lm), .int f, .int pl])), (h1, .inl (cA 0, 2000, .inl bs))] H := hP
        have hD : va_D A [(h0, .inr (2, [.ref h1, .int (nI ((((a + 1) + 1) + 1) + 1)), .int (nI lm), .int f, .int pl])), (h1, .inl (cA 0, 2000, .inl bs))] := hD
        refine lv_istore_n (lv' := [(2, .int (nI g3)), (3, .int 11), (0, .ref h0), (1, .int 32)]) hx hb d_Sr_signedBelowZero_12 rfl hl (by decide) rfl (fun ls hl => ?_)
        have ho3 : ¬ (11 ≤ 7 ∧ sTop 11 g3 = false) := fun q => absurd q.1 (by decide)
        refine lv_iload_n hx hb d_Sr_signedBelowZero_13 rfl (lv_at hl 1 rfl) ?_
        refine lv_bipush (v := 7) hx hb d_Sr_signedBelowZero_14 (by decide) ?_
        refine lv_icmp_gt (tgt := 53) hx hb d_Sr_signedBelowZero_16 (by decide) (fun c_16 => ?_) (fun c_16 => absurd (by decide) c_16)
        refine lv_iload_n hx hb d_Sr_signedBelowZero_53 rfl (lv_at hl 0 rfl) ?_
        refine lv_sipush (v := 128) hx hb d_Sr_signedBelowZero_54 (by decide) ?_
        refine lv_icmp_ge (tgt := 63) hx hb d_Sr_signedBelowZero_57 (by decide) (fun c_57 => ?_) (fun c_57 => ?_)
        · have hd3 : ¬ g3 < 128 := fun q => absurd ((nI_leI (a := 128) (b := g3) (by omega) (by omega)).mp c_57) (by omega)
          have hU4 := hU3.trans (pSg_C hn3 ho3 hd3)
          refine lv_iinc (v := 4) (lv' := [(3, .int 4), (2, .int (nI g3)), (0, .ref h0), (1, .int 32)]) hx hb d_Sr_signedBelowZero_63 hl (k := 1) rfl (by decide) (by decide) rfl (fun ls hl => ?_)
          refine lv_goto (tgt := 4) hx hb d_Sr_signedBelowZero_66 (by decide) ?_
          refine lv_iload_n hx hb d_Sr_signedBelowZero_4 rfl (lv_at hl 0 rfl) ?_
          refine lv_if_le (tgt := 69) hx hb d_Sr_signedBelowZero_5 (by decide) (fun c_5 => absurd c_5 (by decide)) (fun c_5 => ?_)
          refine lv_aload_n hx hb d_Sr_signedBelowZero_8 rfl (lv_at hl 2 rfl) ?_
          refine cV (As := []) (rest := []) (n := 0) (wc := [(h0, .inr (2, [.ref h1, .int (nI ((((a + 1) + 1) + 1) + 1)), .int (nI lm), .int f, .int pl])), (h1, .inl (cA 0, 2000, .inl bs))]) (wr := []) ⟨hx, hb, hml, hown, hts⟩ hno hlocks hl.1 (c_Sr_next l hl9 D cA ad H.size h0 h1 bs ((((a + 1) + 1) + 1) + 1) lm f pl hlm (by omega)) iw2_54 iw1_207 iw1_208 iw1_5 iw1_209 (by decide +kernel) rfl ⟨Nat.le_of_ble_eq_true rfl, Nat.le_of_ble_eq_true rfl⟩ ⟨Nat.le_of_ble_eq_true rfl, Nat.le_of_ble_eq_true rfl⟩ rfl (Nat.le_of_ble_eq_true rfl) d_Sr_signedBelowZero_9 hE hP hD hS hA [0, 1] [] rfl rfl rfl rfl (by decide) (ci := 2) rfl rfl 0 rfl (fun u h => ⟨u, h.mono (fun f p q => by rw [hU4, pSg_T q]), fun _ h => h, fun h => h, Nat.le_refl _, Nat.le_refl _⟩) (fun v_9 u_9 H locs hp_9 hP hD hS => ?_)
          obtain ⟨g4, a4_, hn4, rfl, rfl⟩ := hp_9
          have hP : va_P D cls [(h0, .inr (2, [.ref h1, .int (nI a4_), .int (nI lm), .int f, .int pl])), (h1, .inl (cA 0, 2000, .inl bs))] H := hP
          have hD : va_D A [(h0, .inr (2, [.ref h1, .int (nI a4_), .int (nI lm), .int f, .int pl])), (h1, .inl (cA 0, 2000, .inl bs))] := hD
          refine W.cs (cells' := 0) (slots' := 0) rfl rfl ?_
          refine W.eq (g2 := F0 m 12 ls [.int (nI g4)]) rfl ?_
          obtain ⟨hq4, rfl, hg4⟩ := pNext_ok hn4
          have hB4 : g4 < 256 := by rw [hg4]; exact bv_lt _ _
          have hP : va_P D cls [(h0, .inr (2, [.ref h1, .int (nI (((((a + 1) + 1) + 1) + 1) + 1)), .int (nI lm), .int f, .int pl])), (h1, .inl (cA 0, 2000, .inl bs))] H := hP
          have hD : va_D A [(h0, .inr (2, [.ref h1, .int (nI (((((a + 1) + 1) + 1) + 1) + 1)), .int (nI lm), .int f, .int pl])), (h1, .inl (cA 0, 2000, .inl bs))] := hD
          refine lv_istore_n (lv' := [(2, .int (nI g4)), (3, .int 4), (0, .ref h0), (1, .int 32)]) hx hb d_Sr_signedBelowZero_12 rfl hl (by decide) rfl (fun ls hl => ?_)
          refine lv_iload_n hx hb d_Sr_signedBelowZero_13 rfl (lv_at hl 1 rfl) ?_
          refine lv_bipush (v := 7) hx hb d_Sr_signedBelowZero_14 (by decide) ?_
          refine lv_icmp_gt (tgt := 53) hx hb d_Sr_signedBelowZero_16 (by decide) (fun c_16 => absurd c_16 (by decide)) (fun c_16 => ?_)
          refine lv_iload_n hx hb d_Sr_signedBelowZero_19 rfl (lv_at hl 0 rfl) ?_
          refine lv_iload_n hx hb d_Sr_signedBelowZero_20 rfl (lv_at hl 1 rfl) ?_
          refine lv_iconst (v := 1) hx hb d_Sr_signedBelowZero_21 (by decide) ?_
          refine lv_isub hx hb d_Sr_signedBelowZero_22 ?_
          refine W.eq (g2 := F0 m 23 ls [.int 3, .int (nI g4)]) (by rw [show (4 : Int32) - 1 = 3 from by decide]) ?_
          refine lv_ishr hx hb d_Sr_signedBelowZero_23 ?_
          refine lv_topi (fun t9 et9 => ?_)
          have ht9 : t9 = nI (g4 / 2 ^ 3) := et9.trans (pk_shrN (by omega) _ 3 (by decide +kernel))
          have hz9 : g4 / 2 ^ 3 < 256 := Nat.lt_of_le_of_lt (Nat.div_le_self _ _) hB4
          subst ht9
          refine lv_istore (lv' := [(4, .int (nI (g4 / 2 ^ 3))), (2, .int (nI g4)), (3, .int 4), (0, .ref h0), (1, .int 32)]) hx hb d_Sr_signedBelowZero_24 hl (by decide) rfl (fun ls hl => ?_)
          refine lv_iload hx hb d_Sr_signedBelowZero_26 (lv_at hl 0 rfl) ?_
          refine lv_if_eq (tgt := 53) hx hb d_Sr_signedBelowZero_28 (by decide) (fun c_28 => ?_) (fun c_28 => ?_)
          · have hs4 : sTop 4 g4 = true := by
              first
              | (have q := nI_lit_eq (k := 0) (by omega) (by omega) c_28; simp only [sTop]; rw [show 4 - 1 = 3 from rfl, q]; rfl)
              | (have q := nI_lit_eq (k := 127 / 2 ^ 3) (by omega) (by decide) (c_39.trans (by decide)); simp only [sTop]; rw [show 4 - 1 = 3 from rfl, q]; rfl)
            have ho4 : ¬ (4 ≤ 7 ∧ sTop 4 g4 = false) := fun q => by rw [hs4] at q; exact absurd q.2 (by decide)
            refine lv_iload_n hx hb d_Sr_signedBelowZero_53 rfl (lv_at hl 1 rfl) ?_
            refine lv_sipush (v := 128) hx hb d_Sr_signedBelowZero_54 (by decide) ?_
            refine lv_icmp_ge (tgt := 63) hx hb d_Sr_signedBelowZero_57 (by decide) (fun c_57 => ?_) (fun c_57 => ?_)
            · have hd4 : ¬ g4 < 128 := fun q => absurd ((nI_leI (a := 128) (b := g4) (by omega) (by omega)).mp c_57) (by omega)
              exact absurd hs4 (by rw [sTop_big 3 (by decide) g4 hB4 (by omega)]; decide)
            · have hd4 : g4 < 128 := Nat.lt_of_not_le (fun q => c_57 (nI_le (a := 128) (b := g4) q (by omega)))
              refine lv_goto (tgt := 69) hx hb d_Sr_signedBelowZero_60 (by decide) ?_
              refine lv_iload_n hx hb d_Sr_signedBelowZero_69 rfl (lv_at hl 1 rfl) ?_
              refine lv_bipush (v := 64) hx hb d_Sr_signedBelowZero_70 (by decide) ?_
              refine lv_iand hx hb d_Sr_signedBelowZero_72 ?_
              refine lv_if_eq (tgt := 80) hx hb d_Sr_signedBelowZero_73 (by decide) (fun c_73 => ?_) (fun c_73 => ?_)
              · rw [and64 hB4] at c_73
                have hx1 : g4 / 64 % 2 = 0 := by have q := nI_lit_eq (k := 0) (by omega) (by omega) c_73; omega
                refine lv_iconst (v := 0) hx hb d_Sr_signedBelowZero_80 (by decide) ?_
                exact cRz (nI (((((a + 1) + 1) + 1) + 1) + 1), nI lm, f, pl) hx hb hr rfl hlocks d_Sr_signedBelowZero_81 hS hP hD (⟨g4 / 64 % 2, (((((a + 1) + 1) + 1) + 1) + 1), hU4.trans (pSg_E hn4 ho4 hd4), by rw [hx1]; rfl, rfl⟩) (Nat.le_refl _) (Nat.le_refl _)
              · rw [and64 hB4] at c_73
                have hx1 : g4 / 64 % 2 = 1 := by rcases Nat.mod_two_eq_zero_or_one (g4 / 64) with q | q <;> first | exact q | exact absurd (by rw [q]; rfl) c_73
                refine lv_iconst (v := 1) hx hb d_Sr_signedBelowZero_76 (by decide) ?_
                refine lv_goto (tgt := 81) hx hb d_Sr_signedBelowZero_77 (by decide) ?_
                exact cRz (nI (((((a + 1) + 1) + 1) + 1) + 1), nI lm, f, pl) hx hb hr rfl hlocks d_Sr_signedBelowZero_81 hS hP hD (⟨g4 / 64 % 2, (((((a + 1) + 1) + 1) + 1) + 1), hU4.trans (pSg_E hn4 ho4 hd4), by rw [hx1]; rfl, rfl⟩) (Nat.le_refl _) (Nat.le_refl _)
          · refine lv_iload hx hb d_Sr_signedBelowZero_31 (lv_at hl 0 rfl) ?_
            refine lv_bipush (v := 127) hx hb d_Sr_signedBelowZero_33 (by decide) ?_
            refine lv_iload_n hx hb d_Sr_signedBelowZero_35 rfl (lv_at hl 2 rfl) ?_
            refine lv_iconst (v := 1) hx hb d_Sr_signedBelowZero_36 (by decide) ?_
            refine lv_isub hx hb d_Sr_signedBelowZero_37 ?_
            refine W.eq (g2 := F0 m 38 ls [.int 3, .int 127, .int (nI (g4 / 2 ^ 3))]) (by rw [show (4 : Int32) - 1 = 3 from by decide]) ?_
            refine lv_ishr hx hb d_Sr_signedBelowZero_38 ?_
            refine lv_icmp_eq (tgt := 53) hx hb d_Sr_signedBelowZero_39 (by decide) (fun c_39 => ?_) (fun c_39 => ?_)
            · have hs4 : sTop 4 g4 = true := by
                first
                | (have q := nI_lit_eq (k := 0) (by omega) (by omega) c_28; simp only [sTop]; rw [show 4 - 1 = 3 from rfl, q]; rfl)
                | (have q := nI_lit_eq (k := 127 / 2 ^ 3) (by omega) (by decide) (c_39.trans (by decide)); simp only [sTop]; rw [show 4 - 1 = 3 from rfl, q]; rfl)
              have ho4 : ¬ (4 ≤ 7 ∧ sTop 4 g4 = false) := fun q => by rw [hs4] at q; exact absurd q.2 (by decide)
              refine lv_iload_n hx hb d_Sr_signedBelowZero_53 rfl (lv_at hl 1 rfl) ?_
              refine lv_sipush (v := 128) hx hb d_Sr_signedBelowZero_54 (by decide) ?_
              refine lv_icmp_ge (tgt := 63) hx hb d_Sr_signedBelowZero_57 (by decide) (fun c_57 => ?_) (fun c_57 => ?_)
              · have hd4 : ¬ g4 < 128 := fun q => absurd ((nI_leI (a := 128) (b := g4) (by omega) (by omega)).mp c_57) (by omega)
                exact absurd hs4 (by rw [sTop_big 3 (by decide) g4 hB4 (by omega)]; decide)
              · have hd4 : g4 < 128 := Nat.lt_of_not_le (fun q => c_57 (nI_le (a := 128) (b := g4) q (by omega)))
                refine lv_goto (tgt := 69) hx hb d_Sr_signedBelowZero_60 (by decide) ?_
                refine lv_iload_n hx hb d_Sr_signedBelowZero_69 rfl (lv_at hl 1 rfl) ?_
                refine lv_bipush (v := 64) hx hb d_Sr_signedBelowZero_70 (by decide) ?_
                refine lv_iand hx hb d_Sr_signedBelowZero_72 ?_
                refine lv_if_eq (tgt := 80) hx hb d_Sr_signedBelowZero_73 (by decide) (fun c_73 => ?_) (fun c_73 => ?_)
                · rw [and64 hB4] at c_73
                  have hx1 : g4 / 64 % 2 = 0 := by have q := nI_lit_eq (k := 0) (by omega) (by omega) c_73; omega
                  refine lv_iconst (v := 0) hx hb d_Sr_signedBelowZero_80 (by decide) ?_
                  exact cRz (nI (((((a + 1) + 1) + 1) + 1) + 1), nI lm, f, pl) hx hb hr rfl hlocks d_Sr_signedBelowZero_81 hS hP hD (⟨g4 / 64 % 2, (((((a + 1) + 1) + 1) + 1) + 1), hU4.trans (pSg_E hn4 ho4 hd4), by rw [hx1]; rfl, rfl⟩) (Nat.le_refl _) (Nat.le_refl _)
                · rw [and64 hB4] at c_73
                  have hx1 : g4 / 64 % 2 = 1 := by rcases Nat.mod_two_eq_zero_or_one (g4 / 64) with q | q <;> first | exact q | exact absurd (by rw [q]; rfl) c_73
                  refine lv_iconst (v := 1) hx hb d_Sr_signedBelowZero_76 (by decide) ?_
                  refine lv_goto (tgt := 81) hx hb d_Sr_signedBelowZero_77 (by decide) ?_
                  exact cRz (nI (((((a + 1) + 1) + 1) + 1) + 1), nI lm, f, pl) hx hb hr rfl hlocks d_Sr_signedBelowZero_81 hS hP hD (⟨g4 / 64 % 2, (((((a + 1) + 1) + 1) + 1) + 1), hU4.trans (pSg_E hn4 ho4 hd4), by rw [hx1]; rfl, rfl⟩) (Nat.le_refl _) (Nat.le_refl _)
            · have hs4 : sTop 4 g4 = false := by
                have q1 : ¬ g4 / 2 ^ 3 = 0 := fun q => c_28 (congrArg nI q)
                have q2 : ¬ g4 / 2 ^ 3 = 127 / 2 ^ 3 := fun q => c_39 ((congrArg nI q).trans (by decide))
                simp only [sTop, show 4 - 1 = 3 from rfl, beq_eq_false_iff_ne.mpr q1, beq_eq_false_iff_ne.mpr q2]; rfl
              refine lv_aload_n hx hb d_Sr_signedBelowZero_42 rfl (lv_at hl 3 rfl) ?_
              refine lv_iconst (v := 4) hx hb d_Sr_signedBelowZero_43 (by decide) ?_
              refine lv_aload_n hx hb d_Sr_signedBelowZero_44 rfl (lv_at hl 3 rfl) ?_
              refine va_get (D := D) (ci := 2) (v := .int (nI (((((a + 1) + 1) + 1) + 1) + 1))) (C := R_Sr) (T := F_Sr) (N := 5) hx hb hts (fun w h => List.mem_cons_of_mem _ (i_Sr w h)) hown hE.1 hP 0 rfl rfl 1 (by decide) (hts _ (List.mem_cons_of_mem _ iw1_97)) (fun _ h9 => h9) rfl d_Sr_signedBelowZero_45 ?_
              refine lv_iconst (v := 1) hx hb d_Sr_signedBelowZero_48 (by decide) ?_
              refine lv_isub hx hb d_Sr_signedBelowZero_49 ?_
              refine cV (As := [.int 4, .int ((nI (((((a + 1) + 1) + 1) + 1) + 1)) - 1)]) (rest := []) (n := 2) (wc := [(h0, .inr (2, [.ref h1, .int (nI (((((a + 1) + 1) + 1) + 1) + 1)), .int (nI lm), .int f, .int pl])), (h1, .inl (cA 0, 2000, .inl bs))]) (wr := []) ⟨hx, hb, hml, hown, hts⟩ hno hlocks hl.1 (c_Sr_fail l hl9 D cA ad H.size h0 h1 bs (nI (((((a + 1) + 1) + 1) + 1) + 1)) (nI lm) f pl 4 (nI (((((a + 1) + 1) + 1) + 1) + 1) - 1)) iw2_55 iw2_36 iw2_37 iw1_5 iw2_38 (by decide +kernel) rfl ⟨Nat.le_of_ble_eq_true rfl, Nat.le_of_ble_eq_true rfl⟩ ⟨Nat.le_of_ble_eq_true rfl, Nat.le_of_ble_eq_true rfl⟩ rfl (Nat.le_of_ble_eq_true rfl) d_Sr_signedBelowZero_50 hE hP hD hS hA [0, 1] [] rfl rfl rfl rfl (by decide) (ci := 2) rfl rfl 0 rfl (fun u h => ⟨u, ⟨4, ((((a + 1) + 1) + 1) + 1), (by rw [hU4, pSg_F hn4 (by decide) hs4]), by rw [h] <;> rfl, by rw [h] <;> exact nI_pred _⟩, fun _ h => h, fun h => h, Nat.le_refl _, Nat.le_refl _⟩) (fun v_50 u_50 H locs hp_50 hP hD hS => ?_)
              exact hp_50.elim
        · have hd3 : g3 < 128 := Nat.lt_of_not_le (fun q => c_57 (nI_le (a := 128) (b := g3) q (by omega)))
          refine lv_goto (tgt := 69) hx hb d_Sr_signedBelowZero_60 (by decide) ?_
          refine lv_iload_n hx hb d_Sr_signedBelowZero_69 rfl (lv_at hl 0 rfl) ?_
          refine lv_bipush (v := 64) hx hb d_Sr_signedBelowZero_70 (by decide) ?_
          refine lv_iand hx hb d_Sr_signedBelowZero_72 ?_
          refine lv_if_eq (tgt := 80) hx hb d_Sr_signedBelowZero_73 (by decide) (fun c_73 => ?_) (fun c_73 => ?_)
          · rw [and64 hB3] at c_73
            have hx1 : g3 / 64 % 2 = 0 := by have q := nI_lit_eq (k := 0) (by omega) (by omega) c_73; omega
            refine lv_iconst (v := 0) hx hb d_Sr_signedBelowZero_80 (by decide) ?_
            exact cRz (nI ((((a + 1) + 1) + 1) + 1), nI lm, f, pl) hx hb hr rfl hlocks d_Sr_signedBelowZero_81 hS hP hD (⟨g3 / 64 % 2, ((((a + 1) + 1) + 1) + 1), hU3.trans (pSg_E hn3 ho3 hd3), by rw [hx1]; rfl, rfl⟩) (Nat.le_refl _) (Nat.le_refl _)
          · rw [and64 hB3] at c_73
            have hx1 : g3 / 64 % 2 = 1 := by rcases Nat.mod_two_eq_zero_or_one (g3 / 64) with q | q <;> first | exact q | exact absurd (by rw [q]; rfl) c_73
            refine lv_iconst (v := 1) hx hb d_Sr_signedBelowZero_76 (by decide) ?_
            refine lv_goto (tgt := 81) hx hb d_Sr_signedBelowZero_77 (by decide) ?_
            exact cRz (nI ((((a + 1) + 1) + 1) + 1), nI lm, f, pl) hx hb hr rfl hlocks d_Sr_signedBelowZero_81 hS hP hD (⟨g3 / 64 % 2, ((((a + 1) + 1) + 1) + 1), hU3.trans (pSg_E hn3 ho3 hd3), by rw [hx1]; rfl, rfl⟩) (Nat.le_refl _) (Nat.le_refl _)
      · have hd2 : g2 < 128 := Nat.lt_of_not_le (fun q => c_57 (nI_le (a := 128) (b := g2) q (by omega)))
        refine lv_goto (tgt := 69) hx hb d_Sr_signedBelowZero_60 (by decide) ?_
        refine lv_iload_n hx hb d_Sr_signedBelowZero_69 rfl (lv_at hl 0 rfl) ?_
        refine lv_bipush (v := 64) hx hb d_Sr_signedBelowZero_70 (by decide) ?_
        refine lv_iand hx hb d_Sr_signedBelowZero_72 ?_
        refine lv_if_eq (tgt := 80) hx hb d_Sr_signedBelowZero_73 (by decide) (fun c_73 => ?_) (fun c_73 => ?_)
        · rw [and64 hB2] at c_73
          have hx1 : g2 / 64 % 2 = 0 := by have q := nI_lit_eq (k := 0) (by omega) (by omega) c_73; omega
          refine lv_iconst (v := 0) hx hb d_Sr_signedBelowZero_80 (by decide) ?_
          exact cRz (nI (((a + 1) + 1) + 1), nI lm, f, pl) hx hb hr rfl hlocks d_Sr_signedBelowZero_81 hS hP hD (⟨g2 / 64 % 2, (((a + 1) + 1) + 1), hU2.trans (pSg_E hn2 ho2 hd2), by rw [hx1]; rfl, rfl⟩) (Nat.le_refl _) (Nat.le_refl _)
        · rw [and64 hB2] at c_73
          have hx1 : g2 / 64 % 2 = 1 := by rcases Nat.mod_two_eq_zero_or_one (g2 / 64) with q | q <;> first | exact q | exact absurd (by rw [q]; rfl) c_73
          refine lv_iconst (v := 1) hx hb d_Sr_signedBelowZero_76 (by decide) ?_
          refine lv_goto (tgt := 81) hx hb d_Sr_signedBelowZero_77 (by decide) ?_
          exact cRz (nI (((a + 1) + 1) + 1), nI lm, f, pl) hx hb hr rfl hlocks d_Sr_signedBelowZero_81 hS hP hD (⟨g2 / 64 % 2, (((a + 1) + 1) + 1), hU2.trans (pSg_E hn2 ho2 hd2), by rw [hx1]; rfl, rfl⟩) (Nat.le_refl _) (Nat.le_refl _)
    · have hd1 : g1 < 128 := Nat.lt_of_not_le (fun q => c_57 (nI_le (a := 128) (b := g1) q (by omega)))
      refine lv_goto (tgt := 69) hx hb d_Sr_signedBelowZero_60 (by decide) ?_
      refine lv_iload_n hx hb d_Sr_signedBelowZero_69 rfl (lv_at hl 0 rfl) ?_
      refine lv_bipush (v := 64) hx hb d_Sr_signedBelowZero_70 (by decide) ?_
      refine lv_iand hx hb d_Sr_signedBelowZero_72 ?_
      refine lv_if_eq (tgt := 80) hx hb d_Sr_signedBelowZero_73 (by decide) (fun c_73 => ?_) (fun c_73 => ?_)
      · rw [and64 hB1] at c_73
        have hx1 : g1 / 64 % 2 = 0 := by have q := nI_lit_eq (k := 0) (by omega) (by omega) c_73; omega
        refine lv_iconst (v := 0) hx hb d_Sr_signedBelowZero_80 (by decide) ?_
        exact cRz (nI ((a + 1) + 1), nI lm, f, pl) hx hb hr rfl hlocks d_Sr_signedBelowZero_81 hS hP hD (⟨g1 / 64 % 2, ((a + 1) + 1), hU1.trans (pSg_E hn1 ho1 hd1), by rw [hx1]; rfl, rfl⟩) (Nat.le_refl _) (Nat.le_refl _)
      · rw [and64 hB1] at c_73
        have hx1 : g1 / 64 % 2 = 1 := by rcases Nat.mod_two_eq_zero_or_one (g1 / 64) with q | q <;> first | exact q | exact absurd (by rw [q]; rfl) c_73
        refine lv_iconst (v := 1) hx hb d_Sr_signedBelowZero_76 (by decide) ?_
        refine lv_goto (tgt := 81) hx hb d_Sr_signedBelowZero_77 (by decide) ?_
        exact cRz (nI ((a + 1) + 1), nI lm, f, pl) hx hb hr rfl hlocks d_Sr_signedBelowZero_81 hS hP hD (⟨g1 / 64 % 2, ((a + 1) + 1), hU1.trans (pSg_E hn1 ho1 hd1), by rw [hx1]; rfl, rfl⟩) (Nat.le_refl _) (Nat.le_refl _)
  · have hd0 : g0 < 128 := Nat.lt_of_not_le (fun q => c_57 (nI_le (a := 128) (b := g0) q (by omega)))
    refine lv_goto (tgt := 69) hx hb d_Sr_signedBelowZero_60 (by decide) ?_
    refine lv_iload_n hx hb d_Sr_signedBelowZero_69 rfl (lv_at hl 0 rfl) ?_
    refine lv_bipush (v := 64) hx hb d_Sr_signedBelowZero_70 (by decide) ?_
    refine lv_iand hx hb d_Sr_signedBelowZero_72 ?_
    refine lv_if_eq (tgt := 80) hx hb d_Sr_signedBelowZero_73 (by decide) (fun c_73 => ?_) (fun c_73 => ?_)
    · rw [and64 hB0] at c_73
      have hx1 : g0 / 64 % 2 = 0 := by have q := nI_lit_eq (k := 0) (by omega) (by omega) c_73; omega
      refine lv_iconst (v := 0) hx hb d_Sr_signedBelowZero_80 (by decide) ?_
      exact cRz (nI (a + 1), nI lm, f, pl) hx hb hr rfl hlocks d_Sr_signedBelowZero_81 hS hP hD (⟨g0 / 64 % 2, (a + 1), hU0.trans (pSg_E hn0 ho0 hd0), by rw [hx1]; rfl, rfl⟩) (Nat.le_refl _) (Nat.le_refl _)
    · rw [and64 hB0] at c_73
      have hx1 : g0 / 64 % 2 = 1 := by rcases Nat.mod_two_eq_zero_or_one (g0 / 64) with q | q <;> first | exact q | exact absurd (by rw [q]; rfl) c_73
      refine lv_iconst (v := 1) hx hb d_Sr_signedBelowZero_76 (by decide) ?_
      refine lv_goto (tgt := 81) hx hb d_Sr_signedBelowZero_77 (by decide) ?_
      exact cRz (nI (a + 1), nI lm, f, pl) hx hb hr rfl hlocks d_Sr_signedBelowZero_81 hS hP hD (⟨g0 / 64 % 2, (a + 1), hU0.trans (pSg_E hn0 ho0 hd0), by rw [hx1]; rfl, rfl⟩) (Nat.le_refl _) (Nat.le_refl _)
set_option maxHeartbeats 4000000 in
set_option maxRecDepth 100000 in
/-- signedBelowZero(33) -/
theorem c_Sr_signed33 (l : Launch) (hl9 : l.stackTraces = false) (D : va_G) (cA : Nat → ClassId) (ad : Nat → Nat) (sz : Nat) (h0 h1 : Nat) (bs : Nat → Int32) (a lm : Nat) (f pl : Int32) (hlm : lm ≤ 2000) (hal : a ≤ lm) :
    cM l y_Sr_signedBelowZero (.code y_Sr_signedBelowZero b_Sr_signedBelowZero 5 (some .boolean) :: wAll) ({ frames := 7, cells := 1, slots := 6, locals := 104 }) D cA ad [.ref h0, .int 33] (wSr cA h0 h1 bs (nI a, nI lm, f, pl)) sz (iP (pS33 (bv bs) lm a) lm f pl) (tP (pS33 (bv bs) lm a)) (wSr cA h0 h1 bs) (fun _ => (0, 0)) := by
  refine cM.ofW (cc := b_Sr_signedBelowZero) (maxL := 5) (ret := (some .boolean)) (by decide) (Nat.le_of_ble_eq_true rfl) ?_
  intro pg ev s m bw meth c A ls hF hsz hA hE hP hD hl
  obtain ⟨⟨hx, hb, hml, hown, hts⟩, hr, hno, hlocks, hin⟩ := hF
  subst hsz
  have hown : s.vm.findClass "ModuleBytes$Source" = some m.cls := hown
  have hS : va_S A s.heap s.heap [] := va_S.rf
  have hl : lv_has ls 5 [(0, .ref h0), (1, .int 33)] := hl
  have hU0 : pS33 (bv bs) lm a = pSg (bv bs) lm 5 33 a := rfl
  refine lv_iconst (v := 0) hx hb d_Sr_signedBelowZero_0 (by decide) ?_
  refine lv_istore_n (lv' := [(2, .int 0), (0, .ref h0), (1, .int 33)]) hx hb d_Sr_signedBelowZero_1 rfl hl (by decide) rfl (fun ls hl => ?_)
  refine lv_iload_n hx hb d_Sr_signedBelowZero_2 rfl (lv_at hl 2 rfl) ?_
  refine lv_istore_n (lv' := [(3, .int 33), (2, .int 0), (0, .ref h0), (1, .int 33)]) hx hb d_Sr_signedBelowZero_3 rfl hl (by decide) rfl (fun ls hl => ?_)
  refine lv_iload_n hx hb d_Sr_signedBelowZero_4 rfl (lv_at hl 0 rfl) ?_
  refine lv_if_le (tgt := 69) hx hb d_Sr_signedBelowZero_5 (by decide) (fun c_5 => absurd c_5 (by decide)) (fun c_5 => ?_)
  refine lv_aload_n hx hb d_Sr_signedBelowZero_8 rfl (lv_at hl 2 rfl) ?_
  refine cV (As := []) (rest := []) (n := 0) (wc := [(h0, .inr (2, [.ref h1, .int (nI a), .int (nI lm), .int f, .int pl])), (h1, .inl (cA 0, 2000, .inl bs))]) (wr := []) ⟨hx, hb, hml, hown, hts⟩ hno hlocks hl.1 (c_Sr_next l hl9 D cA ad s.heap.size h0 h1 bs a lm f pl hlm (by omega)) iw2_54 iw1_207 iw1_208 iw1_5 iw1_209 (by decide +kernel) rfl ⟨Nat.le_of_ble_eq_true rfl, Nat.le_of_ble_eq_true rfl⟩ ⟨Nat.le_of_ble_eq_true rfl, Nat.le_of_ble_eq_true rfl⟩ rfl (Nat.le_of_ble_eq_true rfl) d_Sr_signedBelowZero_9 hE hP hD hS hA [0, 1] [] rfl rfl rfl rfl (by decide) (ci := 2) rfl rfl 0 rfl (fun u h => ⟨u, h.mono (fun f p q => by rw [hU0, pSg_T q]), fun _ h => h, fun h => h, Nat.le_refl _, Nat.le_refl _⟩) (fun v_9 u_9 H locs hp_9 hP hD hS => ?_)
  obtain ⟨g0, a0_, hn0, rfl, rfl⟩ := hp_9
  have hP : va_P D cls [(h0, .inr (2, [.ref h1, .int (nI a0_), .int (nI lm), .int f, .int pl])), (h1, .inl (cA 0, 2000, .inl bs))] H := hP
  have hD : va_D A [(h0, .inr (2, [.ref h1, .int (nI a0_), .int (nI lm), .int f, .int pl])), (h1, .inl (cA 0, 2000, .inl bs))] := hD
  refine W.cs (cells' := 0) (slots' := 0) rfl rfl ?_
  refine W.eq (g2 := F0 m 12 ls [.int (nI g0)]) rfl ?_
  obtain ⟨hq0, rfl, hg0⟩ := pNext_ok hn0
  have hB0 : g0 < 256 := by rw [hg0]; exact bv_lt _ _
  have hP : va_P D cls [(h0, .inr (2, [.ref h1, .int (nI (a + 1)), .int (nI lm), .int f, .int pl])), (h1, .inl (cA 0, 2000, .inl bs))] H := hP
  have hD : va_D A [(h0, .inr (2, [.ref h1, .int (nI (a + 1)), .int (nI lm), .int f, .int pl])), (h1, .inl (cA 0, 2000, .inl bs))] := hD
  refine lv_istore_n (lv' := [(2, .int (nI g0)), (3, .int 33), (0, .ref h0), (1, .int 33)]) hx hb d_Sr_signedBelowZero_12 rfl hl (by decide) rfl (fun ls hl => ?_)
  have ho0 : ¬ (33 ≤ 7 ∧ sTop 33 g0 = false) := fun q => absurd q.1 (by decide)
  refine lv_iload_n hx hb d_Sr_signedBelowZero_13 rfl (lv_at hl 1 rfl) ?_
  refine lv_bipush (v := 7) hx hb d_Sr_signedBelowZero_14 (by decide) ?_
  refine lv_icmp_gt (tgt := 53) hx hb d_Sr_signedBelowZero_16 (by decide) (fun c_16 => ?_) (fun c_16 => absurd (by decide) c_16)
  refine lv_iload_n hx hb d_Sr_signedBelowZero_53 rfl (lv_at hl 0 rfl) ?_
  refine lv_sipush (v := 128) hx hb d_Sr_signedBelowZero_54 (by decide) ?_
  refine lv_icmp_ge (tgt := 63) hx hb d_Sr_signedBelowZero_57 (by decide) (fun c_57 => ?_) (fun c_57 => ?_)
  · have hd0 : ¬ g0 < 128 := fun q => absurd ((nI_leI (a := 128) (b := g0) (by omega) (by omega)).mp c_57) (by omega)
    have hU1 := hU0.trans (pSg_C hn0 ho0 hd0)
    refine lv_iinc (v := 26) (lv' := [(3, .int 26), (2, .int (nI g0)), (0, .ref h0), (1, .int 33)]) hx hb d_Sr_signedBelowZero_63 hl (k := 1) rfl (by decide) (by decide) rfl (fun ls hl => ?_)
    refine lv_goto (tgt := 4) hx hb d_Sr_signedBelowZero_66 (by decide) ?_
    refine lv_iload_n hx hb d_Sr_signedBelowZero_4 rfl (lv_at hl 0 rfl) ?_
    refine lv_if_le (tgt := 69) hx hb d_Sr_signedBelowZero_5 (by decide) (fun c_5 => absurd c_5 (by decide)) (fun c_5 => ?_)
    refine lv_aload_n hx hb d_Sr_signedBelowZero_8 rfl (lv_at hl 2 rfl) ?_
    refine cV (As := []) (rest := []) (n := 0) (wc := [(h0, .inr (2, [.ref h1, .int (nI (a + 1)), .int (nI lm), .int f, .int pl])), (h1, .inl (cA 0, 2000, .inl bs))]) (wr := []) ⟨hx, hb, hml, hown, hts⟩ hno hlocks hl.1 (c_Sr_next l hl9 D cA ad H.size h0 h1 bs (a + 1) lm f pl hlm (by omega)) iw2_54 iw1_207 iw1_208 iw1_5 iw1_209 (by decide +kernel) rfl ⟨Nat.le_of_ble_eq_true rfl, Nat.le_of_ble_eq_true rfl⟩ ⟨Nat.le_of_ble_eq_true rfl, Nat.le_of_ble_eq_true rfl⟩ rfl (Nat.le_of_ble_eq_true rfl) d_Sr_signedBelowZero_9 hE hP hD hS hA [0, 1] [] rfl rfl rfl rfl (by decide) (ci := 2) rfl rfl 0 rfl (fun u h => ⟨u, h.mono (fun f p q => by rw [hU1, pSg_T q]), fun _ h => h, fun h => h, Nat.le_refl _, Nat.le_refl _⟩) (fun v_9 u_9 H locs hp_9 hP hD hS => ?_)
    obtain ⟨g1, a1_, hn1, rfl, rfl⟩ := hp_9
    have hP : va_P D cls [(h0, .inr (2, [.ref h1, .int (nI a1_), .int (nI lm), .int f, .int pl])), (h1, .inl (cA 0, 2000, .inl bs))] H := hP
    have hD : va_D A [(h0, .inr (2, [.ref h1, .int (nI a1_), .int (nI lm), .int f, .int pl])), (h1, .inl (cA 0, 2000, .inl bs))] := hD
    refine W.cs (cells' := 0) (slots' := 0) rfl rfl ?_
    refine W.eq (g2 := F0 m 12 ls [.int (nI g1)]) rfl ?_
    obtain ⟨hq1, rfl, hg1⟩ := pNext_ok hn1
    have hB1 : g1 < 256 := by rw [hg1]; exact bv_lt _ _
    have hP : va_P D cls [(h0, .inr (2, [.ref h1, .int (nI ((a + 1) + 1)), .int (nI lm), .int f, .int pl])), (h1, .inl (cA 0, 2000, .inl bs))] H := hP
    have hD : va_D A [(h0, .inr (2, [.ref h1, .int (nI ((a + 1) + 1)), .int (nI lm), .int f, .int pl])), (h1, .inl (cA 0, 2000, .inl bs))] := hD
    refine lv_istore_n (lv' := [(2, .int (nI g1)), (3, .int 26), (0, .ref h0), (1, .int 33)]) hx hb d_Sr_signedBelowZero_12 rfl hl (by decide) rfl (fun ls hl => ?_)
    have ho1 : ¬ (26 ≤ 7 ∧ sTop 26 g1 = false) := fun q => absurd q.1 (by decide)
    refine lv_iload_n hx hb d_Sr_signedBelowZero_13 rfl (lv_at hl 1 rfl) ?_
    refine lv_bipush (v := 7) hx hb d_Sr_signedBelowZero_14 (by decide) ?_
    refine lv_icmp_gt (tgt := 53) hx hb d_Sr_signedBelowZero_16 (by decide) (fun c_16 => ?_) (fun c_16 => absurd (by decide) c_16)
    refine lv_iload_n hx hb d_Sr_signedBelowZero_53 rfl (lv_at hl 0 rfl) ?_
    refine lv_sipush (v := 128) hx hb d_Sr_signedBelowZero_54 (by decide) ?_
    refine lv_icmp_ge (tgt := 63) hx hb d_Sr_signedBelowZero_57 (by decide) (fun c_57 => ?_) (fun c_57 => ?_)
    · have hd1 : ¬ g1 < 128 := fun q => absurd ((nI_leI (a := 128) (b := g1) (by omega) (by omega)).mp c_57) (by omega)
      have hU2 := hU1.trans (pSg_C hn1 ho1 hd1)
      refine lv_iinc (v := 19) (lv' := [(3, .int 19), (2, .int (nI g1)), (0, .ref h0), (1, .int 33)]) hx hb d_Sr_signedBelowZero_63 hl (k := 1) rfl (by decide) (by decide) rfl (fun ls hl => ?_)
      refine lv_goto (tgt := 4) hx hb d_Sr_signedBelowZero_66 (by decide) ?_
      refine lv_iload_n hx hb d_Sr_signedBelowZero_4 rfl (lv_at hl 0 rfl) ?_
      refine lv_if_le (tgt := 69) hx hb d_Sr_signedBelowZero_5 (by decide) (fun c_5 => absurd c_5 (by decide)) (fun c_5 => ?_)
      refine lv_aload_n hx hb d_Sr_signedBelowZero_8 rfl (lv_at hl 2 rfl) ?_
      refine cV (As := []) (rest := []) (n := 0) (wc := [(h0, .inr (2, [.ref h1, .int (nI ((a + 1) + 1)), .int (nI lm), .int f, .int pl])), (h1, .inl (cA 0, 2000, .inl bs))]) (wr := []) ⟨hx, hb, hml, hown, hts⟩ hno hlocks hl.1 (c_Sr_next l hl9 D cA ad H.size h0 h1 bs ((a + 1) + 1) lm f pl hlm (by omega)) iw2_54 iw1_207 iw1_208 iw1_5 iw1_209 (by decide +kernel) rfl ⟨Nat.le_of_ble_eq_true rfl, Nat.le_of_ble_eq_true rfl⟩ ⟨Nat.le_of_ble_eq_true rfl, Nat.le_of_ble_eq_true rfl⟩ rfl (Nat.le_of_ble_eq_true rfl) d_Sr_signedBelowZero_9 hE hP hD hS hA [0, 1] [] rfl rfl rfl rfl (by decide) (ci := 2) rfl rfl 0 rfl (fun u h => ⟨u, h.mono (fun f p q => by rw [hU2, pSg_T q]), fun _ h => h, fun h => h, Nat.le_refl _, Nat.le_refl _⟩) (fun v_9 u_9 H locs hp_9 hP hD hS => ?_)
      obtain ⟨g2, a2_, hn2, rfl, rfl⟩ := hp_9
      have hP : va_P D cls [(h0, .inr (2, [.ref h1, .int (nI a2_), .int (nI lm), .int f, .int pl])), (h1, .inl (cA 0, 2000, .inl bs))] H := hP
      have hD : va_D A [(h0, .inr (2, [.ref h1, .int (nI a2_), .int (nI lm), .int f, .int pl])), (h1, .inl (cA 0, 2000, .inl bs))] := hD
      refine W.cs (cells' := 0) (slots' := 0) rfl rfl ?_
      refine W.eq (g2 := F0 m 12 ls [.int (nI g2)]) rfl ?_
      obtain ⟨hq2, rfl, hg2⟩ := pNext_ok hn2
      have hB2 : g2 < 256 := by rw [hg2]; exact bv_lt _ _
      have hP : va_P D cls [(h0, .inr (2, [.ref h1, .int (nI (((a + 1) + 1) + 1)), .int (nI lm), .int f, .int pl])), (h1, .inl (cA 0, 2000, .inl bs))] H := hP
      have hD : va_D A [(h0, .inr (2, [.ref h1, .int (nI (((a + 1) + 1) + 1)), .int (nI lm), .int f, .int pl])), (h1, .inl (cA 0, 2000, .inl bs))] := hD
      refine lv_istore_n (lv' := [(2, .int (nI g2)), (3, .int 19), (0, .ref h0), (1, .int 33)]) hx hb d_Sr_signedBelowZero_12 rfl hl (by decide) rfl (fun ls hl => ?_)
      have ho2 : ¬ (19 ≤ 7 ∧ sTop 19 g2 = false) := fun q => absurd q.1 (by decide)
      refine lv_iload_n hx hb d_Sr_signedBelowZero_13 rfl (lv_at hl 1 rfl) ?_
      refine lv_bipush (v := 7) hx hb d_Sr_signedBelowZero_14 (by decide) ?_
      refine lv_icmp_gt (tgt := 53) hx hb d_Sr_signedBelowZero_16 (by decide) (fun c_16 => ?_) (fun c_16 => absurd (by decide) c_16)
      refine lv_iload_n hx hb d_Sr_signedBelowZero_53 rfl (lv_at hl 0 rfl) ?_
      refine lv_sipush (v := 128) hx hb d_Sr_signedBelowZero_54 (by decide) ?_
      refine lv_icmp_ge (tgt := 63) hx hb d_Sr_signedBelowZero_57 (by decide) (fun c_57 => ?_) (fun c_57 => ?_)
      · have hd2 : ¬ g2 < 128 := fun q => absurd ((nI_leI (a := 128) (b := g2) (by omega) (by omega)).mp c_57) (by omega)
        have hU3 := hU2.trans (pSg_C hn2 ho2 hd2)
        refine lv_iinc (v := 12) (lv' := [(3, .int 12), (2, .int (nI g2)), (0, .ref h0), (1, .int 33)]) hx hb d_Sr_signedBelowZero_63 hl (k := 1) rfl (by decide) (by decide) rfl (fun ls hl => ?_)
        refine lv_goto (tgt := 4) hx hb d_Sr_signedBelowZero_66 (by decide) ?_
        refine lv_iload_n hx hb d_Sr_signedBelowZero_4 rfl (lv_at hl 0 rfl) ?_
        refine lv_if_le (tgt := 69) hx hb d_Sr_signedBelowZero_5 (by decide) (fun c_5 => absurd c_5 (by decide)) (fun c_5 => ?_)
        refine lv_aload_n hx hb d_Sr_signedBelowZero_8 rfl (lv_at hl 2 rfl) ?_
        refine cV (As := []) (rest := []) (n := 0) (wc := [(h0, .inr (2, [.ref h1, .int (nI (((a + 1) + 1) + 1)), .int (nI lm), .int f, .int pl])), (h1, .inl (cA 0, 2000, .inl bs))]) (wr := []) ⟨hx, hb, hml, hown, hts⟩ hno hlocks hl.1 (c_Sr_next l hl9 D cA ad H.size h0 h1 bs (((a + 1) + 1) + 1) lm f pl hlm (by omega)) iw2_54 iw1_207 iw1_208 iw1_5 iw1_209 (by decide +kernel) rfl ⟨Nat.le_of_ble_eq_true rfl, Nat.le_of_ble_eq_true rfl⟩ ⟨Nat.le_of_ble_eq_true rfl, Nat.le_of_ble_eq_true rfl⟩ rfl (Nat.le_of_ble_eq_true rfl) d_Sr_signedBelowZero_9 hE hP hD hS hA [0, 1] [] rfl rfl rfl rfl (by decide) (ci := 2) rfl rfl 0 rfl (fun u h => ⟨u, h.mono (fun f p q => by rw [hU3, pSg_T q]), fun _ h => h, fun h => h, Nat.le_refl _, Nat.le_refl _⟩) (fun v_9 u_9 H locs hp_9 hP hD hS => ?_)
        obtain ⟨g3, a3_, hn3, rfl, rfl⟩ := hp_9
        have hP : va_P D cls [(h0, .inr (2, [.ref h1, .int (nI a3_), .int (nI lm), .int f, .int pl])), (h1, .inl (cA 0, 2000, .inl bs))] H := hP
        have hD : va_D A [(h0, .inr (2, [.ref h1, .int (nI a3_), .int (nI lm), .int f, .int pl])), (h1, .inl (cA 0, 2000, .inl bs))] := hD
        refine W.cs (cells' := 0) (slots' := 0) rfl rfl ?_
        refine W.eq (g2 := F0 m 12 ls [.int (nI g3)]) rfl ?_
        obtain ⟨hq3, rfl, hg3⟩ := pNext_ok hn3
        have hB3 : g3 < 256 := by rw [hg3]; exact bv_lt _ _
        have hP : va_P D cls [(h0, .inr (2, [.ref h1, .int (nI ((((a + 1) + 1) + 1) + 1)), .int (nI lm), .int f, .int pl])), (h1, .inl (cA 0, 2000, .inl bs))] H := hP
        have hD : va_D A [(h0, .inr (2, [.ref h1, .int (nI ((((a + 1) + 1) + 1) + 1)), .int (nI lm), .int f, .int pl])), (h1, .inl (cA 0, 2000, .inl bs))] := hD
        refine lv_istore_n (lv' := [(2, .int (nI g3)), (3, .int 12), (0, .ref h0), (1, .int 33)]) hx hb d_Sr_signedBelowZero_12 rfl hl (by decide) rfl (fun ls hl => ?_)
        have ho3 : ¬ (12 ≤ 7 ∧ sTop 12 g3 = false) := fun q => absurd q.1 (by decide)
        refine lv_iload_n hx hb d_Sr_signedBelowZero_13 rfl (lv_at hl 1 rfl) ?_
        refine lv_bipush (v := 7) hx hb d_Sr_signedBelowZero_14 (by decide) ?_
        refine lv_icmp_gt (tgt := 53) hx hb d_Sr_signedBelowZero_16 (by decide) (fun c_16 => ?_) (fun c_16 => absurd (by decide) c_16)
        refine lv_iload_n hx hb d_Sr_signedBelowZero_53 rfl (lv_at hl 0 rfl) ?_
        refine lv_sipush (v := 128) hx hb d_Sr_signedBelowZero_54 (by decide) ?_
        refine lv_icmp_ge (tgt := 63) hx hb d_Sr_signedBelowZero_57 (by decide) (fun c_57 => ?_) (fun c_57 => ?_)
        · have hd3 : ¬ g3 < 128 := fun q => absurd ((nI_leI (a := 128) (b := g3) (by omega) (by omega)).mp c_57) (by omega)
          have hU4 := hU3.trans (pSg_C hn3 ho3 hd3)
          refine lv_iinc (v := 5) (lv' := [(3, .int 5), (2, .int (nI g3)), (0, .ref h0), (1, .int 33)]) hx hb d_Sr_signedBelowZero_63 hl (k := 1) rfl (by decide) (by decide) rfl (fun ls hl => ?_)
          refine lv_goto (tgt := 4) hx hb d_Sr_signedBelowZero_66 (by decide) ?_
          refine lv_iload_n hx hb d_Sr_signedBelowZero_4 rfl (lv_at hl 0 rfl) ?_
          refine lv_if_le (tgt := 69) hx hb d_Sr_signedBelowZero_5 (by decide) (fun c_5 => absurd c_5 (by decide)) (fun c_5 => ?_)
          refine lv_aload_n hx hb d_Sr_signedBelowZero_8 rfl (lv_at hl 2 rfl) ?_
          refine cV (As := []) (rest := []) (n := 0) (wc := [(h0, .inr (2, [.ref h1, .int (nI ((((a + 1) + 1) + 1) + 1)), .int (nI lm), .int f, .int pl])), (h1, .inl (cA 0, 2000, .inl bs))]) (wr := []) ⟨hx, hb, hml, hown, hts⟩ hno hlocks hl.1 (c_Sr_next l hl9 D cA ad H.size h0 h1 bs ((((a + 1) + 1) + 1) + 1) lm f pl hlm (by omega)) iw2_54 iw1_207 iw1_208 iw1_5 iw1_209 (by decide +kernel) rfl ⟨Nat.le_of_ble_eq_true rfl, Nat.le_of_ble_eq_true rfl⟩ ⟨Nat.le_of_ble_eq_true rfl, Nat.le_of_ble_eq_true rfl⟩ rfl (Nat.le_of_ble_eq_true rfl) d_Sr_signedBelowZero_9 hE hP hD hS hA [0, 1] [] rfl rfl rfl rfl (by decide) (ci := 2) rfl rfl 0 rfl (fun u h => ⟨u, h.mono (fun f p q => by rw [hU4, pSg_T q]), fun _ h => h, fun h => h, Nat.le_refl _, Nat.le_refl _⟩) (fun v_9 u_9 H locs hp_9 hP hD hS => ?_)
          obtain ⟨g4, a4_, hn4, rfl, rfl⟩ := hp_9
          have hP : va_P D cls [(h0, .inr (2, [.ref h1, .int (nI a4_), .int (nI lm), .int f, .int pl])), (h1, .inl (cA 0, 2000, .inl bs))] H := hP
          have hD : va_D A [(h0, .inr (2, [.ref h1, .int (nI a4_), .int (nI lm), .int f, .int pl])), (h1, .inl (cA 0, 2000, .inl bs))] := hD
          refine W.cs (cells' := 0) (slots' := 0) rfl rfl ?_
          refine W.eq (g2 := F0 m 12 ls [.int (nI g4)]) rfl ?_
          obtain ⟨hq4, rfl, hg4⟩ := pNext_ok hn4
          have hB4 : g4 < 256 := by rw [hg4]; exact bv_lt _ _
          have hP : va_P D cls [(h0, .inr (2, [.ref h1, .int (nI (((((a + 1) + 1) + 1) + 1) + 1)), .int (nI lm), .int f, .int pl])), (h1, .inl (cA 0, 2000, .inl bs))] H := hP
          have hD : va_D A [(h0, .inr (2, [.ref h1, .int (nI (((((a + 1) + 1) + 1) + 1) + 1)), .int (nI lm), .int f, .int pl])), (h1, .inl (cA 0, 2000, .inl bs))] := hD
          refine lv_istore_n (lv' := [(2, .int (nI g4)), (3, .int 5), (0, .ref h0), (1, .int 33)]) hx hb d_Sr_signedBelowZero_12 rfl hl (by decide) rfl (fun ls hl => ?_)
          refine lv_iload_n hx hb d_Sr_signedBelowZero_13 rfl (lv_at hl 1 rfl) ?_
          refine lv_bipush (v := 7) hx hb d_Sr_signedBelowZero_14 (by decide) ?_
          refine lv_icmp_gt (tgt := 53) hx hb d_Sr_signedBelowZero_16 (by decide) (fun c_16 => absurd c_16 (by decide)) (fun c_16 => ?_)
          refine lv_iload_n hx hb d_Sr_signedBelowZero_19 rfl (lv_at hl 0 rfl) ?_
          refine lv_iload_n hx hb d_Sr_signedBelowZero_20 rfl (lv_at hl 1 rfl) ?_
          refine lv_iconst (v := 1) hx hb d_Sr_signedBelowZero_21 (by decide) ?_
          refine lv_isub hx hb d_Sr_signedBelowZero_22 ?_
          refine W.eq (g2 := F0 m 23 ls [.int 4, .int (nI g4)]) (by rw [show (5 : Int32) - 1 = 4 from by decide]) ?_
          refine lv_ishr hx hb d_Sr_signedBelowZero_23 ?_
          refine lv_topi (fun t9 et9 => ?_)
          have ht9 : t9 = nI (g4 / 2 ^ 4) := et9.trans (pk_shrN (by omega) _ 4 (by decide +kernel))
          have hz9 : g4 / 2 ^ 4 < 256 := Nat.lt_of_le_of_lt (Nat.div_le_self _ _) hB4
          subst ht9
          refine lv_istore (lv' := [(4, .int (nI (g4 / 2 ^ 4))), (2, .int (nI g4)), (3, .int 5), (0, .ref h0), (1, .int 33)]) hx hb d_Sr_signedBelowZero_24 hl (by decide) rfl (fun ls hl => ?_)
          refine lv_iload hx hb d_Sr_signedBelowZero_26 (lv_at hl 0 rfl) ?_
          refine lv_if_eq (tgt := 53) hx hb d_Sr_signedBelowZero_28 (by decide) (fun c_28 => ?_) (fun c_28 => ?_)
          · have hs4 : sTop 5 g4 = true := by
              first
              | (have q := nI_lit_eq (k := 0) (by omega) (by omega) c_28; simp only [sTop]; rw [show 5 - 1 = 4 from rfl, q]; rfl)
              | (have q := nI_lit_eq (k := 127 / 2 ^ 4) (by omega) (by decide) (c_39.trans (by decide)); simp only [sTop]; rw [show 5 - 1 = 4 from rfl, q]; rfl)
            have ho4 : ¬ (5 ≤ 7 ∧ sTop 5 g4 = false) := fun q => by rw [hs4] at q; exact absurd q.2 (by decide)
            refine lv_iload_n hx hb d_Sr_signedBelowZero_53 rfl (lv_at hl 1 rfl) ?_
            refine lv_sipush (v := 128) hx hb d_Sr_signedBelowZero_54 (by decide) ?_
            refine lv_icmp_ge (tgt := 63) hx hb d_Sr_signedBelowZero_57 (by decide) (fun c_57 => ?_) (fun c_57 => ?_)
            · have hd4 : ¬ g4 < 128 := fun q => absurd ((nI_leI (a := 128) (b := g4) (by omega) (by omega)).mp c_57) (by omega)
              exact absurd hs4 (by rw [sTop_big 4 (by decide) g4 hB4 (by omega)]; decide)
            · have hd4 : g4 < 128 := Nat.lt_of_not_le (fun q => c_57 (nI_le (a := 128) (b := g4) q (by omega)))
              refine lv_goto (tgt := 69) hx hb d_Sr_signedBelowZero_60 (by decide) ?_
              refine lv_iload_n hx hb d_Sr_signedBelowZero_69 rfl (lv_at hl 1 rfl) ?_
              refine lv_bipush (v := 64) hx hb d_Sr_signedBelowZero_70 (by decide) ?_
              refine lv_iand hx hb d_Sr_signedBelowZero_72 ?_
              refine lv_if_eq (tgt := 80) hx hb d_Sr_signedBelowZero_73 (by decide) (fun c_73 => ?_) (fun c_73 => ?_)
              · rw [and64 hB4] at c_73
                have hx1 : g4 / 64 % 2 = 0 := by have q := nI_lit_eq (k := 0) (by omega) (by omega) c_73; omega
                refine lv_iconst (v := 0) hx hb d_Sr_signedBelowZero_80 (by decide) ?_
                exact cRz (nI (((((a + 1) + 1) + 1) + 1) + 1), nI lm, f, pl) hx hb hr rfl hlocks d_Sr_signedBelowZero_81 hS hP hD (⟨g4 / 64 % 2, (((((a + 1) + 1) + 1) + 1) + 1), hU4.trans (pSg_E hn4 ho4 hd4), by rw [hx1]; rfl, rfl⟩) (Nat.le_refl _) (Nat.le_refl _)
              · rw [and64 hB4] at c_73
                have hx1 : g4 / 64 % 2 = 1 := by rcases Nat.mod_two_eq_zero_or_one (g4 / 64) with q | q <;> first | exact q | exact absurd (by rw [q]; rfl) c_73
                refine lv_iconst (v := 1) hx hb d_Sr_signedBelowZero_76 (by decide) ?_
                refine lv_goto (tgt := 81) hx hb d_Sr_signedBelowZero_77 (by decide) ?_
                exact cRz (nI (((((a + 1) + 1) + 1) + 1) + 1), nI lm, f, pl) hx hb hr rfl hlocks d_Sr_signedBelowZero_81 hS hP hD (⟨g4 / 64 % 2, (((((a + 1) + 1) + 1) + 1) + 1), hU4.trans (pSg_E hn4 ho4 hd4), by rw [hx1]; rfl, rfl⟩) (Nat.le_refl _) (Nat.le_refl _)
          · refine lv_iload hx hb d_Sr_signedBelowZero_31 (lv_at hl 0 rfl) ?_
            refine lv_bipush (v := 127) hx hb d_Sr_signedBelowZero_33 (by decide) ?_
            refine lv_iload_n hx hb d_Sr_signedBelowZero_35 rfl (lv_at hl 2 rfl) ?_
            refine lv_iconst (v := 1) hx hb d_Sr_signedBelowZero_36 (by decide) ?_
            refine lv_isub hx hb d_Sr_signedBelowZero_37 ?_
            refine W.eq (g2 := F0 m 38 ls [.int 4, .int 127, .int (nI (g4 / 2 ^ 4))]) (by rw [show (5 : Int32) - 1 = 4 from by decide]) ?_
            refine lv_ishr hx hb d_Sr_signedBelowZero_38 ?_
            refine lv_icmp_eq (tgt := 53) hx hb d_Sr_signedBelowZero_39 (by decide) (fun c_39 => ?_) (fun c_39 => ?_)
            · have hs4 : sTop 5 g4 = true := by
                first
                | (have q := nI_lit_eq (k := 0) (by omega) (by omega) c_28; simp only [sTop]; rw [show 5 - 1 = 4 from rfl, q]; rfl)
                | (have q := nI_lit_eq (k := 127 / 2 ^ 4) (by omega) (by decide) (c_39.trans (by decide)); simp only [sTop]; rw [show 5 - 1 = 4 from rfl, q]; rfl)
              have ho4 : ¬ (5 ≤ 7 ∧ sTop 5 g4 = false) := fun q => by rw [hs4] at q; exact absurd q.2 (by decide)
              refine lv_iload_n hx hb d_Sr_signedBelowZero_53 rfl (lv_at hl 1 rfl) ?_
              refine lv_sipush (v := 128) hx hb d_Sr_signedBelowZero_54 (by decide) ?_
              refine lv_icmp_ge (tgt := 63) hx hb d_Sr_signedBelowZero_57 (by decide) (fun c_57 => ?_) (fun c_57 => ?_)
              · have hd4 : ¬ g4 < 128 := fun q => absurd ((nI_leI (a := 128) (b := g4) (by omega) (by omega)).mp c_57) (by omega)
                exact absurd hs4 (by rw [sTop_big 4 (by decide) g4 hB4 (by omega)]; decide)
              · have hd4 : g4 < 128 := Nat.lt_of_not_le (fun q => c_57 (nI_le (a := 128) (b := g4) q (by omega)))
                refine lv_goto (tgt := 69) hx hb d_Sr_signedBelowZero_60 (by decide) ?_
                refine lv_iload_n hx hb d_Sr_signedBelowZero_69 rfl (lv_at hl 1 rfl) ?_
                refine lv_bipush (v := 64) hx hb d_Sr_signedBelowZero_70 (by decide) ?_
                refine lv_iand hx hb d_Sr_signedBelowZero_72 ?_
                refine lv_if_eq (tgt := 80) hx hb d_Sr_signedBelowZero_73 (by decide) (fun c_73 => ?_) (fun c_73 => ?_)
                · rw [and64 hB4] at c_73
                  have hx1 : g4 / 64 % 2 = 0 := by have q := nI_lit_eq (k := 0) (by omega) (by omega) c_73; omega
                  refine lv_iconst (v := 0) hx hb d_Sr_signedBelowZero_80 (by decide) ?_
                  exact cRz (nI (((((a + 1) + 1) + 1) + 1) + 1), nI lm, f, pl) hx hb hr rfl hlocks d_Sr_signedBelowZero_81 hS hP hD (⟨g4 / 64 % 2, (((((a + 1) + 1) + 1) + 1) + 1), hU4.trans (pSg_E hn4 ho4 hd4), by rw [hx1]; rfl, rfl⟩) (Nat.le_refl _) (Nat.le_refl _)
                · rw [and64 hB4] at c_73
                  have hx1 : g4 / 64 % 2 = 1 := by rcases Nat.mod_two_eq_zero_or_one (g4 / 64) with q | q <;> first | exact q | exact absurd (by rw [q]; rfl) c_73
                  refine lv_iconst (v := 1) hx hb d_Sr_signedBelowZero_76 (by decide) ?_
                  refine lv_goto (tgt := 81) hx hb d_Sr_signedBelowZero_77 (by decide) ?_
                  exact cRz (nI (((((a + 1) + 1) + 1) + 1) + 1), nI lm, f, pl) hx hb hr rfl hlocks d_Sr_signedBelowZero_81 hS hP hD (⟨g4 / 64 % 2, (((((a + 1) + 1) + 1) + 1) + 1), hU4.trans (pSg_E hn4 ho4 hd4), by rw [hx1]; rfl, rfl⟩) (Nat.le_refl _) (Nat.le_refl _)
            · have hs4 : sTop 5 g4 = false := by
                have q1 : ¬ g4 / 2 ^ 4 = 0 := fun q => c_28 (congrArg nI q)
                have q2 : ¬ g4 / 2 ^ 4 = 127 / 2 ^ 4 := fun q => c_39 ((congrArg nI q).trans (by decide))
                simp only [sTop, show 5 - 1 = 4 from rfl, beq_eq_false_iff_ne.mpr q1, beq_eq_false_iff_ne.mpr q2]; rfl
              refine lv_aload_n hx hb d_Sr_signedBelowZero_42 rfl (lv_at hl 3 rfl) ?_
              refine lv_iconst (v := 4) hx hb d_Sr_signedBelowZero_43 (by decide) ?_
              refine lv_aload_n hx hb d_Sr_signedBelowZero_44 rfl (lv_at hl 3 rfl) ?_
              refine va_get (D := D) (ci := 2) (v := .int (nI (((((a + 1) + 1) + 1) + 1) + 1))) (C := R_Sr) (T := F_Sr) (N := 5) hx hb hts (fun w h => List.mem_cons_of_mem _ (i_Sr w h)) hown hE.1 hP 0 rfl rfl 1 (by decide) (hts _ (List.mem_cons_of_mem _ iw1_97)) (fun _ h9 => h9) rfl d_Sr_signedBelowZero_45 ?_
              refine lv_iconst (v := 1) hx hb d_Sr_signedBelowZero_48 (by decide) ?_
              refine lv_isub hx hb d_Sr_signedBelowZero_49 ?_
              refine cV (As := [.int 4, .int ((nI (((((a + 1) + 1) + 1) + 1) + 1)) - 1)]) (rest := []) (n := 2) (wc := [(h0, .inr (2, [.ref h1, .int (nI (((((a + 1) + 1) + 1) + 1) + 1)), .int (nI lm), .int f, .int pl])), (h1, .inl (cA 0, 2000, .inl bs))]) (wr := []) ⟨hx, hb, hml, hown, hts⟩ hno hlocks hl.1 (c_Sr_fail l hl9 D cA ad H.size h0 h1 bs (nI (((((a + 1) + 1) + 1) + 1) + 1)) (nI lm) f pl 4 (nI (((((a + 1) + 1) + 1) + 1) + 1) - 1)) iw2_55 iw2_36 iw2_37 iw1_5 iw2_38 (by decide +kernel) rfl ⟨Nat.le_of_ble_eq_true rfl, Nat.le_of_ble_eq_true rfl⟩ ⟨Nat.le_of_ble_eq_true rfl, Nat.le_of_ble_eq_true rfl⟩ rfl (Nat.le_of_ble_eq_true rfl) d_Sr_signedBelowZero_50 hE hP hD hS hA [0, 1] [] rfl rfl rfl rfl (by decide) (ci := 2) rfl rfl 0 rfl (fun u h => ⟨u, ⟨4, ((((a + 1) + 1) + 1) + 1), (by rw [hU4, pSg_F hn4 (by decide) hs4]), by rw [h] <;> rfl, by rw [h] <;> exact nI_pred _⟩, fun _ h => h, fun h => h, Nat.le_refl _, Nat.le_refl _⟩) (fun v_50 u_50 H locs hp_50 hP hD hS => ?_)
              exact hp_50.elim
        · have hd3 : g3 < 128 := Nat.lt_of_not_le (fun q => c_57 (nI_le (a := 128) (b := g3) q (by omega)))
          refine lv_goto (tgt := 69) hx hb d_Sr_signedBelowZero_60 (by decide) ?_
          refine lv_iload_n hx hb d_Sr_signedBelowZero_69 rfl (lv_at hl 0 rfl) ?_
          refine lv_bipush (v := 64) hx hb d_Sr_signedBelowZero_70 (by decide) ?_
          refine lv_iand hx hb d_Sr_signedBelowZero_72 ?_
          refine lv_if_eq (tgt := 80) hx hb d_Sr_signedBelowZero_73 (by decide) (fun c_73 => ?_) (fun c_73 => ?_)
          · rw [and64 hB3] at c_73
            have hx1 : g3 / 64 % 2 = 0 := by have q := nI_lit_eq (k := 0) (by omega) (by omega) c_73; omega
            refine lv_iconst (v := 0) hx hb d_Sr_signedBelowZero_80 (by decide) ?_
            exact cRz (nI ((((a + 1) + 1) + 1) + 1), nI lm, f, pl) hx hb hr rfl hlocks d_Sr_signedBelowZero_81 hS hP hD (⟨g3 / 64 % 2, ((((a + 1) + 1) + 1) + 1), hU3.trans (pSg_E hn3 ho3 hd3), by rw [hx1]; rfl, rfl⟩) (Nat.le_refl _) (Nat.le_refl _)
          · rw [and64 hB3] at c_73
            have hx1 : g3 / 64 % 2 = 1 := by rcases Nat.mod_two_eq_zero_or_one (g3 / 64) with q | q <;> first | exact q | exact absurd (by rw [q]; rfl) c_73
            refine lv_iconst (v := 1) hx hb d_Sr_signedBelowZero_76 (by decide) ?_
            refine lv_goto (tgt := 81) hx hb d_Sr_signedBelowZero_77 (by decide) ?_
            exact cRz (nI ((((a + 1) + 1) + 1) + 1), nI lm, f, pl) hx hb hr rfl hlocks d_Sr_signedBelowZero_81 hS hP hD (⟨g3 / 64 % 2, ((((a + 1) + 1) + 1) + 1), hU3.trans (pSg_E hn3 ho3 hd3), by rw [hx1]; rfl, rfl⟩) (Nat.le_refl _) (Nat.le_refl _)
      · have hd2 : g2 < 128 := Nat.lt_of_not_le (fun q => c_57 (nI_le (a := 128) (b := g2) q (by omega)))
        refine lv_goto (tgt := 69) hx hb d_Sr_signedBelowZero_60 (by decide) ?_
        refine lv_iload_n hx hb d_Sr_signedBelowZero_69 rfl (lv_at hl 0 rfl) ?_
        refine lv_bipush (v := 64) hx hb d_Sr_signedBelowZero_70 (by decide) ?_
        refine lv_iand hx hb d_Sr_signedBelowZero_72 ?_
        refine lv_if_eq (tgt := 80) hx hb d_Sr_signedBelowZero_73 (by decide) (fun c_73 => ?_) (fun c_73 => ?_)
        · rw [and64 hB2] at c_73
          have hx1 : g2 / 64 % 2 = 0 := by have q := nI_lit_eq (k := 0) (by omega) (by omega) c_73; omega
          refine lv_iconst (v := 0) hx hb d_Sr_signedBelowZero_80 (by decide) ?_
          exact cRz (nI (((a + 1) + 1) + 1), nI lm, f, pl) hx hb hr rfl hlocks d_Sr_signedBelowZero_81 hS hP hD (⟨g2 / 64 % 2, (((a + 1) + 1) + 1), hU2.trans (pSg_E hn2 ho2 hd2), by rw [hx1]; rfl, rfl⟩) (Nat.le_refl _) (Nat.le_refl _)
        · rw [and64 hB2] at c_73
          have hx1 : g2 / 64 % 2 = 1 := by rcases Nat.mod_two_eq_zero_or_one (g2 / 64) with q | q <;> first | exact q | exact absurd (by rw [q]; rfl) c_73
          refine lv_iconst (v := 1) hx hb d_Sr_signedBelowZero_76 (by decide) ?_
          refine lv_goto (tgt := 81) hx hb d_Sr_signedBelowZero_77 (by decide) ?_
          exact cRz (nI (((a + 1) + 1) + 1), nI lm, f, pl) hx hb hr rfl hlocks d_Sr_signedBelowZero_81 hS hP hD (⟨g2 / 64 % 2, (((a + 1) + 1) + 1), hU2.trans (pSg_E hn2 ho2 hd2), by rw [hx1]; rfl, rfl⟩) (Nat.le_refl _) (Nat.le_refl _)
    · have hd1 : g1 < 128 := Nat.lt_of_not_le (fun q => c_57 (nI_le (a := 128) (b := g1) q (by omega)))
      refine lv_goto (tgt := 69) hx hb d_Sr_signedBelowZero_60 (by decide) ?_
      refine lv_iload_n hx hb d_Sr_signedBelowZero_69 rfl (lv_at hl 0 rfl) ?_
      refine lv_bipush (v := 64) hx hb d_Sr_signedBelowZero_70 (by decide) ?_
      refine lv_iand hx hb d_Sr_signedBelowZero_72 ?_
      refine lv_if_eq (tgt := 80) hx hb d_Sr_signedBelowZero_73 (by decide) (fun c_73 => ?_) (fun c_73 => ?_)
      · rw [and64 hB1] at c_73
        have hx1 : g1 / 64 % 2 = 0 := by have q := nI_lit_eq (k := 0) (by omega) (by omega) c_73; omega
        refine lv_iconst (v := 0) hx hb d_Sr_signedBelowZero_80 (by decide) ?_
        exact cRz (nI ((a + 1) + 1), nI lm, f, pl) hx hb hr rfl hlocks d_Sr_signedBelowZero_81 hS hP hD (⟨g1 / 64 % 2, ((a + 1) + 1), hU1.trans (pSg_E hn1 ho1 hd1), by rw [hx1]; rfl, rfl⟩) (Nat.le_refl _) (Nat.le_refl _)
      · rw [and64 hB1] at c_73
        have hx1 : g1 / 64 % 2 = 1 := by rcases Nat.mod_two_eq_zero_or_one (g1 / 64) with q | q <;> first | exact q | exact absurd (by rw [q]; rfl) c_73
        refine lv_iconst (v := 1) hx hb d_Sr_signedBelowZero_76 (by decide) ?_
        refine lv_goto (tgt := 81) hx hb d_Sr_signedBelowZero_77 (by decide) ?_
        exact cRz (nI ((a + 1) + 1), nI lm, f, pl) hx hb hr rfl hlocks d_Sr_signedBelowZero_81 hS hP hD (⟨g1 / 64 % 2, ((a + 1) + 1), hU1.trans (pSg_E hn1 ho1 hd1), by rw [hx1]; rfl, rfl⟩) (Nat.le_refl _) (Nat.le_refl _)
  · have hd0 : g0 < 128 := Nat.lt_of_not_le (fun q => c_57 (nI_le (a := 128) (b := g0) q (by omega)))
    refine lv_goto (tgt := 69) hx hb d_Sr_signedBelowZero_60 (by decide) ?_
    refine lv_iload_n hx hb d_Sr_signedBelowZero_69 rfl (lv_at hl 0 rfl) ?_
    refine lv_bipush (v := 64) hx hb d_Sr_signedBelowZero_70 (by decide) ?_
    refine lv_iand hx hb d_Sr_signedBelowZero_72 ?_
    refine lv_if_eq (tgt := 80) hx hb d_Sr_signedBelowZero_73 (by decide) (fun c_73 => ?_) (fun c_73 => ?_)
    · rw [and64 hB0] at c_73
      have hx1 : g0 / 64 % 2 = 0 := by have q := nI_lit_eq (k := 0) (by omega) (by omega) c_73; omega
      refine lv_iconst (v := 0) hx hb d_Sr_signedBelowZero_80 (by decide) ?_
      exact cRz (nI (a + 1), nI lm, f, pl) hx hb hr rfl hlocks d_Sr_signedBelowZero_81 hS hP hD (⟨g0 / 64 % 2, (a + 1), hU0.trans (pSg_E hn0 ho0 hd0), by rw [hx1]; rfl, rfl⟩) (Nat.le_refl _) (Nat.le_refl _)
    · rw [and64 hB0] at c_73
      have hx1 : g0 / 64 % 2 = 1 := by rcases Nat.mod_two_eq_zero_or_one (g0 / 64) with q | q <;> first | exact q | exact absurd (by rw [q]; rfl) c_73
      refine lv_iconst (v := 1) hx hb d_Sr_signedBelowZero_76 (by decide) ?_
      refine lv_goto (tgt := 81) hx hb d_Sr_signedBelowZero_77 (by decide) ?_
      exact cRz (nI (a + 1), nI lm, f, pl) hx hb hr rfl hlocks d_Sr_signedBelowZero_81 hS hP hD (⟨g0 / 64 % 2, (a + 1), hU0.trans (pSg_E hn0 ho0 hd0), by rw [hx1]; rfl, rfl⟩) (Nat.le_refl _) (Nat.le_refl _)
set_option maxHeartbeats 4000000 in
set_option maxRecDepth 100000 in
/-- signedBelowZero(64) -/
theorem c_Sr_signed64 (l : Launch) (hl9 : l.stackTraces = false) (D : va_G) (cA : Nat → ClassId) (ad : Nat → Nat) (sz : Nat) (h0 h1 : Nat) (bs : Nat → Int32) (a lm : Nat) (f pl : Int32) (hlm : lm ≤ 2000) (hal : a ≤ lm) :
    cM l y_Sr_signedBelowZero (.code y_Sr_signedBelowZero b_Sr_signedBelowZero 5 (some .boolean) :: wAll) ({ frames := 7, cells := 1, slots := 6, locals := 104 }) D cA ad [.ref h0, .int 64] (wSr cA h0 h1 bs (nI a, nI lm, f, pl)) sz (iP (pS64 (bv bs) lm a) lm f pl) (tP (pS64 (bv bs) lm a)) (wSr cA h0 h1 bs) (fun _ => (0, 0)) := by
  refine cM.ofW (cc := b_Sr_signedBelowZero) (maxL := 5) (ret := (some .boolean)) (by decide) (Nat.le_of_ble_eq_true rfl) ?_
  intro pg ev s m bw meth c A ls hF hsz hA hE hP hD hl
  obtain ⟨⟨hx, hb, hml, hown, hts⟩, hr, hno, hlocks, hin⟩ := hF
  subst hsz
  have hown : s.vm.findClass "ModuleBytes$Source" = some m.cls := hown
  have hS : va_S A s.heap s.heap [] := va_S.rf
  have hl : lv_has ls 5 [(0, .ref h0), (1, .int 64)] := hl
  have hU0 : pS64 (bv bs) lm a = pSg (bv bs) lm 10 64 a := rfl
  refine lv_iconst (v := 0) hx hb d_Sr_signedBelowZero_0 (by decide) ?_
  refine lv_istore_n (lv' := [(2, .int 0), (0, .ref h0), (1, .int 64)]) hx hb d_Sr_signedBelowZero_1 rfl hl (by decide) rfl (fun ls hl => ?_)
  refine lv_iload_n hx hb d_Sr_signedBelowZero_2 rfl (lv_at hl 2 rfl) ?_
  refine lv_istore_n (lv' := [(3, .int 64), (2, .int 0), (0, .ref h0), (1, .int 64)]) hx hb d_Sr_signedBelowZero_3 rfl hl (by decide) rfl (fun ls hl => ?_)
  refine lv_iload_n hx hb d_Sr_signedBelowZero_4 rfl (lv_at hl 0 rfl) ?_
  refine lv_if_le (tgt := 69) hx hb d_Sr_signedBelowZero_5 (by decide) (fun c_5 => absurd c_5 (by decide)) (fun c_5 => ?_)
  refine lv_aload_n hx hb d_Sr_signedBelowZero_8 rfl (lv_at hl 2 rfl) ?_
  refine cV (As := []) (rest := []) (n := 0) (wc := [(h0, .inr (2, [.ref h1, .int (nI a), .int (nI lm), .int f, .int pl])), (h1, .inl (cA 0, 2000, .inl bs))]) (wr := []) ⟨hx, hb, hml, hown, hts⟩ hno hlocks hl.1 (c_Sr_next l hl9 D cA ad s.heap.size h0 h1 bs a lm f pl hlm (by omega)) iw2_54 iw1_207 iw1_208 iw1_5 iw1_209 (by decide +kernel) rfl ⟨Nat.le_of_ble_eq_true rfl, Nat.le_of_ble_eq_true rfl⟩ ⟨Nat.le_of_ble_eq_true rfl, Nat.le_of_ble_eq_true rfl⟩ rfl (Nat.le_of_ble_eq_true rfl) d_Sr_signedBelowZero_9 hE hP hD hS hA [0, 1] [] rfl rfl rfl rfl (by decide) (ci := 2) rfl rfl 0 rfl (fun u h => ⟨u, h.mono (fun f p q => by rw [hU0, pSg_T q]), fun _ h => h, fun h => h, Nat.le_refl _, Nat.le_refl _⟩) (fun v_9 u_9 H locs hp_9 hP hD hS => ?_)
  obtain ⟨g0, a0_, hn0, rfl, rfl⟩ := hp_9
  have hP : va_P D cls [(h0, .inr (2, [.ref h1, .int (nI a0_), .int (nI lm), .int f, .int pl])), (h1, .inl (cA 0, 2000, .inl bs))] H := hP
  have hD : va_D A [(h0, .inr (2, [.ref h1, .int (nI a0_), .int (nI lm), .int f, .int pl])), (h1, .inl (cA 0, 2000, .inl bs))] := hD
  refine W.cs (cells' := 0) (slots' := 0) rfl rfl ?_
  refine W.eq (g2 := F0 m 12 ls [.int (nI g0)]) rfl ?_
  obtain ⟨hq0, rfl, hg0⟩ := pNext_ok hn0
  have hB0 : g0 < 256 := by rw [hg0]; exact bv_lt _ _
  have hP : va_P D cls [(h0, .inr (2, [.ref h1, .int (nI (a + 1)), .int (nI lm), .int f, .int pl])), (h1, .inl (cA 0, 2000, .inl bs))] H := hP
  have hD : va_D A [(h0, .inr (2, [.ref h1, .int (nI (a + 1)), .int (nI lm), .int f, .int pl])), (h1, .inl (cA 0, 2000, .inl bs))] := hD
  refine lv_istore_n (lv' := [(2, .int (nI g0)), (3, .int 64), (0, .ref h0), (1, .int 64)]) hx hb d_Sr_signedBelowZero_12 rfl hl (by decide) rfl (fun ls hl => ?_)
  have ho0 : ¬ (64 ≤ 7 ∧ sTop 64 g0 = false) := fun q => absurd q.1 (by decide)
  refine lv_iload_n hx hb d_Sr_signedBelowZero_13 rfl (lv_at hl 1 rfl) ?_
  refine lv_bipush (v := 7) hx hb d_Sr_signedBelowZero_14 (by decide) ?_
  refine lv_icmp_gt (tgt := 53) hx hb d_Sr_signedBelowZero_16 (by decide) (fun c_16 => ?_) (fun c_16 => absurd (by decide) c_16)
  refine lv_iload_n hx hb d_Sr_signedBelowZero_53 rfl (lv_at hl 0 rfl) ?_
  refine lv_sipush (v := 128) hx hb d_Sr_signedBelowZero_54 (by decide) ?_
  refine lv_icmp_ge (tgt := 63) hx hb d_Sr_signedBelowZero_57 (by decide) (fun c_57 => ?_) (fun c_57 => ?_)
  · have hd0 : ¬ g0 < 128 := fun q => absurd ((nI_leI (a := 128) (b := g0) (by omega) (by omega)).mp c_57) (by omega)
    have hU1 := hU0.trans (pSg_C hn0 ho0 hd0)
    refine lv_iinc (v := 57) (lv' := [(3, .int 57), (2, .int (nI g0)), (0, .ref h0), (1, .int 64)]) hx hb d_Sr_signedBelowZero_63 hl (k := 1) rfl (by decide) (by decide) rfl (fun ls hl => ?_)
    refine lv_goto (tgt := 4) hx hb d_Sr_signedBelowZero_66 (by decide) ?_
    refine lv_iload_n hx hb d_Sr_signedBelowZero_4 rfl (lv_at hl 0 rfl) ?_
    refine lv_if_le (tgt := 69) hx hb d_Sr_signedBelowZero_5 (by decide) (fun c_5 => absurd c_5 (by decide)) (fun c_5 => ?_)
    refine lv_aload_n hx hb d_Sr_signedBelowZero_8 rfl (lv_at hl 2 rfl) ?_
    refine cV (As := []) (rest := []) (n := 0) (wc := [(h0, .inr (2, [.ref h1, .int (nI (a + 1)), .int (nI lm), .int f, .int pl])), (h1, .inl (cA 0, 2000, .inl bs))]) (wr := []) ⟨hx, hb, hml, hown, hts⟩ hno hlocks hl.1 (c_Sr_next l hl9 D cA ad H.size h0 h1 bs (a + 1) lm f pl hlm (by omega)) iw2_54 iw1_207 iw1_208 iw1_5 iw1_209 (by decide +kernel) rfl ⟨Nat.le_of_ble_eq_true rfl, Nat.le_of_ble_eq_true rfl⟩ ⟨Nat.le_of_ble_eq_true rfl, Nat.le_of_ble_eq_true rfl⟩ rfl (Nat.le_of_ble_eq_true rfl) d_Sr_signedBelowZero_9 hE hP hD hS hA [0, 1] [] rfl rfl rfl rfl (by decide) (ci := 2) rfl rfl 0 rfl (fun u h => ⟨u, h.mono (fun f p q => by rw [hU1, pSg_T q]), fun _ h => h, fun h => h, Nat.le_refl _, Nat.le_refl _⟩) (fun v_9 u_9 H locs hp_9 hP hD hS => ?_)
    obtain ⟨g1, a1_, hn1, rfl, rfl⟩ := hp_9
    have hP : va_P D cls [(h0, .inr (2, [.ref h1, .int (nI a1_), .int (nI lm), .int f, .int pl])), (h1, .inl (cA 0, 2000, .inl bs))] H := hP
    have hD : va_D A [(h0, .inr (2, [.ref h1, .int (nI a1_), .int (nI lm), .int f, .int pl])), (h1, .inl (cA 0, 2000, .inl bs))] := hD
    refine W.cs (cells' := 0) (slots' := 0) rfl rfl ?_
    refine W.eq (g2 := F0 m 12 ls [.int (nI g1)]) rfl ?_
    obtain ⟨hq1, rfl, hg1⟩ := pNext_ok hn1
    have hB1 : g1 < 256 := by rw [hg1]; exact bv_lt _ _
    have hP : va_P D cls [(h0, .inr (2, [.ref h1, .int (nI ((a + 1) + 1)), .int (nI lm), .int f, .int pl])), (h1, .inl (cA 0, 2000, .inl bs))] H := hP
    have hD : va_D A [(h0, .inr (2, [.ref h1, .int (nI ((a + 1) + 1)), .int (nI lm), .int f, .int pl])), (h1, .inl (cA 0, 2000, .inl bs))] := hD
    refine lv_istore_n (lv' := [(2, .int (nI g1)), (3, .int 57), (0, .ref h0), (1, .int 64)]) hx hb d_Sr_signedBelowZero_12 rfl hl (by decide) rfl (fun ls hl => ?_)
    have ho1 : ¬ (57 ≤ 7 ∧ sTop 57 g1 = false) := fun q => absurd q.1 (by decide)
    refine lv_iload_n hx hb d_Sr_signedBelowZero_13 rfl (lv_at hl 1 rfl) ?_
    refine lv_bipush (v := 7) hx hb d_Sr_signedBelowZero_14 (by decide) ?_
    refine lv_icmp_gt (tgt := 53) hx hb d_Sr_signedBelowZero_16 (by decide) (fun c_16 => ?_) (fun c_16 => absurd (by decide) c_16)
    refine lv_iload_n hx hb d_Sr_signedBelowZero_53 rfl (lv_at hl 0 rfl) ?_
    refine lv_sipush (v := 128) hx hb d_Sr_signedBelowZero_54 (by decide) ?_
    refine lv_icmp_ge (tgt := 63) hx hb d_Sr_signedBelowZero_57 (by decide) (fun c_57 => ?_) (fun c_57 => ?_)
    · have hd1 : ¬ g1 < 128 := fun q => absurd ((nI_leI (a := 128) (b := g1) (by omega) (by omega)).mp c_57) (by omega)
      have hU2 := hU1.trans (pSg_C hn1 ho1 hd1)
      refine lv_iinc (v := 50) (lv' := [(3, .int 50), (2, .int (nI g1)), (0, .ref h0), (1, .int 64)]) hx hb d_Sr_signedBelowZero_63 hl (k := 1) rfl (by decide) (by decide) rfl (fun ls hl => ?_)
      refine lv_goto (tgt := 4) hx hb d_Sr_signedBelowZero_66 (by decide) ?_
      refine lv_iload_n hx hb d_Sr_signedBelowZero_4 rfl (lv_at hl 0 rfl) ?_
      refine lv_if_le (tgt := 69) hx hb d_Sr_signedBelowZero_5 (by decide) (fun c_5 => absurd c_5 (by decide)) (fun c_5 => ?_)
      refine lv_aload_n hx hb d_Sr_signedBelowZero_8 rfl (lv_at hl 2 rfl) ?_
      refine cV (As := []) (rest := []) (n := 0) (wc := [(h0, .inr (2, [.ref h1, .int (nI ((a + 1) + 1)), .int (nI lm), .int f, .int pl])), (h1, .inl (cA 0, 2000, .inl bs))]) (wr := []) ⟨hx, hb, hml, hown, hts⟩ hno hlocks hl.1 (c_Sr_next l hl9 D cA ad H.size h0 h1 bs ((a + 1) + 1) lm f pl hlm (by omega)) iw2_54 iw1_207 iw1_208 iw1_5 iw1_209 (by decide +kernel) rfl ⟨Nat.le_of_ble_eq_true rfl, Nat.le_of_ble_eq_true rfl⟩ ⟨Nat.le_of_ble_eq_true rfl, Nat.le_of_ble_eq_true rfl⟩ rfl (Nat.le_of_ble_eq_true rfl) d_Sr_signedBelowZero_9 hE hP hD hS hA [0, 1] [] rfl rfl rfl rfl (by decide) (ci := 2) rfl rfl 0 rfl (fun u h => ⟨u, h.mono (fun f p q => by rw [hU2, pSg_T q]), fun _ h => h, fun h => h, Nat.le_refl _, Nat.le_refl _⟩) (fun v_9 u_9 H locs hp_9 hP hD hS => ?_)
      obtain ⟨g2, a2_, hn2, rfl, rfl⟩ := hp_9
      have hP : va_P D cls [(h0, .inr (2, [.ref h1, .int (nI a2_), .int (nI lm), .int f, .int pl])), (h1, .inl (cA 0, 2000, .inl bs))] H := hP
      have hD : va_D A [(h0, .inr (2, [.ref h1, .int (nI a2_), .int (nI lm), .int f, .int pl])), (h1, .inl (cA 0, 2000, .inl bs))] := hD
      refine W.cs (cells' := 0) (slots' := 0) rfl rfl ?_
      refine W.eq (g2 := F0 m 12 ls [.int (nI g2)]) rfl ?_
      obtain ⟨hq2, rfl, hg2⟩ := pNext_ok hn2
      have hB2 : g2 < 256 := by rw [hg2]; exact bv_lt _ _
      have hP : va_P D cls [(h0, .inr (2, [.ref h1, .int (nI (((a + 1) + 1) + 1)), .int (nI lm), .int f, .int pl])), (h1, .inl (cA 0, 2000, .inl bs))] H := hP
      have hD : va_D A [(h0, .inr (2, [.ref h1, .int (nI (((a + 1) + 1) + 1)), .int (nI lm), .int f, .int pl])), (h1, .inl (cA 0, 2000, .inl bs))] := hD
      refine lv_istore_n (lv' := [(2, .int (nI g2)), (3, .int 50), (0, .ref h0), (1, .int 64)]) hx hb d_Sr_signedBelowZero_12 rfl hl (by decide) rfl (fun ls hl => ?_)
      have ho2 : ¬ (50 ≤ 7 ∧ sTop 50 g2 = false) := fun q => absurd q.1 (by decide)
      refine lv_iload_n hx hb d_Sr_signedBelowZero_13 rfl (lv_at hl 1 rfl) ?_
      refine lv_bipush (v := 7) hx hb d_Sr_signedBelowZero_14 (by decide) ?_
      refine lv_icmp_gt (tgt := 53) hx hb d_Sr_signedBelowZero_16 (by decide) (fun c_16 => ?_) (fun c_16 => absurd (by decide) c_16)
      refine lv_iload_n hx hb d_Sr_signedBelowZero_53 rfl (lv_at hl 0 rfl) ?_
      refine lv_sipush (v := 128) hx hb d_Sr_signedBelowZero_54 (by decide) ?_
      refine lv_icmp_ge (tgt := 63) hx hb d_Sr_signedBelowZero_57 (by decide) (fun c_57 => ?_) (fun c_57 => ?_)
      · have hd2 : ¬ g2 < 128 := fun q => absurd ((nI_leI (a := 128) (b := g2) (by omega) (by omega)).mp c_57) (by omega)
        have hU3 := hU2.trans (pSg_C hn2 ho2 hd2)
        refine lv_iinc (v := 43) (lv' := [(3, .int 43), (2, .int (nI g2)), (0, .ref h0), (1, .int 64)]) hx hb d_Sr_signedBelowZero_63 hl (k := 1) rfl (by decide) (by decide) rfl (fun ls hl => ?_)
        refine lv_goto (tgt := 4) hx hb d_Sr_signedBelowZero_66 (by decide) ?_
        refine lv_iload_n hx hb d_Sr_signedBelowZero_4 rfl (lv_at hl 0 rfl) ?_
        refine lv_if_le (tgt := 69) hx hb d_Sr_signedBelowZero_5 (by decide) (fun c_5 => absurd c_5 (by decide)) (fun c_5 => ?_)
        refine lv_aload_n hx hb d_Sr_signedBelowZero_8 rfl (lv_at hl 2 rfl) ?_
        refine cV (As := []) (rest := []) (n := 0) (wc := [(h0, .inr (2, [.ref h1, .int (nI (((a + 1) + 1) + 1)), .int (nI lm), .int f, .int pl])), (h1, .inl (cA 0, 2000, .inl bs))]) (wr := []) ⟨hx, hb, hml, hown, hts⟩ hno hlocks hl.1 (c_Sr_next l hl9 D cA ad H.size h0 h1 bs (((a + 1) + 1) + 1) lm f pl hlm (by omega)) iw2_54 iw1_207 iw1_208 iw1_5 iw1_209 (by decide +kernel) rfl ⟨Nat.le_of_ble_eq_true rfl, Nat.le_of_ble_eq_true rfl⟩ ⟨Nat.le_of_ble_eq_true rfl, Nat.le_of_ble_eq_true rfl⟩ rfl (Nat.le_of_ble_eq_true rfl) d_Sr_signedBelowZero_9 hE hP hD hS hA [0, 1] [] rfl rfl rfl rfl (by decide) (ci := 2) rfl rfl 0 rfl (fun u h => ⟨u, h.mono (fun f p q => by rw [hU3, pSg_T q]), fun _ h => h, fun h => h, Nat.le_refl _, Nat.le_refl _⟩) (fun v_9 u_9 H locs hp_9 hP hD hS => ?_)
        obtain ⟨g3, a3_, hn3, rfl, rfl⟩ := hp_9
        have hP : va_P D cls [(h0, .inr (2, [.ref h1, .int (nI a3_), .int (nI lm), .int f, .int pl])), (h1, .inl (cA 0, 2000, .inl bs))] H := hP
        have hD : va_D A [(h0, .inr (2, [.ref h1, .int (nI a3_), .int (nI lm), .int f, .int pl])), (h1, .inl (cA 0, 2000, .inl bs))] := hD
        refine W.cs (cells' := 0) (slots' := 0) rfl rfl ?_
        refine W.eq (g2 := F0 m 12 ls [.int (nI g3)]) rfl ?_
        obtain ⟨hq3, rfl, hg3⟩ := pNext_ok hn3
        have hB3 : g3 < 256 := by rw [hg3]; exact bv_lt _ _
        have hP : va_P D cls [(h0, .inr (2, [.ref h1, .int (nI ((((a + 1) + 1) + 1) + 1)), .int (nI lm), .int f, .int pl])), (h1, .inl (cA 0, 2000, .inl bs))] H := hP
        have hD : va_D A [(h0, .inr (2, [.ref h1, .int (nI ((((a + 1) + 1) + 1) + 1)), .int (nI lm), .int f, .int pl])), (h1, .inl (cA 0, 2000, .inl bs))] := hD
        refine lv_istore_n (lv' := [(2, .int (nI g3)), (3, .int 43), (0, .ref h0), (1, .int 64)]) hx hb d_Sr_signedBelowZero_12 rfl hl (by decide) rfl (fun ls hl => ?_)
        have ho3 : ¬ (43 ≤ 7 ∧ sTop 43 g3 = false) := fun q => absurd q.1 (by decide)
        refine lv_iload_n hx hb d_Sr_signedBelowZero_13 rfl (lv_at hl 1 rfl) ?_
        refine lv_bipush (v := 7) hx hb d_Sr_signedBelowZero_14 (by decide) ?_
        refine lv_icmp_gt (tgt := 53) hx hb d_Sr_signedBelowZero_16 (by decide) (fun c_16 => ?_) (fun c_16 => absurd (by decide) c_16)
        refine lv_iload_n hx hb d_Sr_signedBelowZero_53 rfl (lv_at hl 0 rfl) ?_
        refine lv_sipush (v := 128) hx hb d_Sr_signedBelowZero_54 (by decide) ?_
        refine lv_icmp_ge (tgt := 63) hx hb d_Sr_signedBelowZero_57 (by decide) (fun c_57 => ?_) (fun c_57 => ?_)
        · have hd3 : ¬ g3 < 128 := fun q => absurd ((nI_leI (a := 128) (b := g3) (by omega) (by omega)).mp c_57) (by omega)
          have hU4 := hU3.trans (pSg_C hn3 ho3 hd3)
          refine lv_iinc (v := 36) (lv' := [(3, .int 36), (2, .int (nI g3)), (0, .ref h0), (1, .int 64)]) hx hb d_Sr_signedBelowZero_63 hl (k := 1) rfl (by decide) (by decide) rfl (fun ls hl => ?_)
          refine lv_goto (tgt := 4) hx hb d_Sr_signedBelowZero_66 (by decide) ?_
          refine lv_iload_n hx hb d_Sr_signedBelowZero_4 rfl (lv_at hl 0 rfl) ?_
          refine lv_if_le (tgt := 69) hx hb d_Sr_signedBelowZero_5 (by decide) (fun c_5 => absurd c_5 (by decide)) (fun c_5 => ?_)
          refine lv_aload_n hx hb d_Sr_signedBelowZero_8 rfl (lv_at hl 2 rfl) ?_
          refine cV (As := []) (rest := []) (n := 0) (wc := [(h0, .inr (2, [.ref h1, .int (nI ((((a + 1) + 1) + 1) + 1)), .int (nI lm), .int f, .int pl])), (h1, .inl (cA 0, 2000, .inl bs))]) (wr := []) ⟨hx, hb, hml, hown, hts⟩ hno hlocks hl.1 (c_Sr_next l hl9 D cA ad H.size h0 h1 bs ((((a + 1) + 1) + 1) + 1) lm f pl hlm (by omega)) iw2_54 iw1_207 iw1_208 iw1_5 iw1_209 (by decide +kernel) rfl ⟨Nat.le_of_ble_eq_true rfl, Nat.le_of_ble_eq_true rfl⟩ ⟨Nat.le_of_ble_eq_true rfl, Nat.le_of_ble_eq_true rfl⟩ rfl (Nat.le_of_ble_eq_true rfl) d_Sr_signedBelowZero_9 hE hP hD hS hA [0, 1] [] rfl rfl rfl rfl (by decide) (ci := 2) rfl rfl 0 rfl (fun u h => ⟨u, h.mono (fun f p q => by rw [hU4, pSg_T q]), fun _ h => h, fun h => h, Nat.le_refl _, Nat.le_refl _⟩) (fun v_9 u_9 H locs hp_9 hP hD hS => ?_)
          obtain ⟨g4, a4_, hn4, rfl, rfl⟩ := hp_9
          have hP : va_P D cls [(h0, .inr (2, [.ref h1, .int (nI a4_), .int (nI lm), .int f, .int pl])), (h1, .inl (cA 0, 2000, .inl bs))] H := hP
          have hD : va_D A [(h0, .inr (2, [.ref h1, .int (nI a4_), .int (nI lm), .int f, .int pl])), (h1, .inl (cA 0, 2000, .inl bs))] := hD
          refine W.cs (cells' := 0) (slots' := 0) rfl rfl ?_
          refine W.eq (g2 := F0 m 12 ls [.int (nI g4)]) rfl ?_
          obtain ⟨hq4, rfl, hg4⟩ := pNext_ok hn4
          have hB4 : g4 < 256 := by rw [hg4]; exact bv_lt _ _
          have hP : va_P D cls [(h0, .inr (2, [.ref h1, .int (nI (((((a + 1) + 1) + 1) + 1) + 1)), .int (nI lm), .int f, .int pl])), (h1, .inl (cA 0, 2000, .inl bs))] H := hP
          have hD : va_D A [(h0, .inr (2, [.ref h1, .int (nI (((((a + 1) + 1) + 1) + 1) + 1)), .int (nI lm), .int f, .int pl])), (h1, .inl (cA 0, 2000, .inl bs))] := hD
          refine lv_istore_n (lv' := [(2, .int (nI g4)), (3, .int 36), (0, .ref h0), (1, .int 64)]) hx hb d_Sr_signedBelowZero_12 rfl hl (by decide) rfl (fun ls hl => ?_)
          have ho4 : ¬ (36 ≤ 7 ∧ sTop 36 g4 = false) := fun q => absurd q.1 (by decide)
          refine lv_iload_n hx hb d_Sr_signedBelowZero_13 rfl (lv_at hl 1 rfl) ?_
          refine lv_bipush (v := 7) hx hb d_Sr_signedBelowZero_14 (by decide) ?_
          refine lv_icmp_gt (tgt := 53) hx hb d_Sr_signedBelowZero_16 (by decide) (fun c_16 => ?_) (fun c_16 => absurd (by decide) c_16)
          refine lv_iload_n hx hb d_Sr_signedBelowZero_53 rfl (lv_at hl 0 rfl) ?_
          refine lv_sipush (v := 128) hx hb d_Sr_signedBelowZero_54 (by decide) ?_
          refine lv_icmp_ge (tgt := 63) hx hb d_Sr_signedBelowZero_57 (by decide) (fun c_57 => ?_) (fun c_57 => ?_)
          · have hd4 : ¬ g4 < 128 := fun q => absurd ((nI_leI (a := 128) (b := g4) (by omega) (by omega)).mp c_57) (by omega)
            have hU5 := hU4.trans (pSg_C hn4 ho4 hd4)
            refine lv_iinc (v := 29) (lv' := [(3, .int 29), (2, .int (nI g4)), (0, .ref h0), (1, .int 64)]) hx hb d_Sr_signedBelowZero_63 hl (k := 1) rfl (by decide) (by decide) rfl (fun ls hl => ?_)
            refine lv_goto (tgt := 4) hx hb d_Sr_signedBelowZero_66 (by decide) ?_
            refine lv_iload_n hx hb d_Sr_signedBelowZero_4 rfl (lv_at hl 0 rfl) ?_
            refine lv_if_le (tgt := 69) hx hb d_Sr_signedBelowZero_5 (by decide) (fun c_5 => absurd c_5 (by decide)) (fun c_5 => ?_)
            refine lv_aload_n hx hb d_Sr_signedBelowZero_8 rfl (lv_at hl 2 rfl) ?_
            refine cV (As := []) (rest := []) (n := 0) (wc := [(h0, .inr (2, [.ref h1, .int (nI (((((a + 1) + 1) + 1) + 1) + 1)), .int (nI lm), .int f, .int pl])), (h1, .inl (cA 0, 2000, .inl bs))]) (wr := []) ⟨hx, hb, hml, hown, hts⟩ hno hlocks hl.1 (c_Sr_next l hl9 D cA ad H.size h0 h1 bs (((((a + 1) + 1) + 1) + 1) + 1) lm f pl hlm (by omega)) iw2_54 iw1_207 iw1_208 iw1_5 iw1_209 (by decide +kernel) rfl ⟨Nat.le_of_ble_eq_true rfl, Nat.le_of_ble_eq_true rfl⟩ ⟨Nat.le_of_ble_eq_true rfl, Nat.le_of_ble_eq_true rfl⟩ rfl (Nat.le_of_ble_eq_true rfl) d_Sr_signedBelowZero_9 hE hP hD hS hA [0, 1] [] rfl rfl rfl rfl (by decide) (ci := 2) rfl rfl 0 rfl (fun u h => ⟨u, h.mono (fun f p q => by rw [hU5, pSg_T q]), fun _ h => h, fun h => h, Nat.le_refl _, Nat.le_refl _⟩) (fun v_9 u_9 H locs hp_9 hP hD hS => ?_)
            obtain ⟨g5, a5_, hn5, rfl, rfl⟩ := hp_9
            have hP : va_P D cls [(h0, .inr (2, [.ref h1, .int (nI a5_), .int (nI lm), .int f, .int pl])), (h1, .inl (cA 0, 2000, .inl bs))] H := hP
            have hD : va_D A [(h0, .inr (2, [.ref h1, .int (nI a5_), .int (nI lm), .int f, .int pl])), (h1, .inl (cA 0, 2000, .inl bs))] := hD
            refine W.cs (cells' := 0) (slots' := 0) rfl rfl ?_
            refine W.eq (g2 := F0 m 12 ls [.int (nI g5)]) rfl ?_
            obtain ⟨hq5, rfl, hg5⟩ := pNext_ok hn5
            have hB5 : g5 < 256 := by rw [hg5]; exact bv_lt _ _
            have hP : va_P D cls [(h0, .inr (2, [.ref h1, .int (nI ((((((a + 1) + 1) + 1) + 1) + 1) + 1)), .int (nI lm), .int f, .int pl])), (h1, .inl (cA 0, 2000, .inl bs))] H := hP
            have hD : va_D A [(h0, .inr (2, [.ref h1, .int (nI ((((((a + 1) + 1) + 1) + 1) + 1) + 1)), .int (nI lm), .int f, .int pl])), (h1, .inl (cA 0, 2000, .inl bs))] := hD
            refine lv_istore_n (lv' := [(2, .int (nI g5)), (3, .int 29), (0, .ref h0), (1, .int 64)]) hx hb d_Sr_signedBelowZero_12 rfl hl (by decide) rfl (fun ls hl => ?_)
            have ho5 : ¬ (29 ≤ 7 ∧ sTop 29 g5 = false) := fun q => absurd q.1 (by decide)
            refine lv_iload_n hx hb d_Sr_signedBelowZero_13 rfl (lv_at hl 1 rfl) ?_
            refine lv_bipush (v := 7) hx hb d_Sr_signedBelowZero_14 (by decide) ?_
            refine lv_icmp_gt (tgt := 53) hx hb d_Sr_signedBelowZero_16 (by decide) (fun c_16 => ?_) (fun c_16 => absurd (by decide) c_16)
            refine lv_iload_n hx hb d_Sr_signedBelowZero_53 rfl (lv_at hl 0 rfl) ?_
            refine lv_sipush (v := 128) hx hb d_Sr_signedBelowZero_54 (by decide) ?_
            refine lv_icmp_ge (tgt := 63) hx hb d_Sr_signedBelowZero_57 (by decide) (fun c_57 => ?_) (fun c_57 => ?_)
            · have hd5 : ¬ g5 < 128 := fun q => absurd ((nI_leI (a := 128) (b := g5) (by omega) (by omega)).mp c_57) (by omega)
              have hU6 := hU5.trans (pSg_C hn5 ho5 hd5)
              refine lv_iinc (v := 22) (lv' := [(3, .int 22), (2, .int (nI g5)), (0, .ref h0), (1, .int 64)]) hx hb d_Sr_signedBelowZero_63 hl (k := 1) rfl (by decide) (by decide) rfl (fun ls hl => ?_)
              refine lv_goto (tgt := 4) hx hb d_Sr_signedBelowZero_66 (by decide) ?_
              refine lv_iload_n hx hb d_Sr_signedBelowZero_4 rfl (lv_at hl 0 rfl) ?_
              refine lv_if_le (tgt := 69) hx hb d_Sr_signedBelowZero_5 (by decide) (fun c_5 => absurd c_5 (by decide)) (fun c_5 => ?_)
              refine lv_aload_n hx hb d_Sr_signedBelowZero_8 rfl (lv_at hl 2 rfl) ?_
              refine cV (As := []) (rest := []) (n := 0) (wc := [(h0, .inr (2, [.ref h1, .int (nI ((((((a + 1) + 1) + 1) + 1) + 1) + 1)), .int (nI lm), .int f, .int pl])), (h1, .inl (cA 0, 2000, .inl bs))]) (wr := []) ⟨hx, hb, hml, hown, hts⟩ hno hlocks hl.1 (c_Sr_next l hl9 D cA ad H.size h0 h1 bs ((((((a + 1) + 1) + 1) + 1) + 1) + 1) lm f pl hlm (by omega)) iw2_54 iw1_207 iw1_208 iw1_5 iw1_209 (by decide +kernel) rfl ⟨Nat.le_of_ble_eq_true rfl, Nat.le_of_ble_eq_true rfl⟩ ⟨Nat.le_of_ble_eq_true rfl, Nat.le_of_ble_eq_true rfl⟩ rfl (Nat.le_of_ble_eq_true rfl) d_Sr_signedBelowZero_9 hE hP hD hS hA [0, 1] [] rfl rfl rfl rfl (by decide) (ci := 2) rfl rfl 0 rfl (fun u h => ⟨u, h.mono (fun f p q => by rw [hU6, pSg_T q]), fun _ h => h, fun h => h, Nat.le_refl _, Nat.le_refl _⟩) (fun v_9 u_9 H locs hp_9 hP hD hS => ?_)
              obtain ⟨g6, a6_, hn6, rfl, rfl⟩ := hp_9
              have hP : va_P D cls [(h0, .inr (2, [.ref h1, .int (nI a6_), .int (nI lm), .int f, .int pl])), (h1, .inl (cA 0, 2000, .inl bs))] H := hP
              have hD : va_D A [(h0, .inr (2, [.ref h1, .int (nI a6_), .int (nI lm), .int f, .int pl])), (h1, .inl (cA 0, 2000, .inl bs))] := hD
              refine W.cs (cells' := 0) (slots' := 0) rfl rfl ?_
              refine W.eq (g2 := F0 m 12 ls [.int (nI g6)]) rfl ?_
              obtain ⟨hq6, rfl, hg6⟩ := pNext_ok hn6
              have hB6 : g6 < 256 := by rw [hg6]; exact bv_lt _ _
              have hP : va_P D cls [(h0, .inr (2, [.ref h1, .int (nI (((((((a + 1) + 1) + 1) + 1) + 1) + 1) + 1)), .int (nI lm), .int f, .int pl])), (h1, .inl (cA 0, 2000, .inl bs))] H := hP
              have hD : va_D A [(h0, .inr (2, [.ref h1, .int (nI (((((((a + 1) + 1) + 1) + 1) + 1) + 1) + 1)), .int (nI lm), .int f, .int pl])), (h1, .inl (cA 0, 2000, .inl bs))] := hD
              refine lv_istore_n (lv' := [(2, .int (nI g6)), (3, .int 22), (0, .ref h0), (1, .int 64)]) hx hb d_Sr_signedBelowZero_12 rfl hl (by decide) rfl (fun ls hl => ?_)
              have ho6 : ¬ (22 ≤ 7 ∧ sTop 22 g6 = false) := fun q => absurd q.1 (by decide)
              refine lv_iload_n hx hb d_Sr_signedBelowZero_13 rfl (lv_at hl 1 rfl) ?_
              refine lv_bipush (v := 7) hx hb d_Sr_signedBelowZero_14 (by decide) ?_
              refine lv_icmp_gt (tgt := 53) hx hb d_Sr_signedBelowZero_16 (by decide) (fun c_16 => ?_) (fun c_16 => absurd (by decide) c_16)
              refine lv_iload_n hx hb d_Sr_signedBelowZero_53 rfl (lv_at hl 0 rfl) ?_
              refine lv_sipush (v := 128) hx hb d_Sr_signedBelowZero_54 (by decide) ?_
              refine lv_icmp_ge (tgt := 63) hx hb d_Sr_signedBelowZero_57 (by decide) (fun c_57 => ?_) (fun c_57 => ?_)
              · have hd6 : ¬ g6 < 128 := fun q => absurd ((nI_leI (a := 128) (b := g6) (by omega) (by omega)).mp c_57) (by omega)
                have hU7 := hU6.trans (pSg_C hn6 ho6 hd6)
                refine lv_iinc (v := 15) (lv' := [(3, .int 15), (2, .int (nI g6)), (0, .ref h0), (1, .int 64)]) hx hb d_Sr_signedBelowZero_63 hl (k := 1) rfl (by decide) (by decide) rfl (fun ls hl => ?_)
                refine lv_goto (tgt := 4) hx hb d_Sr_signedBelowZero_66 (by decide) ?_
                refine lv_iload_n hx hb d_Sr_signedBelowZero_4 rfl (lv_at hl 0 rfl) ?_
                refine lv_if_le (tgt := 69) hx hb d_Sr_signedBelowZero_5 (by decide) (fun c_5 => absurd c_5 (by decide)) (fun c_5 => ?_)
                refine lv_aload_n hx hb d_Sr_signedBelowZero_8 rfl (lv_at hl 2 rfl) ?_
                refine cV (As := []) (rest := []) (n := 0) (wc := [(h0, .inr (2, [.ref h1, .int (nI (((((((a + 1) + 1) + 1) + 1) + 1) + 1) + 1)), .int (nI lm), .int f, .int pl])), (h1, .inl (cA 0, 2000, .inl bs))]) (wr := []) ⟨hx, hb, hml, hown, hts⟩ hno hlocks hl.1 (c_Sr_next l hl9 D cA ad H.size h0 h1 bs (((((((a + 1) + 1) + 1) + 1) + 1) + 1) + 1) lm f pl hlm (by omega)) iw2_54 iw1_207 iw1_208 iw1_5 iw1_209 (by decide +kernel) rfl ⟨Nat.le_of_ble_eq_true rfl, Nat.le_of_ble_eq_true rfl⟩ ⟨Nat.le_of_ble_eq_true rfl, Nat.le_of_ble_eq_true rfl⟩ rfl (Nat.le_of_ble_eq_true rfl) d_Sr_signedBelowZero_9 hE hP hD hS hA [0, 1] [] rfl rfl rfl rfl (by decide) (ci := 2) rfl rfl 0 rfl (fun u h => ⟨u, h.mono (fun f p q => by rw [hU7, pSg_T q]), fun _ h => h, fun h => h, Nat.le_refl _, Nat.le_refl _⟩) (fun v_9 u_9 H locs hp_9 hP hD hS => ?_)
                obtain ⟨g7, a7_, hn7, rfl, rfl⟩ := hp_9
                have hP : va_P D cls [(h0, .inr (2, [.ref h1, .int (nI a7_), .int (nI lm), .int f, .int pl])), (h1, .inl (cA 0, 2000, .inl bs))] H := hP
                have hD : va_D A [(h0, .inr (2, [.ref h1, .int (nI a7_), .int (nI lm), .int f, .int pl])), (h1, .inl (cA 0, 2000, .inl bs))] := hD
                refine W.cs (cells' := 0) (slots' := 0) rfl rfl ?_
                refine W.eq (g2 := F0 m 12 ls [.int (nI g7)]) rfl ?_
                obtain ⟨hq7, rfl, hg7⟩ := pNext_ok hn7
                have hB7 : g7 < 256 := by rw [hg7]; exact bv_lt _ _
                have hP : va_P D cls [(h0, .inr (2, [.ref h1, .int (nI ((((((((a + 1) + 1) + 1) + 1) + 1) + 1) + 1) + 1)), .int (nI lm), .int f, .int pl])), (h1, .inl (cA 0, 2000, .inl bs))] H := hP
                have hD : va_D A [(h0, .inr (2, [.ref h1, .int (nI ((((((((a + 1) + 1) + 1) + 1) + 1) + 1) + 1) + 1)), .int (nI lm), .int f, .int pl])), (h1, .inl (cA 0, 2000, .inl bs))] := hD
                refine lv_istore_n (lv' := [(2, .int (nI g7)), (3, .int 15), (0, .ref h0), (1, .int 64)]) hx hb d_Sr_signedBelowZero_12 rfl hl (by decide) rfl (fun ls hl => ?_)
                have ho7 : ¬ (15 ≤ 7 ∧ sTop 15 g7 = false) := fun q => absurd q.1 (by decide)
                refine lv_iload_n hx hb d_Sr_signedBelowZero_13 rfl (lv_at hl 1 rfl) ?_
                refine lv_bipush (v := 7) hx hb d_Sr_signedBelowZero_14 (by decide) ?_
                refine lv_icmp_gt (tgt := 53) hx hb d_Sr_signedBelowZero_16 (by decide) (fun c_16 => ?_) (fun c_16 => absurd (by decide) c_16)
                refine lv_iload_n hx hb d_Sr_signedBelowZero_53 rfl (lv_at hl 0 rfl) ?_
                refine lv_sipush (v := 128) hx hb d_Sr_signedBelowZero_54 (by decide) ?_
                refine lv_icmp_ge (tgt := 63) hx hb d_Sr_signedBelowZero_57 (by decide) (fun c_57 => ?_) (fun c_57 => ?_)
                · have hd7 : ¬ g7 < 128 := fun q => absurd ((nI_leI (a := 128) (b := g7) (by omega) (by omega)).mp c_57) (by omega)
                  have hU8 := hU7.trans (pSg_C hn7 ho7 hd7)
                  refine lv_iinc (v := 8) (lv' := [(3, .int 8), (2, .int (nI g7)), (0, .ref h0), (1, .int 64)]) hx hb d_Sr_signedBelowZero_63 hl (k := 1) rfl (by decide) (by decide) rfl (fun ls hl => ?_)
                  refine lv_goto (tgt := 4) hx hb d_Sr_signedBelowZero_66 (by decide) ?_
                  refine lv_iload_n hx hb d_Sr_signedBelowZero_4 rfl (lv_at hl 0 rfl) ?_
                  refine lv_if_le (tgt := 69) hx hb d_Sr_signedBelowZero_5 (by decide) (fun c_5 => absurd c_5 (by decide)) (fun c_5 => ?_)
                  refine lv_aload_n hx hb d_Sr_signedBelowZero_8 rfl (lv_at hl 2 rfl) ?_
                  refine cV (As := []) (rest := []) (n := 0) (wc := [(h0, .inr (2, [.ref h1, .int (nI ((((((((a + 1) + 1) + 1) + 1) + 1) + 1) + 1) + 1)), .int (nI lm), .int f, .int pl])), (h1, .inl (cA 0, 2000, .inl bs))]) (wr := []) ⟨hx, hb, hml, hown, hts⟩ hno hlocks hl.1 (c_Sr_next l hl9 D cA ad H.size h0 h1 bs ((((((((a + 1) + 1) + 1) + 1) + 1) + 1) + 1) + 1) lm f pl hlm (by omega)) iw2_54 iw1_207 iw1_208 iw1_5 iw1_209 (by decide +kernel) rfl ⟨Nat.le_of_ble_eq_true rfl, Nat.le_of_ble_eq_true rfl⟩ ⟨Nat.le_of_ble_eq_true rfl, Nat.le_of_ble_eq_true rfl⟩ rfl (Nat.le_of_ble_eq_true rfl) d_Sr_signedBelowZero_9 hE hP hD hS hA [0, 1] [] rfl rfl rfl rfl (by decide) (ci := 2) rfl rfl 0 rfl (fun u h => ⟨u, h.mono (fun f p q => by rw [hU8, pSg_T q]), fun _ h => h, fun h => h, Nat.le_refl _, Nat.le_refl _⟩) (fun v_9 u_9 H locs hp_9 hP hD hS => ?_)
                  obtain ⟨g8, a8_, hn8, rfl, rfl⟩ := hp_9
                  have hP : va_P D cls [(h0, .inr (2, [.ref h1, .int (nI a8_), .int (nI lm), .int f, .int pl])), (h1, .inl (cA 0, 2000, .inl bs))] H := hP
                  have hD : va_D A [(h0, .inr (2, [.ref h1, .int (nI a8_), .int (nI lm), .int f, .int pl])), (h1, .inl (cA 0, 2000, .inl bs))] := hD
                  refine W.cs (cells' := 0) (slots' := 0) rfl rfl ?_
                  refine W.eq (g2 := F0 m 12 ls [.int (nI g8)]) rfl ?_
                  obtain ⟨hq8, rfl, hg8⟩ := pNext_ok hn8
                  have hB8 : g8 < 256 := by rw [hg8]; exact bv_lt _ _
                  have hP : va_P D cls [(h0, .inr (2, [.ref h1, .int (nI (((((((((a + 1) + 1) + 1) + 1) + 1) + 1) + 1) + 1) + 1)), .int (nI lm), .int f, .int pl])), (h1, .inl (cA 0, 2000, .inl bs))] H := hP
                  have hD : va_D A [(h0, .inr (2, [.ref h1, .int (nI (((((((((a + 1) + 1) + 1) + 1) + 1) + 1) + 1) + 1) + 1)), .int (nI lm), .int f, .int pl])), (h1, .inl (cA 0, 2000, .inl bs))] := hD
                  refine lv_istore_n (lv' := [(2, .int (nI g8)), (3, .int 8), (0, .ref h0), (1, .int 64)]) hx hb d_Sr_signedBelowZero_12 rfl hl (by decide) rfl (fun ls hl => ?_)
                  have ho8 : ¬ (8 ≤ 7 ∧ sTop 8 g8 = false) := fun q => absurd q.1 (by decide)
                  refine lv_iload_n hx hb d_Sr_signedBelowZero_13 rfl (lv_at hl 1 rfl) ?_
                  refine lv_bipush (v := 7) hx hb d_Sr_signedBelowZero_14 (by decide) ?_
                  refine lv_icmp_gt (tgt := 53) hx hb d_Sr_signedBelowZero_16 (by decide) (fun c_16 => ?_) (fun c_16 => absurd (by decide) c_16)
                  refine lv_iload_n hx hb d_Sr_signedBelowZero_53 rfl (lv_at hl 0 rfl) ?_
                  refine lv_sipush (v := 128) hx hb d_Sr_signedBelowZero_54 (by decide) ?_
                  refine lv_icmp_ge (tgt := 63) hx hb d_Sr_signedBelowZero_57 (by decide) (fun c_57 => ?_) (fun c_57 => ?_)
                  · have hd8 : ¬ g8 < 128 := fun q => absurd ((nI_leI (a := 128) (b := g8) (by omega) (by omega)).mp c_57) (by omega)
                    have hU9 := hU8.trans (pSg_C hn8 ho8 hd8)
                    refine lv_iinc (v := 1) (lv' := [(3, .int 1), (2, .int (nI g8)), (0, .ref h0), (1, .int 64)]) hx hb d_Sr_signedBelowZero_63 hl (k := 1) rfl (by decide) (by decide) rfl (fun ls hl => ?_)
                    refine lv_goto (tgt := 4) hx hb d_Sr_signedBelowZero_66 (by decide) ?_
                    refine lv_iload_n hx hb d_Sr_signedBelowZero_4 rfl (lv_at hl 0 rfl) ?_
                    refine lv_if_le (tgt := 69) hx hb d_Sr_signedBelowZero_5 (by decide) (fun c_5 => absurd c_5 (by decide)) (fun c_5 => ?_)
                    refine lv_aload_n hx hb d_Sr_signedBelowZero_8 rfl (lv_at hl 2 rfl) ?_
                    refine cV (As := []) (rest := []) (n := 0) (wc := [(h0, .inr (2, [.ref h1, .int (nI (((((((((a + 1) + 1) + 1) + 1) + 1) + 1) + 1) + 1) + 1)), .int (nI lm), .int f, .int pl])), (h1, .inl (cA 0, 2000, .inl bs))]) (wr := []) ⟨hx, hb, hml, hown, hts⟩ hno hlocks hl.1 (c_Sr_next l hl9 D cA ad H.size h0 h1 bs (((((((((a + 1) + 1) + 1) + 1) + 1) + 1) + 1) + 1) + 1) lm f pl hlm (by omega)) iw2_54 iw1_207 iw1_208 iw1_5 iw1_209 (by decide +kernel) rfl ⟨Nat.le_of_ble_eq_true rfl, Nat.le_of_ble_eq_true rfl⟩ ⟨Nat.le_of_ble_eq_true rfl, Nat.le_of_ble_eq_true rfl⟩ rfl (Nat.le_of_ble_eq_true rfl) d_Sr_signedBelowZero_9 hE hP hD hS hA [0, 1] [] rfl rfl rfl rfl (by decide) (ci := 2) rfl rfl 0 rfl (fun u h => ⟨u, h.mono (fun f p q => by rw [hU9, pSg_T q]), fun _ h => h, fun h => h, Nat.le_refl _, Nat.le_refl _⟩) (fun v_9 u_9 H locs hp_9 hP hD hS => ?_)
                    obtain ⟨g9, a9_, hn9, rfl, rfl⟩ := hp_9
                    have hP : va_P D cls [(h0, .inr (2, [.ref h1, .int (nI a9_), .int (nI lm), .int f, .int pl])), (h1, .inl (cA 0, 2000, .inl bs))] H := hP
                    have hD : va_D A [(h0, .inr (2, [.ref h1, .int (nI a9_), .int (nI lm), .int f, .int pl])), (h1, .inl (cA 0, 2000, .inl bs))] := hD
                    refine W.cs (cells' := 0) (slots' := 0) rfl rfl ?_
                    refine W.eq (g2 := F0 m 12 ls [.int (nI g9)]) rfl ?_
                    obtain ⟨hq9, rfl, hg9⟩ := pNext_ok hn9
                    have hB9 : g9 < 256 := by rw [hg9]; exact bv_lt _ _
                    have hP : va_P D cls [(h0, .inr (2, [.ref h1, .int (nI ((((((((((a + 1) + 1) + 1) + 1) + 1) + 1) + 1) + 1) + 1) + 1)), .int (nI lm), .int f, .int pl])), (h1, .inl (cA 0, 2000, .inl bs))] H := hP
                    have hD : va_D A [(h0, .inr (2, [.ref h1, .int (nI ((((((((((a + 1) + 1) + 1) + 1) + 1) + 1) + 1) + 1) + 1) + 1)), .int (nI lm), .int f, .int pl])), (h1, .inl (cA 0, 2000, .inl bs))] := hD
                    refine lv_istore_n (lv' := [(2, .int (nI g9)), (3, .int 1), (0, .ref h0), (1, .int 64)]) hx hb d_Sr_signedBelowZero_12 rfl hl (by decide) rfl (fun ls hl => ?_)
                    refine lv_iload_n hx hb d_Sr_signedBelowZero_13 rfl (lv_at hl 1 rfl) ?_
                    refine lv_bipush (v := 7) hx hb d_Sr_signedBelowZero_14 (by decide) ?_
                    refine lv_icmp_gt (tgt := 53) hx hb d_Sr_signedBelowZero_16 (by decide) (fun c_16 => absurd c_16 (by decide)) (fun c_16 => ?_)
                    refine lv_iload_n hx hb d_Sr_signedBelowZero_19 rfl (lv_at hl 0 rfl) ?_
                    refine lv_iload_n hx hb d_Sr_signedBelowZero_20 rfl (lv_at hl 1 rfl) ?_
                    refine lv_iconst (v := 1) hx hb d_Sr_signedBelowZero_21 (by decide) ?_
                    refine lv_isub hx hb d_Sr_signedBelowZero_22 ?_
                    refine W.eq (g2 := F0 m 23 ls [.int 0, .int (nI g9)]) (by rw [show (1 : Int32) - 1 = 0 from by decide]) ?_
                    refine lv_ishr hx hb d_Sr_signedBelowZero_23 ?_
                    refine lv_topi (fun t9 et9 => ?_)
                    have ht9 : t9 = nI (g9 / 2 ^ 0) := et9.trans (pk_shrN (by omega) _ 0 (by decide +kernel))
                    have hz9 : g9 / 2 ^ 0 < 256 := Nat.lt_of_le_of_lt (Nat.div_le_self _ _) hB9
                    subst ht9
                    refine lv_istore (lv' := [(4, .int (nI (g9 / 2 ^ 0))), (2, .int (nI g9)), (3, .int 1), (0, .ref h0), (1, .int 64)]) hx hb d_Sr_signedBelowZero_24 hl (by decide) rfl (fun ls hl => ?_)
                    refine lv_iload hx hb d_Sr_signedBelowZero_26 (lv_at hl 0 rfl) ?_
                    refine lv_if_eq (tgt := 53) hx hb d_Sr_signedBelowZero_28 (by decide) (fun c_28 => ?_) (fun c_28 => ?_)
                    · have hs9 : sTop 1 g9 = true := by
                        first
                        | (have q := nI_lit_eq (k := 0) (by omega) (by omega) c_28; simp only [sTop]; rw [show 1 - 1 = 0 from rfl, q]; rfl)
                        | (have q := nI_lit_eq (k := 127 / 2 ^ 0) (by omega) (by decide) (c_39.trans (by decide)); simp only [sTop]; rw [show 1 - 1 = 0 from rfl, q]; rfl)
                      have ho9 : ¬ (1 ≤ 7 ∧ sTop 1 g9 = false) := fun q => by rw [hs9] at q; exact absurd q.2 (by decide)
                      refine lv_iload_n hx hb d_Sr_signedBelowZero_53 rfl (lv_at hl 1 rfl) ?_
                      refine lv_sipush (v := 128) hx hb d_Sr_signedBelowZero_54 (by decide) ?_
                      refine lv_icmp_ge (tgt := 63) hx hb d_Sr_signedBelowZero_57 (by decide) (fun c_57 => ?_) (fun c_57 => ?_)
                      · have hd9 : ¬ g9 < 128 := fun q => absurd ((nI_leI (a := 128) (b := g9) (by omega) (by omega)).mp c_57) (by omega)
                        exact absurd hs9 (by rw [sTop_big 0 (by decide) g9 hB9 (by omega)]; decide)
                      · have hd9 : g9 < 128 := Nat.lt_of_not_le (fun q => c_57 (nI_le (a := 128) (b := g9) q (by omega)))
                        refine lv_goto (tgt := 69) hx hb d_Sr_signedBelowZero_60 (by decide) ?_
                        refine lv_iload_n hx hb d_Sr_signedBelowZero_69 rfl (lv_at hl 1 rfl) ?_
                        refine lv_bipush (v := 64) hx hb d_Sr_signedBelowZero_70 (by decide) ?_
                        refine lv_iand hx hb d_Sr_signedBelowZero_72 ?_
                        refine lv_if_eq (tgt := 80) hx hb d_Sr_signedBelowZero_73 (by decide) (fun c_73 => ?_) (fun c_73 => ?_)
                        · rw [and64 hB9] at c_73
                          have hx1 : g9 / 64 % 2 = 0 := by have q := nI_lit_eq (k := 0) (by omega) (by omega) c_73; omega
                          refine lv_iconst (v := 0) hx hb d_Sr_signedBelowZero_80 (by decide) ?_
                          exact cRz (nI ((((((((((a + 1) + 1) + 1) + 1) + 1) + 1) + 1) + 1) + 1) + 1), nI lm, f, pl) hx hb hr rfl hlocks d_Sr_signedBelowZero_81 hS hP hD (⟨g9 / 64 % 2, ((((((((((a + 1) + 1) + 1) + 1) + 1) + 1) + 1) + 1) + 1) + 1), hU9.trans (pSg_E hn9 ho9 hd9), by rw [hx1]; rfl, rfl⟩) (Nat.le_refl _) (Nat.le_refl _)
                        · rw [and64 hB9] at c_73
                          have hx1 : g9 / 64 % 2 = 1 := by rcases Nat.mod_two_eq_zero_or_one (g9 / 64) with q | q <;> first | exact q | exact absurd (by rw [q]; rfl) c_73
                          refine lv_iconst (v := 1) hx hb d_Sr_signedBelowZero_76 (by decide) ?_
                          refine lv_goto (tgt := 81) hx hb d_Sr_signedBelowZero_77 (by decide) ?_
                          exact cRz (nI ((((((((((a + 1) + 1) + 1) + 1) + 1) + 1) + 1) + 1) + 1) + 1), nI lm, f, pl) hx hb hr rfl hlocks d_Sr_signedBelowZero_81 hS hP hD (⟨g9 / 64 % 2, ((((((((((a + 1) + 1) + 1) + 1) + 1) + 1) + 1) + 1) + 1) + 1), hU9.trans (pSg_E hn9 ho9 hd9), by rw [hx1]; rfl, rfl⟩) (Nat.le_refl _) (Nat.le_refl _)
                    · refine lv_iload hx hb d_Sr_signedBelowZero_31 (lv_at hl 0 rfl) ?_
                      refine lv_bipush (v := 127) hx hb d_Sr_signedBelowZero_33 (by decide) ?_
                      refine lv_iload_n hx hb d_Sr_signedBelowZero_35 rfl (lv_at hl 2 rfl) ?_
                      refine lv_iconst (v := 1) hx hb d_Sr_signedBelowZero_36 (by decide) ?_
                      refine lv_isub hx hb d_Sr_signedBelowZero_37 ?_
                      refine W.eq (g2 := F0 m 38 ls [.int 0, .int 127, .int (nI (g9 / 2 ^ 0))]) (by rw [show (1 : Int32) - 1 = 0 from by decide]) ?_
                      refine lv_ishr hx hb d_Sr_signedBelowZero_38 ?_
                      refine lv_icmp_eq (tgt := 53) hx hb d_Sr_signedBelowZero_39 (by decide) (fun c_39 => ?_) (fun c_39 => ?_)
                      · have hs9 : sTop 1 g9 = true := by
                          first
                          | (have q := nI_lit_eq (k := 0) (by omega) (by omega) c_28; simp only [sTop]; rw [show 1 - 1 = 0 from rfl, q]; rfl)
                          | (have q := nI_lit_eq (k := 127 / 2 ^ 0) (by omega) (by decide) (c_39.trans (by decide)); simp only [sTop]; rw [show 1 - 1 = 0 from rfl, q]; rfl)
                        have ho9 : ¬ (1 ≤ 7 ∧ sTop 1 g9 = false) := fun q => by rw [hs9] at q; exact absurd q.2 (by decide)
                        refine lv_iload_n hx hb d_Sr_signedBelowZero_53 rfl (lv_at hl 1 rfl) ?_
                        refine lv_sipush (v := 128) hx hb d_Sr_signedBelowZero_54 (by decide) ?_
                        refine lv_icmp_ge (tgt := 63) hx hb d_Sr_signedBelowZero_57 (by decide) (fun c_57 => ?_) (fun c_57 => ?_)
                        · have hd9 : ¬ g9 < 128 := fun q => absurd ((nI_leI (a := 128) (b := g9) (by omega) (by omega)).mp c_57) (by omega)
                          exact absurd hs9 (by rw [sTop_big 0 (by decide) g9 hB9 (by omega)]; decide)
                        · have hd9 : g9 < 128 := Nat.lt_of_not_le (fun q => c_57 (nI_le (a := 128) (b := g9) q (by omega)))
                          refine lv_goto (tgt := 69) hx hb d_Sr_signedBelowZero_60 (by decide) ?_
                          refine lv_iload_n hx hb d_Sr_signedBelowZero_69 rfl (lv_at hl 1 rfl) ?_
                          refine lv_bipush (v := 64) hx hb d_Sr_signedBelowZero_70 (by decide) ?_
                          refine lv_iand hx hb d_Sr_signedBelowZero_72 ?_
                          refine lv_if_eq (tgt := 80) hx hb d_Sr_signedBelowZero_73 (by decide) (fun c_73 => ?_) (fun c_73 => ?_)
                          · rw [and64 hB9] at c_73
                            have hx1 : g9 / 64 % 2 = 0 := by have q := nI_lit_eq (k := 0) (by omega) (by omega) c_73; omega
                            refine lv_iconst (v := 0) hx hb d_Sr_signedBelowZero_80 (by decide) ?_
                            exact cRz (nI ((((((((((a + 1) + 1) + 1) + 1) + 1) + 1) + 1) + 1) + 1) + 1), nI lm, f, pl) hx hb hr rfl hlocks d_Sr_signedBelowZero_81 hS hP hD (⟨g9 / 64 % 2, ((((((((((a + 1) + 1) + 1) + 1) + 1) + 1) + 1) + 1) + 1) + 1), hU9.trans (pSg_E hn9 ho9 hd9), by rw [hx1]; rfl, rfl⟩) (Nat.le_refl _) (Nat.le_refl _)
                          · rw [and64 hB9] at c_73
                            have hx1 : g9 / 64 % 2 = 1 := by rcases Nat.mod_two_eq_zero_or_one (g9 / 64) with q | q <;> first | exact q | exact absurd (by rw [q]; rfl) c_73
                            refine lv_iconst (v := 1) hx hb d_Sr_signedBelowZero_76 (by decide) ?_
                            refine lv_goto (tgt := 81) hx hb d_Sr_signedBelowZero_77 (by decide) ?_
                            exact cRz (nI ((((((((((a + 1) + 1) + 1) + 1) + 1) + 1) + 1) + 1) + 1) + 1), nI lm, f, pl) hx hb hr rfl hlocks d_Sr_signedBelowZero_81 hS hP hD (⟨g9 / 64 % 2, ((((((((((a + 1) + 1) + 1) + 1) + 1) + 1) + 1) + 1) + 1) + 1), hU9.trans (pSg_E hn9 ho9 hd9), by rw [hx1]; rfl, rfl⟩) (Nat.le_refl _) (Nat.le_refl _)
                      · have hs9 : sTop 1 g9 = false := by
                          have q1 : ¬ g9 / 2 ^ 0 = 0 := fun q => c_28 (congrArg nI q)
                          have q2 : ¬ g9 / 2 ^ 0 = 127 / 2 ^ 0 := fun q => c_39 ((congrArg nI q).trans (by decide))
                          simp only [sTop, show 1 - 1 = 0 from rfl, beq_eq_false_iff_ne.mpr q1, beq_eq_false_iff_ne.mpr q2]; rfl
                        refine lv_aload_n hx hb d_Sr_signedBelowZero_42 rfl (lv_at hl 3 rfl) ?_
                        refine lv_iconst (v := 4) hx hb d_Sr_signedBelowZero_43 (by decide) ?_
                        refine lv_aload_n hx hb d_Sr_signedBelowZero_44 rfl (lv_at hl 3 rfl) ?_
                        refine va_get (D := D) (ci := 2) (v := .int (nI ((((((((((a + 1) + 1) + 1) + 1) + 1) + 1) + 1) + 1) + 1) + 1))) (C := R_Sr) (T := F_Sr) (N := 5) hx hb hts (fun w h => List.mem_cons_of_mem _ (i_Sr w h)) hown hE.1 hP 0 rfl rfl 1 (by decide) (hts _ (List.mem_cons_of_mem _ iw1_97)) (fun _ h9 => h9) rfl d_Sr_signedBelowZero_45 ?_
                        refine lv_iconst (v := 1) hx hb d_Sr_signedBelowZero_48 (by decide) ?_
                        refine lv_isub hx hb d_Sr_signedBelowZero_49 ?_
                        refine cV (As := [.int 4, .int ((nI ((((((((((a + 1) + 1) + 1) + 1) + 1) + 1) + 1) + 1) + 1) + 1)) - 1)]) (rest := []) (n := 2) (wc := [(h0, .inr (2, [.ref h1, .int (nI ((((((((((a + 1) + 1) + 1) + 1) + 1) + 1) + 1) + 1) + 1) + 1)), .int (nI lm), .int f, .int pl])), (h1, .inl (cA 0, 2000, .inl bs))]) (wr := []) ⟨hx, hb, hml, hown, hts⟩ hno hlocks hl.1 (c_Sr_fail l hl9 D cA ad H.size h0 h1 bs (nI ((((((((((a + 1) + 1) + 1) + 1) + 1) + 1) + 1) + 1) + 1) + 1)) (nI lm) f pl 4 (nI ((((((((((a + 1) + 1) + 1) + 1) + 1) + 1) + 1) + 1) + 1) + 1) - 1)) iw2_55 iw2_36 iw2_37 iw1_5 iw2_38 (by decide +kernel) rfl ⟨Nat.le_of_ble_eq_true rfl, Nat.le_of_ble_eq_true rfl⟩ ⟨Nat.le_of_ble_eq_true rfl, Nat.le_of_ble_eq_true rfl⟩ rfl (Nat.le_of_ble_eq_true rfl) d_Sr_signedBelowZero_50 hE hP hD hS hA [0, 1] [] rfl rfl rfl rfl (by decide) (ci := 2) rfl rfl 0 rfl (fun u h => ⟨u, ⟨4, (((((((((a + 1) + 1) + 1) + 1) + 1) + 1) + 1) + 1) + 1), (by rw [hU9, pSg_F hn9 (by decide) hs9]), by rw [h] <;> rfl, by rw [h] <;> exact nI_pred _⟩, fun _ h => h, fun h => h, Nat.le_refl _, Nat.le_refl _⟩) (fun v_50 u_50 H locs hp_50 hP hD hS => ?_)
                        exact hp_50.elim
                  · have hd8 : g8 < 128 := Nat.lt_of_not_le (fun q => c_57 (nI_le (a := 128) (b := g8) q (by omega)))
                    refine lv_goto (tgt := 69) hx hb d_Sr_signedBelowZero_60 (by decide) ?_
                    refine lv_iload_n hx hb d_Sr_signedBelowZero_69 rfl (lv_at hl 0 rfl) ?_
                    refine lv_bipush (v := 64) hx hb d_Sr_signedBelowZero_70 (by decide) ?_
                    refine lv_iand hx hb d_Sr_signedBelowZero_72 ?_
                    refine lv_if_eq (tgt := 80) hx hb d_Sr_signedBelowZero_73 (by decide) (fun c_73 => ?_) (fun c_73 => ?_)
                    · rw [and64 hB8] at c_73
                      have hx1 : g8 / 64 % 2 = 0 := by have q := nI_lit_eq (k := 0) (by omega) (by omega) c_73; omega
                      refine lv_iconst (v := 0) hx hb d_Sr_signedBelowZero_80 (by decide) ?_
                      exact cRz (nI (((((((((a + 1) + 1) + 1) + 1) + 1) + 1) + 1) + 1) + 1), nI lm, f, pl) hx hb hr rfl hlocks d_Sr_signedBelowZero_81 hS hP hD (⟨g8 / 64 % 2, (((((((((a + 1) + 1) + 1) + 1) + 1) + 1) + 1) + 1) + 1), hU8.trans (pSg_E hn8 ho8 hd8), by rw [hx1]; rfl, rfl⟩) (Nat.le_refl _) (Nat.le_refl _)
                    · rw [and64 hB8] at c_73
                      have hx1 : g8 / 64 % 2 = 1 := by rcases Nat.mod_two_eq_zero_or_one (g8 / 64) with q | q <;> first | exact q | exact absurd (by rw [q]; rfl) c_73
                      refine lv_iconst (v := 1) hx hb d_Sr_signedBelowZero_76 (by decide) ?_
                      refine lv_goto (tgt := 81) hx hb d_Sr_signedBelowZero_77 (by decide) ?_
                      exact cRz (nI (((((((((a + 1) + 1) + 1) + 1) + 1) + 1) + 1) + 1) + 1), nI lm, f, pl) hx hb hr rfl hlocks d_Sr_signedBelowZero_81 hS hP hD (⟨g8 / 64 % 2, (((((((((a + 1) + 1) + 1) + 1) + 1) + 1) + 1) + 1) + 1), hU8.trans (pSg_E hn8 ho8 hd8), by rw [hx1]; rfl, rfl⟩) (Nat.le_refl _) (Nat.le_refl _)
                · have hd7 : g7 < 128 := Nat.lt_of_not_le (fun q => c_57 (nI_le (a := 128) (b := g7) q (by omega)))
                  refine lv_goto (tgt := 69) hx hb d_Sr_signedBelowZero_60 (by decide) ?_
                  refine lv_iload_n hx hb d_Sr_signedBelowZero_69 rfl (lv_at hl 0 rfl) ?_
                  refine lv_bipush (v := 64) hx hb d_Sr_signedBelowZero_70 (by decide) ?_
                  refine lv_iand hx hb d_Sr_signedBelowZero_72 ?_
                  refine lv_if_eq (tgt := 80) hx hb d_Sr_signedBelowZero_73 (by decide) (fun c_73 => ?_) (fun c_73 => ?_)
                  · rw [and64 hB7] at c_73
                    have hx1 : g7 / 64 % 2 = 0 := by have q := nI_lit_eq (k := 0) (by omega) (by omega) c_73; omega
                    refine lv_iconst (v := 0) hx hb d_Sr_signedBelowZero_80 (by decide) ?_
                    exact cRz (nI ((((((((a + 1) + 1) + 1) + 1) + 1) + 1) + 1) + 1), nI lm, f, pl) hx hb hr rfl hlocks d_Sr_signedBelowZero_81 hS hP hD (⟨g7 / 64 % 2, ((((((((a + 1) + 1) + 1) + 1) + 1) + 1) + 1) + 1), hU7.trans (pSg_E hn7 ho7 hd7), by rw [hx1]; rfl, rfl⟩) (Nat.le_refl _) (Nat.le_refl _)
                  · rw [and64 hB7] at c_73
                    have hx1 : g7 / 64 % 2 = 1 := by rcases Nat.mod_two_eq_zero_or_one (g7 / 64) with q | q <;> first | exact q | exact absurd (by rw [q]; rfl) c_73
                    refine lv_iconst (v := 1) hx hb d_Sr_signedBelowZero_76 (by decide) ?_
                    refine lv_goto (tgt := 81) hx hb d_Sr_signedBelowZero_77 (by decide) ?_
                    exact cRz (nI ((((((((a + 1) + 1) + 1) + 1) + 1) + 1) + 1) + 1), nI lm, f, pl) hx hb hr rfl hlocks d_Sr_signedBelowZero_81 hS hP hD (⟨g7 / 64 % 2, ((((((((a + 1) + 1) + 1) + 1) + 1) + 1) + 1) + 1), hU7.trans (pSg_E hn7 ho7 hd7), by rw [hx1]; rfl, rfl⟩) (Nat.le_refl _) (Nat.le_refl _)
              · have hd6 : g6 < 128 := Nat.lt_of_not_le (fun q => c_57 (nI_le (a := 128) (b := g6) q (by omega)))
                refine lv_goto (tgt := 69) hx hb d_Sr_signedBelowZero_60 (by decide) ?_
                refine lv_iload_n hx hb d_Sr_signedBelowZero_69 rfl (lv_at hl 0 rfl) ?_
                refine lv_bipush (v := 64) hx hb d_Sr_signedBelowZero_70 (by decide) ?_
                refine lv_iand hx hb d_Sr_signedBelowZero_72 ?_
                refine lv_if_eq (tgt := 80) hx hb d_Sr_signedBelowZero_73 (by decide) (fun c_73 => ?_) (fun c_73 => ?_)
                · rw [and64 hB6] at c_73
                  have hx1 : g6 / 64 % 2 = 0 := by have q := nI_lit_eq (k := 0) (by omega) (by omega) c_73; omega
                  refine lv_iconst (v := 0) hx hb d_Sr_signedBelowZero_80 (by decide) ?_
                  exact cRz (nI (((((((a + 1) + 1) + 1) + 1) + 1) + 1) + 1), nI lm, f, pl) hx hb hr rfl hlocks d_Sr_signedBelowZero_81 hS hP hD (⟨g6 / 64 % 2, (((((((a + 1) + 1) + 1) + 1) + 1) + 1) + 1), hU6.trans (pSg_E hn6 ho6 hd6), by rw [hx1]; rfl, rfl⟩) (Nat.le_refl _) (Nat.le_refl _)
                · rw [and64 hB6] at c_73
                  have hx1 : g6 / 64 % 2 = 1 := by rcases Nat.mod_two_eq_zero_or_one (g6 / 64) with q | q <;> first | exact q | exact absurd (by rw [q]; rfl) c_73
                  refine lv_iconst (v := 1) hx hb d_Sr_signedBelowZero_76 (by decide) ?_
                  refine lv_goto (tgt := 81) hx hb d_Sr_signedBelowZero_77 (by decide) ?_
                  exact cRz (nI (((((((a + 1) + 1) + 1) + 1) + 1) + 1) + 1), nI lm, f, pl) hx hb hr rfl hlocks d_Sr_signedBelowZero_81 hS hP hD (⟨g6 / 64 % 2, (((((((a + 1) + 1) + 1) + 1) + 1) + 1) + 1), hU6.trans (pSg_E hn6 ho6 hd6), by rw [hx1]; rfl, rfl⟩) (Nat.le_refl _) (Nat.le_refl _)
            · have hd5 : g5 < 128 := Nat.lt_of_not_le (fun q => c_57 (nI_le (a := 128) (b := g5) q (by omega)))
              refine lv_goto (tgt := 69) hx hb d_Sr_signedBelowZero_60 (by decide) ?_
              refine lv_iload_n hx hb d_Sr_signedBelowZero_69 rfl (lv_at hl 0 rfl) ?_
              refine lv_bipush (v := 64) hx hb d_Sr_signedBelowZero_70 (by decide) ?_
              refine lv_iand hx hb d_Sr_signedBelowZero_72 ?_
              refine lv_if_eq (tgt := 80) hx hb d_Sr_signedBelowZero_73 (by decide) (fun c_73 => ?_) (fun c_73 => ?_)
              · rw [and64 hB5] at c_73
                have hx1 : g5 / 64 % 2 = 0 := by have q := nI_lit_eq (k := 0) (by omega) (by omega) c_73; omega
                refine lv_iconst (v := 0) hx hb d_Sr_signedBelowZero_80 (by decide) ?_
                exact cRz (nI ((((((a + 1) + 1) + 1) + 1) + 1) + 1), nI lm, f, pl) hx hb hr rfl hlocks d_Sr_signedBelowZero_81 hS hP hD (⟨g5 / 64 % 2, ((((((a + 1) + 1) + 1) + 1) + 1) + 1), hU5.trans (pSg_E hn5 ho5 hd5), by rw [hx1]; rfl, rfl⟩) (Nat.le_refl _) (Nat.le_refl _)
              · rw [and64 hB5] at c_73
                have hx1 : g5 / 64 % 2 = 1 := by rcases Nat.mod_two_eq_zero_or_one (g5 / 64) with q | q <;> first | exact q | exact absurd (by rw [q]; rfl) c_73
                refine lv_iconst (v := 1) hx hb d_Sr_signedBelowZero_76 (by decide) ?_
                refine lv_goto (tgt := 81) hx hb d_Sr_signedBelowZero_77 (by decide) ?_
                exact cRz (nI ((((((a + 1) + 1) + 1) + 1) + 1) + 1), nI lm, f, pl) hx hb hr rfl hlocks d_Sr_signedBelowZero_81 hS hP hD (⟨g5 / 64 % 2, ((((((a + 1) + 1) + 1) + 1) + 1) + 1), hU5.trans (pSg_E hn5 ho5 hd5), by rw [hx1]; rfl, rfl⟩) (Nat.le_refl _) (Nat.le_refl _)
          · have hd4 : g4 < 128 := Nat.lt_of_not_le (fun q => c_57 (nI_le (a := 128) (b := g4) q (by omega)))
            refine lv_goto (tgt := 69) hx hb d_Sr_signedBelowZero_60 (by decide) ?_
            refine lv_iload_n hx hb d_Sr_signedBelowZero_69 rfl (lv_at hl 0 rfl) ?_
            refine lv_bipush (v := 64) hx hb d_Sr_signedBelowZero_70 (by decide) ?_
            refine lv_iand hx hb d_Sr_signedBelowZero_72 ?_
            refine lv_if_eq (tgt := 80) hx hb d_Sr_signedBelowZero_73 (by decide) (fun c_73 => ?_) (fun c_73 => ?_)
            · rw [and64 hB4] at c_73
              have hx1 : g4 / 64 % 2 = 0 := by have q := nI_lit_eq (k := 0) (by omega) (by omega) c_73; omega
              refine lv_iconst (v := 0) hx hb d_Sr_signedBelowZero_80 (by decide) ?_
              exact cRz (nI (((((a + 1) + 1) + 1) + 1) + 1), nI lm, f, pl) hx hb hr rfl hlocks d_Sr_signedBelowZero_81 hS hP hD (⟨g4 / 64 % 2, (((((a + 1) + 1) + 1) + 1) + 1), hU4.trans (pSg_E hn4 ho4 hd4), by rw [hx1]; rfl, rfl⟩) (Nat.le_refl _) (Nat.le_refl _)
            · rw [and64 hB4] at c_73
              have hx1 : g4 / 64 % 2 = 1 := by rcases Nat.mod_two_eq_zero_or_one (g4 / 64) with q | q <;> first | exact q | exact absurd (by rw [q]; rfl) c_73
              refine lv_iconst (v := 1) hx hb d_Sr_signedBelowZero_76 (by decide) ?_
              refine lv_goto (tgt := 81) hx hb d_Sr_signedBelowZero_77 (by decide) ?_
              exact cRz (nI (((((a + 1) + 1) + 1) + 1) + 1), nI lm, f, pl) hx hb hr rfl hlocks d_Sr_signedBelowZero_81 hS hP hD (⟨g4 / 64 % 2, (((((a + 1) + 1) + 1) + 1) + 1), hU4.trans (pSg_E hn4 ho4 hd4), by rw [hx1]; rfl, rfl⟩) (Nat.le_refl _) (Nat.le_refl _)
        · have hd3 : g3 < 128 := Nat.lt_of_not_le (fun q => c_57 (nI_le (a := 128) (b := g3) q (by omega)))
          refine lv_goto (tgt := 69) hx hb d_Sr_signedBelowZero_60 (by decide) ?_
          refine lv_iload_n hx hb d_Sr_signedBelowZero_69 rfl (lv_at hl 0 rfl) ?_
          refine lv_bipush (v := 64) hx hb d_Sr_signedBelowZero_70 (by decide) ?_
          refine lv_iand hx hb d_Sr_signedBelowZero_72 ?_
          refine lv_if_eq (tgt := 80) hx hb d_Sr_signedBelowZero_73 (by decide) (fun c_73 => ?_) (fun c_73 => ?_)
          · rw [and64 hB3] at c_73
            have hx1 : g3 / 64 % 2 = 0 := by have q := nI_lit_eq (k := 0) (by omega) (by omega) c_73; omega
            refine lv_iconst (v := 0) hx hb d_Sr_signedBelowZero_80 (by decide) ?_
            exact cRz (nI ((((a + 1) + 1) + 1) + 1), nI lm, f, pl) hx hb hr rfl hlocks d_Sr_signedBelowZero_81 hS hP hD (⟨g3 / 64 % 2, ((((a + 1) + 1) + 1) + 1), hU3.trans (pSg_E hn3 ho3 hd3), by rw [hx1]; rfl, rfl⟩) (Nat.le_refl _) (Nat.le_refl _)
          · rw [and64 hB3] at c_73
            have hx1 : g3 / 64 % 2 = 1 := by rcases Nat.mod_two_eq_zero_or_one (g3 / 64) with q | q <;> first | exact q | exact absurd (by rw [q]; rfl) c_73
            refine lv_iconst (v := 1) hx hb d_Sr_signedBelowZero_76 (by decide) ?_
            refine lv_goto (tgt := 81) hx hb d_Sr_signedBelowZero_77 (by decide) ?_
            exact cRz (nI ((((a + 1) + 1) + 1) + 1), nI lm, f, pl) hx hb hr rfl hlocks d_Sr_signedBelowZero_81 hS hP hD (⟨g3 / 64 % 2, ((((a + 1) + 1) + 1) + 1), hU3.trans (pSg_E hn3 ho3 hd3), by rw [hx1]; rfl, rfl⟩) (Nat.le_refl _) (Nat.le_refl _)
      · have hd2 : g2 < 128 := Nat.lt_of_not_le (fun q => c_57 (nI_le (a := 128) (b := g2) q (by omega)))
        refine lv_goto (tgt := 69) hx hb d_Sr_signedBelowZero_60 (by decide) ?_
        refine lv_iload_n hx hb d_Sr_signedBelowZero_69 rfl (lv_at hl 0 rfl) ?_
        refine lv_bipush (v := 64) hx hb d_Sr_signedBelowZero_70 (by decide) ?_
        refine lv_iand hx hb d_Sr_signedBelowZero_72 ?_
        refine lv_if_eq (tgt := 80) hx hb d_Sr_signedBelowZero_73 (by decide) (fun c_73 => ?_) (fun c_73 => ?_)
        · rw [and64 hB2] at c_73
          have hx1 : g2 / 64 % 2 = 0 := by have q := nI_lit_eq (k := 0) (by omega) (by omega) c_73; omega
          refine lv_iconst (v := 0) hx hb d_Sr_signedBelowZero_80 (by decide) ?_
          exact cRz (nI (((a + 1) + 1) + 1), nI lm, f, pl) hx hb hr rfl hlocks d_Sr_signedBelowZero_81 hS hP hD (⟨g2 / 64 % 2, (((a + 1) + 1) + 1), hU2.trans (pSg_E hn2 ho2 hd2), by rw [hx1]; rfl, rfl⟩) (Nat.le_refl _) (Nat.le_refl _)
        · rw [and64 hB2] at c_73
          have hx1 : g2 / 64 % 2 = 1 := by rcases Nat.mod_two_eq_zero_or_one (g2 / 64) with q | q <;> first | exact q | exact absurd (by rw [q]; rfl) c_73
          refine lv_iconst (v := 1) hx hb d_Sr_signedBelowZero_76 (by decide) ?_
          refine lv_goto (tgt := 81) hx hb d_Sr_signedBelowZero_77 (by decide) ?_
          exact cRz (nI (((a + 1) + 1) + 1), nI lm, f, pl) hx hb hr rfl hlocks d_Sr_signedBelowZero_81 hS hP hD (⟨g2 / 64 % 2, (((a + 1) + 1) + 1), hU2.trans (pSg_E hn2 ho2 hd2), by rw [hx1]; rfl, rfl⟩) (Nat.le_refl _) (Nat.le_refl _)
    · have hd1 : g1 < 128 := Nat.lt_of_not_le (fun q => c_57 (nI_le (a := 128) (b := g1) q (by omega)))
      refine lv_goto (tgt := 69) hx hb d_Sr_signedBelowZero_60 (by decide) ?_
      refine lv_iload_n hx hb d_Sr_signedBelowZero_69 rfl (lv_at hl 0 rfl) ?_
      refine lv_bipush (v := 64) hx hb d_Sr_signedBelowZero_70 (by decide) ?_
      refine lv_iand hx hb d_Sr_signedBelowZero_72 ?_
      refine lv_if_eq (tgt := 80) hx hb d_Sr_signedBelowZero_73 (by decide) (fun c_73 => ?_) (fun c_73 => ?_)
      · rw [and64 hB1] at c_73
        have hx1 : g1 / 64 % 2 = 0 := by have q := nI_lit_eq (k := 0) (by omega) (by omega) c_73; omega
        refine lv_iconst (v := 0) hx hb d_Sr_signedBelowZero_80 (by decide) ?_
        exact cRz (nI ((a + 1) + 1), nI lm, f, pl) hx hb hr rfl hlocks d_Sr_signedBelowZero_81 hS hP hD (⟨g1 / 64 % 2, ((a + 1) + 1), hU1.trans (pSg_E hn1 ho1 hd1), by rw [hx1]; rfl, rfl⟩) (Nat.le_refl _) (Nat.le_refl _)
      · rw [and64 hB1] at c_73
        have hx1 : g1 / 64 % 2 = 1 := by rcases Nat.mod_two_eq_zero_or_one (g1 / 64) with q | q <;> first | exact q | exact absurd (by rw [q]; rfl) c_73
        refine lv_iconst (v := 1) hx hb d_Sr_signedBelowZero_76 (by decide) ?_
        refine lv_goto (tgt := 81) hx hb d_Sr_signedBelowZero_77 (by decide) ?_
        exact cRz (nI ((a + 1) + 1), nI lm, f, pl) hx hb hr rfl hlocks d_Sr_signedBelowZero_81 hS hP hD (⟨g1 / 64 % 2, ((a + 1) + 1), hU1.trans (pSg_E hn1 ho1 hd1), by rw [hx1]; rfl, rfl⟩) (Nat.le_refl _) (Nat.le_refl _)
  · have hd0 : g0 < 128 := Nat.lt_of_not_le (fun q => c_57 (nI_le (a := 128) (b := g0) q (by omega)))
    refine lv_goto (tgt := 69) hx hb d_Sr_signedBelowZero_60 (by decide) ?_
    refine lv_iload_n hx hb d_Sr_signedBelowZero_69 rfl (lv_at hl 0 rfl) ?_
    refine lv_bipush (v := 64) hx hb d_Sr_signedBelowZero_70 (by decide) ?_
    refine lv_iand hx hb d_Sr_signedBelowZero_72 ?_
    refine lv_if_eq (tgt := 80) hx hb d_Sr_signedBelowZero_73 (by decide) (fun c_73 => ?_) (fun c_73 => ?_)
    · rw [and64 hB0] at c_73
      have hx1 : g0 / 64 % 2 = 0 := by have q := nI_lit_eq (k := 0) (by omega) (by omega) c_73; omega
      refine lv_iconst (v := 0) hx hb d_Sr_signedBelowZero_80 (by decide) ?_
      exact cRz (nI (a + 1), nI lm, f, pl) hx hb hr rfl hlocks d_Sr_signedBelowZero_81 hS hP hD (⟨g0 / 64 % 2, (a + 1), hU0.trans (pSg_E hn0 ho0 hd0), by rw [hx1]; rfl, rfl⟩) (Nat.le_refl _) (Nat.le_refl _)
    · rw [and64 hB0] at c_73
      have hx1 : g0 / 64 % 2 = 1 := by rcases Nat.mod_two_eq_zero_or_one (g0 / 64) with q | q <;> first | exact q | exact absurd (by rw [q]; rfl) c_73
      refine lv_iconst (v := 1) hx hb d_Sr_signedBelowZero_76 (by decide) ?_
      refine lv_goto (tgt := 81) hx hb d_Sr_signedBelowZero_77 (by decide) ?_
      exact cRz (nI (a + 1), nI lm, f, pl) hx hb hr rfl hlocks d_Sr_signedBelowZero_81 hS hP hD (⟨g0 / 64 % 2, (a + 1), hU0.trans (pSg_E hn0 ho0 hd0), by rw [hx1]; rfl, rfl⟩) (Nat.le_refl _) (Nat.le_refl _)
