set_option maxHeartbeats 4000000 in
set_option maxRecDepth 100000 in
/-- nameInto(table, col) -/
theorem c_Sr_nameInto (l : Launch) (hl9 : l.stackTraces = false) (D : va_G) (cA : Nat → ClassId) (ad : Nat → Nat) (sz : Nat) (h0 h1 : Nat) (bs : Nat → Int32) (a lm : Nat) (f pl : Int32) (hlm : lm ≤ 2000) (hal : a ≤ lm) (t0 c0 w n len : Nat) (con : Nat → Int64) (hw : w ≤ 9) (hn : n ≤ 4000) (hnl : n * w ≤ len) (hlen : len ≤ 80000) (col : Nat) (hn1 : 1 ≤ n) (hcol : col + 1 < w) :
    cM l y_Sr_nameInto (.code y_Sr_nameInto b_Sr_nameInto 8 none :: wAll) ({ frames := 8, cells := 1, slots := 6, locals := 128 }) D cA ad [.ref h0, .ref t0, .int (nI col)] (wNT cA h0 h1 bs t0 w ((nI a, nI lm, f, pl), (c0, n, len, con))) sz (fun v u => ∃ x a2, pName (bv bs) lm a = .inr (x, a2) ∧ v = none ∧ u = ((nI a2, nI lm, f, pl), (c0, n, len, up2 con ((n - 1) * w + col) x.1 x.2))) (fun u => tP (pName (bv bs) lm a) u.1 ∧ ∃ c2, u.2 = (c0, n, len, c2)) (wNT cA h0 h1 bs t0 w) (fun _ => (0, 0)) := by
  refine cM.ofW (cc := b_Sr_nameInto) (maxL := 8) (ret := none) (by decide) (Nat.le_of_ble_eq_true rfl) ?_
  intro pg ev s m bw meth cdx A ls hF hsz hA hE hP hD hl
  obtain ⟨⟨hx, hb, hml, hown, hts⟩, hr, hno, hlocks, hin⟩ := hF
  subst hsz
  have hown : s.vm.findClass "ModuleBytes$Source" = some m.cls := hown
  have hS : va_S A s.heap s.heap [] := va_S.rf
  have hl : lv_has ls 8 [(0, .ref h0), (1, .ref t0), (2, .int (nI col))] := hl
  have hP : va_P D cls [(h0, .inr (2, [.ref h1, .int (nI a), .int (nI lm), .int f, .int pl])), (h1, .inl (cA 0, 2000, .inl bs)), (t0, .inr (0, [.int (nI w), .ref c0, .int (nI n)])), (c0, .inl (cA 1, len, .inr (.inl con)))] s.heap := hP
  have hD : va_D A [(h0, .inr (2, [.ref h1, .int (nI a), .int (nI lm), .int f, .int pl])), (h1, .inl (cA 0, 2000, .inl bs)), (t0, .inr (0, [.int (nI w), .ref c0, .int (nI n)])), (c0, .inl (cA 1, len, .inr (.inl con)))] := hD
  refine lv_aload_n hx hb d_Sr_nameInto_0 rfl (lv_at hl 0 rfl) ?_
  refine cV (As := []) (rest := []) (n := 0) (wc := [(h0, .inr (2, [.ref h1, .int (nI a), .int (nI lm), .int f, .int pl])), (h1, .inl (cA 0, 2000, .inl bs))]) (wr := [(t0, .inr (0, [.int (nI w), .ref c0, .int (nI n)])), (c0, .inl (cA 1, len, .inr (.inl con)))]) ⟨hx, hb, hml, hown, hts⟩ hno hlocks hl.1 (c_Sr_u32 l hl9 D cA ad s.heap.size h0 h1 bs a lm f pl hlm hal) iw2_50 iw2_51 iw2_52 iw1_5 iw2_53 (by decide +kernel) rfl ⟨Nat.le_of_ble_eq_true rfl, Nat.le_of_ble_eq_true rfl⟩ ⟨Nat.le_of_ble_eq_true rfl, Nat.le_of_ble_eq_true rfl⟩ rfl (Nat.le_of_ble_eq_true rfl) d_Sr_nameInto_1 hE hP hD hS hA [0, 1] [2, 3] rfl rfl rfl rfl (by decide) (ci := 2) rfl rfl 0 rfl (fun u h => ⟨(u, (c0, n, len, con)), ⟨h.mono (fun f p q => by rw [pName_T q]), con, rfl⟩, fun _ h => h.sub [2, 3, 0, 1] rfl, fun h => h.sub [2, 3, 0, 1] (by decide) rfl, Nat.le_refl _, Nat.le_refl _⟩) (fun v_1 u_1 H locs hp_1 hP hD hS => ?_)
  obtain ⟨nn, a1, hU, rfl, rfl⟩ := hp_1
  have hP : va_P D cls [(h0, .inr (2, [.ref h1, .int (nI a1), .int (nI lm), .int f, .int pl])), (h1, .inl (cA 0, 2000, .inl bs)), (t0, .inr (0, [.int (nI w), .ref c0, .int (nI n)])), (c0, .inl (cA 1, len, .inr (.inl con)))] H := hP.sub [2, 3, 0, 1] rfl
  have hD : va_D A [(h0, .inr (2, [.ref h1, .int (nI a1), .int (nI lm), .int f, .int pl])), (h1, .inl (cA 0, 2000, .inl bs)), (t0, .inr (0, [.int (nI w), .ref c0, .int (nI n)])), (c0, .inl (cA 1, len, .inr (.inl con)))] := hD.sub [2, 3, 0, 1] (by decide) rfl
  refine W.cs (cells' := 0) (slots' := 0) rfl rfl ?_
  refine W.eq (g2 := F0 m 4 ls [.long (lN nn)]) rfl ?_
  obtain ⟨hq1, hq2, hq3⟩ := pU32_ok hal hU
  refine lv_lstore_n (lv' := [(3, .long (lN nn)), (0, .ref h0), (1, .ref t0), (2, .int (nI col))]) hx hb d_Sr_nameInto_4 rfl hl (by decide) rfl (fun ls hl => ?_)
  refine lv_aload_n hx hb d_Sr_nameInto_5 rfl (lv_at hl 1 rfl) ?_
  refine va_get (D := D) (ci := 2) (v := .int (nI a1)) (C := R_Sr) (T := F_Sr) (N := 5) hx hb hts (fun w h => List.mem_cons_of_mem _ (i_Sr w h)) hown hE.1 hP 0 rfl rfl 1 (by decide) (hts _ (List.mem_cons_of_mem _ iw1_97)) (fun _ h9 => h9) rfl d_Sr_nameInto_6 ?_
  refine lv_istore (lv' := [(5, .int (nI a1)), (3, .long (lN nn)), (0, .ref h0), (1, .ref t0), (2, .int (nI col))]) hx hb d_Sr_nameInto_9 hl (by decide) rfl (fun ls hl => ?_)
  refine lv_aload_n hx hb d_Sr_nameInto_11 rfl (lv_at hl 2 rfl) ?_
  refine lv_lload_n hx hb d_Sr_nameInto_12 rfl (lv_at hl 1 rfl) ?_
  refine cV (As := [.long (lN nn)]) (rest := []) (n := 1) (wc := [(h0, .inr (2, [.ref h1, .int (nI a1), .int (nI lm), .int f, .int pl])), (h1, .inl (cA 0, 2000, .inl bs))]) (wr := [(t0, .inr (0, [.int (nI w), .ref c0, .int (nI n)])), (c0, .inl (cA 1, len, .inr (.inl con)))]) ⟨hx, hb, hml, hown, hts⟩ hno hlocks hl.1 (c_Sr_skip l hl9 D cA ad H.size h0 h1 bs a1 lm f pl hlm hq1 nn hq3) iw2_84 iw2_85 iw2_86 iw1_5 iw2_87 (by decide +kernel) rfl ⟨Nat.le_of_ble_eq_true rfl, Nat.le_of_ble_eq_true rfl⟩ ⟨Nat.le_of_ble_eq_true rfl, Nat.le_of_ble_eq_true rfl⟩ rfl (Nat.le_of_ble_eq_true rfl) d_Sr_nameInto_13 hE hP hD hS hA [0, 1] [2, 3] rfl rfl rfl rfl (by decide) (ci := 2) rfl rfl 0 rfl (fun u h => ⟨(u, (c0, n, len, con)), ⟨h.mono (fun f p q => by rw [pName_S hU q]), con, rfl⟩, fun _ h => h.sub [2, 3, 0, 1] rfl, fun h => h.sub [2, 3, 0, 1] (by decide) rfl, Nat.le_refl _, Nat.le_refl _⟩) (fun v_13 u_13 H locs hp_13 hP hD hS => ?_)
  obtain ⟨a2, hK, rfl, rfl⟩ := hp_13
  have hP : va_P D cls [(h0, .inr (2, [.ref h1, .int (nI a2), .int (nI lm), .int f, .int pl])), (h1, .inl (cA 0, 2000, .inl bs)), (t0, .inr (0, [.int (nI w), .ref c0, .int (nI n)])), (c0, .inl (cA 1, len, .inr (.inl con)))] H := hP.sub [2, 3, 0, 1] rfl
  have hD : va_D A [(h0, .inr (2, [.ref h1, .int (nI a2), .int (nI lm), .int f, .int pl])), (h1, .inl (cA 0, 2000, .inl bs)), (t0, .inr (0, [.int (nI w), .ref c0, .int (nI n)])), (c0, .inl (cA 1, len, .inr (.inl con)))] := hD.sub [2, 3, 0, 1] (by decide) rfl
  refine W.cs (cells' := 0) (slots' := 0) rfl rfl ?_
  refine W.eq (g2 := F0 m 16 ls []) rfl ?_
  obtain ⟨ha2, hk2⟩ := pSkip_ok hK
  refine lv_aload_n hx hb d_Sr_nameInto_16 rfl (lv_at hl 3 rfl) ?_
  refine lv_iload_n hx hb d_Sr_nameInto_17 rfl (lv_at hl 4 rfl) ?_
  refine lv_iload hx hb d_Sr_nameInto_18 (lv_at hl 0 rfl) ?_
  refine lv_i2l hx hb d_Sr_nameInto_20 rfl ?_
  rw [nI_l (n := a1) (by omega)]
  refine cV (As := [.int (nI col), .long (lN a1)]) (rest := []) (n := 2) (wc := [(t0, .inr (0, [.int (nI w), .ref c0, .int (nI n)])), (c0, .inl (cA 1, len, .inr (.inl con)))]) (wr := [(h0, .inr (2, [.ref h1, .int (nI a2), .int (nI lm), .int f, .int pl])), (h1, .inl (cA 0, 2000, .inl bs))]) ⟨hx, hb, hml, hown, hts⟩ hno hlocks hl.1 (c_Tb_put l hl9 D cA ad H.size t0 c0 w n len con hw hn hnl hlen col (lN a1) hn1 (by omega)) iw2_88 iw2_89 iw2_90 iw1_3 iw2_91 (by decide +kernel) rfl ⟨Nat.le_of_ble_eq_true rfl, Nat.le_of_ble_eq_true rfl⟩ ⟨Nat.le_of_ble_eq_true rfl, Nat.le_of_ble_eq_true rfl⟩ rfl (Nat.le_of_ble_eq_true rfl) d_Sr_nameInto_21 hE hP hD hS hA [2, 3] [0, 1] rfl rfl rfl rfl (by decide) (ci := 0) rfl rfl 2 rfl (fun _ h => h.elim) (fun v_21 u_21 H locs hp_21 hP hD hS => ?_)
  obtain ⟨rfl, rfl⟩ := hp_21
  have hP : va_P D cls [(h0, .inr (2, [.ref h1, .int (nI a2), .int (nI lm), .int f, .int pl])), (h1, .inl (cA 0, 2000, .inl bs)), (t0, .inr (0, [.int (nI w), .ref c0, .int (nI n)])), (c0, .inl (cA 1, len, .inr (.inl (vp_updL con ((n - 1) * w + col) (lN a1)))))] H := hP
  have hD : va_D A [(h0, .inr (2, [.ref h1, .int (nI a2), .int (nI lm), .int f, .int pl])), (h1, .inl (cA 0, 2000, .inl bs)), (t0, .inr (0, [.int (nI w), .ref c0, .int (nI n)])), (c0, .inl (cA 1, len, .inr (.inl (vp_updL con ((n - 1) * w + col) (lN a1)))))] := hD
  refine W.cs (cells' := 0) (slots' := 0) rfl rfl ?_
  refine W.eq (g2 := F0 m 24 ls []) rfl ?_
  refine lv_aload_n hx hb d_Sr_nameInto_24 rfl (lv_at hl 3 rfl) ?_
  refine lv_iload_n hx hb d_Sr_nameInto_25 rfl (lv_at hl 4 rfl) ?_
  refine lv_iconst (v := 1) hx hb d_Sr_nameInto_26 (by decide) ?_
  refine lv_iadd hx hb d_Sr_nameInto_27 ?_
  rw [show nI col + 1 = nI (col + 1) from nI_1 col]
  refine lv_lload_n hx hb d_Sr_nameInto_28 rfl (lv_at hl 1 rfl) ?_
  refine cV (As := [.int (nI (col + 1)), .long (lN nn)]) (rest := []) (n := 2) (wc := [(t0, .inr (0, [.int (nI w), .ref c0, .int (nI n)])), (c0, .inl (cA 1, len, .inr (.inl (vp_updL con ((n - 1) * w + col) (lN a1)))))]) (wr := [(h0, .inr (2, [.ref h1, .int (nI a2), .int (nI lm), .int f, .int pl])), (h1, .inl (cA 0, 2000, .inl bs))]) ⟨hx, hb, hml, hown, hts⟩ hno hlocks hl.1 (c_Tb_put l hl9 D cA ad H.size t0 c0 w n len (vp_updL con ((n - 1) * w + col) (lN a1)) hw hn hnl hlen (col + 1) (lN nn) hn1 (by omega)) iw2_88 iw2_89 iw2_90 iw1_3 iw2_91 (by decide +kernel) rfl ⟨Nat.le_of_ble_eq_true rfl, Nat.le_of_ble_eq_true rfl⟩ ⟨Nat.le_of_ble_eq_true rfl, Nat.le_of_ble_eq_true rfl⟩ rfl (Nat.le_of_ble_eq_true rfl) d_Sr_nameInto_29 hE hP hD hS hA [2, 3] [0, 1] rfl rfl rfl rfl (by decide) (ci := 0) rfl rfl 2 rfl (fun _ h => h.elim) (fun v_29 u_29 H locs hp_29 hP hD hS => ?_)
  obtain ⟨rfl, rfl⟩ := hp_29
  have hP : va_P D cls [(h0, .inr (2, [.ref h1, .int (nI a2), .int (nI lm), .int f, .int pl])), (h1, .inl (cA 0, 2000, .inl bs)), (t0, .inr (0, [.int (nI w), .ref c0, .int (nI n)])), (c0, .inl (cA 1, len, .inr (.inl (vp_updL (vp_updL con ((n - 1) * w + col) (lN a1)) ((n - 1) * w + (col + 1)) (lN nn)))))] H := hP
  have hD : va_D A [(h0, .inr (2, [.ref h1, .int (nI a2), .int (nI lm), .int f, .int pl])), (h1, .inl (cA 0, 2000, .inl bs)), (t0, .inr (0, [.int (nI w), .ref c0, .int (nI n)])), (c0, .inl (cA 1, len, .inr (.inl (vp_updL (vp_updL con ((n - 1) * w + col) (lN a1)) ((n - 1) * w + (col + 1)) (lN nn)))))] := hD
  refine W.cs (cells' := 0) (slots' := 0) rfl rfl ?_
  refine W.eq (g2 := F0 m 32 ls []) rfl ?_
  refine lv_iconst (v := 0) hx hb d_Sr_nameInto_32 (by decide) ?_
  refine lv_istore (lv' := [(6, .int 0), (5, .int (nI a1)), (3, .long (lN nn)), (0, .ref h0), (1, .ref t0), (2, .int (nI col))]) hx hb d_Sr_nameInto_33 hl (by decide) rfl (fun ls hl => ?_)
  refine lv_iload hx hb d_Sr_nameInto_35 (lv_at hl 1 rfl) ?_
  refine lv_istore (lv' := [(7, .int (nI a1)), (6, .int 0), (5, .int (nI a1)), (3, .long (lN nn)), (0, .ref h0), (1, .ref t0), (2, .int (nI col))]) hx hb d_Sr_nameInto_37 hl (by decide) rfl (fun ls hl => ?_)
  obtain ⟨con2, hcon2⟩ : ∃ z : Nat → Int64, z = vp_updL (vp_updL con ((n - 1) * w + col) (lN a1)) ((n - 1) * w + (col + 1)) (lN nn) := ⟨_, rfl⟩
  rw [← hcon2] at hP hD
  have hup : con2 = up2 con ((n - 1) * w + col) a1 nn := by rw [hcon2]; rfl
  have key : ∀ (k q : Nat) (x6 : Int32) (H : Heap) (locs : List Loc) (ls : Array Slot), a2 ≤ q + k → q ≤ a2 + 4 → pChars (bv bs) a2 nn a1 = pChars (bv bs) a2 k q → va_P D cls [(h0, .inr (2, [.ref h1, .int (nI a2), .int (nI lm), .int f, .int pl])), (h1, .inl (cA 0, 2000, .inl bs)), (t0, .inr (0, [.int (nI w), .ref c0, .int (nI n)])), (c0, .inl (cA 1, len, .inr (.inl con2)))] H → va_D A [(h0, .inr (2, [.ref h1, .int (nI a2), .int (nI lm), .int f, .int pl])), (h1, .inl (cA 0, 2000, .inl bs)), (t0, .inr (0, [.int (nI w), .ref c0, .int (nI n)])), (c0, .inl (cA 1, len, .inr (.inl con2)))] → va_S A s.heap H locs → lv_has ls 8 [(0, .ref h0), (1, .ref t0), (2, .int (nI col)), (3, .long (lN nn)), (5, .int (nI a1)), (6, .int x6), (7, .int (nI q))] → W pg l ev ({ frames := 8, cells := 1, slots := 6, locals := 128 }) s m ([.ref h0, .ref t0, .int (nI col)] : List Value).toArray bw meth cdx H locs 0 0 (tx_Q bw (cQ D (fun v u => ∃ x a2, pName (bv bs) lm a = .inr (x, a2) ∧ v = none ∧ u = ((nI a2, nI lm, f, pl), (c0, n, len, up2 con ((n - 1) * w + col) x.1 x.2))) (fun u => tP (pName (bv bs) lm a) u.1 ∧ ∃ c2, u.2 = (c0, n, len, c2)) (wNT cA h0 h1 bs t0 w) (fun _ => (0, 0)) A) ([.ref h0, .ref t0, .int (nI col)] : List Value).toArray s A) (F0 m 39 ls []) := by
    intro k
    induction k with
    | zero =>
      intro q x6 H locs ls hqk hq4 hch hP hD hS hl
      refine lv_iload hx hb d_Sr_nameInto_39 (lv_at hl 6 rfl) ?_
      refine lv_aload_n hx hb d_Sr_nameInto_41 rfl (lv_at hl 0 rfl) ?_
      refine va_get (D := D) (ci := 2) (v := .int (nI a2)) (C := R_Sr) (T := F_Sr) (N := 5) hx hb hts (fun w h => List.mem_cons_of_mem _ (i_Sr w h)) hown hE.1 hP 0 rfl rfl 1 (by decide) (hts _ (List.mem_cons_of_mem _ iw1_97)) (fun _ h9 => h9) rfl d_Sr_nameInto_42 ?_
      refine lv_icmp_ge (tgt := 80) hx hb d_Sr_nameInto_45 (by decide) (fun c_45 => ?_) (fun c_45 => absurd (nI_le (by omega) (by omega)) c_45)
      have hlt : ¬ q < a2 := Nat.not_lt.mpr ((nI_leI (by omega) (by omega)).mp c_45)
      exact cRv ((nI a2, nI lm, f, pl), (c0, n, len, con2)) hx hb hr hlocks d_Sr_nameInto_80 hS hP hD (⟨(a1, nn), a2, pName_E hU hK (hch.trans (pChars_end _ hlt)), rfl, by rw [hup]⟩) (Nat.le_refl _) (Nat.le_refl _)
    | succ k ih =>
      intro q x6 H locs ls hqk hq4 hch hP hD hS hl
      refine lv_iload hx hb d_Sr_nameInto_39 (lv_at hl 6 rfl) ?_
      refine lv_aload_n hx hb d_Sr_nameInto_41 rfl (lv_at hl 0 rfl) ?_
      refine va_get (D := D) (ci := 2) (v := .int (nI a2)) (C := R_Sr) (T := F_Sr) (N := 5) hx hb hts (fun w h => List.mem_cons_of_mem _ (i_Sr w h)) hown hE.1 hP 0 rfl rfl 1 (by decide) (hts _ (List.mem_cons_of_mem _ iw1_97)) (fun _ h9 => h9) rfl d_Sr_nameInto_42 ?_
      refine lv_icmp_ge (tgt := 80) hx hb d_Sr_nameInto_45 (by decide) (fun c_45 => ?_) (fun c_45 => ?_)
      · have hlt : ¬ q < a2 := Nat.not_lt.mpr ((nI_leI (by omega) (by omega)).mp c_45)
        exact cRv ((nI a2, nI lm, f, pl), (c0, n, len, con2)) hx hb hr hlocks d_Sr_nameInto_80 hS hP hD (⟨(a1, nn), a2, pName_E hU hK (hch.trans (pChars_end _ hlt)), rfl, by rw [hup]⟩) (Nat.le_refl _) (Nat.le_refl _)
      · have hlt : q < a2 := Nat.lt_of_not_le (fun z => c_45 (nI_le z (by omega)))
        refine lv_aload_n hx hb d_Sr_nameInto_48 rfl (lv_at hl 0 rfl) ?_
        refine lv_iload hx hb d_Sr_nameInto_49 (lv_at hl 6 rfl) ?_
        refine cV (As := [.int (nI q)]) (rest := []) (n := 1) (wc := [(h0, .inr (2, [.ref h1, .int (nI a2), .int (nI lm), .int f, .int pl])), (h1, .inl (cA 0, 2000, .inl bs))]) (wr := [(t0, .inr (0, [.int (nI w), .ref c0, .int (nI n)])), (c0, .inl (cA 1, len, .inr (.inl con2)))]) ⟨hx, hb, hml, hown, hts⟩ hno hlocks hl.1 (c_Sr_characterSize l hl9 D cA ad H.size h0 h1 bs a2 q (nI lm) f pl (by omega) hlt) iw2_92 iw2_94 sel_Sr_characterSize iw1_5 iw2_95 (by decide +kernel) rfl ⟨Nat.le_of_ble_eq_true rfl, Nat.le_of_ble_eq_true rfl⟩ ⟨Nat.le_of_ble_eq_true rfl, Nat.le_of_ble_eq_true rfl⟩ rfl (Nat.le_of_ble_eq_true rfl) d_Sr_nameInto_51 hE hP hD hS hA [0, 1] [2, 3] rfl rfl rfl rfl (by decide) (ci := 2) rfl rfl 0 rfl (fun _ h => h.elim) (fun v_51 u_51 H locs hp_51 hP hD hS => ?_)
        obtain ⟨rfl, rfl⟩ := hp_51
        have hP : va_P D cls [(h0, .inr (2, [.ref h1, .int (nI a2), .int (nI lm), .int f, .int pl])), (h1, .inl (cA 0, 2000, .inl bs)), (t0, .inr (0, [.int (nI w), .ref c0, .int (nI n)])), (c0, .inl (cA 1, len, .inr (.inl con2)))] H := hP.sub [2, 3, 0, 1] rfl
        have hD : va_D A [(h0, .inr (2, [.ref h1, .int (nI a2), .int (nI lm), .int f, .int pl])), (h1, .inl (cA 0, 2000, .inl bs)), (t0, .inr (0, [.int (nI w), .ref c0, .int (nI n)])), (c0, .inl (cA 1, len, .inr (.inl con2)))] := hD.sub [2, 3, 0, 1] (by decide) rfl
        refine W.cs (cells' := 0) (slots' := 0) rfl rfl ?_
        refine W.eq (g2 := F0 m 54 ls [.int (nI (pChar (bv bs) a2 q))]) rfl ?_
        have hc4 := pChar_lt (bv bs) a2 q
        refine lv_istore (lv' := [(6, .int (nI (pChar (bv bs) a2 q))), (0, .ref h0), (1, .ref t0), (2, .int (nI col)), (3, .long (lN nn)), (5, .int (nI a1)), (7, .int (nI q))]) hx hb d_Sr_nameInto_54 hl (by decide) rfl (fun ls hl => ?_)
        refine lv_iload hx hb d_Sr_nameInto_56 (lv_at hl 0 rfl) ?_
        refine lv_if_gt (tgt := 70) hx hb d_Sr_nameInto_58 (by decide) (fun c_58 => ?_) (fun c_58 => ?_)
        · refine lv_iload hx hb d_Sr_nameInto_70 (lv_at hl 6 rfl) ?_
          refine lv_iload hx hb d_Sr_nameInto_72 (lv_at hl 0 rfl) ?_
          refine lv_iadd hx hb d_Sr_nameInto_74 ?_
          refine lv_istore (lv' := [(7, .int ((nI q) + (nI (pChar (bv bs) a2 q)))), (6, .int (nI (pChar (bv bs) a2 q))), (0, .ref h0), (1, .ref t0), (2, .int (nI col)), (3, .long (lN nn)), (5, .int (nI a1))]) hx hb d_Sr_nameInto_75 hl (by decide) rfl (fun ls hl => ?_)
          refine lv_goto (tgt := 39) hx hb d_Sr_nameInto_77 (by decide) ?_
          have hz : ¬ pChar (bv bs) a2 q = 0 := fun z => by rw [z] at c_58; exact absurd c_58 (by decide)
          rw [nI_add] at hl
          exact ih (q + pChar (bv bs) a2 q) _ H locs ls (by omega) (by omega) (hch.trans (pChars_go hlt hz)) hP hD hS (lv_sub hl [2, 3, 4, 5, 6, 1, 0] rfl)
        · refine lv_aload_n hx hb d_Sr_nameInto_61 rfl (lv_at hl 1 rfl) ?_
          refine lv_bipush (v := 9) hx hb d_Sr_nameInto_62 (by decide) ?_
          refine lv_iload hx hb d_Sr_nameInto_64 (lv_at hl 6 rfl) ?_
          have hz : pChar (bv bs) a2 q = 0 := Nat.eq_zero_of_not_pos (fun z => c_58 (nI_lt (a := 0) z (by omega)))
          refine cV (As := [.int 9, .int (nI q)]) (rest := []) (n := 2) (wc := [(h0, .inr (2, [.ref h1, .int (nI a2), .int (nI lm), .int f, .int pl])), (h1, .inl (cA 0, 2000, .inl bs))]) (wr := [(t0, .inr (0, [.int (nI w), .ref c0, .int (nI n)])), (c0, .inl (cA 1, len, .inr (.inl con2)))]) ⟨hx, hb, hml, hown, hts⟩ hno hlocks hl.1 (c_Sr_fail l hl9 D cA ad H.size h0 h1 bs (nI a2) (nI lm) f pl 9 (nI q)) iw2_55 iw2_36 iw2_37 iw1_5 iw2_38 (by decide +kernel) rfl ⟨Nat.le_of_ble_eq_true rfl, Nat.le_of_ble_eq_true rfl⟩ ⟨Nat.le_of_ble_eq_true rfl, Nat.le_of_ble_eq_true rfl⟩ rfl (Nat.le_of_ble_eq_true rfl) d_Sr_nameInto_66 hE hP hD hS hA [0, 1] [2, 3] rfl rfl rfl rfl (by decide) (ci := 2) rfl rfl 0 rfl (fun u h => ⟨(u, (c0, n, len, con2)), ⟨⟨9, q, pName_F hU hK (hch.trans (pChars_bad hlt hz)), by rw [h] <;> rfl, by rw [h]⟩, con2, rfl⟩, fun _ h => h.sub [2, 3, 0, 1] rfl, fun h => h.sub [2, 3, 0, 1] (by decide) rfl, Nat.le_refl _, Nat.le_refl _⟩) (fun v_66 u_66 H locs hp_66 hP hD hS => ?_)
          exact hp_66.elim
  exact key nn a1 _ H _ ls (by omega) (by omega) rfl hP hD hS (lv_sub hl [4, 5, 6, 3, 2, 1, 0] rfl)
