set_option maxHeartbeats 4000000 in
set_option maxRecDepth 100000 in
/-- readLimits(table) -/
theorem c_Mr_readLimits (l : Launch) (hl9 : l.stackTraces = false) (D : va_G) (cA : Nat → ClassId) (ad : Nat → Nat) (sz : Nat) (r0 x0 k0 h0 h1 : Nat) (bs : Nat → Int32) (rk : Int32) (a lm : Nat) (f pl : Int32) (hlm : lm ≤ 2000) (hal : a ≤ lm) (t0 c0 w n len : Nat) (con con0 cols : Nat → Int64) (hw : w ≤ 9) (hn : n ≤ 4000) (hnl : n * w ≤ len) (hlen : len ≤ 80000) (hn1 : 1 ≤ n) (hw4 : 4 ≤ w) (hR : RC con0 ((n - 1) * w) w con cols) :
    cM l y_Mr_readLimits (.code y_Mr_readLimits b_Mr_readLimits 3 none :: wAll) ({ frames := 8, cells := 1, slots := 6, locals := 128 }) D cA ad [.ref r0, .ref t0] (wM5 cA r0 x0 k0 h0 h1 bs rk t0 w ((nI a, nI lm, f, pl), (c0, n, len, con))) sz (fun v u => ∃ z a2 c2, pLim (bv bs) lm cols a = .inr (z, a2) ∧ v = none ∧ u = ((nI a2, nI lm, f, pl), (c0, n, len, c2)) ∧ RC con0 ((n - 1) * w) w c2 z) (fun u => tP (pLim (bv bs) lm cols a) u.1 ∧ ∃ c2, u.2 = (c0, n, len, c2)) (wM5 cA r0 x0 k0 h0 h1 bs rk t0 w) (fun _ => (0, 0)) := by
  refine cM.ofW (cc := b_Mr_readLimits) (maxL := 3) (ret := none) (by decide) (Nat.le_of_ble_eq_true rfl) ?_
  intro pg ev s m bw meth cdx A ls hF hsz hA hE hP hD hl
  obtain ⟨⟨hx, hb, hml, hown, hts⟩, hr, hno, hlocks, hin⟩ := hF
  subst hsz
  have hown : s.vm.findClass "ModuleBytes$ModuleReader" = some m.cls := hown
  have hS : va_S A s.heap s.heap [] := va_S.rf
  have hl : lv_has ls 3 [(0, .ref r0), (1, .ref t0)] := hl
  have hP : va_P D cls [(r0, .inr (4, [.ref h0, .ref x0, .ref k0, .int rk])), (h0, .inr (2, [.ref h1, .int (nI a), .int (nI lm), .int f, .int pl])), (h1, .inl (cA 0, 2000, .inl bs)), (t0, .inr (0, [.int (nI w), .ref c0, .int (nI n)])), (c0, .inl (cA 1, len, .inr (.inl con)))] s.heap := hP
  have hD : va_D A [(r0, .inr (4, [.ref h0, .ref x0, .ref k0, .int rk])), (h0, .inr (2, [.ref h1, .int (nI a), .int (nI lm), .int f, .int pl])), (h1, .inl (cA 0, 2000, .inl bs)), (t0, .inr (0, [.int (nI w), .ref c0, .int (nI n)])), (c0, .inl (cA 1, len, .inr (.inl con)))] := hD
  refine lv_aload_n hx hb d_Mr_readLimits_0 rfl (lv_at hl 0 rfl) ?_
  refine va_get (D := D) (ci := 4) (v := .ref h0) (C := R_Mr) (T := F_Mr) (N := 4) hx hb hts (fun w h => List.mem_cons_of_mem _ (i_Mr w h)) hown hE.1 hP 0 rfl rfl 0 (by decide) (hts _ (List.mem_cons_of_mem _ iw1_138)) (fun _ h9 => h9) rfl d_Mr_readLimits_1 ?_
  refine lv_iconst (v := 1) hx hb d_Mr_readLimits_4 (by decide) ?_
  refine cV (As := [.int 1]) (rest := []) (n := 1) (wc := [(h0, .inr (2, [.ref h1, .int (nI a), .int (nI lm), .int f, .int pl])), (h1, .inl (cA 0, 2000, .inl bs))]) (wr := [(r0, .inr (4, [.ref h0, .ref x0, .ref k0, .int rk])), (t0, .inr (0, [.int (nI w), .ref c0, .int (nI n)])), (c0, .inl (cA 1, len, .inr (.inl con)))]) ⟨hx, hb, hml, hown, hts⟩ hno hlocks hl.1 (c_Sr_choice l hl9 D cA ad s.heap.size h0 h1 bs a lm f pl hlm (by omega) 1 (by decide)) iw2_128 iw2_129 iw2_130 iw1_5 iw2_131 (by decide +kernel) rfl ⟨Nat.le_of_ble_eq_true rfl, Nat.le_of_ble_eq_true rfl⟩ ⟨Nat.le_of_ble_eq_true rfl, Nat.le_of_ble_eq_true rfl⟩ rfl (Nat.le_of_ble_eq_true rfl) d_Mr_readLimits_5 hE hP hD hS hA [1, 2] [0, 3, 4] rfl rfl rfl rfl (by decide) (ci := 2) rfl rfl 1 rfl (fun u h => ⟨(u, (c0, n, len, con)), ⟨h.mono (fun f p q => by rw [pLim, bnd_T q]), con, rfl⟩, fun _ h => h.sub [0, 3, 4, 1, 2] rfl, fun h => h.sub [0, 3, 4, 1, 2] (by decide) rfl, Nat.le_refl _, Nat.le_refl _⟩) (fun v_5 u_5 H locs hp_5 hP hD hS => ?_)
  obtain ⟨v0, a0_, hn0, rfl, rfl⟩ := hp_5
  have hP : va_P D cls [(r0, .inr (4, [.ref h0, .ref x0, .ref k0, .int rk])), (h0, .inr (2, [.ref h1, .int (nI a0_), .int (nI lm), .int f, .int pl])), (h1, .inl (cA 0, 2000, .inl bs)), (t0, .inr (0, [.int (nI w), .ref c0, .int (nI n)])), (c0, .inl (cA 1, len, .inr (.inl con)))] H := hP.sub [0, 3, 4, 1, 2] rfl
  have hD : va_D A [(r0, .inr (4, [.ref h0, .ref x0, .ref k0, .int rk])), (h0, .inr (2, [.ref h1, .int (nI a0_), .int (nI lm), .int f, .int pl])), (h1, .inl (cA 0, 2000, .inl bs)), (t0, .inr (0, [.int (nI w), .ref c0, .int (nI n)])), (c0, .inl (cA 1, len, .inr (.inl con)))] := hD.sub [0, 3, 4, 1, 2] (by decide) rfl
  refine W.cs (cells' := 0) (slots' := 0) rfl rfl ?_
  refine W.eq (g2 := F0 m 8 ls [.int (nI v0)]) rfl ?_
  have ho0 := pChoice_ok hn0
  refine lv_iconst (v := 1) hx hb d_Mr_readLimits_8 (by decide) ?_
  refine lv_icmp_ne (tgt := 16) hx hb d_Mr_readLimits_9 (by decide) (fun c_9 => ?_) (fun c_9 => ?_)
  · have hg1 : ¬ v0 = 1 := fun q => c_9 (congrArg nI q)
    refine lv_iconst (v := 0) hx hb d_Mr_readLimits_16 (by decide) ?_
    refine lv_istore_n (lv' := [(2, .int 0), (0, .ref r0), (1, .ref t0)]) hx hb d_Mr_readLimits_17 rfl hl (by decide) rfl (fun ls hl => ?_)
    refine lv_aload_n hx hb d_Mr_readLimits_18 rfl (lv_at hl 2 rfl) ?_
    refine lv_iconst (v := 2) hx hb d_Mr_readLimits_19 (by decide) ?_
    refine lv_aload_n hx hb d_Mr_readLimits_20 rfl (lv_at hl 1 rfl) ?_
    refine va_get (D := D) (ci := 4) (v := .ref h0) (C := R_Mr) (T := F_Mr) (N := 4) hx hb hts (fun w h => List.mem_cons_of_mem _ (i_Mr w h)) hown hE.1 hP 0 rfl rfl 0 (by decide) (hts _ (List.mem_cons_of_mem _ iw1_138)) (fun _ h9 => h9) rfl d_Mr_readLimits_21 ?_
    refine cV (As := []) (rest := [.int 2, .ref t0]) (n := 0) (wc := [(h0, .inr (2, [.ref h1, .int (nI a0_), .int (nI lm), .int f, .int pl])), (h1, .inl (cA 0, 2000, .inl bs))]) (wr := [(r0, .inr (4, [.ref h0, .ref x0, .ref k0, .int rk])), (t0, .inr (0, [.int (nI w), .ref c0, .int (nI n)])), (c0, .inl (cA 1, len, .inr (.inl con)))]) ⟨hx, hb, hml, hown, hts⟩ hno hlocks hl.1 (c_Sr_u32 l hl9 D cA ad H.size h0 h1 bs a0_ lm f pl hlm (by omega)) iw2_104 iw2_51 iw2_52 iw1_5 iw2_53 (by decide +kernel) rfl ⟨Nat.le_of_ble_eq_true rfl, Nat.le_of_ble_eq_true rfl⟩ ⟨Nat.le_of_ble_eq_true rfl, Nat.le_of_ble_eq_true rfl⟩ rfl (Nat.le_of_ble_eq_true rfl) d_Mr_readLimits_24 hE hP hD hS hA [1, 2] [0, 3, 4] rfl rfl rfl rfl (by decide) (ci := 2) rfl rfl 1 rfl (fun u h => ⟨(u, (c0, n, len, con)), ⟨h.mono (fun f p q => by rw [pLim, bnd_E hn0, bnd_T q]), con, rfl⟩, fun _ h => h.sub [0, 3, 4, 1, 2] rfl, fun h => h.sub [0, 3, 4, 1, 2] (by decide) rfl, Nat.le_refl _, Nat.le_refl _⟩) (fun v_24 u_24 H locs hp_24 hP hD hS => ?_)
    obtain ⟨v1, a1_, hn1, rfl, rfl⟩ := hp_24
    have hP : va_P D cls [(r0, .inr (4, [.ref h0, .ref x0, .ref k0, .int rk])), (h0, .inr (2, [.ref h1, .int (nI a1_), .int (nI lm), .int f, .int pl])), (h1, .inl (cA 0, 2000, .inl bs)), (t0, .inr (0, [.int (nI w), .ref c0, .int (nI n)])), (c0, .inl (cA 1, len, .inr (.inl con)))] H := hP.sub [0, 3, 4, 1, 2] rfl
    have hD : va_D A [(r0, .inr (4, [.ref h0, .ref x0, .ref k0, .int rk])), (h0, .inr (2, [.ref h1, .int (nI a1_), .int (nI lm), .int f, .int pl])), (h1, .inl (cA 0, 2000, .inl bs)), (t0, .inr (0, [.int (nI w), .ref c0, .int (nI n)])), (c0, .inl (cA 1, len, .inr (.inl con)))] := hD.sub [0, 3, 4, 1, 2] (by decide) rfl
    refine W.cs (cells' := 0) (slots' := 0) rfl rfl ?_
    refine W.eq (g2 := F0 m 27 ls [.long (lN v1), .int 2, .ref t0]) rfl ?_
    have ho1 := pU32_ok (by omega) hn1
    refine cV (As := [.int 2, .long (lN v1)]) (rest := []) (n := 2) (wc := [(t0, .inr (0, [.int (nI w), .ref c0, .int (nI n)])), (c0, .inl (cA 1, len, .inr (.inl con)))]) (wr := [(r0, .inr (4, [.ref h0, .ref x0, .ref k0, .int rk])), (h0, .inr (2, [.ref h1, .int (nI a1_), .int (nI lm), .int f, .int pl])), (h1, .inl (cA 0, 2000, .inl bs))]) ⟨hx, hb, hml, hown, hts⟩ hno hlocks hl.1 (c_Tb_put l hl9 D cA ad H.size t0 c0 w n len con (by omega) (by omega) hnl (by omega) 2 (lN v1) (by omega) (by omega)) iw2_103 iw2_89 iw2_90 iw1_3 iw2_91 (by decide +kernel) rfl ⟨Nat.le_of_ble_eq_true rfl, Nat.le_of_ble_eq_true rfl⟩ ⟨Nat.le_of_ble_eq_true rfl, Nat.le_of_ble_eq_true rfl⟩ rfl (Nat.le_of_ble_eq_true rfl) d_Mr_readLimits_27 hE hP hD hS hA [3, 4] [0, 1, 2] rfl rfl rfl rfl (by decide) (ci := 0) rfl rfl 3 rfl (fun _ h => h.elim) (fun v_27 u_27 H locs hp_27 hP hD hS => ?_)
    obtain ⟨rfl, rfl⟩ := hp_27
    have hP : va_P D cls [(r0, .inr (4, [.ref h0, .ref x0, .ref k0, .int rk])), (h0, .inr (2, [.ref h1, .int (nI a1_), .int (nI lm), .int f, .int pl])), (h1, .inl (cA 0, 2000, .inl bs)), (t0, .inr (0, [.int (nI w), .ref c0, .int (nI n)])), (c0, .inl (cA 1, len, .inr (.inl (vp_updL con ((n - 1) * w + 2) (lN v1)))))] H := hP
    have hD : va_D A [(r0, .inr (4, [.ref h0, .ref x0, .ref k0, .int rk])), (h0, .inr (2, [.ref h1, .int (nI a1_), .int (nI lm), .int f, .int pl])), (h1, .inl (cA 0, 2000, .inl bs)), (t0, .inr (0, [.int (nI w), .ref c0, .int (nI n)])), (c0, .inl (cA 1, len, .inr (.inl (vp_updL con ((n - 1) * w + 2) (lN v1)))))] := hD
    refine W.cs (cells' := 0) (slots' := 0) rfl rfl ?_
    refine W.eq (g2 := F0 m 30 ls []) rfl ?_
    obtain ⟨cq2, hcq2⟩ : ∃ z : Nat → Int64, z = vp_updL con ((n - 1) * w + 2) (lN v1) := ⟨_, rfl⟩
    rw [← hcq2] at hP hD
    have hR2 : RC con0 ((n - 1) * w) w cq2 (vp_updL cols 2 (lN v1)) := by rw [hcq2]; exact hR.put 2 (lN v1) (by omega)
    refine lv_iload_n hx hb d_Mr_readLimits_30 rfl (lv_at hl 0 rfl) ?_
    refine lv_if_eq (tgt := 46) hx hb d_Mr_readLimits_31 (by decide) (fun c_31 => ?_) (fun c_31 => absurd (by decide) c_31)
    exact cRv ((nI a1_, nI lm, f, pl), (c0, n, len, cq2)) hx hb hr hlocks d_Mr_readLimits_46 hS hP hD (⟨_, a1_, cq2, by rw [pLim, bnd_E hn0, bnd_E hn1, if_neg hg1], rfl, rfl, hR2⟩) (Nat.le_refl _) (Nat.le_refl _)
  · have hg1 : v0 = 1 := nI_lit_eq (k := 1) (by omega) (by omega) c_9
    refine lv_iconst (v := 1) hx hb d_Mr_readLimits_12 (by decide) ?_
    refine lv_goto (tgt := 17) hx hb d_Mr_readLimits_13 (by decide) ?_
    refine lv_istore_n (lv' := [(2, .int 1), (0, .ref r0), (1, .ref t0)]) hx hb d_Mr_readLimits_17 rfl hl (by decide) rfl (fun ls hl => ?_)
    refine lv_aload_n hx hb d_Mr_readLimits_18 rfl (lv_at hl 2 rfl) ?_
    refine lv_iconst (v := 2) hx hb d_Mr_readLimits_19 (by decide) ?_
    refine lv_aload_n hx hb d_Mr_readLimits_20 rfl (lv_at hl 1 rfl) ?_
    refine va_get (D := D) (ci := 4) (v := .ref h0) (C := R_Mr) (T := F_Mr) (N := 4) hx hb hts (fun w h => List.mem_cons_of_mem _ (i_Mr w h)) hown hE.1 hP 0 rfl rfl 0 (by decide) (hts _ (List.mem_cons_of_mem _ iw1_138)) (fun _ h9 => h9) rfl d_Mr_readLimits_21 ?_
    refine cV (As := []) (rest := [.int 2, .ref t0]) (n := 0) (wc := [(h0, .inr (2, [.ref h1, .int (nI a0_), .int (nI lm), .int f, .int pl])), (h1, .inl (cA 0, 2000, .inl bs))]) (wr := [(r0, .inr (4, [.ref h0, .ref x0, .ref k0, .int rk])), (t0, .inr (0, [.int (nI w), .ref c0, .int (nI n)])), (c0, .inl (cA 1, len, .inr (.inl con)))]) ⟨hx, hb, hml, hown, hts⟩ hno hlocks hl.1 (c_Sr_u32 l hl9 D cA ad H.size h0 h1 bs a0_ lm f pl hlm (by omega)) iw2_104 iw2_51 iw2_52 iw1_5 iw2_53 (by decide +kernel) rfl ⟨Nat.le_of_ble_eq_true rfl, Nat.le_of_ble_eq_true rfl⟩ ⟨Nat.le_of_ble_eq_true rfl, Nat.le_of_ble_eq_true rfl⟩ rfl (Nat.le_of_ble_eq_true rfl) d_Mr_readLimits_24 hE hP hD hS hA [1, 2] [0, 3, 4] rfl rfl rfl rfl (by decide) (ci := 2) rfl rfl 1 rfl (fun u h => ⟨(u, (c0, n, len, con)), ⟨h.mono (fun f p q => by rw [pLim, bnd_E hn0, bnd_T q]), con, rfl⟩, fun _ h => h.sub [0, 3, 4, 1, 2] rfl, fun h => h.sub [0, 3, 4, 1, 2] (by decide) rfl, Nat.le_refl _, Nat.le_refl _⟩) (fun v_24 u_24 H locs hp_24 hP hD hS => ?_)
    obtain ⟨v1, a1_, hn1, rfl, rfl⟩ := hp_24
    have hP : va_P D cls [(r0, .inr (4, [.ref h0, .ref x0, .ref k0, .int rk])), (h0, .inr (2, [.ref h1, .int (nI a1_), .int (nI lm), .int f, .int pl])), (h1, .inl (cA 0, 2000, .inl bs)), (t0, .inr (0, [.int (nI w), .ref c0, .int (nI n)])), (c0, .inl (cA 1, len, .inr (.inl con)))] H := hP.sub [0, 3, 4, 1, 2] rfl
    have hD : va_D A [(r0, .inr (4, [.ref h0, .ref x0, .ref k0, .int rk])), (h0, .inr (2, [.ref h1, .int (nI a1_), .int (nI lm), .int f, .int pl])), (h1, .inl (cA 0, 2000, .inl bs)), (t0, .inr (0, [.int (nI w), .ref c0, .int (nI n)])), (c0, .inl (cA 1, len, .inr (.inl con)))] := hD.sub [0, 3, 4, 1, 2] (by decide) rfl
    refine W.cs (cells' := 0) (slots' := 0) rfl rfl ?_
    refine W.eq (g2 := F0 m 27 ls [.long (lN v1), .int 2, .ref t0]) rfl ?_
    have ho1 := pU32_ok (by omega) hn1
    refine cV (As := [.int 2, .long (lN v1)]) (rest := []) (n := 2) (wc := [(t0, .inr (0, [.int (nI w), .ref c0, .int (nI n)])), (c0, .inl (cA 1, len, .inr (.inl con)))]) (wr := [(r0, .inr (4, [.ref h0, .ref x0, .ref k0, .int rk])), (h0, .inr (2, [.ref h1, .int (nI a1_), .int (nI lm), .int f, .int pl])), (h1, .inl (cA 0, 2000, .inl bs))]) ⟨hx, hb, hml, hown, hts⟩ hno hlocks hl.1 (c_Tb_put l hl9 D cA ad H.size t0 c0 w n len con (by omega) (by omega) hnl (by omega) 2 (lN v1) (by omega) (by omega)) iw2_103 iw2_89 iw2_90 iw1_3 iw2_91 (by decide +kernel) rfl ⟨Nat.le_of_ble_eq_true rfl, Nat.le_of_ble_eq_true rfl⟩ ⟨Nat.le_of_ble_eq_true rfl, Nat.le_of_ble_eq_true rfl⟩ rfl (Nat.le_of_ble_eq_true rfl) d_Mr_readLimits_27 hE hP hD hS hA [3, 4] [0, 1, 2] rfl rfl rfl rfl (by decide) (ci := 0) rfl rfl 3 rfl (fun _ h => h.elim) (fun v_27 u_27 H locs hp_27 hP hD hS => ?_)
    obtain ⟨rfl, rfl⟩ := hp_27
    have hP : va_P D cls [(r0, .inr (4, [.ref h0, .ref x0, .ref k0, .int rk])), (h0, .inr (2, [.ref h1, .int (nI a1_), .int (nI lm), .int f, .int pl])), (h1, .inl (cA 0, 2000, .inl bs)), (t0, .inr (0, [.int (nI w), .ref c0, .int (nI n)])), (c0, .inl (cA 1, len, .inr (.inl (vp_updL con ((n - 1) * w + 2) (lN v1)))))] H := hP
    have hD : va_D A [(r0, .inr (4, [.ref h0, .ref x0, .ref k0, .int rk])), (h0, .inr (2, [.ref h1, .int (nI a1_), .int (nI lm), .int f, .int pl])), (h1, .inl (cA 0, 2000, .inl bs)), (t0, .inr (0, [.int (nI w), .ref c0, .int (nI n)])), (c0, .inl (cA 1, len, .inr (.inl (vp_updL con ((n - 1) * w + 2) (lN v1)))))] := hD
    refine W.cs (cells' := 0) (slots' := 0) rfl rfl ?_
    refine W.eq (g2 := F0 m 30 ls []) rfl ?_
    obtain ⟨cq2, hcq2⟩ : ∃ z : Nat → Int64, z = vp_updL con ((n - 1) * w + 2) (lN v1) := ⟨_, rfl⟩
    rw [← hcq2] at hP hD
    have hR2 : RC con0 ((n - 1) * w) w cq2 (vp_updL cols 2 (lN v1)) := by rw [hcq2]; exact hR.put 2 (lN v1) (by omega)
    refine lv_iload_n hx hb d_Mr_readLimits_30 rfl (lv_at hl 0 rfl) ?_
    refine lv_if_eq (tgt := 46) hx hb d_Mr_readLimits_31 (by decide) (fun c_31 => absurd c_31 (by decide)) (fun c_31 => ?_)
    refine lv_aload_n hx hb d_Mr_readLimits_34 rfl (lv_at hl 2 rfl) ?_
    refine lv_iconst (v := 3) hx hb d_Mr_readLimits_35 (by decide) ?_
    refine lv_aload_n hx hb d_Mr_readLimits_36 rfl (lv_at hl 1 rfl) ?_
    refine va_get (D := D) (ci := 4) (v := .ref h0) (C := R_Mr) (T := F_Mr) (N := 4) hx hb hts (fun w h => List.mem_cons_of_mem _ (i_Mr w h)) hown hE.1 hP 0 rfl rfl 0 (by decide) (hts _ (List.mem_cons_of_mem _ iw1_138)) (fun _ h9 => h9) rfl d_Mr_readLimits_37 ?_
    refine cV (As := []) (rest := [.int 3, .ref t0]) (n := 0) (wc := [(h0, .inr (2, [.ref h1, .int (nI a1_), .int (nI lm), .int f, .int pl])), (h1, .inl (cA 0, 2000, .inl bs))]) (wr := [(r0, .inr (4, [.ref h0, .ref x0, .ref k0, .int rk])), (t0, .inr (0, [.int (nI w), .ref c0, .int (nI n)])), (c0, .inl (cA 1, len, .inr (.inl cq2)))]) ⟨hx, hb, hml, hown, hts⟩ hno hlocks hl.1 (c_Sr_u32 l hl9 D cA ad H.size h0 h1 bs a1_ lm f pl hlm (by omega)) iw2_104 iw2_51 iw2_52 iw1_5 iw2_53 (by decide +kernel) rfl ⟨Nat.le_of_ble_eq_true rfl, Nat.le_of_ble_eq_true rfl⟩ ⟨Nat.le_of_ble_eq_true rfl, Nat.le_of_ble_eq_true rfl⟩ rfl (Nat.le_of_ble_eq_true rfl) d_Mr_readLimits_40 hE hP hD hS hA [1, 2] [0, 3, 4] rfl rfl rfl rfl (by decide) (ci := 2) rfl rfl 1 rfl (fun u h => ⟨(u, (c0, n, len, cq2)), ⟨h.mono (fun f p q => by rw [pLim, bnd_E hn0, bnd_E hn1, if_pos hg1, bnd_T q]), cq2, rfl⟩, fun _ h => h.sub [0, 3, 4, 1, 2] rfl, fun h => h.sub [0, 3, 4, 1, 2] (by decide) rfl, Nat.le_refl _, Nat.le_refl _⟩) (fun v_40 u_40 H locs hp_40 hP hD hS => ?_)
    obtain ⟨v3, a3_, hn3, rfl, rfl⟩ := hp_40
    have hP : va_P D cls [(r0, .inr (4, [.ref h0, .ref x0, .ref k0, .int rk])), (h0, .inr (2, [.ref h1, .int (nI a3_), .int (nI lm), .int f, .int pl])), (h1, .inl (cA 0, 2000, .inl bs)), (t0, .inr (0, [.int (nI w), .ref c0, .int (nI n)])), (c0, .inl (cA 1, len, .inr (.inl cq2)))] H := hP.sub [0, 3, 4, 1, 2] rfl
    have hD : va_D A [(r0, .inr (4, [.ref h0, .ref x0, .ref k0, .int rk])), (h0, .inr (2, [.ref h1, .int (nI a3_), .int (nI lm), .int f, .int pl])), (h1, .inl (cA 0, 2000, .inl bs)), (t0, .inr (0, [.int (nI w), .ref c0, .int (nI n)])), (c0, .inl (cA 1, len, .inr (.inl cq2)))] := hD.sub [0, 3, 4, 1, 2] (by decide) rfl
    refine W.cs (cells' := 0) (slots' := 0) rfl rfl ?_
    refine W.eq (g2 := F0 m 43 ls [.long (lN v3), .int 3, .ref t0]) rfl ?_
    have ho3 := pU32_ok (by omega) hn3
    refine cV (As := [.int 3, .long (lN v3)]) (rest := []) (n := 2) (wc := [(t0, .inr (0, [.int (nI w), .ref c0, .int (nI n)])), (c0, .inl (cA 1, len, .inr (.inl cq2)))]) (wr := [(r0, .inr (4, [.ref h0, .ref x0, .ref k0, .int rk])), (h0, .inr (2, [.ref h1, .int (nI a3_), .int (nI lm), .int f, .int pl])), (h1, .inl (cA 0, 2000, .inl bs))]) ⟨hx, hb, hml, hown, hts⟩ hno hlocks hl.1 (c_Tb_put l hl9 D cA ad H.size t0 c0 w n len cq2 (by omega) (by omega) hnl (by omega) 3 (lN v3) (by omega) (by omega)) iw2_103 iw2_89 iw2_90 iw1_3 iw2_91 (by decide +kernel) rfl ⟨Nat.le_of_ble_eq_true rfl, Nat.le_of_ble_eq_true rfl⟩ ⟨Nat.le_of_ble_eq_true rfl, Nat.le_of_ble_eq_true rfl⟩ rfl (Nat.le_of_ble_eq_true rfl) d_Mr_readLimits_43 hE hP hD hS hA [3, 4] [0, 1, 2] rfl rfl rfl rfl (by decide) (ci := 0) rfl rfl 3 rfl (fun _ h => h.elim) (fun v_43 u_43 H locs hp_43 hP hD hS => ?_)
    obtain ⟨rfl, rfl⟩ := hp_43
    have hP : va_P D cls [(r0, .inr (4, [.ref h0, .ref x0, .ref k0, .int rk])), (h0, .inr (2, [.ref h1, .int (nI a3_), .int (nI lm), .int f, .int pl])), (h1, .inl (cA 0, 2000, .inl bs)), (t0, .inr (0, [.int (nI w), .ref c0, .int (nI n)])), (c0, .inl (cA 1, len, .inr (.inl (vp_updL cq2 ((n - 1) * w + 3) (lN v3)))))] H := hP
    have hD : va_D A [(r0, .inr (4, [.ref h0, .ref x0, .ref k0, .int rk])), (h0, .inr (2, [.ref h1, .int (nI a3_), .int (nI lm), .int f, .int pl])), (h1, .inl (cA 0, 2000, .inl bs)), (t0, .inr (0, [.int (nI w), .ref c0, .int (nI n)])), (c0, .inl (cA 1, len, .inr (.inl (vp_updL cq2 ((n - 1) * w + 3) (lN v3)))))] := hD
    refine W.cs (cells' := 0) (slots' := 0) rfl rfl ?_
    refine W.eq (g2 := F0 m 46 ls []) rfl ?_
    obtain ⟨cq4, hcq4⟩ : ∃ z : Nat → Int64, z = vp_updL cq2 ((n - 1) * w + 3) (lN v3) := ⟨_, rfl⟩
    rw [← hcq4] at hP hD
    have hR4 : RC con0 ((n - 1) * w) w cq4 (vp_updL (vp_updL cols 2 (lN v1)) 3 (lN v3)) := by rw [hcq4]; exact hR2.put 3 (lN v3) (by omega)
    exact cRv ((nI a3_, nI lm, f, pl), (c0, n, len, cq4)) hx hb hr hlocks d_Mr_readLimits_46 hS hP hD (⟨_, a3_, cq4, by rw [pLim, bnd_E hn0, bnd_E hn1, if_pos hg1, bnd_E hn3], rfl, rfl, hR4⟩) (Nat.le_refl _) (Nat.le_refl _)
set_option maxHeartbeats 4000000 in
set_option maxRecDepth 100000 in
/-- readTable(table) -/
theorem c_Mr_readTable (l : Launch) (hl9 : l.stackTraces = false) (D : va_G) (cA : Nat → ClassId) (ad : Nat → Nat) (sz : Nat) (r0 x0 k0 h0 h1 : Nat) (bs : Nat → Int32) (rk : Int32) (a lm : Nat) (f pl : Int32) (hlm : lm ≤ 2000) (hal : a ≤ lm) (t0 c0 w n len : Nat) (con con0 cols : Nat → Int64) (hw : w ≤ 9) (hn : n ≤ 4000) (hnl : n * w ≤ len) (hlen : len ≤ 80000) (hn1 : 1 ≤ n) (hw4 : 4 ≤ w) (hR : RC con0 ((n - 1) * w) w con cols) :
    cM l y_Mr_readTable (.code y_Mr_readTable b_Mr_readTable 2 none :: wAll) ({ frames := 9, cells := 1, slots := 6, locals := 150 }) D cA ad [.ref r0, .ref t0] (wM5 cA r0 x0 k0 h0 h1 bs rk t0 w ((nI a, nI lm, f, pl), (c0, n, len, con))) sz (fun v u => ∃ z a2 c2, pTab (bv bs) lm cols a = .inr (z, a2) ∧ v = none ∧ u = ((nI a2, nI lm, f, pl), (c0, n, len, c2)) ∧ RC con0 ((n - 1) * w) w c2 z) (fun u => tP (pTab (bv bs) lm cols a) u.1 ∧ ∃ c2, u.2 = (c0, n, len, c2)) (wM5 cA r0 x0 k0 h0 h1 bs rk t0 w) (fun _ => (0, 0)) := by
  refine cM.ofW (cc := b_Mr_readTable) (maxL := 2) (ret := none) (by decide) (Nat.le_of_ble_eq_true rfl) ?_
  intro pg ev s m bw meth cdx A ls hF hsz hA hE hP hD hl
  obtain ⟨⟨hx, hb, hml, hown, hts⟩, hr, hno, hlocks, hin⟩ := hF
  subst hsz
  have hown : s.vm.findClass "ModuleBytes$ModuleReader" = some m.cls := hown
  have hS : va_S A s.heap s.heap [] := va_S.rf
  have hl : lv_has ls 2 [(0, .ref r0), (1, .ref t0)] := hl
  have hP : va_P D cls [(r0, .inr (4, [.ref h0, .ref x0, .ref k0, .int rk])), (h0, .inr (2, [.ref h1, .int (nI a), .int (nI lm), .int f, .int pl])), (h1, .inl (cA 0, 2000, .inl bs)), (t0, .inr (0, [.int (nI w), .ref c0, .int (nI n)])), (c0, .inl (cA 1, len, .inr (.inl con)))] s.heap := hP
  have hD : va_D A [(r0, .inr (4, [.ref h0, .ref x0, .ref k0, .int rk])), (h0, .inr (2, [.ref h1, .int (nI a), .int (nI lm), .int f, .int pl])), (h1, .inl (cA 0, 2000, .inl bs)), (t0, .inr (0, [.int (nI w), .ref c0, .int (nI n)])), (c0, .inl (cA 1, len, .inr (.inl con)))] := hD
  refine lv_aload_n hx hb d_Mr_readTable_0 rfl (lv_at hl 1 rfl) ?_
  refine lv_iconst (v := 1) hx hb d_Mr_readTable_1 (by decide) ?_
  refine lv_aload_n hx hb d_Mr_readTable_2 rfl (lv_at hl 0 rfl) ?_
  refine va_get (D := D) (ci := 4) (v := .ref h0) (C := R_Mr) (T := F_Mr) (N := 4) hx hb hts (fun w h => List.mem_cons_of_mem _ (i_Mr w h)) hown hE.1 hP 0 rfl rfl 0 (by decide) (hts _ (List.mem_cons_of_mem _ iw1_138)) (fun _ h9 => h9) rfl d_Mr_readTable_3 ?_
  refine cV (As := []) (rest := [.int 1, .ref t0]) (n := 0) (wc := [(h0, .inr (2, [.ref h1, .int (nI a), .int (nI lm), .int f, .int pl])), (h1, .inl (cA 0, 2000, .inl bs))]) (wr := [(r0, .inr (4, [.ref h0, .ref x0, .ref k0, .int rk])), (t0, .inr (0, [.int (nI w), .ref c0, .int (nI n)])), (c0, .inl (cA 1, len, .inr (.inl con)))]) ⟨hx, hb, hml, hown, hts⟩ hno hlocks hl.1 (c_Sr_referenceType l hl9 D cA ad s.heap.size h0 h1 bs a lm f pl hlm (by omega)) iw2_136 iw2_137 iw2_138 iw1_5 iw2_139 (by decide +kernel) rfl ⟨Nat.le_of_ble_eq_true rfl, Nat.le_of_ble_eq_true rfl⟩ ⟨Nat.le_of_ble_eq_true rfl, Nat.le_of_ble_eq_true rfl⟩ rfl (Nat.le_of_ble_eq_true rfl) d_Mr_readTable_6 hE hP hD hS hA [1, 2] [0, 3, 4] rfl rfl rfl rfl (by decide) (ci := 2) rfl rfl 1 rfl (fun u h => ⟨(u, (c0, n, len, con)), ⟨h.mono (fun f p q => by rw [pTab, bnd_T q]), con, rfl⟩, fun _ h => h.sub [0, 3, 4, 1, 2] rfl, fun h => h.sub [0, 3, 4, 1, 2] (by decide) rfl, Nat.le_refl _, Nat.le_refl _⟩) (fun v_6 u_6 H locs hp_6 hP hD hS => ?_)
  obtain ⟨v0, a0_, hn0, rfl, rfl⟩ := hp_6
  have hP : va_P D cls [(r0, .inr (4, [.ref h0, .ref x0, .ref k0, .int rk])), (h0, .inr (2, [.ref h1, .int (nI a0_), .int (nI lm), .int f, .int pl])), (h1, .inl (cA 0, 2000, .inl bs)), (t0, .inr (0, [.int (nI w), .ref c0, .int (nI n)])), (c0, .inl (cA 1, len, .inr (.inl con)))] H := hP.sub [0, 3, 4, 1, 2] rfl
  have hD : va_D A [(r0, .inr (4, [.ref h0, .ref x0, .ref k0, .int rk])), (h0, .inr (2, [.ref h1, .int (nI a0_), .int (nI lm), .int f, .int pl])), (h1, .inl (cA 0, 2000, .inl bs)), (t0, .inr (0, [.int (nI w), .ref c0, .int (nI n)])), (c0, .inl (cA 1, len, .inr (.inl con)))] := hD.sub [0, 3, 4, 1, 2] (by decide) rfl
  refine W.cs (cells' := 0) (slots' := 0) rfl rfl ?_
  refine W.eq (g2 := F0 m 9 ls [.int (nI v0), .int 1, .ref t0]) rfl ?_
  have ho0 := pType_ok hn0
  have hB0 : v0 < 256 := by rw [ho0.2.2.1]; exact bv_lt _ _
  refine lv_i2l hx hb d_Mr_readTable_9 rfl ?_
  rw [nI_l (n := v0) (by omega)]
  refine cV (As := [.int 1, .long (lN v0)]) (rest := []) (n := 2) (wc := [(t0, .inr (0, [.int (nI w), .ref c0, .int (nI n)])), (c0, .inl (cA 1, len, .inr (.inl con)))]) (wr := [(r0, .inr (4, [.ref h0, .ref x0, .ref k0, .int rk])), (h0, .inr (2, [.ref h1, .int (nI a0_), .int (nI lm), .int f, .int pl])), (h1, .inl (cA 0, 2000, .inl bs))]) ⟨hx, hb, hml, hown, hts⟩ hno hlocks hl.1 (c_Tb_put l hl9 D cA ad H.size t0 c0 w n len con (by omega) (by omega) hnl (by omega) 1 (lN v0) (by omega) (by omega)) iw2_103 iw2_89 iw2_90 iw1_3 iw2_91 (by decide +kernel) rfl ⟨Nat.le_of_ble_eq_true rfl, Nat.le_of_ble_eq_true rfl⟩ ⟨Nat.le_of_ble_eq_true rfl, Nat.le_of_ble_eq_true rfl⟩ rfl (Nat.le_of_ble_eq_true rfl) d_Mr_readTable_10 hE hP hD hS hA [3, 4] [0, 1, 2] rfl rfl rfl rfl (by decide) (ci := 0) rfl rfl 3 rfl (fun _ h => h.elim) (fun v_10 u_10 H locs hp_10 hP hD hS => ?_)
  obtain ⟨rfl, rfl⟩ := hp_10
  have hP : va_P D cls [(r0, .inr (4, [.ref h0, .ref x0, .ref k0, .int rk])), (h0, .inr (2, [.ref h1, .int (nI a0_), .int (nI lm), .int f, .int pl])), (h1, .inl (cA 0, 2000, .inl bs)), (t0, .inr (0, [.int (nI w), .ref c0, .int (nI n)])), (c0, .inl (cA 1, len, .inr (.inl (vp_updL con ((n - 1) * w + 1) (lN v0)))))] H := hP
  have hD : va_D A [(r0, .inr (4, [.ref h0, .ref x0, .ref k0, .int rk])), (h0, .inr (2, [.ref h1, .int (nI a0_), .int (nI lm), .int f, .int pl])), (h1, .inl (cA 0, 2000, .inl bs)), (t0, .inr (0, [.int (nI w), .ref c0, .int (nI n)])), (c0, .inl (cA 1, len, .inr (.inl (vp_updL con ((n - 1) * w + 1) (lN v0)))))] := hD
  refine W.cs (cells' := 0) (slots' := 0) rfl rfl ?_
  refine W.eq (g2 := F0 m 13 ls []) rfl ?_
  obtain ⟨cq1, hcq1⟩ : ∃ z : Nat → Int64, z = vp_updL con ((n - 1) * w + 1) (lN v0) := ⟨_, rfl⟩
  rw [← hcq1] at hP hD
  have hR1 : RC con0 ((n - 1) * w) w cq1 (vp_updL cols 1 (lN v0)) := by rw [hcq1]; exact hR.put 1 (lN v0) (by omega)
  refine lv_aload_n hx hb d_Mr_readTable_13 rfl (lv_at hl 0 rfl) ?_
  refine lv_aload_n hx hb d_Mr_readTable_14 rfl (lv_at hl 1 rfl) ?_
  refine cV (As := [.ref t0]) (rest := []) (n := 1) (wc := [(r0, .inr (4, [.ref h0, .ref x0, .ref k0, .int rk])), (h0, .inr (2, [.ref h1, .int (nI a0_), .int (nI lm), .int f, .int pl])), (h1, .inl (cA 0, 2000, .inl bs)), (t0, .inr (0, [.int (nI w), .ref c0, .int (nI n)])), (c0, .inl (cA 1, len, .inr (.inl cq1)))]) (wr := []) ⟨hx, hb, hml, hown, hts⟩ hno hlocks hl.1 (c_Mr_readLimits l hl9 D cA ad H.size r0 x0 k0 h0 h1 bs rk a0_ lm f pl hlm (by omega) t0 c0 w n len cq1 con0 (vp_updL cols 1 (lN v0)) (by omega) (by omega) hnl (by omega) (by omega) (by omega) hR1) iw2_143 iw2_145 sel_Mr_readLimits iw1_4 iw2_146 (by decide +kernel) rfl ⟨Nat.le_of_ble_eq_true rfl, Nat.le_of_ble_eq_true rfl⟩ ⟨Nat.le_of_ble_eq_true rfl, Nat.le_of_ble_eq_true rfl⟩ rfl (Nat.le_of_ble_eq_true rfl) d_Mr_readTable_15 hE hP hD hS hA [0, 1, 2, 3, 4] [] rfl rfl rfl rfl (by decide) (ci := 4) rfl rfl 0 rfl (fun u h => ⟨u, ⟨h.1.mono (fun f p q => by rw [pTab, bnd_E hn0]; exact q), h.2⟩, fun _ h => h, fun h => h, Nat.le_refl _, Nat.le_refl _⟩) (fun v_15 u_15 H locs hp_15 hP hD hS => ?_)
  obtain ⟨zc2, a2_, cq2, hn2, rfl, rfl, hR2⟩ := hp_15
  have hP : va_P D cls [(r0, .inr (4, [.ref h0, .ref x0, .ref k0, .int rk])), (h0, .inr (2, [.ref h1, .int (nI a2_), .int (nI lm), .int f, .int pl])), (h1, .inl (cA 0, 2000, .inl bs)), (t0, .inr (0, [.int (nI w), .ref c0, .int (nI n)])), (c0, .inl (cA 1, len, .inr (.inl cq2)))] H := hP
  have hD : va_D A [(r0, .inr (4, [.ref h0, .ref x0, .ref k0, .int rk])), (h0, .inr (2, [.ref h1, .int (nI a2_), .int (nI lm), .int f, .int pl])), (h1, .inl (cA 0, 2000, .inl bs)), (t0, .inr (0, [.int (nI w), .ref c0, .int (nI n)])), (c0, .inl (cA 1, len, .inr (.inl cq2)))] := hD
  refine W.cs (cells' := 0) (slots' := 0) rfl rfl ?_
  refine W.eq (g2 := F0 m 18 ls []) rfl ?_
  exact cRv ((nI a2_, nI lm, f, pl), (c0, n, len, cq2)) hx hb hr hlocks d_Mr_readTable_18 hS hP hD (⟨_, a2_, cq2, by rw [pTab, bnd_E hn0]; exact hn2, rfl, rfl, hR2⟩) (Nat.le_refl _) (Nat.le_refl _)
set_option maxHeartbeats 4000000 in
set_option maxRecDepth 100000 in
/-- readMemory(table) -/
theorem c_Mr_readMemory (l : Launch) (hl9 : l.stackTraces = false) (D : va_G) (cA : Nat → ClassId) (ad : Nat → Nat) (sz : Nat) (r0 x0 k0 h0 h1 : Nat) (bs : Nat → Int32) (rk : Int32) (a lm : Nat) (f pl : Int32) (hlm : lm ≤ 2000) (hal : a ≤ lm) (t0 c0 w n len : Nat) (con con0 cols : Nat → Int64) (hw : w ≤ 9) (hn : n ≤ 4000) (hnl : n * w ≤ len) (hlen : len ≤ 80000) (hn1 : 1 ≤ n) (hw4 : 4 ≤ w) (hR : RC con0 ((n - 1) * w) w con cols) :
    cM l y_Mr_readMemory (.code y_Mr_readMemory b_Mr_readMemory 2 none :: wAll) ({ frames := 9, cells := 1, slots := 6, locals := 150 }) D cA ad [.ref r0, .ref t0] (wM5 cA r0 x0 k0 h0 h1 bs rk t0 w ((nI a, nI lm, f, pl), (c0, n, len, con))) sz (fun v u => ∃ z a2 c2, pMem (bv bs) lm cols a = .inr (z, a2) ∧ v = none ∧ u = ((nI a2, nI lm, f, pl), (c0, n, len, c2)) ∧ RC con0 ((n - 1) * w) w c2 z) (fun u => tP (pMem (bv bs) lm cols a) u.1 ∧ ∃ c2, u.2 = (c0, n, len, c2)) (wM5 cA r0 x0 k0 h0 h1 bs rk t0 w) (fun _ => (0, 0)) := by
  refine cM.ofW (cc := b_Mr_readMemory) (maxL := 2) (ret := none) (by decide) (Nat.le_of_ble_eq_true rfl) ?_
  intro pg ev s m bw meth cdx A ls hF hsz hA hE hP hD hl
  obtain ⟨⟨hx, hb, hml, hown, hts⟩, hr, hno, hlocks, hin⟩ := hF
  subst hsz
  have hown : s.vm.findClass "ModuleBytes$ModuleReader" = some m.cls := hown
  have hS : va_S A s.heap s.heap [] := va_S.rf
  have hl : lv_has ls 2 [(0, .ref r0), (1, .ref t0)] := hl
  have hP : va_P D cls [(r0, .inr (4, [.ref h0, .ref x0, .ref k0, .int rk])), (h0, .inr (2, [.ref h1, .int (nI a), .int (nI lm), .int f, .int pl])), (h1, .inl (cA 0, 2000, .inl bs)), (t0, .inr (0, [.int (nI w), .ref c0, .int (nI n)])), (c0, .inl (cA 1, len, .inr (.inl con)))] s.heap := hP
  have hD : va_D A [(r0, .inr (4, [.ref h0, .ref x0, .ref k0, .int rk])), (h0, .inr (2, [.ref h1, .int (nI a), .int (nI lm), .int f, .int pl])), (h1, .inl (cA 0, 2000, .inl bs)), (t0, .inr (0, [.int (nI w), .ref c0, .int (nI n)])), (c0, .inl (cA 1, len, .inr (.inl con)))] := hD
  refine lv_aload_n hx hb d_Mr_readMemory_0 rfl (lv_at hl 1 rfl) ?_
  refine lv_iconst (v := 1) hx hb d_Mr_readMemory_1 (by decide) ?_
  refine lv_lconst (v := 0) hx hb d_Mr_readMemory_2 (by decide) ?_
  refine cV (As := [.int 1, .long 0]) (rest := []) (n := 2) (wc := [(t0, .inr (0, [.int (nI w), .ref c0, .int (nI n)])), (c0, .inl (cA 1, len, .inr (.inl con)))]) (wr := [(r0, .inr (4, [.ref h0, .ref x0, .ref k0, .int rk])), (h0, .inr (2, [.ref h1, .int (nI a), .int (nI lm), .int f, .int pl])), (h1, .inl (cA 0, 2000, .inl bs))]) ⟨hx, hb, hml, hown, hts⟩ hno hlocks hl.1 (c_Tb_put l hl9 D cA ad s.heap.size t0 c0 w n len con (by omega) (by omega) hnl (by omega) 1 0 (by omega) (by omega)) iw2_103 iw2_89 iw2_90 iw1_3 iw2_91 (by decide +kernel) rfl ⟨Nat.le_of_ble_eq_true rfl, Nat.le_of_ble_eq_true rfl⟩ ⟨Nat.le_of_ble_eq_true rfl, Nat.le_of_ble_eq_true rfl⟩ rfl (Nat.le_of_ble_eq_true rfl) d_Mr_readMemory_3 hE hP hD hS hA [3, 4] [0, 1, 2] rfl rfl rfl rfl (by decide) (ci := 0) rfl rfl 3 rfl (fun _ h => h.elim) (fun v_3 u_3 H locs hp_3 hP hD hS => ?_)
  obtain ⟨rfl, rfl⟩ := hp_3
  have hP : va_P D cls [(r0, .inr (4, [.ref h0, .ref x0, .ref k0, .int rk])), (h0, .inr (2, [.ref h1, .int (nI a), .int (nI lm), .int f, .int pl])), (h1, .inl (cA 0, 2000, .inl bs)), (t0, .inr (0, [.int (nI w), .ref c0, .int (nI n)])), (c0, .inl (cA 1, len, .inr (.inl (vp_updL con ((n - 1) * w + 1) 0))))] H := hP
  have hD : va_D A [(r0, .inr (4, [.ref h0, .ref x0, .ref k0, .int rk])), (h0, .inr (2, [.ref h1, .int (nI a), .int (nI lm), .int f, .int pl])), (h1, .inl (cA 0, 2000, .inl bs)), (t0, .inr (0, [.int (nI w), .ref c0, .int (nI n)])), (c0, .inl (cA 1, len, .inr (.inl (vp_updL con ((n - 1) * w + 1) 0))))] := hD
  refine W.cs (cells' := 0) (slots' := 0) rfl rfl ?_
  refine W.eq (g2 := F0 m 6 ls []) rfl ?_
  obtain ⟨cq0, hcq0⟩ : ∃ z : Nat → Int64, z = vp_updL con ((n - 1) * w + 1) 0 := ⟨_, rfl⟩
  rw [← hcq0] at hP hD
  have hR0 : RC con0 ((n - 1) * w) w cq0 (vp_updL cols 1 0) := by rw [hcq0]; exact hR.put 1 0 (by omega)
  refine lv_aload_n hx hb d_Mr_readMemory_6 rfl (lv_at hl 0 rfl) ?_
  refine lv_aload_n hx hb d_Mr_readMemory_7 rfl (lv_at hl 1 rfl) ?_
  refine cV (As := [.ref t0]) (rest := []) (n := 1) (wc := [(r0, .inr (4, [.ref h0, .ref x0, .ref k0, .int rk])), (h0, .inr (2, [.ref h1, .int (nI a), .int (nI lm), .int f, .int pl])), (h1, .inl (cA 0, 2000, .inl bs)), (t0, .inr (0, [.int (nI w), .ref c0, .int (nI n)])), (c0, .inl (cA 1, len, .inr (.inl cq0)))]) (wr := []) ⟨hx, hb, hml, hown, hts⟩ hno hlocks hl.1 (c_Mr_readLimits l hl9 D cA ad H.size r0 x0 k0 h0 h1 bs rk a lm f pl hlm (by omega) t0 c0 w n len cq0 con0 (vp_updL cols 1 0) (by omega) (by omega) hnl (by omega) (by omega) (by omega) hR0) iw2_143 iw2_145 sel_Mr_readLimits iw1_4 iw2_146 (by decide +kernel) rfl ⟨Nat.le_of_ble_eq_true rfl, Nat.le_of_ble_eq_true rfl⟩ ⟨Nat.le_of_ble_eq_true rfl, Nat.le_of_ble_eq_true rfl⟩ rfl (Nat.le_of_ble_eq_true rfl) d_Mr_readMemory_8 hE hP hD hS hA [0, 1, 2, 3, 4] [] rfl rfl rfl rfl (by decide) (ci := 4) rfl rfl 0 rfl (fun u h => ⟨u, ⟨h.1.mono (fun f p q => by rw [pMem]; exact q), h.2⟩, fun _ h => h, fun h => h, Nat.le_refl _, Nat.le_refl _⟩) (fun v_8 u_8 H locs hp_8 hP hD hS => ?_)
  obtain ⟨zc1, a1_, cq1, hn1, rfl, rfl, hR1⟩ := hp_8
  have hP : va_P D cls [(r0, .inr (4, [.ref h0, .ref x0, .ref k0, .int rk])), (h0, .inr (2, [.ref h1, .int (nI a1_), .int (nI lm), .int f, .int pl])), (h1, .inl (cA 0, 2000, .inl bs)), (t0, .inr (0, [.int (nI w), .ref c0, .int (nI n)])), (c0, .inl (cA 1, len, .inr (.inl cq1)))] H := hP
  have hD : va_D A [(r0, .inr (4, [.ref h0, .ref x0, .ref k0, .int rk])), (h0, .inr (2, [.ref h1, .int (nI a1_), .int (nI lm), .int f, .int pl])), (h1, .inl (cA 0, 2000, .inl bs)), (t0, .inr (0, [.int (nI w), .ref c0, .int (nI n)])), (c0, .inl (cA 1, len, .inr (.inl cq1)))] := hD
  refine W.cs (cells' := 0) (slots' := 0) rfl rfl ?_
  refine W.eq (g2 := F0 m 11 ls []) rfl ?_
  exact cRv ((nI a1_, nI lm, f, pl), (c0, n, len, cq1)) hx hb hr hlocks d_Mr_readMemory_11 hS hP hD (⟨_, a1_, cq1, by rw [pMem]; exact hn1, rfl, rfl, hR1⟩) (Nat.le_refl _) (Nat.le_refl _)
set_option maxHeartbeats 4000000 in
set_option maxRecDepth 100000 in
/-- readGlobal(table) -/
theorem c_Mr_readGlobal (l : Launch) (hl9 : l.stackTraces = false) (D : va_G) (cA : Nat → ClassId) (ad : Nat → Nat) (sz : Nat) (r0 x0 k0 h0 h1 : Nat) (bs : Nat → Int32) (rk : Int32) (a lm : Nat) (f pl : Int32) (hlm : lm ≤ 2000) (hal : a ≤ lm) (t0 c0 w n len : Nat) (con con0 cols : Nat → Int64) (hw : w ≤ 9) (hn : n ≤ 4000) (hnl : n * w ≤ len) (hlen : len ≤ 80000) (hn1 : 1 ≤ n) (hw4 : 4 ≤ w) (hR : RC con0 ((n - 1) * w) w con cols) :
    cM l y_Mr_readGlobal (.code y_Mr_readGlobal b_Mr_readGlobal 2 none :: wAll) ({ frames := 8, cells := 1, slots := 6, locals := 126 }) D cA ad [.ref r0, .ref t0] (wM5 cA r0 x0 k0 h0 h1 bs rk t0 w ((nI a, nI lm, f, pl), (c0, n, len, con))) sz (fun v u => ∃ z a2 c2, pGlo (bv bs) lm cols a = .inr (z, a2) ∧ v = none ∧ u = ((nI a2, nI lm, f, pl), (c0, n, len, c2)) ∧ RC con0 ((n - 1) * w) w c2 z) (fun u => tP (pGlo (bv bs) lm cols a) u.1 ∧ ∃ c2, u.2 = (c0, n, len, c2)) (wM5 cA r0 x0 k0 h0 h1 bs rk t0 w) (fun _ => (0, 0)) := by
  refine cM.ofW (cc := b_Mr_readGlobal) (maxL := 2) (ret := none) (by decide) (Nat.le_of_ble_eq_true rfl) ?_
  intro pg ev s m bw meth cdx A ls hF hsz hA hE hP hD hl
  obtain ⟨⟨hx, hb, hml, hown, hts⟩, hr, hno, hlocks, hin⟩ := hF
  subst hsz
  have hown : s.vm.findClass "ModuleBytes$ModuleReader" = some m.cls := hown
  have hS : va_S A s.heap s.heap [] := va_S.rf
  have hl : lv_has ls 2 [(0, .ref r0), (1, .ref t0)] := hl
  have hP : va_P D cls [(r0, .inr (4, [.ref h0, .ref x0, .ref k0, .int rk])), (h0, .inr (2, [.ref h1, .int (nI a), .int (nI lm), .int f, .int pl])), (h1, .inl (cA 0, 2000, .inl bs)), (t0, .inr (0, [.int (nI w), .ref c0, .int (nI n)])), (c0, .inl (cA 1, len, .inr (.inl con)))] s.heap := hP
  have hD : va_D A [(r0, .inr (4, [.ref h0, .ref x0, .ref k0, .int rk])), (h0, .inr (2, [.ref h1, .int (nI a), .int (nI lm), .int f, .int pl])), (h1, .inl (cA 0, 2000, .inl bs)), (t0, .inr (0, [.int (nI w), .ref c0, .int (nI n)])), (c0, .inl (cA 1, len, .inr (.inl con)))] := hD
  refine lv_aload_n hx hb d_Mr_readGlobal_0 rfl (lv_at hl 1 rfl) ?_
  refine lv_iconst (v := 1) hx hb d_Mr_readGlobal_1 (by decide) ?_
  refine lv_aload_n hx hb d_Mr_readGlobal_2 rfl (lv_at hl 0 rfl) ?_
  refine va_get (D := D) (ci := 4) (v := .ref h0) (C := R_Mr) (T := F_Mr) (N := 4) hx hb hts (fun w h => List.mem_cons_of_mem _ (i_Mr w h)) hown hE.1 hP 0 rfl rfl 0 (by decide) (hts _ (List.mem_cons_of_mem _ iw1_138)) (fun _ h9 => h9) rfl d_Mr_readGlobal_3 ?_
  refine cV (As := []) (rest := [.int 1, .ref t0]) (n := 0) (wc := [(h0, .inr (2, [.ref h1, .int (nI a), .int (nI lm), .int f, .int pl])), (h1, .inl (cA 0, 2000, .inl bs))]) (wr := [(r0, .inr (4, [.ref h0, .ref x0, .ref k0, .int rk])), (t0, .inr (0, [.int (nI w), .ref c0, .int (nI n)])), (c0, .inl (cA 1, len, .inr (.inl con)))]) ⟨hx, hb, hml, hown, hts⟩ hno hlocks hl.1 (c_Sr_valueType l hl9 D cA ad s.heap.size h0 h1 bs a lm f pl hlm (by omega)) iw2_117 iw2_118 iw2_119 iw1_5 iw2_120 (by decide +kernel) rfl ⟨Nat.le_of_ble_eq_true rfl, Nat.le_of_ble_eq_true rfl⟩ ⟨Nat.le_of_ble_eq_true rfl, Nat.le_of_ble_eq_true rfl⟩ rfl (Nat.le_of_ble_eq_true rfl) d_Mr_readGlobal_6 hE hP hD hS hA [1, 2] [0, 3, 4] rfl rfl rfl rfl (by decide) (ci := 2) rfl rfl 1 rfl (fun u h => ⟨(u, (c0, n, len, con)), ⟨h.mono (fun f p q => by rw [pGlo, bnd_T q]), con, rfl⟩, fun _ h => h.sub [0, 3, 4, 1, 2] rfl, fun h => h.sub [0, 3, 4, 1, 2] (by decide) rfl, Nat.le_refl _, Nat.le_refl _⟩) (fun v_6 u_6 H locs hp_6 hP hD hS => ?_)
  obtain ⟨v0, a0_, hn0, rfl, rfl⟩ := hp_6
  have hP : va_P D cls [(r0, .inr (4, [.ref h0, .ref x0, .ref k0, .int rk])), (h0, .inr (2, [.ref h1, .int (nI a0_), .int (nI lm), .int f, .int pl])), (h1, .inl (cA 0, 2000, .inl bs)), (t0, .inr (0, [.int (nI w), .ref c0, .int (nI n)])), (c0, .inl (cA 1, len, .inr (.inl con)))] H := hP.sub [0, 3, 4, 1, 2] rfl
  have hD : va_D A [(r0, .inr (4, [.ref h0, .ref x0, .ref k0, .int rk])), (h0, .inr (2, [.ref h1, .int (nI a0_), .int (nI lm), .int f, .int pl])), (h1, .inl (cA 0, 2000, .inl bs)), (t0, .inr (0, [.int (nI w), .ref c0, .int (nI n)])), (c0, .inl (cA 1, len, .inr (.inl con)))] := hD.sub [0, 3, 4, 1, 2] (by decide) rfl
  refine W.cs (cells' := 0) (slots' := 0) rfl rfl ?_
  refine W.eq (g2 := F0 m 9 ls [.int (nI v0), .int 1, .ref t0]) rfl ?_
  have ho0 := pType_ok hn0
  have hB0 : v0 < 256 := by rw [ho0.2.2.1]; exact bv_lt _ _
  refine lv_i2l hx hb d_Mr_readGlobal_9 rfl ?_
  rw [nI_l (n := v0) (by omega)]
  refine cV (As := [.int 1, .long (lN v0)]) (rest := []) (n := 2) (wc := [(t0, .inr (0, [.int (nI w), .ref c0, .int (nI n)])), (c0, .inl (cA 1, len, .inr (.inl con)))]) (wr := [(r0, .inr (4, [.ref h0, .ref x0, .ref k0, .int rk])), (h0, .inr (2, [.ref h1, .int (nI a0_), .int (nI lm), .int f, .int pl])), (h1, .inl (cA 0, 2000, .inl bs))]) ⟨hx, hb, hml, hown, hts⟩ hno hlocks hl.1 (c_Tb_put l hl9 D cA ad H.size t0 c0 w n len con (by omega) (by omega) hnl (by omega) 1 (lN v0) (by omega) (by omega)) iw2_103 iw2_89 iw2_90 iw1_3 iw2_91 (by decide +kernel) rfl ⟨Nat.le_of_ble_eq_true rfl, Nat.le_of_ble_eq_true rfl⟩ ⟨Nat.le_of_ble_eq_true rfl, Nat.le_of_ble_eq_true rfl⟩ rfl (Nat.le_of_ble_eq_true rfl) d_Mr_readGlobal_10 hE hP hD hS hA [3, 4] [0, 1, 2] rfl rfl rfl rfl (by decide) (ci := 0) rfl rfl 3 rfl (fun _ h => h.elim) (fun v_10 u_10 H locs hp_10 hP hD hS => ?_)
  obtain ⟨rfl, rfl⟩ := hp_10
  have hP : va_P D cls [(r0, .inr (4, [.ref h0, .ref x0, .ref k0, .int rk])), (h0, .inr (2, [.ref h1, .int (nI a0_), .int (nI lm), .int f, .int pl])), (h1, .inl (cA 0, 2000, .inl bs)), (t0, .inr (0, [.int (nI w), .ref c0, .int (nI n)])), (c0, .inl (cA 1, len, .inr (.inl (vp_updL con ((n - 1) * w + 1) (lN v0)))))] H := hP
  have hD : va_D A [(r0, .inr (4, [.ref h0, .ref x0, .ref k0, .int rk])), (h0, .inr (2, [.ref h1, .int (nI a0_), .int (nI lm), .int f, .int pl])), (h1, .inl (cA 0, 2000, .inl bs)), (t0, .inr (0, [.int (nI w), .ref c0, .int (nI n)])), (c0, .inl (cA 1, len, .inr (.inl (vp_updL con ((n - 1) * w + 1) (lN v0)))))] := hD
  refine W.cs (cells' := 0) (slots' := 0) rfl rfl ?_
  refine W.eq (g2 := F0 m 13 ls []) rfl ?_
  obtain ⟨cq1, hcq1⟩ : ∃ z : Nat → Int64, z = vp_updL con ((n - 1) * w + 1) (lN v0) := ⟨_, rfl⟩
  rw [← hcq1] at hP hD
  have hR1 : RC con0 ((n - 1) * w) w cq1 (vp_updL cols 1 (lN v0)) := by rw [hcq1]; exact hR.put 1 (lN v0) (by omega)
  refine lv_aload_n hx hb d_Mr_readGlobal_13 rfl (lv_at hl 1 rfl) ?_
  refine lv_iconst (v := 2) hx hb d_Mr_readGlobal_14 (by decide) ?_
  refine lv_aload_n hx hb d_Mr_readGlobal_15 rfl (lv_at hl 0 rfl) ?_
  refine va_get (D := D) (ci := 4) (v := .ref h0) (C := R_Mr) (T := F_Mr) (N := 4) hx hb hts (fun w h => List.mem_cons_of_mem _ (i_Mr w h)) hown hE.1 hP 0 rfl rfl 0 (by decide) (hts _ (List.mem_cons_of_mem _ iw1_138)) (fun _ h9 => h9) rfl d_Mr_readGlobal_16 ?_
  refine lv_iconst (v := 1) hx hb d_Mr_readGlobal_19 (by decide) ?_
  refine cV (As := [.int 1]) (rest := [.int 2, .ref t0]) (n := 1) (wc := [(h0, .inr (2, [.ref h1, .int (nI a0_), .int (nI lm), .int f, .int pl])), (h1, .inl (cA 0, 2000, .inl bs))]) (wr := [(r0, .inr (4, [.ref h0, .ref x0, .ref k0, .int rk])), (t0, .inr (0, [.int (nI w), .ref c0, .int (nI n)])), (c0, .inl (cA 1, len, .inr (.inl cq1)))]) ⟨hx, hb, hml, hown, hts⟩ hno hlocks hl.1 (c_Sr_choice l hl9 D cA ad H.size h0 h1 bs a0_ lm f pl hlm (by omega) 1 (by decide)) iw2_128 iw2_129 iw2_130 iw1_5 iw2_131 (by decide +kernel) rfl ⟨Nat.le_of_ble_eq_true rfl, Nat.le_of_ble_eq_true rfl⟩ ⟨Nat.le_of_ble_eq_true rfl, Nat.le_of_ble_eq_true rfl⟩ rfl (Nat.le_of_ble_eq_true rfl) d_Mr_readGlobal_20 hE hP hD hS hA [1, 2] [0, 3, 4] rfl rfl rfl rfl (by decide) (ci := 2) rfl rfl 1 rfl (fun u h => ⟨(u, (c0, n, len, cq1)), ⟨h.mono (fun f p q => by rw [pGlo, bnd_E hn0, bnd_T q]), cq1, rfl⟩, fun _ h => h.sub [0, 3, 4, 1, 2] rfl, fun h => h.sub [0, 3, 4, 1, 2] (by decide) rfl, Nat.le_refl _, Nat.le_refl _⟩) (fun v_20 u_20 H locs hp_20 hP hD hS => ?_)
  obtain ⟨v2, a2_, hn2, rfl, rfl⟩ := hp_20
  have hP : va_P D cls [(r0, .inr (4, [.ref h0, .ref x0, .ref k0, .int rk])), (h0, .inr (2, [.ref h1, .int (nI a2_), .int (nI lm), .int f, .int pl])), (h1, .inl (cA 0, 2000, .inl bs)), (t0, .inr (0, [.int (nI w), .ref c0, .int (nI n)])), (c0, .inl (cA 1, len, .inr (.inl cq1)))] H := hP.sub [0, 3, 4, 1, 2] rfl
  have hD : va_D A [(r0, .inr (4, [.ref h0, .ref x0, .ref k0, .int rk])), (h0, .inr (2, [.ref h1, .int (nI a2_), .int (nI lm), .int f, .int pl])), (h1, .inl (cA 0, 2000, .inl bs)), (t0, .inr (0, [.int (nI w), .ref c0, .int (nI n)])), (c0, .inl (cA 1, len, .inr (.inl cq1)))] := hD.sub [0, 3, 4, 1, 2] (by decide) rfl
  refine W.cs (cells' := 0) (slots' := 0) rfl rfl ?_
  refine W.eq (g2 := F0 m 23 ls [.int (nI v2), .int 2, .ref t0]) rfl ?_
  have ho2 := pChoice_ok hn2
  refine lv_i2l hx hb d_Mr_readGlobal_23 rfl ?_
  rw [nI_l (n := v2) (by omega)]
  refine cV (As := [.int 2, .long (lN v2)]) (rest := []) (n := 2) (wc := [(t0, .inr (0, [.int (nI w), .ref c0, .int (nI n)])), (c0, .inl (cA 1, len, .inr (.inl cq1)))]) (wr := [(r0, .inr (4, [.ref h0, .ref x0, .ref k0, .int rk])), (h0, .inr (2, [.ref h1, .int (nI a2_), .int (nI lm), .int f, .int pl])), (h1, .inl (cA 0, 2000, .inl bs))]) ⟨hx, hb, hml, hown, hts⟩ hno hlocks hl.1 (c_Tb_put l hl9 D cA ad H.size t0 c0 w n len cq1 (by omega) (by omega) hnl (by omega) 2 (lN v2) (by omega) (by omega)) iw2_103 iw2_89 iw2_90 iw1_3 iw2_91 (by decide +kernel) rfl ⟨Nat.le_of_ble_eq_true rfl, Nat.le_of_ble_eq_true rfl⟩ ⟨Nat.le_of_ble_eq_true rfl, Nat.le_of_ble_eq_true rfl⟩ rfl (Nat.le_of_ble_eq_true rfl) d_Mr_readGlobal_24 hE hP hD hS hA [3, 4] [0, 1, 2] rfl rfl rfl rfl (by decide) (ci := 0) rfl rfl 3 rfl (fun _ h => h.elim) (fun v_24 u_24 H locs hp_24 hP hD hS => ?_)
  obtain ⟨rfl, rfl⟩ := hp_24
  have hP : va_P D cls [(r0, .inr (4, [.ref h0, .ref x0, .ref k0, .int rk])), (h0, .inr (2, [.ref h1, .int (nI a2_), .int (nI lm), .int f, .int pl])), (h1, .inl (cA 0, 2000, .inl bs)), (t0, .inr (0, [.int (nI w), .ref c0, .int (nI n)])), (c0, .inl (cA 1, len, .inr (.inl (vp_updL cq1 ((n - 1) * w + 2) (lN v2)))))] H := hP
  have hD : va_D A [(r0, .inr (4, [.ref h0, .ref x0, .ref k0, .int rk])), (h0, .inr (2, [.ref h1, .int (nI a2_), .int (nI lm), .int f, .int pl])), (h1, .inl (cA 0, 2000, .inl bs)), (t0, .inr (0, [.int (nI w), .ref c0, .int (nI n)])), (c0, .inl (cA 1, len, .inr (.inl (vp_updL cq1 ((n - 1) * w + 2) (lN v2)))))] := hD
  refine W.cs (cells' := 0) (slots' := 0) rfl rfl ?_
  refine W.eq (g2 := F0 m 27 ls []) rfl ?_
  obtain ⟨cq3, hcq3⟩ : ∃ z : Nat → Int64, z = vp_updL cq1 ((n - 1) * w + 2) (lN v2) := ⟨_, rfl⟩
  rw [← hcq3] at hP hD
  have hR3 : RC con0 ((n - 1) * w) w cq3 (vp_updL (vp_updL cols 1 (lN v0)) 2 (lN v2)) := by rw [hcq3]; exact hR1.put 2 (lN v2) (by omega)
  exact cRv ((nI a2_, nI lm, f, pl), (c0, n, len, cq3)) hx hb hr hlocks d_Mr_readGlobal_27 hS hP hD (⟨_, a2_, cq3, by rw [pGlo, bnd_E hn0, bnd_E hn2], rfl, rfl, hR3⟩) (Nat.le_refl _) (Nat.le_refl _)
