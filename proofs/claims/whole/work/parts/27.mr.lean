set_option maxHeartbeats 4000000 in
set_option maxRecDepth 100000 in
/-- readLimits(table) -/
theorem c_Mr_readLimits (l : Launch) (hl9 : l.stackTraces = false) (D : va_G) (cA : Nat → ClassId) (ad : Nat → Nat) (sz : Nat) (r0 x0 k0 h0 h1 : Nat) (bs : Nat → Int32) (rk : Int32) (a lm : Nat) (f pl : Int32) (hlm : lm ≤ 2000) (hal : a ≤ lm) (t0 c0 w n len : Nat) (con con0 cols : Nat → Int64) (hw : w ≤ 9) (hn : n ≤ 4000) (hnl : n * w ≤ len) (hlen : len ≤ 80000) (hn1 : 1 ≤ n) (hw4 : 4 ≤ w) (hR : RC con0 ((n - 1) * w) w con cols) :
    cM l y_Mr_readLimits (.code y_Mr_readLimits b_Mr_readLimits 3 none :: wAll) ({ frames := 8, cells := 1, slots := 6, locals := 128 }) D cA ad [.ref r0, .ref t0] (wM5 cA r0 x0 k0 h0 h1 bs rk t0 w ((nI a, nI lm, f, pl), (c0, n, len, con))) sz (fun v u => ∃ z a2 c2, pLim (bv bs) lm cols a = .inr (z, a2) ∧ v = none ∧ u = ((nI a2, nI lm, f, pl), (c0, n, len, c2)) ∧ RC con0 ((n - 1) * w) w c2 z) (fun u => tP (pLim (bv bs) lm cols a) u.1 ∧ ∃ c2, u.2 = (c0, n, len, c2)) (wM5 cA r0 x0 k0 h0 h1 bs rk t0 w) (fun _ => (0, 0)) := by
  refine cM.ofW (cc := b_Mr_readLimits) (maxL := 3) (ret := none) (by decide) (Nat.le_of_ble_eq_true rfl) ?_
  intro pg ev s m bw meth cdx A ls hF hsz hA hE hP hD hl
  obtain ⟨⟨hx, hb, hml, hown, hts⟩, hr, hno, hlocks, hin⟩ := hF
  subst hsz
  have hown : s.vm.findClass "ModuleBytes$ModuleReader" = some m.cls := hown
  have hS : va_S A s.heap s.heap [] := va_S.rf
  have hl : lv_has ls 3 [(0, .ref r0), (1, .ref t0)] := hl
  have hP : va_P D cls [(r0, .inr (4, [.ref h0, .ref x0, .ref k0, .int rk])), (h0, .inr (2, [.ref h1, .int (nI a), .int (nI lm), .int f, .int pl])), (h1, .inl (cA 0, 2000, .inl bs)), (t0, .inr (0, [.int (nI w), .ref c0, .int (nI n)])), (c0, .inl (cA 1, len, .inr (.inl con)))] s.heap := hP
  have hD : va_D A [(r0, .inr (4, [.ref h0, .ref x0, .ref k0, .int rk])), (h0, .inr (2, [.ref h1, .int (nI a), .int (nI lm), .int f, .int pl])), (h1, .inl (cA 0, 2000, .inl bs)), (t0, .inr (0, [.int (nI w), .ref c0, .int (nI n)])), (c0, .inl (cA 1, len, .inr (.inl con)))] := hD
  refine lv_aload_n hx hb d_Mr_readLimits_0 rfl (lv_at hl 0 rfl) ?_
  refine va_get (D := D) (ci := 4) (v := .ref h0) (C := R_Mr) (T := F_Mr) (N := 4) hx hb hts (fun w h => List.mem_cons_of_mem _ (i_Mr w h)) hown hE.1 hP 0 rfl rfl 0 (by decide) (hts _ (List.mem_cons_of_mem _ iw1_138)) (fun _ h9 => h9) rfl d_Mr_readLimits_1 ?_
  refine lv_iconst (v := 1) hx hb d_Mr_readLimits_4 (by decide) ?_
  refine cV (As := [.int 1]) (rest := []) (n := 1) (wc := [(h0, .inr (2, [.ref h1, .int (nI a), .int (nI lm), .int f, .int pl])), (h1, .inl (cA 0, 2000, .inl bs))]) (wr := [(r0, .inr (4, [.ref h0, .ref x0, .ref k0, .int rk])), (t0, .inr (0, [.int (nI w), .ref c0, .int (nI n)])), (c0, .inl (cA 1, len, .inr (.inl con)))]) ⟨hx, hb, hml, hown, hts⟩ hno hlocks hl.1 (c_Sr_choice l hl9 D cA ad s.heap.size h0 h1 bs a lm f pl hlm (by omega) 1 (by decide)) iw2_128 iw2_129 iw2_130 iw1_5 iw2_131 (by decide +kernel) rfl ⟨Nat.le_of_ble_eq_true rfl, Nat.le_of_ble_eq_true rfl⟩ ⟨Nat.le_of_ble_eq_true rfl, Nat.le_of_ble_eq_true rfl⟩ rfl (Nat.le_of_ble_eq_true rfl) d_Mr_readLimits_5 hE hP hD hS hA [1, 2] [0, 3, 4] rfl rfl rfl rfl (by decide) (ci := 2) rfl rfl 1 rfl (fun u h => ⟨(u, (c0, n, len, con)), ⟨h.mono (fun f p q => by rw [pLim, bnd_T q]), con, rfl⟩, fun _ h => h.sub [0, 3, 4, 1, 2] rfl, fun h => h.sub [0, 3, 4, 1, 2] (by decide) rfl, Nat.le_refl _, Nat.le_refl _⟩) (fun v_5 u_5 H locs hp_5 hP hD hS => ?_)
  obtain ⟨v0, a0_, hn0, rfl, rfl⟩ := hp_5
  have hP : va_P D cls [(r0, .inr (4, [.ref h0, .ref x0, .ref k0, .int rk])), (h0, .inr (2, [.ref h1, .int (nI a0_), .int (nI lm), .int f, .int pl])), (h1, .inl (cA 0, 2000, .inl bs)), (t0, .inr (0, [.int (nI w), .ref c0, .int (nI n)])), (c0, .inl (cA 1, len, .inr (.inl con)))] H := hP.sub [0, 3, 4, 1, 2] rfl
  have hD : va_D A [(r0, .inr (4, [.ref h0, .ref x0, .ref k0, .int rk])), (h0, .inr (2, [.ref h1, .int (nI a0_), .int (nI lm), .int f, .int pl])), (h1, .inl (cA 0, 2000, .inl bs)), (t0, .inr (0, [.int (nI w), .ref c0, .int (nI n)])), (c0, .inl (cA 1, len, .inr (.inl con)))] := hD.sub [0, 3, 4, 1, 2] (by decide) rfl
  refine W.cs (cells' := 0) (slots' := 0) rfl rfl ?_
  refine W.eq (g2 := F0 m 8 ls [.int (nI v0)]) rfl ?_
  have ho0 := pChoice_ok hn0
  refine lv_iconst (v := 1) hx hb d_Mr_readLimits_8 (by decide) ?_
  refine lv_icmp_ne (tgt := 16) hx hb d_Mr_readLimits_9 (by decide) (fun c_9 => ?_) (fun c_9 => ?_)
  · have hg1 : ¬ v0 = 1 := fun q => c_9 (congrArg nI q)
    refine lv_iconst (v := 0) hx hb d_Mr_readLimits_16 (by decide) ?_
    refine lv_istore_n (lv' := [(2, .int 0), (0, .ref r0), (1, .ref t0)]) hx hb d_Mr_readLimits_17 rfl hl (by decide) rfl (fun ls hl => ?_)
    refine lv_aload_n hx hb d_Mr_readLimits_18 rfl (lv_at hl 2 rfl) ?_
    refine lv_iconst (v := 2) hx hb d_Mr_readLimits_19 (by decide) ?_
    refine lv_aload_n hx hb d_Mr_readLimits_20 rfl (lv_at hl 1 rfl) ?_
    refine va_get (D := D) (ci := 4) (v := .ref h0) (C := R_Mr) (T := F_Mr) (N := 4) hx hb hts (fun w h => List.mem_cons_of_mem _ (i_Mr w h)) hown hE.1 hP 0 rfl rfl 0 (by decide) (hts _ (List.mem_cons_of_mem _ iw1_138)) (fun _ h9 => h9) rfl d_Mr_readLimits_21 ?_
    refine cV (As := []) (rest := [.int 2, .ref t0]) (n := 0) (wc := [(h0, .inr (2, [.ref h1, .int (nI a0_), .int (nI lm), .int f, .int pl])), (h1, .inl (cA 0, 2000, .inl bs))]) (wr := [(r0, .inr (4, [.ref h0, .ref x0, .ref k0, .int rk])), (t0, .inr (0, [.int (nI w), .ref c0, .int (nI n)])), (c0, .inl (cA 1, len, .inr (.inl con)))]) ⟨hx, hb, hml, hown, hts⟩ hno hlocks hl.1 (c_Sr_u32 l hl9 D cA ad H.size h0 h1 bs a0_ lm f pl hlm (by omega)) iw2_104 iw2_51 iw2_52 iw1_5 iw2_53 (by decide +kernel) rfl ⟨Nat.le_of_ble_eq_true rfl, Nat.le_of_ble_eq_true rfl⟩ ⟨Nat.le_of_ble_eq_true rfl, Nat.le_of_ble_eq_true rfl⟩ rfl (Nat.le_of_ble_eq_true rfl) d_Mr_readLimits_24 hE hP hD hS hA [1, 2] [0, 3, 4] rfl rfl rfl rfl (by decide) (ci := 2) rfl rfl 1 rfl (fun u h => ⟨(u, (c0, n, len, con)), ⟨h.mono (fun f p q => by rw [pLim, bnd_E hn0, bnd_T q]), con, rfl⟩, fun _ h => h.sub [0, 3, 4, 1, 2] rfl, fun h => h.sub [0, 3, 4, 1, 2] (by decide) rfl, Nat.le_refl _, Nat.le_refl _⟩) (fun v_24 u_24 H locs hp_24 hP hD hS => ?_)
    obtain ⟨v1, a1_, hn1, rfl, rfl⟩ := hp_24
    have hP : va_P D cls [(r0, .inr (4, [.ref h0, .ref x0, .ref k0, .int rk])), (h0, .inr (2, [.ref h1, .int (nI a1_), .int (nI lm), .int f, .int pl])), (h1, .inl (cA 0, 2000, .inl bs)), (t0, .inr (0, [.int (nI w), .ref c0, .int (nI n)])), (c0, .inl (cA 1, len, .inr (.inl con)))] H := hP.sub [0, 3, 4, 1, 2] rfl
    have hD : va_D A [(r0, .inr (4, [.ref h0, .ref x0, .ref k0, .int rk])), (h0, .inr (2, [.ref h1, .int (nI a1_), .int (nI lm), .int f, .int pl])), (h1, .inl (cA 0, 2000, .inl bs)), (t0, .inr (0, [.int (nI w), .ref c0, .int (nI n)])), (c0, .inl (cA 1, len, .inr (.inl con)))] := hD.sub [0, 3, 4, 1, 2] (by decide) rfl
    refine W.cs (cells' := 0) (slots' := 0) rfl rfl ?_
    refine W.eq (g2 := F0 m 27 ls [.long (lN v1), .int 2, .ref t0]) rfl ?_
    have ho1 := pU32_ok (by omega) hn1
    refine cV (As := [.int 2, .long (lN v1)]) (rest := []) (n := 2) (wc := [(t0, .inr (0, [.int (nI w), .ref c0, .int (nI n)])), (c0, .inl (cA 1, len, .inr (.inl con)))]) (wr := [(r0, .inr (4, [.ref h0, .ref x0, .ref k0, .int rk])), (h0, .inr (2, [.ref h1, .int (nI a1_), .int (nI lm), .int f, .int pl])), (h1, .inl (cA 0, 2000, .inl bs))]) ⟨hx, hb, hml, hown, hts⟩ hno hlocks hl.1 (c_Tb_put l hl9 D cA ad H.size t0 c0 w n len con (by omega) (by omega) hnl (by omega) 2 (lN v1) (by omega) (by omega)) iw2_103 iw2_89 iw2_90 iw1_3 iw2_91 (by decide +kernel) rfl ⟨Nat.le_of_ble_eq_true rfl, Nat.le_of_ble_eq_true rfl⟩ ⟨Nat.le_of_ble_eq_true rfl, Nat.le_of_ble_eq_true rfl⟩ rfl (Nat.le_of_ble_eq_true rfl) d_Mr_readLimits_27 hE hP hD hS hA [3, 4] [0, 1, 2] rfl rfl rfl rfl (by decide) (ci := 0) rfl rfl 3 rfl (fun _ h => h.elim) (fun v_27 u_27 H locs hp_27 hP hD hS => ?_)
    obtain ⟨rfl, rfl⟩ := hp_27
    have hP : va_P D cls [(r0, .inr (4, [.ref h0, .ref x0, .ref k0, .int rk])), (h0, .inr (2, [.ref h1, .int (nI a1_), .int (nI lm), .int f, .int pl])), (h1, .inl (cA 0, 2000, .inl bs)), (t0, .inr (0, [.int (nI w), .ref c0, .int (nI n)])), (c0, .inl (cA 1, len, .inr (.inl (vp_updL con ((n - 1) * w + 2) (lN v1)))))] H := hP
    have hD : va_D A [(r0, .inr (4, [.ref h0, .ref x0, .ref k0, .int rk])), (h0, .inr (2, [.ref h1, .int (nI a1_), .int (nI lm), .int f, .int pl])), (h1, .inl (cA 0, 2000, .inl bs)), (t0, .inr (0, [.int (nI w), .ref c0, .int (nI n)])), (c0, .inl (cA 1, len, .inr (.inl (vp_updL con ((n - 1) * w + 2) (lN v1)))))] := hD
    refine W.cs (cells' := 0) (slots' := 0) rfl rfl ?_
    refine W.eq (g2 := F0 m 30 ls []) rfl ?_
    obtain ⟨con2, hcon2⟩ : ∃ z : Nat → Int64, z = vp_updL con ((n - 1) * w + 2) (lN v1) := ⟨_, rfl⟩
    rw [← hcon2] at hP hD
    have hR2 := hR.put 2 (lN v1) (by omega)
    rw [← hcon2] at hR2
    refine lv_iload_n hx hb d_Mr_readLimits_30 rfl (lv_at hl 0 rfl) ?_
    refine lv_if_eq (tgt := 46) hx hb d_Mr_readLimits_31 (by decide) (fun c_31 => ?_) (fun c_31 => absurd (by decide) c_31)
    exact cRv ((nI a1_, nI lm, f, pl), (c0, n, len, con2)) hx hb hr hlocks d_Mr_readLimits_46 hS hP hD (⟨_, a1_, con2, by rw [pLim, bnd_E hn0, bnd_E hn1, if_neg hg1], rfl, rfl, hR2⟩) (Nat.le_refl _) (Nat.le_refl _)
  · have hg1 : v0 = 1 := nI_lit_eq (k := 1) (by omega) (by omega) c_9
    refine lv_iconst (v := 1) hx hb d_Mr_readLimits_12 (by decide) ?_
    refine lv_goto (tgt := 17) hx hb d_Mr_readLimits_13 (by decide) ?_
    refine lv_istore_n (lv' := [(2, .int 1), (0, .ref r0), (1, .ref t0)]) hx hb d_Mr_readLimits_17 rfl hl (by decide) rfl (fun ls hl => ?_)
    refine lv_aload_n hx hb d_Mr_readLimits_18 rfl (lv_at hl 2 rfl) ?_
    refine lv_iconst (v := 2) hx hb d_Mr_readLimits_19 (by decide) ?_
    refine lv_aload_n hx hb d_Mr_readLimits_20 rfl (lv_at hl 1 rfl) ?_
    refine va_get (D := D) (ci := 4) (v := .ref h0) (C := R_Mr) (T := F_Mr) (N := 4) hx hb hts (fun w h => List.mem_cons_of_mem _ (i_Mr w h)) hown hE.1 hP 0 rfl rfl 0 (by decide) (hts _ (List.mem_cons_of_mem _ iw1_138)) (fun _ h9 => h9) rfl d_Mr_readLimits_21 ?_
    refine cV (As := []) (rest := [.int 2, .ref t0]) (n := 0) (wc := [(h0, .inr (2, [.ref h1, .int (nI a0_), .int (nI lm), .int f, .int pl])), (h1, .inl (cA 0, 2000, .inl bs))]) (wr := [(r0, .inr (4, [.ref h0, .ref x0, .ref k0, .int rk])), (t0, .inr (0, [.int (nI w), .ref c0, .int (nI n)])), (c0, .inl (cA 1, len, .inr (.inl con)))]) ⟨hx, hb, hml, hown, hts⟩ hno hlocks hl.1 (c_Sr_u32 l hl9 D cA ad H.size h0 h1 bs a0_ lm f pl hlm (by omega)) iw2_104 iw2_51 iw2_52 iw1_5 iw2_53 (by decide +kernel) rfl ⟨Nat.le_of_ble_eq_true rfl, Nat.le_of_ble_eq_true rfl⟩ ⟨Nat.le_of_ble_eq_true rfl, Nat.le_of_ble_eq_true rfl⟩ rfl (Nat.le_of_ble_eq_true rfl) d_Mr_readLimits_24 hE hP hD hS hA [1, 2] [0, 3, 4] rfl rfl rfl rfl (by decide) (ci := 2) rfl rfl 1 rfl (fun u h => ⟨(u, (c0, n, len, con)), ⟨h.mono (fun f p q => by rw [pLim, bnd_E hn0, bnd_T q]), con, rfl⟩, fun _ h => h.sub [0, 3, 4, 1, 2] rfl, fun h => h.sub [0, 3, 4, 1, 2] (by decide) rfl, Nat.le_refl _, Nat.le_refl _⟩) (fun v_24 u_24 H locs hp_24 hP hD hS => ?_)
    obtain ⟨v1, a1_, hn1, rfl, rfl⟩ := hp_24
    have hP : va_P D cls [(r0, .inr (4, [.ref h0, .ref x0, .ref k0, .int rk])), (h0, .inr (2, [.ref h1, .int (nI a1_), .int (nI lm), .int f, .int pl])), (h1, .inl (cA 0, 2000, .inl bs)), (t0, .inr (0, [.int (nI w), .ref c0, .int (nI n)])), (c0, .inl (cA 1, len, .inr (.inl con)))] H := hP.sub [0, 3, 4, 1, 2] rfl
    have hD : va_D A [(r0, .inr (4, [.ref h0, .ref x0, .ref k0, .int rk])), (h0, .inr (2, [.ref h1, .int (nI a1_), .int (nI lm), .int f, .int pl])), (h1, .inl (cA 0, 2000, .inl bs)), (t0, .inr (0, [.int (nI w), .ref c0, .int (nI n)])), (c0, .inl (cA 1, len, .inr (.inl con)))] := hD.sub [0, 3, 4, 1, 2] (by decide) rfl
    refine W.cs (cells' := 0) (slots' := 0) rfl rfl ?_
    refine W.eq (g2 := F0 m 27 ls [.long (lN v1), .int 2, .ref t0]) rfl ?_
    have ho1 := pU32_ok (by omega) hn1
    refine cV (As := [.int 2, .long (lN v1)]) (rest := []) (n := 2) (wc := [(t0, .inr (0, [.int (nI w), .ref c0, .int (nI n)])), (c0, .inl (cA 1, len, .inr (.inl con)))]) (wr := [(r0, .inr (4, [.ref h0, .ref x0, .ref k0, .int rk])), (h0, .inr (2, [.ref h1, .int (nI a1_), .int (nI lm), .int f, .int pl])), (h1, .inl (cA 0, 2000, .inl bs))]) ⟨hx, hb, hml, hown, hts⟩ hno hlocks hl.1 (c_Tb_put l hl9 D cA ad H.size t0 c0 w n len con (by omega) (by omega) hnl (by omega) 2 (lN v1) (by omega) (by omega)) iw2_103 iw2_89 iw2_90 iw1_3 iw2_91 (by decide +kernel) rfl ⟨Nat.le_of_ble_eq_true rfl, Nat.le_of_ble_eq_true rfl⟩ ⟨Nat.le_of_ble_eq_true rfl, Nat.le_of_ble_eq_true rfl⟩ rfl (Nat.le_of_ble_eq_true rfl) d_Mr_readLimits_27 hE hP hD hS hA [3, 4] [0, 1, 2] rfl rfl rfl rfl (by decide) (ci := 0) rfl rfl 3 rfl (fun _ h => h.elim) (fun v_27 u_27 H locs hp_27 hP hD hS => ?_)
    obtain ⟨rfl, rfl⟩ := hp_27
    have hP : va_P D cls [(r0, .inr (4, [.ref h0, .ref x0, .ref k0, .int rk])), (h0, .inr (2, [.ref h1, .int (nI a1_), .int (nI lm), .int f, .int pl])), (h1, .inl (cA 0, 2000, .inl bs)), (t0, .inr (0, [.int (nI w), .ref c0, .int (nI n)])), (c0, .inl (cA 1, len, .inr (.inl (vp_updL con ((n - 1) * w + 2) (lN v1)))))] H := hP
    have hD : va_D A [(r0, .inr (4, [.ref h0, .ref x0, .ref k0, .int rk])), (h0, .inr (2, [.ref h1, .int (nI a1_), .int (nI lm), .int f, .int pl])), (h1, .inl (cA 0, 2000, .inl bs)), (t0, .inr (0, [.int (nI w), .ref c0, .int (nI n)])), (c0, .inl (cA 1, len, .inr (.inl (vp_updL con ((n - 1) * w + 2) (lN v1)))))] := hD
    refine W.cs (cells' := 0) (slots' := 0) rfl rfl ?_
    refine W.eq (g2 := F0 m 30 ls []) rfl ?_
    obtain ⟨con2, hcon2⟩ : ∃ z : Nat → Int64, z = vp_updL con ((n - 1) * w + 2) (lN v1) := ⟨_, rfl⟩
    rw [← hcon2] at hP hD
    have hR2 := hR.put 2 (lN v1) (by omega)
    rw [← hcon2] at hR2
    refine lv_iload_n hx hb d_Mr_readLimits_30 rfl (lv_at hl 0 rfl) ?_
    refine lv_if_eq (tgt := 46) hx hb d_Mr_readLimits_31 (by decide) (fun c_31 => absurd c_31 (by decide)) (fun c_31 => ?_)
    refine lv_aload_n hx hb d_Mr_readLimits_34 rfl (lv_at hl 2 rfl) ?_
    refine lv_iconst (v := 3) hx hb d_Mr_readLimits_35 (by decide) ?_
    refine lv_aload_n hx hb d_Mr_readLimits_36 rfl (lv_at hl 1 rfl) ?_
    refine va_get (D := D) (ci := 4) (v := .ref h0) (C := R_Mr) (T := F_Mr) (N := 4) hx hb hts (fun w h => List.mem_cons_of_mem _ (i_Mr w h)) hown hE.1 hP 0 rfl rfl 0 (by decide) (hts _ (List.mem_cons_of_mem _ iw1_138)) (fun _ h9 => h9) rfl d_Mr_readLimits_37 ?_
    refine cV (As := []) (rest := [.int 3, .ref t0]) (n := 0) (wc := [(h0, .inr (2, [.ref h1, .int (nI a1_), .int (nI lm), .int f, .int pl])), (h1, .inl (cA 0, 2000, .inl bs))]) (wr := [(r0, .inr (4, [.ref h0, .ref x0, .ref k0, .int rk])), (t0, .inr (0, [.int (nI w), .ref c0, .int (nI n)])), (c0, .inl (cA 1, len, .inr (.inl con2)))]) ⟨hx, hb, hml, hown, hts⟩ hno hlocks hl.1 (c_Sr_u32 l hl9 D cA ad H.size h0 h1 bs a1_ lm f pl hlm (by omega)) iw2_104 iw2_51 iw2_52 iw1_5 iw2_53 (by decide +kernel) rfl ⟨Nat.le_of_ble_eq_true rfl, Nat.le_of_ble_eq_true rfl⟩ ⟨Nat.le_of_ble_eq_true rfl, Nat.le_of_ble_eq_true rfl⟩ rfl (Nat.le_of_ble_eq_true rfl) d_Mr_readLimits_40 hE hP hD hS hA [1, 2] [0, 3, 4] rfl rfl rfl rfl (by decide) (ci := 2) rfl rfl 1 rfl (fun u h => ⟨(u, (c0, n, len, con2)), ⟨h.mono (fun f p q => by rw [pLim, bnd_E hn0, bnd_E hn1, if_pos hg1, bnd_T q]), con2, rfl⟩, fun _ h => h.sub [0, 3, 4, 1, 2] rfl, fun h => h.sub [0, 3, 4, 1, 2] (by decide) rfl, Nat.le_refl _, Nat.le_refl _⟩) (fun v_40 u_40 H locs hp_40 hP hD hS => ?_)
    obtain ⟨v3, a3_, hn3, rfl, rfl⟩ := hp_40
    have hP : va_P D cls [(r0, .inr (4, [.ref h0, .ref x0, .ref k0, .int rk])), (h0, .inr (2, [.ref h1, .int (nI a3_), .int (nI lm), .int f, .int pl])), (h1, .inl (cA 0, 2000, .inl bs)), (t0, .inr (0, [.int (nI w), .ref c0, .int (nI n)])), (c0, .inl (cA 1, len, .inr (.inl con2)))] H := hP.sub [0, 3, 4, 1, 2] rfl
    have hD : va_D A [(r0, .inr (4, [.ref h0, .ref x0, .ref k0, .int rk])), (h0, .inr (2, [.ref h1, .int (nI a3_), .int (nI lm), .int f, .int pl])), (h1, .inl (cA 0, 2000, .inl bs)), (t0, .inr (0, [.int (nI w), .ref c0, .int (nI n)])), (c0, .inl (cA 1, len, .inr (.inl con2)))] := hD.sub [0, 3, 4, 1, 2] (by decide) rfl
    refine W.cs (cells' := 0) (slots' := 0) rfl rfl ?_
    refine W.eq (g2 := F0 m 43 ls [.long (lN v3), .int 3, .ref t0]) rfl ?_
    have ho3 := pU32_ok (by omega) hn3
    refine cV (As := [.int 3, .long (lN v3)]) (rest := []) (n := 2) (wc := [(t0, .inr (0, [.int (nI w), .ref c0, .int (nI n)])), (c0, .inl (cA 1, len, .inr (.inl con2)))]) (wr := [(r0, .inr (4, [.ref h0, .ref x0, .ref k0, .int rk])), (h0, .inr (2, [.ref h1, .int (nI a3_), .int (nI lm), .int f, .int pl])), (h1, .inl (cA 0, 2000, .inl bs))]) ⟨hx, hb, hml, hown, hts⟩ hno hlocks hl.1 (c_Tb_put l hl9 D cA ad H.size t0 c0 w n len con2 (by omega) (by omega) hnl (by omega) 3 (lN v3) (by omega) (by omega)) iw2_103 iw2_89 iw2_90 iw1_3 iw2_91 (by decide +kernel) rfl ⟨Nat.le_of_ble_eq_true rfl, Nat.le_of_ble_eq_true rfl⟩ ⟨Nat.le_of_ble_eq_true rfl, Nat.le_of_ble_eq_true rfl⟩ rfl (Nat.le_of_ble_eq_true rfl) d_Mr_readLimits_43 hE hP hD hS hA [3, 4] [0, 1, 2] rfl rfl rfl rfl (by decide) (ci := 0) rfl rfl 3 rfl (fun _ h => h.elim) (fun v_43 u_43 H locs hp_43 hP hD hS => ?_)
    obtain ⟨rfl, rfl⟩ := hp_43
    have hP : va_P D cls [(r0, .inr (4, [.ref h0, .ref x0, .ref k0, .int rk])), (h0, .inr (2, [.ref h1, .int (nI a3_), .int (nI lm), .int f, .int pl])), (h1, .inl (cA 0, 2000, .inl bs)), (t0, .inr (0, [.int (nI w), .ref c0, .int (nI n)])), (c0, .inl (cA 1, len, .inr (.inl (vp_updL con2 ((n - 1) * w + 3) (lN v3)))))] H := hP
    have hD : va_D A [(r0, .inr (4, [.ref h0, .ref x0, .ref k0, .int rk])), (h0, .inr (2, [.ref h1, .int (nI a3_), .int (nI lm), .int f, .int pl])), (h1, .inl (cA 0, 2000, .inl bs)), (t0, .inr (0, [.int (nI w), .ref c0, .int (nI n)])), (c0, .inl (cA 1, len, .inr (.inl (vp_updL con2 ((n - 1) * w + 3) (lN v3)))))] := hD
    refine W.cs (cells' := 0) (slots' := 0) rfl rfl ?_
    refine W.eq (g2 := F0 m 46 ls []) rfl ?_
    obtain ⟨con4, hcon4⟩ : ∃ z : Nat → Int64, z = vp_updL con2 ((n - 1) * w + 3) (lN v3) := ⟨_, rfl⟩
    rw [← hcon4] at hP hD
    have hR4 := hR2.put 3 (lN v3) (by omega)
    rw [← hcon4] at hR4
    exact cRv ((nI a3_, nI lm, f, pl), (c0, n, len, con4)) hx hb hr hlocks d_Mr_readLimits_46 hS hP hD (⟨_, a3_, con4, by rw [pLim, bnd_E hn0, bnd_E hn1, if_pos hg1, bnd_E hn3], rfl, rfl, hR4⟩) (Nat.le_refl _) (Nat.le_refl _)
