set_option maxHeartbeats 4000000 in
set_option maxRecDepth 100000 in
theorem c_Ja_copyOf (l : Launch) (D : va_G) (cA : Nat → ClassId) (ad : Nat → Nat) (sz : Nat) (c0 len N : Nat) (con : Nat → Int64) (hlN : len < N) (hN : N ≤ 200000) :
    cM l y_Ja_copyOf (.code y_Ja_copyOf b_Ja_copyOf 3 (some (.array .long)) :: wAll) ({ frames := 1, cells := 1, slots := N, locals := 60 }) D cA ad [.ref c0, .int (nI N)] [(c0, .inl (cA 1, len, .inr (.inl con)))] sz (fun v (u : Nat × (Nat → Int64)) => v = some (.ref u.1) ∧ ∀ j, j < len → u.2 j = con j) (fun _ => False) (fun u => [(c0, .inl (cA 1, len, .inr (.inl con))), (u.1, .inl (cA 1, N, .inr (.inl u.2)))]) (fun _ => (1, N)) := by
  refine cM.ofW (cc := b_Ja_copyOf) (maxL := 3) (ret := (some (.array .long))) (by decide) (Nat.le_of_ble_eq_true rfl) ?_
  intro pg ev s m bw meth cdx A ls hF hsz hA hE hP hD hl
  obtain ⟨⟨hx, hb, hml, hown, hts⟩, hr, hno, hlocks, hin⟩ := hF
  subst hsz
  have hown : s.vm.findClass "java/util/Arrays" = some m.cls := hown
  have hS : va_S A s.heap s.heap [] := va_S.rf
  have hl : lv_has ls 3 [(0, .ref c0), (1, .int (nI N))] := hl
  have hP : va_P D cls [(c0, .inl (cA 1, len, .inr (.inl con)))] s.heap := hP
  have hD : va_D A [(c0, .inl (cA 1, len, .inr (.inl con)))] := hD
  refine lv_iload_n hx hb d_Ja_copyOf_0 rfl (lv_at hl 1 rfl) ?_
  refine lv_aload_n hx hb d_Ja_copyOf_1 rfl (lv_at hl 0 rfl) ?_
  refine va_alen hx hb hE.1 hP 0 1 rfl rfl (v := nI len) rfl d_Ja_copyOf_2 ?_
  refine lv_icmp_ne (tgt := 14) hx hb d_Ja_copyOf_3 (by decide) (fun c_3 => ?_) (fun c_3 => absurd c_3 (fun q => absurd ((nI_eq (by omega) (by omega)).mp q) (by omega)))
  refine lv_iload_n hx hb d_Ja_copyOf_14 rfl (lv_at hl 1 rfl) ?_
  refine va_newa (atype := .long) (ty := .long) (N' := N) (a0 := (N, .inr (.inl (fun _ => 0)))) hx hb (hts _ (List.mem_cons_of_mem _ iw1_53)) rfl hE.1 hP hD hS hA (fun _ => rfl) (nI_pos (by omega)) (nI_clamp (by omega)) (by show N * 8 ≤ _; omega) (Nat.le_refl _) (by show 0 + N ≤ N; omega) d_Ja_copyOf_15 (fun q1 cq1 H hK9 hP hD hS => ?_)
  have hc9 : cq1 = cA 1 := Option.some.inj ((hK9.2 5 _ rfl).2.symm.trans (hE.1.2 1 _ rfl).2)
  subst hc9
  have hP : va_P D cls [(c0, .inl (cA 1, len, .inr (.inl con))), (q1, .inl (cA 1, N, .inr (.inl (fun _ => 0))))] H := hP
  have hD : va_D A [(c0, .inl (cA 1, len, .inr (.inl con))), (q1, .inl (cA 1, N, .inr (.inl (fun _ => 0))))] := hD
  refine W.cs (cells' := 1) (slots' := N) rfl (Nat.zero_add N) ?_
  refine lv_astore_n (lv' := [(2, .ref q1), (0, .ref c0), (1, .int (nI N))]) hx hb d_Ja_copyOf_17 rfl hl (by decide) rfl (fun ls hl => ?_)
  refine lv_aload_n hx hb d_Ja_copyOf_18 rfl (lv_at hl 1 rfl) ?_
  refine lv_iconst (v := 0) hx hb d_Ja_copyOf_19 (by decide) ?_
  refine lv_aload_n hx hb d_Ja_copyOf_20 rfl (lv_at hl 0 rfl) ?_
  refine lv_iconst (v := 0) hx hb d_Ja_copyOf_21 (by decide) ?_
  refine lv_aload_n hx hb d_Ja_copyOf_22 rfl (lv_at hl 1 rfl) ?_
  refine va_alen hx hb hE.1 hP 0 1 rfl rfl (v := nI len) rfl d_Ja_copyOf_23 ?_
  refine lv_iload_n hx hb d_Ja_copyOf_24 rfl (lv_at hl 2 rfl) ?_
  refine va_mmin (R := ({ frames := 1, cells := 1, slots := N, locals := 60 } : Room)) (rest := [.int 0, .ref q1, .int 0, .ref c0]) hx hb (hml.trans hl.1.symm) hown (hts _ (List.mem_cons_of_mem _ iw2_74)) (hts _ (List.mem_cons_of_mem _ iw1_198)) (hts _ (List.mem_cons_of_mem _ iw1_8)) (hts _ (List.mem_cons_of_mem _ iw_min)) (by exact Nat.le_of_ble_eq_true rfl) (by exact Nat.le_of_ble_eq_true rfl) (Nat.le_refl _) (Nat.le_refl _) d_Ja_copyOf_25 ?_
  rw [if_neg (nI_nlt (a := N) (b := len) (by omega) (by omega))]
  refine va_copyl (ty := .long) hx hb (hml.trans hl.1.symm) hown (hts _ (List.mem_cons_of_mem _ iw2_75)) (hts _ (List.mem_cons_of_mem _ iw2_77)) (hts _ (List.mem_cons_of_mem _ iw2_76)) (hts _ (List.mem_cons_of_mem _ iw1_14)) hE.1 hP hD hS 0 1 1 1 rfl rfl rfl rfl rfl (by decide) (by decide) (nI_pos (by omega)) (by rw [nI_clamp (by omega)]; exact Nat.le_of_eq (Nat.zero_add len)) (by rw [nI_clamp (by omega)]; exact Nat.le_trans (Nat.le_of_eq (Nat.zero_add len)) (by omega)) (fun _ _ => rfl) (by exact Nat.le_of_ble_eq_true rfl) (by exact Nat.le_of_ble_eq_true rfl) d_Ja_copyOf_28 (fun H locs hP hD hS => ?_)
  have hP : va_P D cls [(c0, .inl (cA 1, len, .inr (.inl con))), (q1, .inl (cA 1, N, .inr (.inl (va_cpy con (fun _ => 0) (0 : Int32).toNatClampNeg (0 : Int32).toNatClampNeg (nI len).toNatClampNeg))))] H := hP
  have hD : va_D A [(c0, .inl (cA 1, len, .inr (.inl con))), (q1, .inl (cA 1, N, .inr (.inl (va_cpy con (fun _ => 0) (0 : Int32).toNatClampNeg (0 : Int32).toNatClampNeg (nI len).toNatClampNeg))))] := hD
  obtain ⟨con2, hcon2⟩ : ∃ z : Nat → Int64, z = va_cpy con (fun _ => 0) (0 : Int32).toNatClampNeg (0 : Int32).toNatClampNeg (nI len).toNatClampNeg := ⟨_, rfl⟩
  rw [← hcon2] at hP hD
  have hc2 : ∀ j, j < len → con2 j = con j := by
    intro j hj
    rw [hcon2, nI_clamp (by omega)]
    exact (pk_cpy_in (sp := 0) (dp := 0) (Nat.zero_le j) (by omega)).trans (by rw [Nat.zero_add, Nat.sub_zero])
  refine lv_aload_n hx hb d_Ja_copyOf_31 rfl (lv_at hl 0 rfl) ?_
  exact cRa (q1, con2) hx hb hr (Or.inr ⟨_, rfl⟩) hlocks d_Ja_copyOf_32 hS hP hD (⟨rfl, hc2⟩) (Nat.le_refl _) (Nat.le_refl _)
set_option maxHeartbeats 4000000 in
set_option maxRecDepth 100000 in
theorem c_Tb_begin (l : Launch) (D : va_G) (cA : Nat → ClassId) (ad : Nat → Nat) (sz : Nat) (t0 c0 w n len : Nat) (con : Nat → Int64) (hw : w ≤ 9) (hn : n ≤ 4000) (hnl : n * w ≤ len) (hlen : len ≤ 80000) :
    cM l y_Tb_begin (.code y_Tb_begin b_Tb_begin 3 none :: wAll) ({ frames := 2, cells := (gB w n len).1, slots := (gB w n len).2, locals := 82 }) D cA ad [.ref t0] (wTb cA t0 w (c0, n, len, con)) sz (fun v u => v = none ∧ u.2.1 = n + 1 ∧ u.2.2.1 = gL w n len ∧ (∀ j, j < n * w → u.2.2.2 j = con j) ∧ ∀ j, n * w ≤ j → j < n * w + w → u.2.2.2 j = -1) (fun _ => False) (wTb cA t0 w) (fun _ => gB w n len) := by
  refine cM.ofW (cc := b_Tb_begin) (maxL := 3) (ret := none) (by decide) (Nat.le_of_ble_eq_true rfl) ?_
  intro pg ev s m bw meth cdx A ls hF hsz hA hE hP hD hl
  obtain ⟨⟨hx, hb, hml, hown, hts⟩, hr, hno, hlocks, hin⟩ := hF
  subst hsz
  have hown : s.vm.findClass "ModuleBytes$Table" = some m.cls := hown
  have hS : va_S A s.heap s.heap [] := va_S.rf
  have hl : lv_has ls 3 [(0, .ref t0)] := hl
  have hP : va_P D cls [(t0, .inr (0, [.int (nI w), .ref c0, .int (nI n)])), (c0, .inl (cA 1, len, .inr (.inl con)))] s.heap := hP
  have hD : va_D A [(t0, .inr (0, [.int (nI w), .ref c0, .int (nI n)])), (c0, .inl (cA 1, len, .inr (.inl con)))] := hD
  have hnw : n * w ≤ 36000 := Nat.le_trans (Nat.mul_le_mul hn hw) (by decide)
  have hL2 : gL w n len ≤ 80000 := by unfold gL; split <;> omega
  have hL3 : n * w + w ≤ gL w n len := by unfold gL; split <;> omega
  have key : ∀ (k i cx len2 : Nat) (con2 : Nat → Int64) (cl sl : Nat) (H : Heap) (locs : List Loc) (ls : Array Slot), i + k = n * w + w → n * w ≤ i → len2 = gL w n len → cl ≤ (gB w n len).1 → sl ≤ (gB w n len).2 → (∀ j, j < n * w → con2 j = con j) → (∀ j, n * w ≤ j → j < i → con2 j = -1) → va_P D cls [(t0, .inr (0, [.int (nI w), .ref cx, .int (nI n)])), (cx, .inl (cA 1, len2, .inr (.inl con2)))] H → va_D A [(t0, .inr (0, [.int (nI w), .ref cx, .int (nI n)])), (cx, .inl (cA 1, len2, .inr (.inl con2)))] → va_S A s.heap H locs → lv_has ls 3 [(0, .ref t0), (1, .int (nI (n * w))), (2, .int (nI i))] → W pg l ev ({ frames := 2, cells := (gB w n len).1, slots := (gB w n len).2, locals := 82 }) s m ([.ref t0] : List Value).toArray bw meth cdx H locs cl sl (tx_Q bw (cQ D (fun v u => v = none ∧ u.2.1 = n + 1 ∧ u.2.2.1 = gL w n len ∧ (∀ j, j < n * w → u.2.2.2 j = con j) ∧ ∀ j, n * w ≤ j → j < n * w + w → u.2.2.2 j = -1) (fun _ => False) (wTb cA t0 w) (fun _ => gB w n len) A) ([.ref t0] : List Value).toArray s A) (F0 m 45 ls []) := by
    intro k
    induction k with
    | zero =>
      intro i cx len2 con2 cl sl H locs ls hik hni hl2 hcl hsl hcon hfil hP hD hS hl
      refine lv_iload_n hx hb d_Tb_begin_45 rfl (lv_at hl 2 rfl) ?_
      refine lv_iload_n hx hb d_Tb_begin_46 rfl (lv_at hl 1 rfl) ?_
      refine lv_aload_n hx hb d_Tb_begin_47 rfl (lv_at hl 0 rfl) ?_
      refine va_get (D := D) (ci := 0) (v := .int (nI w)) (C := R_Tb) (T := F_Tb) (N := 3) hx hb hts (fun w h => List.mem_cons_of_mem _ (i_Tb w h)) hown hE.1 hP 0 rfl rfl 0 (by decide) (hts _ (List.mem_cons_of_mem _ iw1_40)) (fun _ h9 => h9) rfl d_Tb_begin_48 ?_
      refine lv_iadd hx hb d_Tb_begin_51 ?_
      refine lv_icmp_ge (tgt := 70) hx hb d_Tb_begin_52 (by decide) (fun c_52 => ?_) (fun c_52 => absurd (by rw [nI_add]; exact nI_le (by omega) (by omega)) c_52)
      refine lv_aload_n hx hb d_Tb_begin_70 rfl (lv_at hl 0 rfl) ?_
      refine lv_dup hx hb d_Tb_begin_71 rfl ?_
      refine va_get (D := D) (ci := 0) (v := .int (nI n)) (C := R_Tb) (T := F_Tb) (N := 3) hx hb hts (fun w h => List.mem_cons_of_mem _ (i_Tb w h)) hown hE.1 hP 0 rfl rfl 2 (by decide) (hts _ (List.mem_cons_of_mem _ iw1_42)) (fun _ h9 => h9) rfl d_Tb_begin_72 ?_
      refine lv_iconst (v := 1) hx hb d_Tb_begin_75 (by decide) ?_
      refine lv_iadd hx hb d_Tb_begin_76 ?_
      refine va_put (D := D) (ci := 0) (v := .int ((nI n) + 1)) (ty := .int) (C := R_Tb) (T := F_Tb) (N := 3) hx hb hts (fun w h => List.mem_cons_of_mem _ (i_Tb w h)) t_Tb tk_Tb n_Tb hown hE.1 hP hD hS 0 rfl rfl 2 (by decide) (hts _ (List.mem_cons_of_mem _ iw1_42)) (fun _ h9 => h9) rfl (by decide +kernel) rfl rfl (Nat.le_of_ble_eq_true rfl) d_Tb_begin_77 (fun H locs hP hD hS => ?_)
      have hP : va_P D cls [(t0, .inr (0, [.int (nI w), .ref cx, .int ((nI n) + 1)])), (cx, .inl (cA 1, len2, .inr (.inl con2)))] H := hP
      have hD : va_D A [(t0, .inr (0, [.int (nI w), .ref cx, .int ((nI n) + 1)])), (cx, .inl (cA 1, len2, .inr (.inl con2)))] := hD
      rw [nI_1] at hP hD
      exact cRv (cx, n + 1, len2, con2) hx hb hr hlocks d_Tb_begin_80 hS hP hD (⟨rfl, rfl, hl2, hcon, fun j h1 h2 => hfil j h1 (by omega)⟩) hcl hsl
    | succ k ih =>
      intro i cx len2 con2 cl sl H locs ls hik hni hl2 hcl hsl hcon hfil hP hD hS hl
      refine lv_iload_n hx hb d_Tb_begin_45 rfl (lv_at hl 2 rfl) ?_
      refine lv_iload_n hx hb d_Tb_begin_46 rfl (lv_at hl 1 rfl) ?_
      refine lv_aload_n hx hb d_Tb_begin_47 rfl (lv_at hl 0 rfl) ?_
      refine va_get (D := D) (ci := 0) (v := .int (nI w)) (C := R_Tb) (T := F_Tb) (N := 3) hx hb hts (fun w h => List.mem_cons_of_mem _ (i_Tb w h)) hown hE.1 hP 0 rfl rfl 0 (by decide) (hts _ (List.mem_cons_of_mem _ iw1_40)) (fun _ h9 => h9) rfl d_Tb_begin_48 ?_
      refine lv_iadd hx hb d_Tb_begin_51 ?_
      refine lv_icmp_ge (tgt := 70) hx hb d_Tb_begin_52 (by decide) (fun c_52 => absurd c_52 (by rw [nI_add]; exact nI_ge (by omega) (by omega))) (fun c_52 => ?_)
      refine lv_aload_n hx hb d_Tb_begin_55 rfl (lv_at hl 0 rfl) ?_
      refine va_get (D := D) (ci := 0) (v := .ref cx) (C := R_Tb) (T := F_Tb) (N := 3) hx hb hts (fun w h => List.mem_cons_of_mem _ (i_Tb w h)) hown hE.1 hP 0 rfl rfl 1 (by decide) (hts _ (List.mem_cons_of_mem _ iw1_41)) (fun _ h9 => h9) rfl d_Tb_begin_56 ?_
      refine lv_iload_n hx hb d_Tb_begin_59 rfl (lv_at hl 2 rfl) ?_
      refine lv_ldc2 hx hb hown (hts _ (List.mem_cons_of_mem _ iw2_78)) d_Tb_begin_60 ?_
      refine va_last hx hb hE.1 hP hD hS 1 1 rfl rfl (vp_in_nI (by omega) (by omega)) d_Tb_begin_63 (fun H locs hP hD hS => ?_)
      have hP : va_P D cls [(t0, .inr (0, [.int (nI w), .ref cx, .int (nI n)])), (cx, .inl (cA 1, len2, .inr (.inl (vp_updL con2 (nI i).toNatClampNeg (-1)))))] H := hP
      have hD : va_D A [(t0, .inr (0, [.int (nI w), .ref cx, .int (nI n)])), (cx, .inl (cA 1, len2, .inr (.inl (vp_updL con2 (nI i).toNatClampNeg (-1)))))] := hD
      obtain ⟨x2_1, ex2_1⟩ : ∃ y : Int32, y = (nI i) + 1 := ⟨_, rfl⟩
      refine lv_iinc (v := x2_1) (lv' := [(2, .int x2_1), (0, .ref t0), (1, .int (nI (n * w)))]) hx hb d_Tb_begin_64 hl (k := 2) rfl (by rw [ex2_1]; rfl) (by decide) rfl (fun ls hl => ?_)
      refine lv_goto (tgt := 45) hx hb d_Tb_begin_67 (by decide) ?_
      rw [nI_clamp (n := i) (by omega)] at hP hD
      have e9 : x2_1 = nI (i + 1) := by rw [ex2_1]; exact nI_1 i
      subst e9
      exact ih (i + 1) cx len2 (vp_updL con2 i (-1)) cl sl H locs ls (by omega) (by omega) hl2 hcl hsl (fun j hj => (pk_uLn (by omega)).trans (hcon j hj)) (fun j h1 h2 => if q : j = i then (by rw [q]; exact pk_uLs) else (pk_uLn q).trans (hfil j h1 (by omega))) hP hD hS (lv_sub hl [1, 2, 0] rfl)
  refine lv_aload_n hx hb d_Tb_begin_0 rfl (lv_at hl 0 rfl) ?_
  refine va_get (D := D) (ci := 0) (v := .int (nI n)) (C := R_Tb) (T := F_Tb) (N := 3) hx hb hts (fun w h => List.mem_cons_of_mem _ (i_Tb w h)) hown hE.1 hP 0 rfl rfl 2 (by decide) (hts _ (List.mem_cons_of_mem _ iw1_42)) (fun _ h9 => h9) rfl d_Tb_begin_1 ?_
  refine lv_aload_n hx hb d_Tb_begin_4 rfl (lv_at hl 0 rfl) ?_
  refine va_get (D := D) (ci := 0) (v := .int (nI w)) (C := R_Tb) (T := F_Tb) (N := 3) hx hb hts (fun w h => List.mem_cons_of_mem _ (i_Tb w h)) hown hE.1 hP 0 rfl rfl 0 (by decide) (hts _ (List.mem_cons_of_mem _ iw1_40)) (fun _ h9 => h9) rfl d_Tb_begin_5 ?_
  refine lv_imul hx hb d_Tb_begin_8 ?_
  rw [pk_mul]
  refine lv_istore_n (lv' := [(1, .int (nI (n * w))), (0, .ref t0)]) hx hb d_Tb_begin_9 rfl hl (by decide) rfl (fun ls hl => ?_)
  refine lv_iload_n hx hb d_Tb_begin_10 rfl (lv_at hl 0 rfl) ?_
  refine lv_aload_n hx hb d_Tb_begin_11 rfl (lv_at hl 1 rfl) ?_
  refine va_get (D := D) (ci := 0) (v := .int (nI w)) (C := R_Tb) (T := F_Tb) (N := 3) hx hb hts (fun w h => List.mem_cons_of_mem _ (i_Tb w h)) hown hE.1 hP 0 rfl rfl 0 (by decide) (hts _ (List.mem_cons_of_mem _ iw1_40)) (fun _ h9 => h9) rfl d_Tb_begin_12 ?_
  refine lv_iadd hx hb d_Tb_begin_15 ?_
  refine lv_aload_n hx hb d_Tb_begin_16 rfl (lv_at hl 1 rfl) ?_
  refine va_get (D := D) (ci := 0) (v := .ref c0) (C := R_Tb) (T := F_Tb) (N := 3) hx hb hts (fun w h => List.mem_cons_of_mem _ (i_Tb w h)) hown hE.1 hP 0 rfl rfl 1 (by decide) (hts _ (List.mem_cons_of_mem _ iw1_41)) (fun _ h9 => h9) rfl d_Tb_begin_17 ?_
  refine va_alen hx hb hE.1 hP 1 1 rfl rfl (v := nI len) rfl d_Tb_begin_20 ?_
  refine lv_icmp_le (tgt := 43) hx hb d_Tb_begin_21 (by decide) (fun c_21 => ?_) (fun c_21 => ?_)
  · refine lv_iload_n hx hb d_Tb_begin_43 rfl (lv_at hl 0 rfl) ?_
    refine lv_istore_n (lv' := [(2, .int (nI (n * w))), (1, .int (nI (n * w))), (0, .ref t0)]) hx hb d_Tb_begin_44 rfl hl (by decide) rfl (fun ls hl => ?_)
    rw [nI_add] at c_21
    have hge : ¬ len < n * w + w := Nat.not_lt.mpr ((nI_leI (by omega) (by omega)).mp c_21)
    exact key w (n * w) c0 len con 0 0 _ _ ls rfl (Nat.le_refl _) (if_neg hge).symm (Nat.zero_le _) (Nat.zero_le _) (fun j hj => rfl) (fun j h1 h2 => absurd h2 (by omega)) hP hD hS (lv_sub hl [2, 1, 0] rfl)
  · have hlt : len < n * w + w := Nat.lt_of_not_le (fun q => c_21 (by rw [nI_add]; exact nI_le q (by omega)))
    have hg : gB w n len = (1, 2 * (n * w + w)) := if_pos hlt
    have hl9 : gL w n len = 2 * (n * w + w) := if_pos hlt
    refine lv_aload_n hx hb d_Tb_begin_24 rfl (lv_at hl 1 rfl) ?_
    refine lv_aload_n hx hb d_Tb_begin_25 rfl (lv_at hl 1 rfl) ?_
    refine va_get (D := D) (ci := 0) (v := .ref c0) (C := R_Tb) (T := F_Tb) (N := 3) hx hb hts (fun w h => List.mem_cons_of_mem _ (i_Tb w h)) hown hE.1 hP 0 rfl rfl 1 (by decide) (hts _ (List.mem_cons_of_mem _ iw1_41)) (fun _ h9 => h9) rfl d_Tb_begin_26 ?_
    refine lv_iconst (v := 2) hx hb d_Tb_begin_29 (by decide) ?_
    refine lv_iload_n hx hb d_Tb_begin_30 rfl (lv_at hl 0 rfl) ?_
    refine lv_aload_n hx hb d_Tb_begin_31 rfl (lv_at hl 1 rfl) ?_
    refine va_get (D := D) (ci := 0) (v := .int (nI w)) (C := R_Tb) (T := F_Tb) (N := 3) hx hb hts (fun w h => List.mem_cons_of_mem _ (i_Tb w h)) hown hE.1 hP 0 rfl rfl 0 (by decide) (hts _ (List.mem_cons_of_mem _ iw1_40)) (fun _ h9 => h9) rfl d_Tb_begin_32 ?_
    refine lv_iadd hx hb d_Tb_begin_35 ?_
    refine lv_imul hx hb d_Tb_begin_36 ?_
    rw [show 2 * (nI (n * w) + nI w) = nI (2 * (n * w + w)) from by rw [show (2 : Int32) = nI 2 from rfl, nI_add, pk_mul]]
    refine cS (As := [.ref c0, .int (nI (2 * (n * w + w)))]) (rest := [.ref t0]) (n := 2) (wc := [(c0, .inl (cA 1, len, .inr (.inl con)))]) (wr := [(t0, .inr (0, [.int (nI w), .ref c0, .int (nI n)]))]) ⟨hx, hb, hml, hown, hts⟩ hno hlocks hl.1 (c_Ja_copyOf l D cA ad s.heap.size c0 len (2 * (n * w + w)) con (by omega) (by omega)) iw2_64 iw2_65 iw1_13 iw2_66 (by decide +kernel) rfl ⟨Nat.le_of_ble_eq_true rfl, Nat.le_of_ble_eq_true rfl⟩ ⟨by rw [hg]; exact Nat.le_refl _, by rw [hg]; show 0 + 2 * (n * w + w) ≤ 2 * (n * w + w); omega⟩ rfl (Nat.le_of_ble_eq_true rfl) d_Tb_begin_37 hE hP hD hS hA [1] [0] rfl rfl rfl rfl (by decide) (fun _ h => h.elim) (fun v_37 u_37 H locs hp_37 hP hD hS => ?_)
    obtain ⟨q1, con1⟩ := u_37
    obtain ⟨rfl, hc1⟩ := hp_37
    have hP : va_P D cls [(t0, .inr (0, [.int (nI w), .ref c0, .int (nI n)])), (c0, .inl (cA 1, len, .inr (.inl con))), (q1, .inl (cA 1, 2 * (n * w + w), .inr (.inl con1)))] H := hP
    have hD : va_D A [(t0, .inr (0, [.int (nI w), .ref c0, .int (nI n)])), (c0, .inl (cA 1, len, .inr (.inl con))), (q1, .inl (cA 1, 2 * (n * w + w), .inr (.inl con1)))] := hD
    refine W.cs (cells' := 1) (slots' := 2 * (n * w + w)) rfl (Nat.zero_add _) ?_
    refine W.eq (g2 := F0 m 40 ls [.ref q1, .ref t0]) rfl ?_
    refine va_put (D := D) (ci := 0) (v := .ref q1) (ty := .array .long) (C := R_Tb) (T := F_Tb) (N := 3) hx hb hts (fun w h => List.mem_cons_of_mem _ (i_Tb w h)) t_Tb tk_Tb n_Tb hown hE.1 hP hD hS 0 rfl rfl 1 (by decide) (hts _ (List.mem_cons_of_mem _ iw1_41)) (fun _ h9 => h9) rfl (by decide +kernel) rfl rfl (Nat.le_of_ble_eq_true rfl) d_Tb_begin_40 (fun H locs hP hD hS => ?_)
    have hP : va_P D cls [(t0, .inr (0, [.int (nI w), .ref q1, .int (nI n)])), (c0, .inl (cA 1, len, .inr (.inl con))), (q1, .inl (cA 1, 2 * (n * w + w), .inr (.inl con1)))] H := hP
    have hD : va_D A [(t0, .inr (0, [.int (nI w), .ref q1, .int (nI n)])), (c0, .inl (cA 1, len, .inr (.inl con))), (q1, .inl (cA 1, 2 * (n * w + w), .inr (.inl con1)))] := hD
    refine lv_iload_n hx hb d_Tb_begin_43 rfl (lv_at hl 0 rfl) ?_
    refine lv_istore_n (lv' := [(2, .int (nI (n * w))), (1, .int (nI (n * w))), (0, .ref t0)]) hx hb d_Tb_begin_44 rfl hl (by decide) rfl (fun ls hl => ?_)
    exact key w (n * w) q1 _ con1 1 (2 * (n * w + w)) H _ ls rfl (Nat.le_refl _) hl9.symm (by rw [hg]; exact Nat.le_refl _) (by rw [hg]; exact Nat.le_refl _) (fun j hj => hc1 j (by omega)) (fun j h1 h2 => absurd h2 (by omega)) (hP.sub [0, 2] rfl) (hD.sub [0, 2] (by decide) rfl) hS (lv_sub hl [2, 1, 0] rfl)
