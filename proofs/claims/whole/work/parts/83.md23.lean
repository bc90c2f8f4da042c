set_option maxHeartbeats 4000000 in
set_option maxRecDepth 100000 in
/-- copy(a, b, n) -/
theorem c_Md_copy (l : Launch) (hl9 : l.stackTraces = false) (D : va_G) (cA : Nat → ClassId) (ad : Nat → Nat) (sz : Nat) (p1 p2 n1 n2 n : Nat) (f h : Nat → Int32) (hn1 : n ≤ n1) (hn2 : n ≤ n2) (hn : n ≤ 2000) (hm1 : n1 ≤ 2001) (hm2 : n2 ≤ 2001) :
    cM l y_Md_copy (.code y_Md_copy b_Md_copy 4 none :: wAll) ({ frames := 0, cells := 0, slots := 0, locals := 0 }) D cA ad [.ref p1, .ref p2, .int (nI n)] [(p1, .inl (cA 3, n1, .inl f)), (p2, .inl (cA 3, n2, .inl h))] sz (fun v (u : Nat → Int32) => v = none ∧ ∀ j, j < n → u j = f j) (fun _ => False) (fun (u : Nat → Int32) => [(p1, .inl (cA 3, n1, .inl f)), (p2, .inl (cA 3, n2, .inl u))]) (fun _ => (0, 0)) := by
  refine cM.ofW (cc := b_Md_copy) (maxL := 4) (ret := none) (by decide) (Nat.le_of_ble_eq_true rfl) ?_
  intro pg ev s m bw meth cdx A ls hF hsz hA hE hP hD hl
  obtain ⟨⟨hx, hb, hml, hown, hts⟩, hr, hno, hlocks, hin⟩ := hF
  subst hsz
  have hown : s.vm.findClass "ModuleBytesModel" = some m.cls := hown
  have hS : va_S A s.heap s.heap [] := va_S.rf
  have hl : lv_has ls 4 [(0, .ref p1), (1, .ref p2), (2, .int (nI n))] := hl
  have hP : va_P D cls [(p1, .inl (cA 3, n1, .inl f)), (p2, .inl (cA 3, n2, .inl h))] s.heap := hP
  have hD : va_D A [(p1, .inl (cA 3, n1, .inl f)), (p2, .inl (cA 3, n2, .inl h))] := hD
  refine lv_iconst (v := 0) hx hb d_Md_copy_0 (by decide) ?_
  refine lv_istore_n (lv' := [(3, .int 0), (0, .ref p1), (1, .ref p2), (2, .int (nI n))]) hx hb d_Md_copy_1 rfl hl (by decide) rfl (fun ls hl => ?_)
  have key : ∀ (d i : Nat) (h2 : Nat → Int32) (H : Heap) (locs : List Loc) (ls : Array Slot), i + d = n → (∀ j, j < i → h2 j = f j) → va_P D cls [(p1, .inl (cA 3, n1, .inl f)), (p2, .inl (cA 3, n2, .inl h2))] H → va_D A [(p1, .inl (cA 3, n1, .inl f)), (p2, .inl (cA 3, n2, .inl h2))] → va_S A s.heap H locs → lv_has ls 4 [(0, .ref p1), (1, .ref p2), (2, .int (nI n)), (3, .int (nI i))] → W pg l ev ({ frames := 0, cells := 0, slots := 0, locals := 0 }) s m ([.ref p1, .ref p2, .int (nI n)] : List Value).toArray bw meth cdx H locs 0 0 (tx_Q bw (cQ D (fun v (u : Nat → Int32) => v = none ∧ ∀ j, j < n → u j = f j) (fun _ => False) (fun (u : Nat → Int32) => [(p1, .inl (cA 3, n1, .inl f)), (p2, .inl (cA 3, n2, .inl u))]) (fun _ => (0, 0)) A) ([.ref p1, .ref p2, .int (nI n)] : List Value).toArray s A) (F0 m 2 ls []) := by
    intro d
    induction d with
    | zero =>
      intro i h2 H locs ls hid hcp hP hD hS hl
      refine lv_iload_n hx hb d_Md_copy_2 rfl (lv_at hl 3 rfl) ?_
      refine lv_iload_n hx hb d_Md_copy_3 rfl (lv_at hl 2 rfl) ?_
      refine lv_icmp_ge (tgt := 19) hx hb d_Md_copy_4 (by decide) (fun c_4 => ?_) (fun c_4 => absurd (nI_le (by omega) (by omega)) c_4)
      exact cRv h2 hx hb hr hlocks d_Md_copy_19 hS hP hD (⟨rfl, fun j hj => hcp j (by omega)⟩) (Nat.le_refl _) (Nat.le_refl _)
    | succ d ih =>
      intro i h2 H locs ls hid hcp hP hD hS hl
      refine lv_iload_n hx hb d_Md_copy_2 rfl (lv_at hl 3 rfl) ?_
      refine lv_iload_n hx hb d_Md_copy_3 rfl (lv_at hl 2 rfl) ?_
      refine lv_icmp_ge (tgt := 19) hx hb d_Md_copy_4 (by decide) (fun c_4 => absurd c_4 (nI_ge (by omega) (by omega))) (fun c_4 => ?_)
      refine lv_aload_n hx hb d_Md_copy_7 rfl (lv_at hl 1 rfl) ?_
      refine lv_iload_n hx hb d_Md_copy_8 rfl (lv_at hl 3 rfl) ?_
      refine lv_aload_n hx hb d_Md_copy_9 rfl (lv_at hl 0 rfl) ?_
      refine lv_iload_n hx hb d_Md_copy_10 rfl (lv_at hl 3 rfl) ?_
      refine va_iald hx hb hE.1 hP 0 3 rfl rfl (vp_in_nI (by omega) (by omega)) d_Md_copy_11 ?_
      rw [nI_clamp (n := i) (by omega)]
      refine va_iast hx hb hE.1 hP hD hS 1 3 rfl rfl (vp_in_nI (by omega) (by omega)) d_Md_copy_12 (fun H locs hP hD hS => ?_)
      have hP : va_P D cls [(p1, .inl (cA 3, n1, .inl f)), (p2, .inl (cA 3, n2, .inl (upd h2 (nI i).toNatClampNeg (f i))))] H := hP
      have hD : va_D A [(p1, .inl (cA 3, n1, .inl f)), (p2, .inl (cA 3, n2, .inl (upd h2 (nI i).toNatClampNeg (f i))))] := hD
      obtain ⟨x3_1, ex3_1⟩ : ∃ y : Int32, y = (nI i) + 1 := ⟨_, rfl⟩
      refine lv_iinc (v := x3_1) (lv' := [(3, .int x3_1), (0, .ref p1), (1, .ref p2), (2, .int (nI n))]) hx hb d_Md_copy_13 hl (k := 3) rfl (by rw [ex3_1]; rfl) (by decide) rfl (fun ls hl => ?_)
      refine lv_goto (tgt := 2) hx hb d_Md_copy_16 (by decide) ?_
      rw [nI_clamp (n := i) (by omega)] at hP hD
      have e9 : x3_1 = nI (i + 1) := by rw [ex3_1]; exact nI_1 i
      subst e9
      exact ih (i + 1) (upd h2 i (f i)) H locs ls (by omega) (fun j hj => if q : j = i then (by rw [q]; exact pk_us) else (pk_un q).trans (hcp j (by omega))) hP hD hS (lv_sub hl [1, 2, 3, 0] rfl)
  exact key n 0 h s.heap _ ls (by omega) (fun j hj => absurd hj (Nat.not_lt_zero j)) hP hD hS (lv_sub hl [1, 2, 3, 0] rfl)
theorem fd_q (x s : Int32) (k : Nat) (hs : (s.toBitVec.smod 32).toNat = k) (hk : k = 24 ∨ k = 16 ∨ k = 8 ∨ k = 0) : x >>> s &&& 255 = nI (bq x k) := by
  rw [pk_and _ 8 (by decide +kernel)]
  congr 1
  have h := pk_shr x s k hs
  rw [Int.shiftRight_eq_div_pow] at h
  have h1 : ∀ y : Int32, y.toInt = if 2 * y.toBitVec.toNat < 4294967296 then (y.toBitVec.toNat : Int) else (y.toBitVec.toNat : Int) - 4294967296 := fun y => BitVec.toInt_eq_toNat_cond y.toBitVec
  rw [h1, h1] at h
  unfold bq
  have l1 := (x >>> s).toBitVec.isLt
  have l2 := x.toBitVec.isLt
  generalize (x >>> s).toBitVec.toNat = R at h l1 ⊢
  generalize x.toBitVec.toNat = V at h l2 ⊢
  rcases hk with rfl | rfl | rfl | rfl
  · simp only [show ((2 ^ 24 : Nat) : Int) = 16777216 from rfl] at h
    show R % 256 = V / 16777216 % 256
    split at h <;> split at h <;> omega
  · simp only [show ((2 ^ 16 : Nat) : Int) = 65536 from rfl] at h
    show R % 256 = V / 65536 % 256
    split at h <;> split at h <;> omega
  · simp only [show ((2 ^ 8 : Nat) : Int) = 256 from rfl] at h
    show R % 256 = V / 256 % 256
    split at h <;> split at h <;> omega
  · simp only [show ((2 ^ 0 : Nat) : Int) = 1 from rfl] at h
    show R % 256 = V / 1 % 256
    split at h <;> split at h <;> omega
set_option maxHeartbeats 4000000 in
set_option maxRecDepth 100000 in
/-- feedOne(v) -/
theorem c_Md_feedOne (l : Launch) (hl9 : l.stackTraces = false) (D : va_G) (cA : Nat → ClassId) (ad : Nat → Nat) (sz : Nat) (m0 : Nat) (g : Nat → Nat) (K : MK) (A0 : A3) (e np : Int32) (B : MB) (fd : Nat → Int32) (a : Nat) (ha : a ≤ 1996) (v : Int32) :
    cM l y_Md_feedOne (.code y_Md_feedOne b_Md_feedOne 3 none :: wAll) ({ frames := 0, cells := 0, slots := 0, locals := 0 }) D cA ad [.ref m0, .int v] [(m0, .inr (6, mF g (nI a, K.2.1, K.2.2.1, K.2.2.2.1, K.2.2.2.2.1, K.2.2.2.2.2.1, K.2.2.2.2.2.2.1, K.2.2.2.2.2.2.2.1, K.2.2.2.2.2.2.2.2) A0 e np B)), ((g 0), .inl (cA 3, 2000, .inl fd))] sz (fun x (u : Nat → Int32) => x = none ∧ (∀ j, j < a → u j = fd j) ∧ u a = nI (bq v 24) ∧ u (a + 1) = nI (bq v 16) ∧ u (a + 2) = nI (bq v 8) ∧ u (a + 3) = nI (bq v 0)) (fun _ => False) (fun (u : Nat → Int32) => [(m0, .inr (6, mF g (nI (a + 4), K.2.1, K.2.2.1, K.2.2.2.1, K.2.2.2.2.1, K.2.2.2.2.2.1, K.2.2.2.2.2.2.1, K.2.2.2.2.2.2.2.1, K.2.2.2.2.2.2.2.2) A0 e np B)), ((g 0), .inl (cA 3, 2000, .inl u))]) (fun _ => (0, 0)) := by
  refine cM.ofW (cc := b_Md_feedOne) (maxL := 3) (ret := none) (by decide) (Nat.le_of_ble_eq_true rfl) ?_
  intro pg ev s m bw meth cdx A ls hF hsz hA hE hP hD hl
  obtain ⟨⟨hx, hb, hml, hown, hts⟩, hr, hno, hlocks, hin⟩ := hF
  subst hsz
  have hown : s.vm.findClass "ModuleBytesModel" = some m.cls := hown
  have hS : va_S A s.heap s.heap [] := va_S.rf
  have hl : lv_has ls 3 [(0, .ref m0), (1, .int v)] := hl
  have hP : va_P D cls [(m0, .inr (6, mF g (nI a, K.2.1, K.2.2.1, K.2.2.2.1, K.2.2.2.2.1, K.2.2.2.2.2.1, K.2.2.2.2.2.2.1, K.2.2.2.2.2.2.2.1, K.2.2.2.2.2.2.2.2) A0 e np B)), ((g 0), .inl (cA 3, 2000, .inl fd))] s.heap := hP
  have hD : va_D A [(m0, .inr (6, mF g (nI a, K.2.1, K.2.2.1, K.2.2.2.1, K.2.2.2.2.1, K.2.2.2.2.2.1, K.2.2.2.2.2.2.1, K.2.2.2.2.2.2.2.1, K.2.2.2.2.2.2.2.2) A0 e np B)), ((g 0), .inl (cA 3, 2000, .inl fd))] := hD
  refine lv_bipush (v := 24) hx hb d_Md_feedOne_0 (by decide) ?_
  refine lv_istore_n (lv' := [(2, .int 24), (0, .ref m0), (1, .int v)]) hx hb d_Md_feedOne_2 rfl hl (by decide) rfl (fun ls hl => ?_)
  refine lv_iload_n hx hb d_Md_feedOne_3 rfl (lv_at hl 0 rfl) ?_
  refine lv_if_lt (tgt := 39) hx hb d_Md_feedOne_4 (by decide) (fun c_4 => absurd c_4 (by decide)) (fun c_4 => ?_)
  refine lv_aload_n hx hb d_Md_feedOne_7 rfl (lv_at hl 1 rfl) ?_
  refine va_get (D := D) (ci := 6) (v := .ref (g 0)) (C := R_Md) (T := F_Md) (N := 44) hx hb hts (fun w h => List.mem_cons_of_mem _ (i_Md w h)) hown hE.1 hP 0 rfl rfl 0 (by decide) (hts _ (List.mem_cons_of_mem _ iw3_54)) (fun _ h9 => h9) rfl d_Md_feedOne_8 ?_
  refine lv_aload_n hx hb d_Md_feedOne_11 rfl (lv_at hl 1 rfl) ?_
  refine va_get (D := D) (ci := 6) (v := .int (nI a)) (C := R_Md) (T := F_Md) (N := 44) hx hb hts (fun w h => List.mem_cons_of_mem _ (i_Md w h)) hown hE.1 hP 0 rfl rfl 1 (by decide) (hts _ (List.mem_cons_of_mem _ iw3_55)) (fun _ h9 => h9) rfl d_Md_feedOne_12 ?_
  refine lv_iload_n hx hb d_Md_feedOne_15 rfl (lv_at hl 2 rfl) ?_
  refine lv_iload_n hx hb d_Md_feedOne_16 rfl (lv_at hl 0 rfl) ?_
  refine lv_ishr hx hb d_Md_feedOne_17 ?_
  refine lv_sipush (v := 255) hx hb d_Md_feedOne_18 (by decide) ?_
  refine lv_iand hx hb d_Md_feedOne_21 ?_
  rw [fd_q v _ 24 (by decide +kernel) (by decide)]
  refine va_iast hx hb hE.1 hP hD hS 1 3 rfl rfl (vp_in_nI (by omega) (by omega)) d_Md_feedOne_22 (fun H locs hP hD hS => ?_)
  have hP : va_P D cls [(m0, .inr (6, mF g (nI a, K.2.1, K.2.2.1, K.2.2.2.1, K.2.2.2.2.1, K.2.2.2.2.2.1, K.2.2.2.2.2.2.1, K.2.2.2.2.2.2.2.1, K.2.2.2.2.2.2.2.2) A0 e np B)), ((g 0), .inl (cA 3, 2000, .inl (upd fd (nI a).toNatClampNeg (nI (bq v 24)))))] H := hP
  have hD : va_D A [(m0, .inr (6, mF g (nI a, K.2.1, K.2.2.1, K.2.2.2.1, K.2.2.2.2.1, K.2.2.2.2.2.1, K.2.2.2.2.2.2.1, K.2.2.2.2.2.2.2.1, K.2.2.2.2.2.2.2.2) A0 e np B)), ((g 0), .inl (cA 3, 2000, .inl (upd fd (nI a).toNatClampNeg (nI (bq v 24)))))] := hD
  refine lv_aload_n hx hb d_Md_feedOne_23 rfl (lv_at hl 1 rfl) ?_
  refine lv_dup hx hb d_Md_feedOne_24 rfl ?_
  refine va_get (D := D) (ci := 6) (v := .int (nI a)) (C := R_Md) (T := F_Md) (N := 44) hx hb hts (fun w h => List.mem_cons_of_mem _ (i_Md w h)) hown hE.1 hP 0 rfl rfl 1 (by decide) (hts _ (List.mem_cons_of_mem _ iw3_55)) (fun _ h9 => h9) rfl d_Md_feedOne_25 ?_
  refine lv_iconst (v := 1) hx hb d_Md_feedOne_28 (by decide) ?_
  refine lv_iadd hx hb d_Md_feedOne_29 ?_
  rw [nI_1]
  refine va_put (D := D) (ci := 6) (v := .int (nI (a + 1))) (ty := .int) (C := R_Md) (T := F_Md) (N := 44) hx hb hts (fun w h => List.mem_cons_of_mem _ (i_Md w h)) t_Md tk_Md n_Md hown hE.1 hP hD hS 0 rfl rfl 1 (by decide) (hts _ (List.mem_cons_of_mem _ iw3_55)) (fun _ h9 => h9) rfl (by decide +kernel) rfl rfl (Nat.le_of_ble_eq_true rfl) d_Md_feedOne_30 (fun H locs hP hD hS => ?_)
  have hP : va_P D cls [(m0, .inr (6, mF g (nI (a + 1), K.2.1, K.2.2.1, K.2.2.2.1, K.2.2.2.2.1, K.2.2.2.2.2.1, K.2.2.2.2.2.2.1, K.2.2.2.2.2.2.2.1, K.2.2.2.2.2.2.2.2) A0 e np B)), ((g 0), .inl (cA 3, 2000, .inl (upd fd (nI a).toNatClampNeg (nI (bq v 24)))))] H := hP
  have hD : va_D A [(m0, .inr (6, mF g (nI (a + 1), K.2.1, K.2.2.1, K.2.2.2.1, K.2.2.2.2.1, K.2.2.2.2.2.1, K.2.2.2.2.2.2.1, K.2.2.2.2.2.2.2.1, K.2.2.2.2.2.2.2.2) A0 e np B)), ((g 0), .inl (cA 3, 2000, .inl (upd fd (nI a).toNatClampNeg (nI (bq v 24)))))] := hD
  refine lv_iinc (v := 16) (lv' := [(2, .int 16), (0, .ref m0), (1, .int v)]) hx hb d_Md_feedOne_33 hl (k := 0) rfl (by decide) (by decide) rfl (fun ls hl => ?_)
  refine lv_goto (tgt := 3) hx hb d_Md_feedOne_36 (by decide) ?_
  refine lv_iload_n hx hb d_Md_feedOne_3 rfl (lv_at hl 0 rfl) ?_
  refine lv_if_lt (tgt := 39) hx hb d_Md_feedOne_4 (by decide) (fun c_4 => absurd c_4 (by decide)) (fun c_4 => ?_)
  refine lv_aload_n hx hb d_Md_feedOne_7 rfl (lv_at hl 1 rfl) ?_
  refine va_get (D := D) (ci := 6) (v := .ref (g 0)) (C := R_Md) (T := F_Md) (N := 44) hx hb hts (fun w h => List.mem_cons_of_mem _ (i_Md w h)) hown hE.1 hP 0 rfl rfl 0 (by decide) (hts _ (List.mem_cons_of_mem _ iw3_54)) (fun _ h9 => h9) rfl d_Md_feedOne_8 ?_
  refine lv_aload_n hx hb d_Md_feedOne_11 rfl (lv_at hl 1 rfl) ?_
  refine va_get (D := D) (ci := 6) (v := .int (nI (a + 1))) (C := R_Md) (T := F_Md) (N := 44) hx hb hts (fun w h => List.mem_cons_of_mem _ (i_Md w h)) hown hE.1 hP 0 rfl rfl 1 (by decide) (hts _ (List.mem_cons_of_mem _ iw3_55)) (fun _ h9 => h9) rfl d_Md_feedOne_12 ?_
  refine lv_iload_n hx hb d_Md_feedOne_15 rfl (lv_at hl 2 rfl) ?_
  refine lv_iload_n hx hb d_Md_feedOne_16 rfl (lv_at hl 0 rfl) ?_
  refine lv_ishr hx hb d_Md_feedOne_17 ?_
  refine lv_sipush (v := 255) hx hb d_Md_feedOne_18 (by decide) ?_
  refine lv_iand hx hb d_Md_feedOne_21 ?_
  rw [fd_q v _ 16 (by decide +kernel) (by decide)]
  refine va_iast hx hb hE.1 hP hD hS 1 3 rfl rfl (vp_in_nI (by omega) (by omega)) d_Md_feedOne_22 (fun H locs hP hD hS => ?_)
  have hP : va_P D cls [(m0, .inr (6, mF g (nI (a + 1), K.2.1, K.2.2.1, K.2.2.2.1, K.2.2.2.2.1, K.2.2.2.2.2.1, K.2.2.2.2.2.2.1, K.2.2.2.2.2.2.2.1, K.2.2.2.2.2.2.2.2) A0 e np B)), ((g 0), .inl (cA 3, 2000, .inl (upd (upd fd (nI a).toNatClampNeg (nI (bq v 24))) (nI (a + 1)).toNatClampNeg (nI (bq v 16)))))] H := hP
  have hD : va_D A [(m0, .inr (6, mF g (nI (a + 1), K.2.1, K.2.2.1, K.2.2.2.1, K.2.2.2.2.1, K.2.2.2.2.2.1, K.2.2.2.2.2.2.1, K.2.2.2.2.2.2.2.1, K.2.2.2.2.2.2.2.2) A0 e np B)), ((g 0), .inl (cA 3, 2000, .inl (upd (upd fd (nI a).toNatClampNeg (nI (bq v 24))) (nI (a + 1)).toNatClampNeg (nI (bq v 16)))))] := hD
  refine lv_aload_n hx hb d_Md_feedOne_23 rfl (lv_at hl 1 rfl) ?_
  refine lv_dup hx hb d_Md_feedOne_24 rfl ?_
  refine va_get (D := D) (ci := 6) (v := .int (nI (a + 1))) (C := R_Md) (T := F_Md) (N := 44) hx hb hts (fun w h => List.mem_cons_of_mem _ (i_Md w h)) hown hE.1 hP 0 rfl rfl 1 (by decide) (hts _ (List.mem_cons_of_mem _ iw3_55)) (fun _ h9 => h9) rfl d_Md_feedOne_25 ?_
  refine lv_iconst (v := 1) hx hb d_Md_feedOne_28 (by decide) ?_
  refine lv_iadd hx hb d_Md_feedOne_29 ?_
  rw [show nI (a + 1) + 1 = nI (a + 2) from nI_1 (a + 1)]
  refine va_put (D := D) (ci := 6) (v := .int (nI (a + 2))) (ty := .int) (C := R_Md) (T := F_Md) (N := 44) hx hb hts (fun w h => List.mem_cons_of_mem _ (i_Md w h)) t_Md tk_Md n_Md hown hE.1 hP hD hS 0 rfl rfl 1 (by decide) (hts _ (List.mem_cons_of_mem _ iw3_55)) (fun _ h9 => h9) rfl (by decide +kernel) rfl rfl (Nat.le_of_ble_eq_true rfl) d_Md_feedOne_30 (fun H locs hP hD hS => ?_)
  have hP : va_P D cls [(m0, .inr (6, mF g (nI (a + 2), K.2.1, K.2.2.1, K.2.2.2.1, K.2.2.2.2.1, K.2.2.2.2.2.1, K.2.2.2.2.2.2.1, K.2.2.2.2.2.2.2.1, K.2.2.2.2.2.2.2.2) A0 e np B)), ((g 0), .inl (cA 3, 2000, .inl (upd (upd fd (nI a).toNatClampNeg (nI (bq v 24))) (nI (a + 1)).toNatClampNeg (nI (bq v 16)))))] H := hP
  have hD : va_D A [(m0, .inr (6, mF g (nI (a + 2), K.2.1, K.2.2.1, K.2.2.2.1, K.2.2.2.2.1, K.2.2.2.2.2.1, K.2.2.2.2.2.2.1, K.2.2.2.2.2.2.2.1, K.2.2.2.2.2.2.2.2) A0 e np B)), ((g 0), .inl (cA 3, 2000, .inl (upd (upd fd (nI a).toNatClampNeg (nI (bq v 24))) (nI (a + 1)).toNatClampNeg (nI (bq v 16)))))] := hD
  refine lv_iinc (v := 8) (lv' := [(2, .int 8), (0, .ref m0), (1, .int v)]) hx hb d_Md_feedOne_33 hl (k := 0) rfl (by decide) (by decide) rfl (fun ls hl => ?_)
  refine lv_goto (tgt := 3) hx hb d_Md_feedOne_36 (by decide) ?_
  refine lv_iload_n hx hb d_Md_feedOne_3 rfl (lv_at hl 0 rfl) ?_
  refine lv_if_lt (tgt := 39) hx hb d_Md_feedOne_4 (by decide) (fun c_4 => absurd c_4 (by decide)) (fun c_4 => ?_)
  refine lv_aload_n hx hb d_Md_feedOne_7 rfl (lv_at hl 1 rfl) ?_
  refine va_get (D := D) (ci := 6) (v := .ref (g 0)) (C := R_Md) (T := F_Md) (N := 44) hx hb hts (fun w h => List.mem_cons_of_mem _ (i_Md w h)) hown hE.1 hP 0 rfl rfl 0 (by decide) (hts _ (List.mem_cons_of_mem _ iw3_54)) (fun _ h9 => h9) rfl d_Md_feedOne_8 ?_
  refine lv_aload_n hx hb d_Md_feedOne_11 rfl (lv_at hl 1 rfl) ?_
  refine va_get (D := D) (ci := 6) (v := .int (nI (a + 2))) (C := R_Md) (T := F_Md) (N := 44) hx hb hts (fun w h => List.mem_cons_of_mem _ (i_Md w h)) hown hE.1 hP 0 rfl rfl 1 (by decide) (hts _ (List.mem_cons_of_mem _ iw3_55)) (fun _ h9 => h9) rfl d_Md_feedOne_12 ?_
  refine lv_iload_n hx hb d_Md_feedOne_15 rfl (lv_at hl 2 rfl) ?_
  refine lv_iload_n hx hb d_Md_feedOne_16 rfl (lv_at hl 0 rfl) ?_
  refine lv_ishr hx hb d_Md_feedOne_17 ?_
  refine lv_sipush (v := 255) hx hb d_Md_feedOne_18 (by decide) ?_
  refine lv_iand hx hb d_Md_feedOne_21 ?_
  rw [fd_q v _ 8 (by decide +kernel) (by decide)]
  refine va_iast hx hb hE.1 hP hD hS 1 3 rfl rfl (vp_in_nI (by omega) (by omega)) d_Md_feedOne_22 (fun H locs hP hD hS => ?_)
  have hP : va_P D cls [(m0, .inr (6, mF g (nI (a + 2), K.2.1, K.2.2.1, K.2.2.2.1, K.2.2.2.2.1, K.2.2.2.2.2.1, K.2.2.2.2.2.2.1, K.2.2.2.2.2.2.2.1, K.2.2.2.2.2.2.2.2) A0 e np B)), ((g 0), .inl (cA 3, 2000, .inl (upd (upd (upd fd (nI a).toNatClampNeg (nI (bq v 24))) (nI (a + 1)).toNatClampNeg (nI (bq v 16))) (nI (a + 2)).toNatClampNeg (nI (bq v 8)))))] H := hP
  have hD : va_D A [(m0, .inr (6, mF g (nI (a + 2), K.2.1, K.2.2.1, K.2.2.2.1, K.2.2.2.2.1, K.2.2.2.2.2.1, K.2.2.2.2.2.2.1, K.2.2.2.2.2.2.2.1, K.2.2.2.2.2.2.2.2) A0 e np B)), ((g 0), .inl (cA 3, 2000, .inl (upd (upd (upd fd (nI a).toNatClampNeg (nI (bq v 24))) (nI (a + 1)).toNatClampNeg (nI (bq v 16))) (nI (a + 2)).toNatClampNeg (nI (bq v 8)))))] := hD
  refine lv_aload_n hx hb d_Md_feedOne_23 rfl (lv_at hl 1 rfl) ?_
  refine lv_dup hx hb d_Md_feedOne_24 rfl ?_
  refine va_get (D := D) (ci := 6) (v := .int (nI (a + 2))) (C := R_Md) (T := F_Md) (N := 44) hx hb hts (fun w h => List.mem_cons_of_mem _ (i_Md w h)) hown hE.1 hP 0 rfl rfl 1 (by decide) (hts _ (List.mem_cons_of_mem _ iw3_55)) (fun _ h9 => h9) rfl d_Md_feedOne_25 ?_
  refine lv_iconst (v := 1) hx hb d_Md_feedOne_28 (by decide) ?_
  refine lv_iadd hx hb d_Md_feedOne_29 ?_
  rw [show nI (a + 2) + 1 = nI (a + 3) from nI_1 (a + 2)]
  refine va_put (D := D) (ci := 6) (v := .int (nI (a + 3))) (ty := .int) (C := R_Md) (T := F_Md) (N := 44) hx hb hts (fun w h => List.mem_cons_of_mem _ (i_Md w h)) t_Md tk_Md n_Md hown hE.1 hP hD hS 0 rfl rfl 1 (by decide) (hts _ (List.mem_cons_of_mem _ iw3_55)) (fun _ h9 => h9) rfl (by decide +kernel) rfl rfl (Nat.le_of_ble_eq_true rfl) d_Md_feedOne_30 (fun H locs hP hD hS => ?_)
  have hP : va_P D cls [(m0, .inr (6, mF g (nI (a + 3), K.2.1, K.2.2.1, K.2.2.2.1, K.2.2.2.2.1, K.2.2.2.2.2.1, K.2.2.2.2.2.2.1, K.2.2.2.2.2.2.2.1, K.2.2.2.2.2.2.2.2) A0 e np B)), ((g 0), .inl (cA 3, 2000, .inl (upd (upd (upd fd (nI a).toNatClampNeg (nI (bq v 24))) (nI (a + 1)).toNatClampNeg (nI (bq v 16))) (nI (a + 2)).toNatClampNeg (nI (bq v 8)))))] H := hP
  have hD : va_D A [(m0, .inr (6, mF g (nI (a + 3), K.2.1, K.2.2.1, K.2.2.2.1, K.2.2.2.2.1, K.2.2.2.2.2.1, K.2.2.2.2.2.2.1, K.2.2.2.2.2.2.2.1, K.2.2.2.2.2.2.2.2) A0 e np B)), ((g 0), .inl (cA 3, 2000, .inl (upd (upd (upd fd (nI a).toNatClampNeg (nI (bq v 24))) (nI (a + 1)).toNatClampNeg (nI (bq v 16))) (nI (a + 2)).toNatClampNeg (nI (bq v 8)))))] := hD
  refine lv_iinc (v := 0) (lv' := [(2, .int 0), (0, .ref m0), (1, .int v)]) hx hb d_Md_feedOne_33 hl (k := 0) rfl (by decide) (by decide) rfl (fun ls hl => ?_)
  refine lv_goto (tgt := 3) hx hb d_Md_feedOne_36 (by decide) ?_
  refine lv_iload_n hx hb d_Md_feedOne_3 rfl (lv_at hl 0 rfl) ?_
  refine lv_if_lt (tgt := 39) hx hb d_Md_feedOne_4 (by decide) (fun c_4 => absurd c_4 (by decide)) (fun c_4 => ?_)
  refine lv_aload_n hx hb d_Md_feedOne_7 rfl (lv_at hl 1 rfl) ?_
  refine va_get (D := D) (ci := 6) (v := .ref (g 0)) (C := R_Md) (T := F_Md) (N := 44) hx hb hts (fun w h => List.mem_cons_of_mem _ (i_Md w h)) hown hE.1 hP 0 rfl rfl 0 (by decide) (hts _ (List.mem_cons_of_mem _ iw3_54)) (fun _ h9 => h9) rfl d_Md_feedOne_8 ?_
  refine lv_aload_n hx hb d_Md_feedOne_11 rfl (lv_at hl 1 rfl) ?_
  refine va_get (D := D) (ci := 6) (v := .int (nI (a + 3))) (C := R_Md) (T := F_Md) (N := 44) hx hb hts (fun w h => List.mem_cons_of_mem _ (i_Md w h)) hown hE.1 hP 0 rfl rfl 1 (by decide) (hts _ (List.mem_cons_of_mem _ iw3_55)) (fun _ h9 => h9) rfl d_Md_feedOne_12 ?_
  refine lv_iload_n hx hb d_Md_feedOne_15 rfl (lv_at hl 2 rfl) ?_
  refine lv_iload_n hx hb d_Md_feedOne_16 rfl (lv_at hl 0 rfl) ?_
  refine lv_ishr hx hb d_Md_feedOne_17 ?_
  refine lv_sipush (v := 255) hx hb d_Md_feedOne_18 (by decide) ?_
  refine lv_iand hx hb d_Md_feedOne_21 ?_
  rw [fd_q v _ 0 (by decide +kernel) (by decide)]
  refine va_iast hx hb hE.1 hP hD hS 1 3 rfl rfl (vp_in_nI (by omega) (by omega)) d_Md_feedOne_22 (fun H locs hP hD hS => ?_)
  have hP : va_P D cls [(m0, .inr (6, mF g (nI (a + 3), K.2.1, K.2.2.1, K.2.2.2.1, K.2.2.2.2.1, K.2.2.2.2.2.1, K.2.2.2.2.2.2.1, K.2.2.2.2.2.2.2.1, K.2.2.2.2.2.2.2.2) A0 e np B)), ((g 0), .inl (cA 3, 2000, .inl (upd (upd (upd (upd fd (nI a).toNatClampNeg (nI (bq v 24))) (nI (a + 1)).toNatClampNeg (nI (bq v 16))) (nI (a + 2)).toNatClampNeg (nI (bq v 8))) (nI (a + 3)).toNatClampNeg (nI (bq v 0)))))] H := hP
  have hD : va_D A [(m0, .inr (6, mF g (nI (a + 3), K.2.1, K.2.2.1, K.2.2.2.1, K.2.2.2.2.1, K.2.2.2.2.2.1, K.2.2.2.2.2.2.1, K.2.2.2.2.2.2.2.1, K.2.2.2.2.2.2.2.2) A0 e np B)), ((g 0), .inl (cA 3, 2000, .inl (upd (upd (upd (upd fd (nI a).toNatClampNeg (nI (bq v 24))) (nI (a + 1)).toNatClampNeg (nI (bq v 16))) (nI (a + 2)).toNatClampNeg (nI (bq v 8))) (nI (a + 3)).toNatClampNeg (nI (bq v 0)))))] := hD
  refine lv_aload_n hx hb d_Md_feedOne_23 rfl (lv_at hl 1 rfl) ?_
  refine lv_dup hx hb d_Md_feedOne_24 rfl ?_
  refine va_get (D := D) (ci := 6) (v := .int (nI (a + 3))) (C := R_Md) (T := F_Md) (N := 44) hx hb hts (fun w h => List.mem_cons_of_mem _ (i_Md w h)) hown hE.1 hP 0 rfl rfl 1 (by decide) (hts _ (List.mem_cons_of_mem _ iw3_55)) (fun _ h9 => h9) rfl d_Md_feedOne_25 ?_
  refine lv_iconst (v := 1) hx hb d_Md_feedOne_28 (by decide) ?_
  refine lv_iadd hx hb d_Md_feedOne_29 ?_
  rw [show nI (a + 3) + 1 = nI (a + 4) from nI_1 (a + 3)]
  refine va_put (D := D) (ci := 6) (v := .int (nI (a + 4))) (ty := .int) (C := R_Md) (T := F_Md) (N := 44) hx hb hts (fun w h => List.mem_cons_of_mem _ (i_Md w h)) t_Md tk_Md n_Md hown hE.1 hP hD hS 0 rfl rfl 1 (by decide) (hts _ (List.mem_cons_of_mem _ iw3_55)) (fun _ h9 => h9) rfl (by decide +kernel) rfl rfl (Nat.le_of_ble_eq_true rfl) d_Md_feedOne_30 (fun H locs hP hD hS => ?_)
  have hP : va_P D cls [(m0, .inr (6, mF g (nI (a + 4), K.2.1, K.2.2.1, K.2.2.2.1, K.2.2.2.2.1, K.2.2.2.2.2.1, K.2.2.2.2.2.2.1, K.2.2.2.2.2.2.2.1, K.2.2.2.2.2.2.2.2) A0 e np B)), ((g 0), .inl (cA 3, 2000, .inl (upd (upd (upd (upd fd (nI a).toNatClampNeg (nI (bq v 24))) (nI (a + 1)).toNatClampNeg (nI (bq v 16))) (nI (a + 2)).toNatClampNeg (nI (bq v 8))) (nI (a + 3)).toNatClampNeg (nI (bq v 0)))))] H := hP
  have hD : va_D A [(m0, .inr (6, mF g (nI (a + 4), K.2.1, K.2.2.1, K.2.2.2.1, K.2.2.2.2.1, K.2.2.2.2.2.1, K.2.2.2.2.2.2.1, K.2.2.2.2.2.2.2.1, K.2.2.2.2.2.2.2.2) A0 e np B)), ((g 0), .inl (cA 3, 2000, .inl (upd (upd (upd (upd fd (nI a).toNatClampNeg (nI (bq v 24))) (nI (a + 1)).toNatClampNeg (nI (bq v 16))) (nI (a + 2)).toNatClampNeg (nI (bq v 8))) (nI (a + 3)).toNatClampNeg (nI (bq v 0)))))] := hD
  refine lv_iinc (v := (-8)) (lv' := [(2, .int (-8)), (0, .ref m0), (1, .int v)]) hx hb d_Md_feedOne_33 hl (k := 0) rfl (by decide) (by decide) rfl (fun ls hl => ?_)
  refine lv_goto (tgt := 3) hx hb d_Md_feedOne_36 (by decide) ?_
  refine lv_iload_n hx hb d_Md_feedOne_3 rfl (lv_at hl 0 rfl) ?_
  refine lv_if_lt (tgt := 39) hx hb d_Md_feedOne_4 (by decide) (fun c_4 => ?_) (fun c_4 => absurd (by decide) c_4)
  rw [nI_clamp (n := a) (by omega), nI_clamp (n := a + 1) (by omega), nI_clamp (n := a + 2) (by omega), nI_clamp (n := a + 3) (by omega)] at hP hD
  refine cRv _ hx hb hr hlocks d_Md_feedOne_39 hS hP hD (⟨rfl, fun j hj => ?_, ?_, ?_, ?_, ?_⟩) (Nat.le_refl _) (Nat.le_refl _)
  · rw [pk_un (by omega), pk_un (by omega), pk_un (by omega), pk_un (by omega)]
  · rw [pk_un (by omega), pk_un (by omega), pk_un (by omega), pk_us]
  · rw [pk_un (by omega), pk_un (by omega), pk_us]
  · rw [pk_un (by omega), pk_us]
  · rw [pk_us]
set_option maxHeartbeats 4000000 in
set_option maxRecDepth 100000 in
/-- feed -/
theorem c_Md_feed (l : Launch) (hl9 : l.stackTraces = false) (D : va_G) (cA : Nat → ClassId) (ad : Nat → Nat) (sz : Nat) (m0 : Nat) (g : Nat → Nat) (K : MK) (A0 : A3) (e np : Int32) (B : MB) (fd : Nat → Int32) (a : Nat) (ha : a ≤ 2000) (x1 x2 x3 x4 x5 : Int32) :
    cM l y_Md_feed (.code y_Md_feed b_Md_feed 6 (some .int) :: wAll) ({ frames := 1, cells := 0, slots := 0, locals := 22 }) D cA ad [.ref m0, .int x1, .int x2, .int x3, .int x4, .int x5] [(m0, .inr (6, mF g (nI a, K.2.1, K.2.2.1, K.2.2.2.1, K.2.2.2.2.1, K.2.2.2.2.2.1, K.2.2.2.2.2.2.1, K.2.2.2.2.2.2.2.1, K.2.2.2.2.2.2.2.2) A0 e np B)), ((g 0), .inl (cA 3, 2000, .inl fd))] sz (fun v (u : Int32 × (Nat → Int32)) => (1980 < a ∧ v = some (.int (-1)) ∧ u = (nI a, fd)) ∨ (a ≤ 1980 ∧ v = some (.int (nI (a + 20))) ∧ u.1 = nI (a + 20) ∧ (∀ j, j < a → u.2 j = fd j) ∧ ∀ o, o < 20 → u.2 (a + o) = nI (q5 x1 x2 x3 x4 x5 o))) (fun _ => False) (fun (u : Int32 × (Nat → Int32)) => [(m0, .inr (6, mF g (u.1, K.2.1, K.2.2.1, K.2.2.2.1, K.2.2.2.2.1, K.2.2.2.2.2.1, K.2.2.2.2.2.2.1, K.2.2.2.2.2.2.2.1, K.2.2.2.2.2.2.2.2) A0 e np B)), ((g 0), .inl (cA 3, 2000, .inl u.2))]) (fun _ => (0, 0)) := by
  refine cM.ofW (cc := b_Md_feed) (maxL := 6) (ret := (some .int)) (by decide) (Nat.le_of_ble_eq_true rfl) ?_
  intro pg ev s m bw meth cdx A ls hF hsz hA hE hP hD hl
  obtain ⟨⟨hx, hb, hml, hown, hts⟩, hr, hno, hlocks, hin⟩ := hF
  subst hsz
  have hown : s.vm.findClass "ModuleBytesModel" = some m.cls := hown
  have hS : va_S A s.heap s.heap [] := va_S.rf
  have hl : lv_has ls 6 [(0, .ref m0), (1, .int x1), (2, .int x2), (3, .int x3), (4, .int x4), (5, .int x5)] := hl
  have hP : va_P D cls [(m0, .inr (6, mF g (nI a, K.2.1, K.2.2.1, K.2.2.2.1, K.2.2.2.2.1, K.2.2.2.2.2.1, K.2.2.2.2.2.2.1, K.2.2.2.2.2.2.2.1, K.2.2.2.2.2.2.2.2) A0 e np B)), ((g 0), .inl (cA 3, 2000, .inl fd))] s.heap := hP
  have hD : va_D A [(m0, .inr (6, mF g (nI a, K.2.1, K.2.2.1, K.2.2.2.1, K.2.2.2.2.1, K.2.2.2.2.2.1, K.2.2.2.2.2.2.1, K.2.2.2.2.2.2.2.1, K.2.2.2.2.2.2.2.2) A0 e np B)), ((g 0), .inl (cA 3, 2000, .inl fd))] := hD
  refine lv_aload_n hx hb d_Md_feed_0 rfl (lv_at hl 0 rfl) ?_
  refine va_get (D := D) (ci := 6) (v := .int (nI a)) (C := R_Md) (T := F_Md) (N := 44) hx hb hts (fun w h => List.mem_cons_of_mem _ (i_Md w h)) hown hE.1 hP 0 rfl rfl 1 (by decide) (hts _ (List.mem_cons_of_mem _ iw3_55)) (fun _ h9 => h9) rfl d_Md_feed_1 ?_
  refine lv_bipush (v := 20) hx hb d_Md_feed_4 (by decide) ?_
  refine lv_iadd hx hb d_Md_feed_6 ?_
  refine lv_sipush (v := 2000) hx hb d_Md_feed_7 (by decide) ?_
  rw [show nI a + 20 = nI (a + 20) from nI_add a 20]
  refine lv_icmp_le (tgt := 15) hx hb d_Md_feed_10 (by decide) (fun c_10 => ?_) (fun c_10 => ?_)
  · have hfd : a ≤ 1980 := by have := (nI_leI (a := a + 20) (b := 2000) (by omega) (by decide)).mp c_10; omega
    refine lv_aload_n hx hb d_Md_feed_15 rfl (lv_at hl 0 rfl) ?_
    refine lv_iload_n hx hb d_Md_feed_16 rfl (lv_at hl 1 rfl) ?_
    refine cV (As := [.int x1]) (rest := []) (n := 1) (wc := [(m0, .inr (6, mF g (nI a, K.2.1, K.2.2.1, K.2.2.2.1, K.2.2.2.2.1, K.2.2.2.2.2.1, K.2.2.2.2.2.2.1, K.2.2.2.2.2.2.2.1, K.2.2.2.2.2.2.2.2) A0 e np B)), ((g 0), .inl (cA 3, 2000, .inl fd))]) (wr := []) ⟨hx, hb, hml, hown, hts⟩ hno hlocks hl.1 (c_Md_feedOne l hl9 D cA ad s.heap.size m0 g (nI a, K.2.1, K.2.2.1, K.2.2.2.1, K.2.2.2.2.1, K.2.2.2.2.2.1, K.2.2.2.2.2.2.1, K.2.2.2.2.2.2.2.1, K.2.2.2.2.2.2.2.2) A0 e np B fd a (by omega) x1) iw3_192 iw3_194 sel_Md_feedOne iw1_7 iw3_195 (by decide +kernel) rfl ⟨Nat.le_of_ble_eq_true rfl, Nat.le_of_ble_eq_true rfl⟩ ⟨Nat.le_of_ble_eq_true rfl, Nat.le_of_ble_eq_true rfl⟩ rfl (Nat.le_of_ble_eq_true rfl) d_Md_feed_17 hE hP hD hS hA [0, 1] [] rfl rfl rfl rfl (by decide) (ci := 6) rfl rfl 0 rfl (fun _ h => h.elim) (fun v_17 u_17 H locs hp_17 hP hD hS => ?_)
    obtain ⟨rfl, kb1, p1_0, p1_1, p1_2, p1_3⟩ := hp_17
    obtain ⟨b1, hb_1⟩ : ∃ z, z = u_17 := ⟨_, rfl⟩
    rw [← hb_1] at kb1 p1_0 p1_1 p1_2 p1_3 hP hD
    have hP : va_P D cls [(m0, .inr (6, mF g (nI (a + 4), K.2.1, K.2.2.1, K.2.2.2.1, K.2.2.2.2.1, K.2.2.2.2.2.1, K.2.2.2.2.2.2.1, K.2.2.2.2.2.2.2.1, K.2.2.2.2.2.2.2.2) A0 e np B)), ((g 0), .inl (cA 3, 2000, .inl b1))] H := hP
    have hD : va_D A [(m0, .inr (6, mF g (nI (a + 4), K.2.1, K.2.2.1, K.2.2.2.1, K.2.2.2.2.1, K.2.2.2.2.2.1, K.2.2.2.2.2.2.1, K.2.2.2.2.2.2.2.1, K.2.2.2.2.2.2.2.2) A0 e np B)), ((g 0), .inl (cA 3, 2000, .inl b1))] := hD
    refine W.cs (cells' := 0) (slots' := 0) rfl rfl ?_
    refine W.eq (g2 := F0 m 20 ls []) rfl ?_
    refine lv_aload_n hx hb d_Md_feed_20 rfl (lv_at hl 0 rfl) ?_
    refine lv_iload_n hx hb d_Md_feed_21 rfl (lv_at hl 2 rfl) ?_
    refine cV (As := [.int x2]) (rest := []) (n := 1) (wc := [(m0, .inr (6, mF g (nI (a + 4), K.2.1, K.2.2.1, K.2.2.2.1, K.2.2.2.2.1, K.2.2.2.2.2.1, K.2.2.2.2.2.2.1, K.2.2.2.2.2.2.2.1, K.2.2.2.2.2.2.2.2) A0 e np B)), ((g 0), .inl (cA 3, 2000, .inl b1))]) (wr := []) ⟨hx, hb, hml, hown, hts⟩ hno hlocks hl.1 (c_Md_feedOne l hl9 D cA ad H.size m0 g (nI (a + 4), K.2.1, K.2.2.1, K.2.2.2.1, K.2.2.2.2.1, K.2.2.2.2.2.1, K.2.2.2.2.2.2.1, K.2.2.2.2.2.2.2.1, K.2.2.2.2.2.2.2.2) A0 e np B b1 (a + 4) (by omega) x2) iw3_192 iw3_194 sel_Md_feedOne iw1_7 iw3_195 (by decide +kernel) rfl ⟨Nat.le_of_ble_eq_true rfl, Nat.le_of_ble_eq_true rfl⟩ ⟨Nat.le_of_ble_eq_true rfl, Nat.le_of_ble_eq_true rfl⟩ rfl (Nat.le_of_ble_eq_true rfl) d_Md_feed_22 hE hP hD hS hA [0, 1] [] rfl rfl rfl rfl (by decide) (ci := 6) rfl rfl 0 rfl (fun _ h => h.elim) (fun v_22 u_22 H locs hp_22 hP hD hS => ?_)
    obtain ⟨rfl, kb2, p2_0, p2_1, p2_2, p2_3⟩ := hp_22
    obtain ⟨b2, hb_2⟩ : ∃ z, z = u_22 := ⟨_, rfl⟩
    rw [← hb_2] at kb2 p2_0 p2_1 p2_2 p2_3 hP hD
    have hP : va_P D cls [(m0, .inr (6, mF g (nI (a + 8), K.2.1, K.2.2.1, K.2.2.2.1, K.2.2.2.2.1, K.2.2.2.2.2.1, K.2.2.2.2.2.2.1, K.2.2.2.2.2.2.2.1, K.2.2.2.2.2.2.2.2) A0 e np B)), ((g 0), .inl (cA 3, 2000, .inl b2))] H := hP
    have hD : va_D A [(m0, .inr (6, mF g (nI (a + 8), K.2.1, K.2.2.1, K.2.2.2.1, K.2.2.2.2.1, K.2.2.2.2.2.1, K.2.2.2.2.2.2.1, K.2.2.2.2.2.2.2.1, K.2.2.2.2.2.2.2.2) A0 e np B)), ((g 0), .inl (cA 3, 2000, .inl b2))] := hD
    refine W.cs (cells' := 0) (slots' := 0) rfl rfl ?_
    refine W.eq (g2 := F0 m 25 ls []) rfl ?_
    refine lv_aload_n hx hb d_Md_feed_25 rfl (lv_at hl 0 rfl) ?_
    refine lv_iload_n hx hb d_Md_feed_26 rfl (lv_at hl 3 rfl) ?_
    refine cV (As := [.int x3]) (rest := []) (n := 1) (wc := [(m0, .inr (6, mF g (nI (a + 8), K.2.1, K.2.2.1, K.2.2.2.1, K.2.2.2.2.1, K.2.2.2.2.2.1, K.2.2.2.2.2.2.1, K.2.2.2.2.2.2.2.1, K.2.2.2.2.2.2.2.2) A0 e np B)), ((g 0), .inl (cA 3, 2000, .inl b2))]) (wr := []) ⟨hx, hb, hml, hown, hts⟩ hno hlocks hl.1 (c_Md_feedOne l hl9 D cA ad H.size m0 g (nI (a + 8), K.2.1, K.2.2.1, K.2.2.2.1, K.2.2.2.2.1, K.2.2.2.2.2.1, K.2.2.2.2.2.2.1, K.2.2.2.2.2.2.2.1, K.2.2.2.2.2.2.2.2) A0 e np B b2 (a + 8) (by omega) x3) iw3_192 iw3_194 sel_Md_feedOne iw1_7 iw3_195 (by decide +kernel) rfl ⟨Nat.le_of_ble_eq_true rfl, Nat.le_of_ble_eq_true rfl⟩ ⟨Nat.le_of_ble_eq_true rfl, Nat.le_of_ble_eq_true rfl⟩ rfl (Nat.le_of_ble_eq_true rfl) d_Md_feed_27 hE hP hD hS hA [0, 1] [] rfl rfl rfl rfl (by decide) (ci := 6) rfl rfl 0 rfl (fun _ h => h.elim) (fun v_27 u_27 H locs hp_27 hP hD hS => ?_)
    obtain ⟨rfl, kb3, p3_0, p3_1, p3_2, p3_3⟩ := hp_27
    obtain ⟨b3, hb_3⟩ : ∃ z, z = u_27 := ⟨_, rfl⟩
    rw [← hb_3] at kb3 p3_0 p3_1 p3_2 p3_3 hP hD
    have hP : va_P D cls [(m0, .inr (6, mF g (nI (a + 12), K.2.1, K.2.2.1, K.2.2.2.1, K.2.2.2.2.1, K.2.2.2.2.2.1, K.2.2.2.2.2.2.1, K.2.2.2.2.2.2.2.1, K.2.2.2.2.2.2.2.2) A0 e np B)), ((g 0), .inl (cA 3, 2000, .inl b3))] H := hP
    have hD : va_D A [(m0, .inr (6, mF g (nI (a + 12), K.2.1, K.2.2.1, K.2.2.2.1, K.2.2.2.2.1, K.2.2.2.2.2.1, K.2.2.2.2.2.2.1, K.2.2.2.2.2.2.2.1, K.2.2.2.2.2.2.2.2) A0 e np B)), ((g 0), .inl (cA 3, 2000, .inl b3))] := hD
    refine W.cs (cells' := 0) (slots' := 0) rfl rfl ?_
    refine W.eq (g2 := F0 m 30 ls []) rfl ?_
    refine lv_aload_n hx hb d_Md_feed_30 rfl (lv_at hl 0 rfl) ?_
    refine lv_iload hx hb d_Md_feed_31 (lv_at hl 4 rfl) ?_
    refine cV (As := [.int x4]) (rest := []) (n := 1) (wc := [(m0, .inr (6, mF g (nI (a + 12), K.2.1, K.2.2.1, K.2.2.2.1, K.2.2.2.2.1, K.2.2.2.2.2.1, K.2.2.2.2.2.2.1, K.2.2.2.2.2.2.2.1, K.2.2.2.2.2.2.2.2) A0 e np B)), ((g 0), .inl (cA 3, 2000, .inl b3))]) (wr := []) ⟨hx, hb, hml, hown, hts⟩ hno hlocks hl.1 (c_Md_feedOne l hl9 D cA ad H.size m0 g (nI (a + 12), K.2.1, K.2.2.1, K.2.2.2.1, K.2.2.2.2.1, K.2.2.2.2.2.1, K.2.2.2.2.2.2.1, K.2.2.2.2.2.2.2.1, K.2.2.2.2.2.2.2.2) A0 e np B b3 (a + 12) (by omega) x4) iw3_192 iw3_194 sel_Md_feedOne iw1_7 iw3_195 (by decide +kernel) rfl ⟨Nat.le_of_ble_eq_true rfl, Nat.le_of_ble_eq_true rfl⟩ ⟨Nat.le_of_ble_eq_true rfl, Nat.le_of_ble_eq_true rfl⟩ rfl (Nat.le_of_ble_eq_true rfl) d_Md_feed_33 hE hP hD hS hA [0, 1] [] rfl rfl rfl rfl (by decide) (ci := 6) rfl rfl 0 rfl (fun _ h => h.elim) (fun v_33 u_33 H locs hp_33 hP hD hS => ?_)
    obtain ⟨rfl, kb4, p4_0, p4_1, p4_2, p4_3⟩ := hp_33
    obtain ⟨b4, hb_4⟩ : ∃ z, z = u_33 := ⟨_, rfl⟩
    rw [← hb_4] at kb4 p4_0 p4_1 p4_2 p4_3 hP hD
    have hP : va_P D cls [(m0, .inr (6, mF g (nI (a + 16), K.2.1, K.2.2.1, K.2.2.2.1, K.2.2.2.2.1, K.2.2.2.2.2.1, K.2.2.2.2.2.2.1, K.2.2.2.2.2.2.2.1, K.2.2.2.2.2.2.2.2) A0 e np B)), ((g 0), .inl (cA 3, 2000, .inl b4))] H := hP
    have hD : va_D A [(m0, .inr (6, mF g (nI (a + 16), K.2.1, K.2.2.1, K.2.2.2.1, K.2.2.2.2.1, K.2.2.2.2.2.1, K.2.2.2.2.2.2.1, K.2.2.2.2.2.2.2.1, K.2.2.2.2.2.2.2.2) A0 e np B)), ((g 0), .inl (cA 3, 2000, .inl b4))] := hD
    refine W.cs (cells' := 0) (slots' := 0) rfl rfl ?_
    refine W.eq (g2 := F0 m 36 ls []) rfl ?_
    refine lv_aload_n hx hb d_Md_feed_36 rfl (lv_at hl 0 rfl) ?_
    refine lv_iload hx hb d_Md_feed_37 (lv_at hl 5 rfl) ?_
    refine cV (As := [.int x5]) (rest := []) (n := 1) (wc := [(m0, .inr (6, mF g (nI (a + 16), K.2.1, K.2.2.1, K.2.2.2.1, K.2.2.2.2.1, K.2.2.2.2.2.1, K.2.2.2.2.2.2.1, K.2.2.2.2.2.2.2.1, K.2.2.2.2.2.2.2.2) A0 e np B)), ((g 0), .inl (cA 3, 2000, .inl b4))]) (wr := []) ⟨hx, hb, hml, hown, hts⟩ hno hlocks hl.1 (c_Md_feedOne l hl9 D cA ad H.size m0 g (nI (a + 16), K.2.1, K.2.2.1, K.2.2.2.1, K.2.2.2.2.1, K.2.2.2.2.2.1, K.2.2.2.2.2.2.1, K.2.2.2.2.2.2.2.1, K.2.2.2.2.2.2.2.2) A0 e np B b4 (a + 16) (by omega) x5) iw3_192 iw3_194 sel_Md_feedOne iw1_7 iw3_195 (by decide +kernel) rfl ⟨Nat.le_of_ble_eq_true rfl, Nat.le_of_ble_eq_true rfl⟩ ⟨Nat.le_of_ble_eq_true rfl, Nat.le_of_ble_eq_true rfl⟩ rfl (Nat.le_of_ble_eq_true rfl) d_Md_feed_39 hE hP hD hS hA [0, 1] [] rfl rfl rfl rfl (by decide) (ci := 6) rfl rfl 0 rfl (fun _ h => h.elim) (fun v_39 u_39 H locs hp_39 hP hD hS => ?_)
    obtain ⟨rfl, kb5, p5_0, p5_1, p5_2, p5_3⟩ := hp_39
    obtain ⟨b5, hb_5⟩ : ∃ z, z = u_39 := ⟨_, rfl⟩
    rw [← hb_5] at kb5 p5_0 p5_1 p5_2 p5_3 hP hD
    have hP : va_P D cls [(m0, .inr (6, mF g (nI (a + 20), K.2.1, K.2.2.1, K.2.2.2.1, K.2.2.2.2.1, K.2.2.2.2.2.1, K.2.2.2.2.2.2.1, K.2.2.2.2.2.2.2.1, K.2.2.2.2.2.2.2.2) A0 e np B)), ((g 0), .inl (cA 3, 2000, .inl b5))] H := hP
    have hD : va_D A [(m0, .inr (6, mF g (nI (a + 20), K.2.1, K.2.2.1, K.2.2.2.1, K.2.2.2.2.1, K.2.2.2.2.2.1, K.2.2.2.2.2.2.1, K.2.2.2.2.2.2.2.1, K.2.2.2.2.2.2.2.2) A0 e np B)), ((g 0), .inl (cA 3, 2000, .inl b5))] := hD
    refine W.cs (cells' := 0) (slots' := 0) rfl rfl ?_
    refine W.eq (g2 := F0 m 42 ls []) rfl ?_
    refine lv_aload_n hx hb d_Md_feed_42 rfl (lv_at hl 0 rfl) ?_
    refine va_get (D := D) (ci := 6) (v := .int (nI (a + 20))) (C := R_Md) (T := F_Md) (N := 44) hx hb hts (fun w h => List.mem_cons_of_mem _ (i_Md w h)) hown hE.1 hP 0 rfl rfl 1 (by decide) (hts _ (List.mem_cons_of_mem _ iw3_55)) (fun _ h9 => h9) rfl d_Md_feed_43 ?_
    refine cRi ((nI (a + 20), b5) : Int32 × (Nat → Int32)) hx hb hr hlocks d_Md_feed_46 hS hP hD (Or.inr ⟨hfd, rfl, rfl, fun j hj => ?_, fun o ho => ?_⟩) (Nat.le_refl _) (Nat.le_refl _)
    · exact (kb5 j (by omega)).trans ((kb4 j (by omega)).trans ((kb3 j (by omega)).trans ((kb2 j (by omega)).trans (kb1 j (by omega)))))
    · rcases (show o = 0 ∨ o = 1 ∨ o = 2 ∨ o = 3 ∨ o = 4 ∨ o = 5 ∨ o = 6 ∨ o = 7 ∨ o = 8 ∨ o = 9 ∨ o = 10 ∨ o = 11 ∨ o = 12 ∨ o = 13 ∨ o = 14 ∨ o = 15 ∨ o = 16 ∨ o = 17 ∨ o = 18 ∨ o = 19 by omega) with rfl | rfl | rfl | rfl | rfl | rfl | rfl | rfl | rfl | rfl | rfl | rfl | rfl | rfl | rfl | rfl | rfl | rfl | rfl | rfl
      · exact (kb5 (a + 0) (by omega)).trans ((kb4 (a + 0) (by omega)).trans ((kb3 (a + 0) (by omega)).trans ((kb2 (a + 0) (by omega)).trans (p1_0))))
      · exact (kb5 (a + 1) (by omega)).trans ((kb4 (a + 1) (by omega)).trans ((kb3 (a + 1) (by omega)).trans ((kb2 (a + 1) (by omega)).trans (p1_1))))
      · exact (kb5 (a + 2) (by omega)).trans ((kb4 (a + 2) (by omega)).trans ((kb3 (a + 2) (by omega)).trans ((kb2 (a + 2) (by omega)).trans (p1_2))))
      · exact (kb5 (a + 3) (by omega)).trans ((kb4 (a + 3) (by omega)).trans ((kb3 (a + 3) (by omega)).trans ((kb2 (a + 3) (by omega)).trans (p1_3))))
      · exact (kb5 (a + 4) (by omega)).trans ((kb4 (a + 4) (by omega)).trans ((kb3 (a + 4) (by omega)).trans (p2_0)))
      · exact (kb5 (a + 5) (by omega)).trans ((kb4 (a + 5) (by omega)).trans ((kb3 (a + 5) (by omega)).trans (p2_1)))
      · exact (kb5 (a + 6) (by omega)).trans ((kb4 (a + 6) (by omega)).trans ((kb3 (a + 6) (by omega)).trans (p2_2)))
      · exact (kb5 (a + 7) (by omega)).trans ((kb4 (a + 7) (by omega)).trans ((kb3 (a + 7) (by omega)).trans (p2_3)))
      · exact (kb5 (a + 8) (by omega)).trans ((kb4 (a + 8) (by omega)).trans (p3_0))
      · exact (kb5 (a + 9) (by omega)).trans ((kb4 (a + 9) (by omega)).trans (p3_1))
      · exact (kb5 (a + 10) (by omega)).trans ((kb4 (a + 10) (by omega)).trans (p3_2))
      · exact (kb5 (a + 11) (by omega)).trans ((kb4 (a + 11) (by omega)).trans (p3_3))
      · exact (kb5 (a + 12) (by omega)).trans (p4_0)
      · exact (kb5 (a + 13) (by omega)).trans (p4_1)
      · exact (kb5 (a + 14) (by omega)).trans (p4_2)
      · exact (kb5 (a + 15) (by omega)).trans (p4_3)
      · exact p5_0
      · exact p5_1
      · exact p5_2
      · exact p5_3
  · have hfd : 1980 < a := by have := Nat.lt_of_not_le (fun q => c_10 (nI_le (a := a + 20) (b := 2000) q (by decide))); omega
    refine lv_iconst (v := (-1)) hx hb d_Md_feed_13 (by decide) ?_
    exact cRi ((nI a, fd) : Int32 × (Nat → Int32)) hx hb hr hlocks d_Md_feed_14 hS hP hD (Or.inl ⟨hfd, rfl, rfl⟩) (Nat.le_refl _) (Nat.le_refl _)
