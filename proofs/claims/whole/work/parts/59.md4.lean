theorem pSkip_ok2 {lm n a a' : Nat} {x : Unit} (ha : a ≤ lm) (h : pSkip lm n a = .inr (x, a')) : a' ≤ lm ∧ a ≤ a' ∧ a' = a + n := by
  obtain ⟨h1, h2⟩ := pSkip_ok h
  omega
set_option maxHeartbeats 4000000 in
set_option maxRecDepth 100000 in
/-- takeName() -/
theorem c_Md_takeName (l : Launch) (hl9 : l.stackTraces = false) (D : va_G) (cA : Nat → ClassId) (ad : Nat → Nat) (sz : Nat) (m0 : Nat) (g : Nat → Nat) (K : MK) (e : Int32) (np : Nat) (B : MB) (fd pe : Nat → Int32) (b : Nat → Nat) (N lm : Nat) (hnp : 1 ≤ np ∧ np ≤ 4) (hpe : pe (np - 1) = nI lm) (hlm : lm ≤ N) (hN : N ≤ 2000) (hfd : ∀ i, i < N → fd i = nI (b i)) (hb9 : ∀ i, b i < 256) (a : Nat) (p : Int32) (ha : a ≤ lm)  :
    cM l y_Md_takeName (.code y_Md_takeName b_Md_takeName 6 none :: wAll) ({ frames := 3, cells := 0, slots := 0, locals := 66 }) D cA ad [.ref m0] [(m0, .inr (6, mF g K (nI a, 0, p) e (nI np) B)), ((g 0), .inl (cA 3, 2000, .inl fd)), ((g 10), .inl (cA 3, 4, .inl pe))] sz (oP (pName b lm a) p fN vN) (fun _ => False) (fun (u : A3) => [(m0, .inr (6, mF g K u e (nI np) B)), ((g 0), .inl (cA 3, 2000, .inl fd)), ((g 10), .inl (cA 3, 4, .inl pe))]) (fun _ => (0, 0)) := by
  refine cM.ofW (cc := b_Md_takeName) (maxL := 6) (ret := none) (by decide) (Nat.le_of_ble_eq_true rfl) ?_
  intro pg ev s m bw meth cdx A ls hF hsz hA hE hP hD hl
  obtain ⟨⟨hx, hb, hml, hown, hts⟩, hr, hno, hlocks, hin⟩ := hF
  subst hsz
  have hown : s.vm.findClass "ModuleBytesModel" = some m.cls := hown
  have hS : va_S A s.heap s.heap [] := va_S.rf
  have hl : lv_has ls 6 [(0, .ref m0)] := hl
  have hP : va_P D cls [(m0, .inr (6, mF g K (nI a, 0, p) e (nI np) B)), ((g 0), .inl (cA 3, 2000, .inl fd)), ((g 10), .inl (cA 3, 4, .inl pe))] s.heap := hP
  have hD : va_D A [(m0, .inr (6, mF g K (nI a, 0, p) e (nI np) B)), ((g 0), .inl (cA 3, 2000, .inl fd)), ((g 10), .inl (cA 3, 4, .inl pe))] := hD
  refine lv_aload_n hx hb d_Md_takeName_0 rfl (lv_at hl 0 rfl) ?_
  refine cV (As := []) (rest := []) (n := 0) (wc := [(m0, .inr (6, mF g K (nI a, 0, p) e (nI np) B)), ((g 0), .inl (cA 3, 2000, .inl fd)), ((g 10), .inl (cA 3, 4, .inl pe))]) (wr := []) ⟨hx, hb, hml, hown, hts⟩ hno hlocks hl.1 (c_Md_takeU32 l hl9 D cA ad s.heap.size m0 g K e np B fd pe b N lm hnp hpe hlm hN hfd hb9 a p (by omega) ) iw3_228 iw3_230 sel_Md_takeU32 iw1_7 iw3_231 (by decide +kernel) rfl ⟨Nat.le_of_ble_eq_true rfl, Nat.le_of_ble_eq_true rfl⟩ ⟨Nat.le_of_ble_eq_true rfl, Nat.le_of_ble_eq_true rfl⟩ rfl (Nat.le_of_ble_eq_true rfl) d_Md_takeName_1 hE hP hD hS hA [0, 1, 2] [] rfl rfl rfl rfl (by decide) (ci := 6) rfl rfl 0 rfl (fun _ h => h.elim) (fun v_1 u_1 H locs hp_1 hP hD hS => ?_)
  rcases hp_1 with ⟨f32, q32, hr32, hf32, hB32, ⟨w32, rfl⟩, zz32, hzz32, hzx32⟩ | ⟨v32, a32, hr32, rfl, rfl⟩
  · obtain ⟨x32, y32, z32⟩ := u_1
    cases hB32
    have hzx32 : x32 = nI zz32 := hzx32
    subst hzx32
    have hP : va_P D cls [(m0, .inr (6, mF g K (nI zz32, nI f32, nI q32) e (nI np) B)), ((g 0), .inl (cA 3, 2000, .inl fd)), ((g 10), .inl (cA 3, 4, .inl pe))] H := hP
    have hD : va_D A [(m0, .inr (6, mF g K (nI zz32, nI f32, nI q32) e (nI np) B)), ((g 0), .inl (cA 3, 2000, .inl fd)), ((g 10), .inl (cA 3, 4, .inl pe))] := hD
    refine W.cs (cells' := 0) (slots' := 0) rfl rfl ?_
    refine W.eq (g2 := F0 m 4 ls [.long w32]) rfl ?_
    refine lv_lstore_n (lv' := [(1, .long w32), (0, .ref m0)]) hx hb d_Md_takeName_4 rfl hl (by decide) rfl (fun ls hl => ?_)
    refine lv_aload_n hx hb d_Md_takeName_5 rfl (lv_at hl 1 rfl) ?_
    refine va_get (D := D) (ci := 6) (v := .int (nI zz32)) (C := R_Md) (T := F_Md) (N := 44) hx hb hts (fun w h => List.mem_cons_of_mem _ (i_Md w h)) hown hE.1 hP 0 rfl rfl 2 (by decide) (hts _ (List.mem_cons_of_mem _ iw3_56)) (fun _ h9 => h9) rfl d_Md_takeName_6 ?_
    refine lv_istore_n (lv' := [(3, .int (nI zz32)), (1, .long w32), (0, .ref m0)]) hx hb d_Md_takeName_9 rfl hl (by decide) rfl (fun ls hl => ?_)
    refine lv_aload_n hx hb d_Md_takeName_10 rfl (lv_at hl 2 rfl) ?_
    refine lv_lload_n hx hb d_Md_takeName_11 rfl (lv_at hl 1 rfl) ?_
    refine cV (As := [.long w32]) (rest := []) (n := 1) (wc := [(m0, .inr (6, mF g K (nI zz32, nI f32, nI q32) e (nI np) B)), ((g 0), .inl (cA 3, 2000, .inl fd)), ((g 10), .inl (cA 3, 4, .inl pe))]) (wr := []) ⟨hx, hb, hml, hown, hts⟩ hno hlocks hl.1 (c_Md_skipF l hl9 D cA ad H.size m0 g K e np B fd pe hnp (nI zz32) (nI f32) (nI q32) ⟨hf32.n0, hf32.nle⟩ w32) iw3_236 iw3_238 sel_Md_skip iw1_7 iw3_239 (by decide +kernel) rfl ⟨Nat.le_of_ble_eq_true rfl, Nat.le_of_ble_eq_true rfl⟩ ⟨Nat.le_of_ble_eq_true rfl, Nat.le_of_ble_eq_true rfl⟩ rfl (Nat.le_of_ble_eq_true rfl) d_Md_takeName_12 hE hP hD hS hA [0, 1, 2] [] rfl rfl rfl rfl (by decide) (ci := 6) rfl rfl 0 rfl (fun _ h => h.elim) (fun v_12 u_12 H locs hp_12 hP hD hS => ?_)
    obtain rfl := hp_12
    have hP : va_P D cls [(m0, .inr (6, mF g K (nI zz32, nI f32, nI q32) e (nI np) B)), ((g 0), .inl (cA 3, 2000, .inl fd)), ((g 10), .inl (cA 3, 4, .inl pe))] H := hP
    have hD : va_D A [(m0, .inr (6, mF g K (nI zz32, nI f32, nI q32) e (nI np) B)), ((g 0), .inl (cA 3, 2000, .inl fd)), ((g 10), .inl (cA 3, 4, .inl pe))] := hD
    refine W.cs (cells' := 0) (slots' := 0) rfl rfl ?_
    refine W.eq (g2 := F0 m 15 ls []) rfl ?_
    refine lv_iload_n hx hb d_Md_takeName_15 rfl (lv_at hl 0 rfl) ?_
    refine lv_istore (lv' := [(4, .int (nI zz32)), (3, .int (nI zz32)), (1, .long w32), (0, .ref m0)]) hx hb d_Md_takeName_16 hl (by decide) rfl (fun ls hl => ?_)
    refine lv_aload_n hx hb d_Md_takeName_18 rfl (lv_at hl 3 rfl) ?_
    refine va_get (D := D) (ci := 6) (v := .int (nI f32)) (C := R_Md) (T := F_Md) (N := 44) hx hb hts (fun w h => List.mem_cons_of_mem _ (i_Md w h)) hown hE.1 hP 0 rfl rfl 3 (by decide) (hts _ (List.mem_cons_of_mem _ iw3_57)) (fun _ h9 => h9) rfl d_Md_takeName_19 ?_
    refine lv_if_ne (tgt := 69) hx hb d_Md_takeName_22 (by decide) (fun c_22 => ?_) (fun c_22 => absurd c_22 (hf32.n0))
    exact cRv ((nI zz32, nI f32, nI q32) : A3) hx hb hr hlocks d_Md_takeName_69 hS hP hD (Or.inl ⟨f32, q32, pName_T hr32, hf32, rfl, rfl, zz32, by omega, rfl⟩) (Nat.le_refl _) (Nat.le_refl _)
  · obtain ⟨hla32, hgt32, hv32⟩ := (pU32_ok (show a ≤ lm by omega) hr32)
    have hP : va_P D cls [(m0, .inr (6, mF g K (nI a32, 0, p) e (nI np) B)), ((g 0), .inl (cA 3, 2000, .inl fd)), ((g 10), .inl (cA 3, 4, .inl pe))] H := hP
    have hD : va_D A [(m0, .inr (6, mF g K (nI a32, 0, p) e (nI np) B)), ((g 0), .inl (cA 3, 2000, .inl fd)), ((g 10), .inl (cA 3, 4, .inl pe))] := hD
    refine W.cs (cells' := 0) (slots' := 0) rfl rfl ?_
    refine W.eq (g2 := F0 m 4 ls [.long (lN v32)]) rfl ?_
    refine lv_lstore_n (lv' := [(1, .long (lN v32)), (0, .ref m0)]) hx hb d_Md_takeName_4 rfl hl (by decide) rfl (fun ls hl => ?_)
    refine lv_aload_n hx hb d_Md_takeName_5 rfl (lv_at hl 1 rfl) ?_
    refine va_get (D := D) (ci := 6) (v := .int (nI a32)) (C := R_Md) (T := F_Md) (N := 44) hx hb hts (fun w h => List.mem_cons_of_mem _ (i_Md w h)) hown hE.1 hP 0 rfl rfl 2 (by decide) (hts _ (List.mem_cons_of_mem _ iw3_56)) (fun _ h9 => h9) rfl d_Md_takeName_6 ?_
    refine lv_istore_n (lv' := [(3, .int (nI a32)), (1, .long (lN v32)), (0, .ref m0)]) hx hb d_Md_takeName_9 rfl hl (by decide) rfl (fun ls hl => ?_)
    refine lv_aload_n hx hb d_Md_takeName_10 rfl (lv_at hl 2 rfl) ?_
    refine lv_lload_n hx hb d_Md_takeName_11 rfl (lv_at hl 1 rfl) ?_
    refine cV (As := [.long (lN v32)]) (rest := []) (n := 1) (wc := [(m0, .inr (6, mF g K (nI a32, 0, p) e (nI np) B)), ((g 0), .inl (cA 3, 2000, .inl fd)), ((g 10), .inl (cA 3, 4, .inl pe))]) (wr := []) ⟨hx, hb, hml, hown, hts⟩ hno hlocks hl.1 (c_Md_skip l hl9 D cA ad H.size m0 g K e np B fd pe b N lm hnp hpe hlm hN hfd hb9 a32 p (by omega) v32 (by omega)) iw3_236 iw3_238 sel_Md_skip iw1_7 iw3_239 (by decide +kernel) rfl ⟨Nat.le_of_ble_eq_true rfl, Nat.le_of_ble_eq_true rfl⟩ ⟨Nat.le_of_ble_eq_true rfl, Nat.le_of_ble_eq_true rfl⟩ rfl (Nat.le_of_ble_eq_true rfl) d_Md_takeName_12 hE hP hD hS hA [0, 1, 2] [] rfl rfl rfl rfl (by decide) (ci := 6) rfl rfl 0 rfl (fun _ h => h.elim) (fun v_12 u_12 H locs hp_12 hP hD hS => ?_)
    rcases hp_12 with ⟨f34, q34, hr34, hf34, hB34, rfl, zz34, hzz34, hzx34⟩ | ⟨v34, a34, hr34, rfl, rfl⟩
    · obtain ⟨x34, y34, z34⟩ := u_12
      cases hB34
      have hzx34 : x34 = nI zz34 := hzx34
      subst hzx34
      have hP : va_P D cls [(m0, .inr (6, mF g K (nI zz34, nI f34, nI q34) e (nI np) B)), ((g 0), .inl (cA 3, 2000, .inl fd)), ((g 10), .inl (cA 3, 4, .inl pe))] H := hP
      have hD : va_D A [(m0, .inr (6, mF g K (nI zz34, nI f34, nI q34) e (nI np) B)), ((g 0), .inl (cA 3, 2000, .inl fd)), ((g 10), .inl (cA 3, 4, .inl pe))] := hD
      refine W.cs (cells' := 0) (slots' := 0) rfl rfl ?_
      refine W.eq (g2 := F0 m 15 ls []) rfl ?_
      refine lv_iload_n hx hb d_Md_takeName_15 rfl (lv_at hl 0 rfl) ?_
      refine lv_istore (lv' := [(4, .int (nI a32)), (3, .int (nI a32)), (1, .long (lN v32)), (0, .ref m0)]) hx hb d_Md_takeName_16 hl (by decide) rfl (fun ls hl => ?_)
      refine lv_aload_n hx hb d_Md_takeName_18 rfl (lv_at hl 3 rfl) ?_
      refine va_get (D := D) (ci := 6) (v := .int (nI f34)) (C := R_Md) (T := F_Md) (N := 44) hx hb hts (fun w h => List.mem_cons_of_mem _ (i_Md w h)) hown hE.1 hP 0 rfl rfl 3 (by decide) (hts _ (List.mem_cons_of_mem _ iw3_57)) (fun _ h9 => h9) rfl d_Md_takeName_19 ?_
      refine lv_if_ne (tgt := 69) hx hb d_Md_takeName_22 (by decide) (fun c_22 => ?_) (fun c_22 => absurd c_22 (hf34.n0))
      exact cRv ((nI zz34, nI f34, nI q34) : A3) hx hb hr hlocks d_Md_takeName_69 hS hP hD (Or.inl ⟨f34, q34, pName_S hr32 hr34, hf34, rfl, rfl, zz34, by omega, rfl⟩) (Nat.le_refl _) (Nat.le_refl _)
    · obtain ⟨hla34, hgt34, hs34⟩ := (pSkip_ok2 (show a32 ≤ lm by omega) hr34)
      have hP : va_P D cls [(m0, .inr (6, mF g K (nI a34, 0, p) e (nI np) B)), ((g 0), .inl (cA 3, 2000, .inl fd)), ((g 10), .inl (cA 3, 4, .inl pe))] H := hP
      have hD : va_D A [(m0, .inr (6, mF g K (nI a34, 0, p) e (nI np) B)), ((g 0), .inl (cA 3, 2000, .inl fd)), ((g 10), .inl (cA 3, 4, .inl pe))] := hD
      refine W.cs (cells' := 0) (slots' := 0) rfl rfl ?_
      refine W.eq (g2 := F0 m 15 ls []) rfl ?_
      refine lv_iload_n hx hb d_Md_takeName_15 rfl (lv_at hl 0 rfl) ?_
      refine lv_istore (lv' := [(4, .int (nI a32)), (3, .int (nI a32)), (1, .long (lN v32)), (0, .ref m0)]) hx hb d_Md_takeName_16 hl (by decide) rfl (fun ls hl => ?_)
      obtain ⟨nn_, a1_, a2_, hU, hK, hA1, hA2, hnn, enn, ea1, ea2⟩ : ∃ nn_ a1_ a2_ : Nat, pU32 b lm a = .inr (nn_, a1_) ∧ pSkip lm nn_ a1_ = .inr ((), a2_) ∧ a2_ ≤ lm ∧ a2_ = a1_ + nn_ ∧ nn_ < 4294967296 ∧ v32 = nn_ ∧ a32 = a1_ ∧ a34 = a2_ := ⟨v32, a32, a34, hr32, hr34, hla34, hs34, hv32, rfl, rfl, rfl⟩
      rw [enn, ea1] at hl
      rw [ea2] at hP hD
      have key : ∀ (k q_ : Nat) (H : Heap) (locs : List Loc) (ls : Array Slot), a2_ ≤ q_ + k → q_ ≤ a2_ + 4 → pChars b a2_ nn_ a1_ = pChars b a2_ k q_ → va_P D cls [(m0, .inr (6, mF g K (nI a2_, 0, p) e (nI np) B)), ((g 0), .inl (cA 3, 2000, .inl fd)), ((g 10), .inl (cA 3, 4, .inl pe))] H → va_D A [(m0, .inr (6, mF g K (nI a2_, 0, p) e (nI np) B)), ((g 0), .inl (cA 3, 2000, .inl fd)), ((g 10), .inl (cA 3, 4, .inl pe))] → va_S A s.heap H locs → lv_has ls 6 [(0, .ref m0), (1, .long (lN nn_)), (3, .int (nI a1_)), (4, .int (nI q_))] → W pg l ev ({ frames := 3, cells := 0, slots := 0, locals := 66 }) s m ([.ref m0] : List Value).toArray bw meth cdx H locs 0 0 (tx_Q bw (cQ D (oP (pName b lm a) p fN vN) (fun _ => False) (fun (u : A3) => [(m0, .inr (6, mF g K u e (nI np) B)), ((g 0), .inl (cA 3, 2000, .inl fd)), ((g 10), .inl (cA 3, 4, .inl pe))]) (fun _ => (0, 0)) A) ([.ref m0] : List Value).toArray s A) (F0 m 18 ls []) := by
        intro k
        induction k with
        | zero =>
          intro q_ H locs ls hqk hq4 hch hP hD hS hl
          refine lv_aload_n hx hb d_Md_takeName_18 rfl (lv_at hl 0 rfl) ?_
          refine va_get (D := D) (ci := 6) (v := .int 0) (C := R_Md) (T := F_Md) (N := 44) hx hb hts (fun w h => List.mem_cons_of_mem _ (i_Md w h)) hown hE.1 hP 0 rfl rfl 3 (by decide) (hts _ (List.mem_cons_of_mem _ iw3_57)) (fun _ h9 => h9) rfl d_Md_takeName_19 ?_
          refine lv_if_ne (tgt := 69) hx hb d_Md_takeName_22 (by decide) (fun c_22 => absurd (by decide) c_22) (fun c_22 => ?_)
          refine lv_iload hx hb d_Md_takeName_25 (lv_at hl 3 rfl) ?_
          refine lv_aload_n hx hb d_Md_takeName_27 rfl (lv_at hl 0 rfl) ?_
          refine va_get (D := D) (ci := 6) (v := .int (nI a2_)) (C := R_Md) (T := F_Md) (N := 44) hx hb hts (fun w h => List.mem_cons_of_mem _ (i_Md w h)) hown hE.1 hP 0 rfl rfl 2 (by decide) (hts _ (List.mem_cons_of_mem _ iw3_56)) (fun _ h9 => h9) rfl d_Md_takeName_28 ?_
          refine lv_icmp_ge (tgt := 69) hx hb d_Md_takeName_31 (by decide) (fun c_31 => ?_) (fun c_31 => absurd (nI_le (by omega) (by omega)) c_31)
          have hlt : ¬ q_ < a2_ := Nat.not_lt.mpr ((nI_leI (by omega) (by omega)).mp c_31)
          exact cRv ((nI a2_, 0, p) : A3) hx hb hr hlocks d_Md_takeName_69 hS hP hD (Or.inr ⟨(a1_, nn_), a2_, pName_E hU hK (hch.trans (pChars_end _ hlt)), rfl, rfl⟩) (Nat.le_refl _) (Nat.le_refl _)
        | succ k ih =>
          intro q_ H locs ls hqk hq4 hch hP hD hS hl
          refine lv_aload_n hx hb d_Md_takeName_18 rfl (lv_at hl 0 rfl) ?_
          refine va_get (D := D) (ci := 6) (v := .int 0) (C := R_Md) (T := F_Md) (N := 44) hx hb hts (fun w h => List.mem_cons_of_mem _ (i_Md w h)) hown hE.1 hP 0 rfl rfl 3 (by decide) (hts _ (List.mem_cons_of_mem _ iw3_57)) (fun _ h9 => h9) rfl d_Md_takeName_19 ?_
          refine lv_if_ne (tgt := 69) hx hb d_Md_takeName_22 (by decide) (fun c_22 => absurd (by decide) c_22) (fun c_22 => ?_)
          refine lv_iload hx hb d_Md_takeName_25 (lv_at hl 3 rfl) ?_
          refine lv_aload_n hx hb d_Md_takeName_27 rfl (lv_at hl 0 rfl) ?_
          refine va_get (D := D) (ci := 6) (v := .int (nI a2_)) (C := R_Md) (T := F_Md) (N := 44) hx hb hts (fun w h => List.mem_cons_of_mem _ (i_Md w h)) hown hE.1 hP 0 rfl rfl 2 (by decide) (hts _ (List.mem_cons_of_mem _ iw3_56)) (fun _ h9 => h9) rfl d_Md_takeName_28 ?_
          refine lv_icmp_ge (tgt := 69) hx hb d_Md_takeName_31 (by decide) (fun c_31 => ?_) (fun c_31 => ?_)
          · have hlt : ¬ q_ < a2_ := Nat.not_lt.mpr ((nI_leI (by omega) (by omega)).mp c_31)
            exact cRv ((nI a2_, 0, p) : A3) hx hb hr hlocks d_Md_takeName_69 hS hP hD (Or.inr ⟨(a1_, nn_), a2_, pName_E hU hK (hch.trans (pChars_end _ hlt)), rfl, rfl⟩) (Nat.le_refl _) (Nat.le_refl _)
          · have hlt : q_ < a2_ := Nat.lt_of_not_le (fun z => c_31 (nI_le z (by omega)))
            refine lv_aload_n hx hb d_Md_takeName_34 rfl (lv_at hl 0 rfl) ?_
            refine lv_iload hx hb d_Md_takeName_35 (lv_at hl 3 rfl) ?_
            refine lv_aload_n hx hb d_Md_takeName_37 rfl (lv_at hl 0 rfl) ?_
            refine va_get (D := D) (ci := 6) (v := .int (nI a2_)) (C := R_Md) (T := F_Md) (N := 44) hx hb hts (fun w h => List.mem_cons_of_mem _ (i_Md w h)) hown hE.1 hP 0 rfl rfl 2 (by decide) (hts _ (List.mem_cons_of_mem _ iw3_56)) (fun _ h9 => h9) rfl d_Md_takeName_38 ?_
            refine cV (As := [.int (nI q_), .int (nI a2_)]) (rest := []) (n := 2) (wc := [(m0, .inr (6, mF g K (nI a2_, 0, p) e (nI np) B)), ((g 0), .inl (cA 3, 2000, .inl fd))]) (wr := [((g 10), .inl (cA 3, 4, .inl pe))]) ⟨hx, hb, hml, hown, hts⟩ hno hlocks hl.1 (c_Md_character l hl9 D cA ad H.size m0 g K (nI a2_, 0, p) e (nI np) B fd b N hN hfd hb9 q_ a2_ hlt (by omega)) iw4_0 iw4_2 sel_Md_character iw1_7 iw4_3 (by decide +kernel) rfl ⟨Nat.le_of_ble_eq_true rfl, Nat.le_of_ble_eq_true rfl⟩ ⟨Nat.le_of_ble_eq_true rfl, Nat.le_of_ble_eq_true rfl⟩ rfl (Nat.le_of_ble_eq_true rfl) d_Md_takeName_41 hE hP hD hS hA [0, 1] [2] rfl rfl rfl rfl (by decide) (ci := 6) rfl rfl 0 rfl (fun _ h => h.elim) (fun v_41 u_41 H locs hp_41 hP hD hS => ?_)
            obtain rfl := hp_41
            have hc4 := pChar_lt b a2_ q_
            have hP : va_P D cls [(m0, .inr (6, mF g K (nI a2_, 0, p) e (nI np) B)), ((g 0), .inl (cA 3, 2000, .inl fd)), ((g 10), .inl (cA 3, 4, .inl pe))] H := hP.sub [1, 2, 0] rfl
            have hD : va_D A [(m0, .inr (6, mF g K (nI a2_, 0, p) e (nI np) B)), ((g 0), .inl (cA 3, 2000, .inl fd)), ((g 10), .inl (cA 3, 4, .inl pe))] := hD.sub [1, 2, 0] (by decide) rfl
            refine W.cs (cells' := 0) (slots' := 0) rfl rfl ?_
            refine W.eq (g2 := F0 m 44 ls [.int (nI (pChar b a2_ q_))]) rfl ?_
            refine lv_istore (lv' := [(5, .int (nI (pChar b a2_ q_))), (0, .ref m0), (1, .long (lN nn_)), (3, .int (nI a1_)), (4, .int (nI q_))]) hx hb d_Md_takeName_44 hl (by decide) rfl (fun ls hl => ?_)
            refine lv_iload hx hb d_Md_takeName_46 (lv_at hl 0 rfl) ?_
            refine lv_if_ne (tgt := 59) hx hb d_Md_takeName_48 (by decide) (fun c_48 => ?_) (fun c_48 => ?_)
            · refine lv_iload hx hb d_Md_takeName_59 (lv_at hl 4 rfl) ?_
              refine lv_iload hx hb d_Md_takeName_61 (lv_at hl 0 rfl) ?_
              refine lv_iadd hx hb d_Md_takeName_63 ?_
              refine lv_istore (lv' := [(4, .int ((nI q_) + (nI (pChar b a2_ q_)))), (5, .int (nI (pChar b a2_ q_))), (0, .ref m0), (1, .long (lN nn_)), (3, .int (nI a1_))]) hx hb d_Md_takeName_64 hl (by decide) rfl (fun ls hl => ?_)
              refine lv_goto (tgt := 18) hx hb d_Md_takeName_66 (by decide) ?_
              have hz : ¬ pChar b a2_ q_ = 0 := fun z => by rw [z] at c_48; exact absurd rfl c_48
              rw [nI_add] at hl
              exact ih (q_ + pChar b a2_ q_) H locs ls (by omega) (by omega) (hch.trans (pChars_go hlt hz)) hP hD hS (lv_sub hl [2, 3, 4, 0] rfl)
            · have hz : pChar b a2_ q_ = 0 := (nI_eq (a := pChar b a2_ q_) (b := 0) (by omega) (by omega)).mp c_48
              refine lv_aload_n hx hb d_Md_takeName_51 rfl (lv_at hl 1 rfl) ?_
              refine lv_bipush (v := 9) hx hb d_Md_takeName_52 (by decide) ?_
              refine lv_iload hx hb d_Md_takeName_54 (lv_at hl 4 rfl) ?_
              refine cV (As := [.int 9, .int (nI q_)]) (rest := []) (n := 2) (wc := [(m0, .inr (6, mF g K (nI a2_, 0, p) e (nI np) B))]) (wr := [((g 0), .inl (cA 3, 2000, .inl fd)), ((g 10), .inl (cA 3, 4, .inl pe))]) ⟨hx, hb, hml, hown, hts⟩ hno hlocks hl.1 (c_Md_stop l hl9 D cA ad H.size m0 g K e (nI np) B (nI a2_) p (9 : Int32) (nI q_)) iw3_216 iw3_218 sel_Md_stop iw1_7 iw3_219 (by decide +kernel) rfl ⟨Nat.le_of_ble_eq_true rfl, Nat.le_of_ble_eq_true rfl⟩ ⟨Nat.le_of_ble_eq_true rfl, Nat.le_of_ble_eq_true rfl⟩ rfl (Nat.le_of_ble_eq_true rfl) d_Md_takeName_56 hE hP hD hS hA [0] [1, 2] rfl rfl rfl rfl (by decide) (ci := 6) rfl rfl 0 rfl (fun _ h => h.elim) (fun v_56 u_56 H locs hp_56 hP hD hS => ?_)
              obtain rfl := hp_56
              have hP : va_P D cls [(m0, .inr (6, mF g K (nI a2_, 9, nI q_) e (nI np) B)), ((g 0), .inl (cA 3, 2000, .inl fd)), ((g 10), .inl (cA 3, 4, .inl pe))] H := hP.sub [2, 0, 1] rfl
              have hD : va_D A [(m0, .inr (6, mF g K (nI a2_, 9, nI q_) e (nI np) B)), ((g 0), .inl (cA 3, 2000, .inl fd)), ((g 10), .inl (cA 3, 4, .inl pe))] := hD.sub [2, 0, 1] (by decide) rfl
              refine W.cs (cells' := 0) (slots' := 0) rfl rfl ?_
              refine W.eq (g2 := F0 m 59 ls []) rfl ?_
              refine lv_iload hx hb d_Md_takeName_59 (lv_at hl 4 rfl) ?_
              refine lv_iload hx hb d_Md_takeName_61 (lv_at hl 0 rfl) ?_
              refine lv_iadd hx hb d_Md_takeName_63 ?_
              refine lv_istore (lv' := [(4, .int ((nI q_) + (nI (pChar b a2_ q_)))), (5, .int (nI (pChar b a2_ q_))), (0, .ref m0), (1, .long (lN nn_)), (3, .int (nI a1_))]) hx hb d_Md_takeName_64 hl (by decide) rfl (fun ls hl => ?_)
              refine lv_goto (tgt := 18) hx hb d_Md_takeName_66 (by decide) ?_
              refine lv_aload_n hx hb d_Md_takeName_18 rfl (lv_at hl 2 rfl) ?_
              refine va_get (D := D) (ci := 6) (v := .int 9) (C := R_Md) (T := F_Md) (N := 44) hx hb hts (fun w h => List.mem_cons_of_mem _ (i_Md w h)) hown hE.1 hP 0 rfl rfl 3 (by decide) (hts _ (List.mem_cons_of_mem _ iw3_57)) (fun _ h9 => h9) rfl d_Md_takeName_19 ?_
              refine lv_if_ne (tgt := 69) hx hb d_Md_takeName_22 (by decide) (fun c_22 => ?_) (fun c_22 => absurd c_22 (by decide))
              exact cRv ((nI a2_, 9, nI q_) : A3) hx hb hr hlocks d_Md_takeName_69 hS hP hD (Or.inl ⟨9, q_, pName_F hU hK (hch.trans (pChars_bad hlt hz)), ⟨by decide, by decide⟩, rfl, rfl, a2_, by omega, rfl⟩) (Nat.le_refl _) (Nat.le_refl _)
      exact key nn_ a1_ H _ ls (by omega) (by omega) rfl hP hD hS (lv_sub hl [3, 2, 1, 0] rfl)
set_option maxHeartbeats 4000000 in
set_option maxRecDepth 100000 in
/-- takeName() after a fault -/
theorem c_Md_takeNameF (l : Launch) (hl9 : l.stackTraces = false) (D : va_G) (cA : Nat → ClassId) (ad : Nat → Nat) (sz : Nat) (m0 : Nat) (g : Nat → Nat) (K : MK) (e : Int32) (np : Nat) (B : MB) (fd pe : Nat → Int32) (hnp : 1 ≤ np ∧ np ≤ 4) (x ff p : Int32) (hf : ¬ ff = 0 ∧ ¬ ff ≤ 0)  :
    cM l y_Md_takeName (.code y_Md_takeName b_Md_takeName 6 none :: wAll) ({ frames := 3, cells := 0, slots := 0, locals := 66 }) D cA ad [.ref m0] [(m0, .inr (6, mF g K (x, ff, p) e (nI np) B)), ((g 0), .inl (cA 3, 2000, .inl fd)), ((g 10), .inl (cA 3, 4, .inl pe))] sz (fun v (_ : Unit) => v = none) (fun _ => False) (fun _ => [(m0, .inr (6, mF g K (x, ff, p) e (nI np) B)), ((g 0), .inl (cA 3, 2000, .inl fd)), ((g 10), .inl (cA 3, 4, .inl pe))]) (fun _ => (0, 0)) := by
  refine cM.ofW (cc := b_Md_takeName) (maxL := 6) (ret := none) (by decide) (Nat.le_of_ble_eq_true rfl) ?_
  intro pg ev s m bw meth cdx A ls hF hsz hA hE hP hD hl
  obtain ⟨⟨hx, hb, hml, hown, hts⟩, hr, hno, hlocks, hin⟩ := hF
  subst hsz
  have hown : s.vm.findClass "ModuleBytesModel" = some m.cls := hown
  have hS : va_S A s.heap s.heap [] := va_S.rf
  have hl : lv_has ls 6 [(0, .ref m0)] := hl
  have hP : va_P D cls [(m0, .inr (6, mF g K (x, ff, p) e (nI np) B)), ((g 0), .inl (cA 3, 2000, .inl fd)), ((g 10), .inl (cA 3, 4, .inl pe))] s.heap := hP
  have hD : va_D A [(m0, .inr (6, mF g K (x, ff, p) e (nI np) B)), ((g 0), .inl (cA 3, 2000, .inl fd)), ((g 10), .inl (cA 3, 4, .inl pe))] := hD
  refine lv_aload_n hx hb d_Md_takeName_0 rfl (lv_at hl 0 rfl) ?_
  refine cV (As := []) (rest := []) (n := 0) (wc := [(m0, .inr (6, mF g K (x, ff, p) e (nI np) B)), ((g 0), .inl (cA 3, 2000, .inl fd)), ((g 10), .inl (cA 3, 4, .inl pe))]) (wr := []) ⟨hx, hb, hml, hown, hts⟩ hno hlocks hl.1 (c_Md_takeU32F l hl9 D cA ad s.heap.size m0 g K e np B fd pe hnp x ff p hf ) iw3_228 iw3_230 sel_Md_takeU32 iw1_7 iw3_231 (by decide +kernel) rfl ⟨Nat.le_of_ble_eq_true rfl, Nat.le_of_ble_eq_true rfl⟩ ⟨Nat.le_of_ble_eq_true rfl, Nat.le_of_ble_eq_true rfl⟩ rfl (Nat.le_of_ble_eq_true rfl) d_Md_takeName_1 hE hP hD hS hA [0, 1, 2] [] rfl rfl rfl rfl (by decide) (ci := 6) rfl rfl 0 rfl (fun _ h => h.elim) (fun v_1 u_1 H locs hp_1 hP hD hS => ?_)
  obtain ⟨w35, rfl⟩ := hp_1
  have hP : va_P D cls [(m0, .inr (6, mF g K (x, ff, p) e (nI np) B)), ((g 0), .inl (cA 3, 2000, .inl fd)), ((g 10), .inl (cA 3, 4, .inl pe))] H := hP
  have hD : va_D A [(m0, .inr (6, mF g K (x, ff, p) e (nI np) B)), ((g 0), .inl (cA 3, 2000, .inl fd)), ((g 10), .inl (cA 3, 4, .inl pe))] := hD
  refine W.cs (cells' := 0) (slots' := 0) rfl rfl ?_
  refine W.eq (g2 := F0 m 4 ls [.long w35]) rfl ?_
  refine lv_lstore_n (lv' := [(1, .long w35), (0, .ref m0)]) hx hb d_Md_takeName_4 rfl hl (by decide) rfl (fun ls hl => ?_)
  refine lv_aload_n hx hb d_Md_takeName_5 rfl (lv_at hl 1 rfl) ?_
  refine va_get (D := D) (ci := 6) (v := .int x) (C := R_Md) (T := F_Md) (N := 44) hx hb hts (fun w h => List.mem_cons_of_mem _ (i_Md w h)) hown hE.1 hP 0 rfl rfl 2 (by decide) (hts _ (List.mem_cons_of_mem _ iw3_56)) (fun _ h9 => h9) rfl d_Md_takeName_6 ?_
  refine lv_istore_n (lv' := [(3, .int x), (1, .long w35), (0, .ref m0)]) hx hb d_Md_takeName_9 rfl hl (by decide) rfl (fun ls hl => ?_)
  refine lv_aload_n hx hb d_Md_takeName_10 rfl (lv_at hl 2 rfl) ?_
  refine lv_lload_n hx hb d_Md_takeName_11 rfl (lv_at hl 1 rfl) ?_
  refine cV (As := [.long w35]) (rest := []) (n := 1) (wc := [(m0, .inr (6, mF g K (x, ff, p) e (nI np) B)), ((g 0), .inl (cA 3, 2000, .inl fd)), ((g 10), .inl (cA 3, 4, .inl pe))]) (wr := []) ⟨hx, hb, hml, hown, hts⟩ hno hlocks hl.1 (c_Md_skipF l hl9 D cA ad H.size m0 g K e np B fd pe hnp x ff p hf w35) iw3_236 iw3_238 sel_Md_skip iw1_7 iw3_239 (by decide +kernel) rfl ⟨Nat.le_of_ble_eq_true rfl, Nat.le_of_ble_eq_true rfl⟩ ⟨Nat.le_of_ble_eq_true rfl, Nat.le_of_ble_eq_true rfl⟩ rfl (Nat.le_of_ble_eq_true rfl) d_Md_takeName_12 hE hP hD hS hA [0, 1, 2] [] rfl rfl rfl rfl (by decide) (ci := 6) rfl rfl 0 rfl (fun _ h => h.elim) (fun v_12 u_12 H locs hp_12 hP hD hS => ?_)
  obtain rfl := hp_12
  have hP : va_P D cls [(m0, .inr (6, mF g K (x, ff, p) e (nI np) B)), ((g 0), .inl (cA 3, 2000, .inl fd)), ((g 10), .inl (cA 3, 4, .inl pe))] H := hP
  have hD : va_D A [(m0, .inr (6, mF g K (x, ff, p) e (nI np) B)), ((g 0), .inl (cA 3, 2000, .inl fd)), ((g 10), .inl (cA 3, 4, .inl pe))] := hD
  refine W.cs (cells' := 0) (slots' := 0) rfl rfl ?_
  refine W.eq (g2 := F0 m 15 ls []) rfl ?_
  refine lv_iload_n hx hb d_Md_takeName_15 rfl (lv_at hl 0 rfl) ?_
  refine lv_istore (lv' := [(4, .int x), (3, .int x), (1, .long w35), (0, .ref m0)]) hx hb d_Md_takeName_16 hl (by decide) rfl (fun ls hl => ?_)
  refine lv_aload_n hx hb d_Md_takeName_18 rfl (lv_at hl 3 rfl) ?_
  refine va_get (D := D) (ci := 6) (v := .int ff) (C := R_Md) (T := F_Md) (N := 44) hx hb hts (fun w h => List.mem_cons_of_mem _ (i_Md w h)) hown hE.1 hP 0 rfl rfl 3 (by decide) (hts _ (List.mem_cons_of_mem _ iw3_57)) (fun _ h9 => h9) rfl d_Md_takeName_19 ?_
  refine lv_if_ne (tgt := 69) hx hb d_Md_takeName_22 (by decide) (fun c_22 => ?_) (fun c_22 => absurd c_22 (hf.1))
  exact cRv () hx hb hr hlocks d_Md_takeName_69 hS hP hD (rfl) (Nat.le_refl _) (Nat.le_refl _)
set_option maxHeartbeats 4000000 in
set_option maxRecDepth 100000 in
/-- want(what) -/
theorem c_Md_want (l : Launch) (hl9 : l.stackTraces = false) (D : va_G) (cA : Nat → ClassId) (ad : Nat → Nat) (sz : Nat) (m0 : Nat) (g : Nat → Nat) (K : MK) (A0 : A3) (np : Int32) (B : MB) (ex : Nat → Int32) (ti : Nat → Int64) (st : List IT) (hst : ST ex ti st) (hs9 : st.length < 400) (x : Int32) (wh : Nat) (hw : x = nI wh) :
    cM l y_Md_want (.code y_Md_want b_Md_want 2 none :: wAll) ({ frames := 0, cells := 0, slots := 0, locals := 0 }) D cA ad [.ref m0, .int x] [(m0, .inr (6, mF g K A0 (nI st.length) np B)), ((g 7), .inl (cA 3, 400, .inl ex)), ((g 8), .inl (cA 1, 400, .inr (.inl ti)))] sz (fun v u => v = none ∧ ST u.1 u.2 (.inl wh :: st)) (fun _ => False) (fun (u : (Nat → Int32) × (Nat → Int64)) => [(m0, .inr (6, mF g K A0 (nI (st.length + 1)) np B)), ((g 7), .inl (cA 3, 400, .inl u.1)), ((g 8), .inl (cA 1, 400, .inr (.inl u.2)))]) (fun _ => (0, 0)) := by
  refine cM.ofW (cc := b_Md_want) (maxL := 2) (ret := none) (by decide) (Nat.le_of_ble_eq_true rfl) ?_
  intro pg ev s m bw meth cdx A ls hF hsz hA hE hP hD hl
  obtain ⟨⟨hx, hb, hml, hown, hts⟩, hr, hno, hlocks, hin⟩ := hF
  subst hsz
  have hown : s.vm.findClass "ModuleBytesModel" = some m.cls := hown
  have hS : va_S A s.heap s.heap [] := va_S.rf
  have hl : lv_has ls 2 [(0, .ref m0), (1, .int x)] := hl
  have hP : va_P D cls [(m0, .inr (6, mF g K A0 (nI st.length) np B)), ((g 7), .inl (cA 3, 400, .inl ex)), ((g 8), .inl (cA 1, 400, .inr (.inl ti)))] s.heap := hP
  have hD : va_D A [(m0, .inr (6, mF g K A0 (nI st.length) np B)), ((g 7), .inl (cA 3, 400, .inl ex)), ((g 8), .inl (cA 1, 400, .inr (.inl ti)))] := hD
  refine lv_aload_n hx hb d_Md_want_0 rfl (lv_at hl 0 rfl) ?_
  refine va_get (D := D) (ci := 6) (v := .ref (g 7)) (C := R_Md) (T := F_Md) (N := 44) hx hb hts (fun w h => List.mem_cons_of_mem _ (i_Md w h)) hown hE.1 hP 0 rfl rfl 7 (by decide) (hts _ (List.mem_cons_of_mem _ iw3_61)) (fun _ h9 => h9) rfl d_Md_want_1 ?_
  refine lv_aload_n hx hb d_Md_want_4 rfl (lv_at hl 0 rfl) ?_
  refine va_get (D := D) (ci := 6) (v := .int (nI st.length)) (C := R_Md) (T := F_Md) (N := 44) hx hb hts (fun w h => List.mem_cons_of_mem _ (i_Md w h)) hown hE.1 hP 0 rfl rfl 6 (by decide) (hts _ (List.mem_cons_of_mem _ iw3_60)) (fun _ h9 => h9) rfl d_Md_want_5 ?_
  refine lv_iload_n hx hb d_Md_want_8 rfl (lv_at hl 1 rfl) ?_
  refine va_iast hx hb hE.1 hP hD hS 1 3 rfl rfl (vp_in_nI (by omega) (by omega)) d_Md_want_9 (fun H locs hP hD hS => ?_)
  have hP : va_P D cls [(m0, .inr (6, mF g K A0 (nI st.length) np B)), ((g 7), .inl (cA 3, 400, .inl (upd ex (nI st.length).toNatClampNeg x))), ((g 8), .inl (cA 1, 400, .inr (.inl ti)))] H := hP
  have hD : va_D A [(m0, .inr (6, mF g K A0 (nI st.length) np B)), ((g 7), .inl (cA 3, 400, .inl (upd ex (nI st.length).toNatClampNeg x))), ((g 8), .inl (cA 1, 400, .inr (.inl ti)))] := hD
  refine lv_aload_n hx hb d_Md_want_10 rfl (lv_at hl 0 rfl) ?_
  refine va_get (D := D) (ci := 6) (v := .ref (g 8)) (C := R_Md) (T := F_Md) (N := 44) hx hb hts (fun w h => List.mem_cons_of_mem _ (i_Md w h)) hown hE.1 hP 0 rfl rfl 8 (by decide) (hts _ (List.mem_cons_of_mem _ iw3_62)) (fun _ h9 => h9) rfl d_Md_want_11 ?_
  refine lv_aload_n hx hb d_Md_want_14 rfl (lv_at hl 0 rfl) ?_
  refine va_get (D := D) (ci := 6) (v := .int (nI st.length)) (C := R_Md) (T := F_Md) (N := 44) hx hb hts (fun w h => List.mem_cons_of_mem _ (i_Md w h)) hown hE.1 hP 0 rfl rfl 6 (by decide) (hts _ (List.mem_cons_of_mem _ iw3_60)) (fun _ h9 => h9) rfl d_Md_want_15 ?_
  refine lv_lconst (v := 1) hx hb d_Md_want_18 (by decide) ?_
  refine va_last hx hb hE.1 hP hD hS 2 1 rfl rfl (vp_in_nI (by omega) (by omega)) d_Md_want_19 (fun H locs hP hD hS => ?_)
  have hP : va_P D cls [(m0, .inr (6, mF g K A0 (nI st.length) np B)), ((g 7), .inl (cA 3, 400, .inl (upd ex (nI st.length).toNatClampNeg x))), ((g 8), .inl (cA 1, 400, .inr (.inl (vp_updL ti (nI st.length).toNatClampNeg 1))))] H := hP
  have hD : va_D A [(m0, .inr (6, mF g K A0 (nI st.length) np B)), ((g 7), .inl (cA 3, 400, .inl (upd ex (nI st.length).toNatClampNeg x))), ((g 8), .inl (cA 1, 400, .inr (.inl (vp_updL ti (nI st.length).toNatClampNeg 1))))] := hD
  refine lv_aload_n hx hb d_Md_want_20 rfl (lv_at hl 0 rfl) ?_
  refine lv_dup hx hb d_Md_want_21 rfl ?_
  refine va_get (D := D) (ci := 6) (v := .int (nI st.length)) (C := R_Md) (T := F_Md) (N := 44) hx hb hts (fun w h => List.mem_cons_of_mem _ (i_Md w h)) hown hE.1 hP 0 rfl rfl 6 (by decide) (hts _ (List.mem_cons_of_mem _ iw3_60)) (fun _ h9 => h9) rfl d_Md_want_22 ?_
  refine lv_iconst (v := 1) hx hb d_Md_want_25 (by decide) ?_
  refine lv_iadd hx hb d_Md_want_26 ?_
  rw [nI_1]
  refine va_put (D := D) (ci := 6) (v := .int (nI (st.length + 1))) (ty := .int) (C := R_Md) (T := F_Md) (N := 44) hx hb hts (fun w h => List.mem_cons_of_mem _ (i_Md w h)) t_Md tk_Md n_Md hown hE.1 hP hD hS 0 rfl rfl 6 (by decide) (hts _ (List.mem_cons_of_mem _ iw3_60)) (fun _ h9 => h9) rfl (by decide +kernel) rfl rfl (Nat.le_of_ble_eq_true rfl) d_Md_want_27 (fun H locs hP hD hS => ?_)
  have hP : va_P D cls [(m0, .inr (6, mF g K A0 (nI (st.length + 1)) np B)), ((g 7), .inl (cA 3, 400, .inl (upd ex (nI st.length).toNatClampNeg x))), ((g 8), .inl (cA 1, 400, .inr (.inl (vp_updL ti (nI st.length).toNatClampNeg 1))))] H := hP
  have hD : va_D A [(m0, .inr (6, mF g K A0 (nI (st.length + 1)) np B)), ((g 7), .inl (cA 3, 400, .inl (upd ex (nI st.length).toNatClampNeg x))), ((g 8), .inl (cA 1, 400, .inr (.inl (vp_updL ti (nI st.length).toNatClampNeg 1))))] := hD
  rw [nI_clamp (n := st.length) (by omega)] at hP hD
  exact cRv ((upd ex st.length x, vp_updL ti st.length 1) : (Nat → Int32) × (Nat → Int64)) hx hb hr hlocks d_Md_want_30 hS hP hD (⟨rfl, hst.push wh hw⟩) (Nat.le_refl _) (Nat.le_refl _)
set_option maxHeartbeats 4000000 in
set_option maxRecDepth 100000 in
/-- wantTwo(one, two) -/
theorem c_Md_wantTwo (l : Launch) (hl9 : l.stackTraces = false) (D : va_G) (cA : Nat → ClassId) (ad : Nat → Nat) (sz : Nat) (m0 : Nat) (g : Nat → Nat) (K : MK) (A0 : A3) (np : Int32) (B : MB) (ex : Nat → Int32) (ti : Nat → Int64) (st : List IT) (hst : ST ex ti st) (hs9 : st.length < 390) (x : Int32) (wx : Nat) (hwx : x = nI wx) (y : Int32) (wy : Nat) (hwy : y = nI wy) :
    cM l y_Md_wantTwo (.code y_Md_wantTwo b_Md_wantTwo 3 none :: wAll) ({ frames := 1, cells := 0, slots := 0, locals := 21 }) D cA ad [.ref m0, .int x, .int y] [(m0, .inr (6, mF g K A0 (nI st.length) np B)), ((g 7), .inl (cA 3, 400, .inl ex)), ((g 8), .inl (cA 1, 400, .inr (.inl ti)))] sz (fun v u => v = none ∧ ST u.1 u.2 (.inl wx :: .inl wy :: st)) (fun _ => False) (fun (u : (Nat → Int32) × (Nat → Int64)) => [(m0, .inr (6, mF g K A0 (nI (st.length + 2)) np B)), ((g 7), .inl (cA 3, 400, .inl u.1)), ((g 8), .inl (cA 1, 400, .inr (.inl u.2)))]) (fun _ => (0, 0)) := by
  refine cM.ofW (cc := b_Md_wantTwo) (maxL := 3) (ret := none) (by decide) (Nat.le_of_ble_eq_true rfl) ?_
  intro pg ev s m bw meth cdx A ls hF hsz hA hE hP hD hl
  obtain ⟨⟨hx, hb, hml, hown, hts⟩, hr, hno, hlocks, hin⟩ := hF
  subst hsz
  have hown : s.vm.findClass "ModuleBytesModel" = some m.cls := hown
  have hS : va_S A s.heap s.heap [] := va_S.rf
  have hl : lv_has ls 3 [(0, .ref m0), (1, .int x), (2, .int y)] := hl
  have hP : va_P D cls [(m0, .inr (6, mF g K A0 (nI st.length) np B)), ((g 7), .inl (cA 3, 400, .inl ex)), ((g 8), .inl (cA 1, 400, .inr (.inl ti)))] s.heap := hP
  have hD : va_D A [(m0, .inr (6, mF g K A0 (nI st.length) np B)), ((g 7), .inl (cA 3, 400, .inl ex)), ((g 8), .inl (cA 1, 400, .inr (.inl ti)))] := hD
  refine lv_aload_n hx hb d_Md_wantTwo_0 rfl (lv_at hl 0 rfl) ?_
  refine lv_iload_n hx hb d_Md_wantTwo_1 rfl (lv_at hl 2 rfl) ?_
  refine cV (As := [.int y]) (rest := []) (n := 1) (wc := [(m0, .inr (6, mF g K A0 (nI st.length) np B)), ((g 7), .inl (cA 3, 400, .inl ex)), ((g 8), .inl (cA 1, 400, .inr (.inl ti)))]) (wr := []) ⟨hx, hb, hml, hown, hts⟩ hno hlocks hl.1 (c_Md_want l hl9 D cA ad s.heap.size m0 g K (A0.1, A0.2.1, A0.2.2) np B ex ti st hst (by (try simp only [List.length_cons]); omega) y wy hwy) iw3_220 iw3_222 sel_Md_want iw1_7 iw3_223 (by decide +kernel) rfl ⟨Nat.le_of_ble_eq_true rfl, Nat.le_of_ble_eq_true rfl⟩ ⟨Nat.le_of_ble_eq_true rfl, Nat.le_of_ble_eq_true rfl⟩ rfl (Nat.le_of_ble_eq_true rfl) d_Md_wantTwo_2 hE hP hD hS hA [0, 1, 2] [] rfl rfl rfl rfl (by decide) (ci := 6) rfl rfl 0 rfl (fun _ h => h.elim) (fun v_2 u_2 H locs hp_2 hP hD hS => ?_)
  obtain ⟨rfl, hst37⟩ := hp_2
  obtain ⟨ex37, ti37⟩ := u_2
  have hP : va_P D cls [(m0, .inr (6, mF g K A0 (nI (st.length + 1)) np B)), ((g 7), .inl (cA 3, 400, .inl ex37)), ((g 8), .inl (cA 1, 400, .inr (.inl ti37)))] H := hP
  have hD : va_D A [(m0, .inr (6, mF g K A0 (nI (st.length + 1)) np B)), ((g 7), .inl (cA 3, 400, .inl ex37)), ((g 8), .inl (cA 1, 400, .inr (.inl ti37)))] := hD
  refine W.cs (cells' := 0) (slots' := 0) rfl rfl ?_
  refine W.eq (g2 := F0 m 5 ls []) rfl ?_
  refine lv_aload_n hx hb d_Md_wantTwo_5 rfl (lv_at hl 0 rfl) ?_
  refine lv_iload_n hx hb d_Md_wantTwo_6 rfl (lv_at hl 1 rfl) ?_
  refine cV (As := [.int x]) (rest := []) (n := 1) (wc := [(m0, .inr (6, mF g K A0 (nI (st.length + 1)) np B)), ((g 7), .inl (cA 3, 400, .inl ex37)), ((g 8), .inl (cA 1, 400, .inr (.inl ti37)))]) (wr := []) ⟨hx, hb, hml, hown, hts⟩ hno hlocks hl.1 (c_Md_want l hl9 D cA ad H.size m0 g K (A0.1, A0.2.1, A0.2.2) np B ex37 ti37 (.inl wy :: st) hst37 (by (try simp only [List.length_cons]); omega) x wx hwx) iw3_220 iw3_222 sel_Md_want iw1_7 iw3_223 (by decide +kernel) rfl ⟨Nat.le_of_ble_eq_true rfl, Nat.le_of_ble_eq_true rfl⟩ ⟨Nat.le_of_ble_eq_true rfl, Nat.le_of_ble_eq_true rfl⟩ rfl (Nat.le_of_ble_eq_true rfl) d_Md_wantTwo_7 hE hP hD hS hA [0, 1, 2] [] rfl rfl rfl rfl (by decide) (ci := 6) rfl rfl 0 rfl (fun _ h => h.elim) (fun v_7 u_7 H locs hp_7 hP hD hS => ?_)
  obtain ⟨rfl, hst38⟩ := hp_7
  obtain ⟨ex38, ti38⟩ := u_7
  have hP : va_P D cls [(m0, .inr (6, mF g K A0 (nI (st.length + 2)) np B)), ((g 7), .inl (cA 3, 400, .inl ex38)), ((g 8), .inl (cA 1, 400, .inr (.inl ti38)))] H := hP
  have hD : va_D A [(m0, .inr (6, mF g K A0 (nI (st.length + 2)) np B)), ((g 7), .inl (cA 3, 400, .inl ex38)), ((g 8), .inl (cA 1, 400, .inr (.inl ti38)))] := hD
  refine W.cs (cells' := 0) (slots' := 0) rfl rfl ?_
  refine W.eq (g2 := F0 m 10 ls []) rfl ?_
  exact cRv ((ex38, ti38) : (Nat → Int32) × (Nat → Int64)) hx hb hr hlocks d_Md_wantTwo_10 hS hP hD (⟨rfl, hst38⟩) (Nat.le_refl _) (Nat.le_refl _)
set_option maxHeartbeats 4000000 in
set_option maxRecDepth 100000 in
/-- wantRow(what) -/
theorem c_Md_wantRow (l : Launch) (hl9 : l.stackTraces = false) (D : va_G) (cA : Nat → ClassId) (ad : Nat → Nat) (sz : Nat) (m0 : Nat) (g : Nat → Nat) (K : MK) (A0 : A3) (np : Int32) (B : MB) (ex : Nat → Int32) (ti : Nat → Int64) (st : List IT) (hst : ST ex ti st) (hs9 : st.length < 390) (x : Int32) (wx : Nat) (hwx : x = nI wx) :
    cM l y_Md_wantRow (.code y_Md_wantRow b_Md_wantRow 2 none :: wAll) ({ frames := 1, cells := 0, slots := 0, locals := 21 }) D cA ad [.ref m0, .int x] [(m0, .inr (6, mF g K A0 (nI st.length) np B)), ((g 7), .inl (cA 3, 400, .inl ex)), ((g 8), .inl (cA 1, 400, .inr (.inl ti)))] sz (fun v u => v = none ∧ ST u.1 u.2 (.inl (100 + wx) :: st)) (fun _ => False) (fun (u : (Nat → Int32) × (Nat → Int64)) => [(m0, .inr (6, mF g K A0 (nI (st.length + 1)) np B)), ((g 7), .inl (cA 3, 400, .inl u.1)), ((g 8), .inl (cA 1, 400, .inr (.inl u.2)))]) (fun _ => (0, 0)) := by
  refine cM.ofW (cc := b_Md_wantRow) (maxL := 2) (ret := none) (by decide) (Nat.le_of_ble_eq_true rfl) ?_
  intro pg ev s m bw meth cdx A ls hF hsz hA hE hP hD hl
  obtain ⟨⟨hx, hb, hml, hown, hts⟩, hr, hno, hlocks, hin⟩ := hF
  subst hsz
  have hown : s.vm.findClass "ModuleBytesModel" = some m.cls := hown
  have hS : va_S A s.heap s.heap [] := va_S.rf
  have hl : lv_has ls 2 [(0, .ref m0), (1, .int x)] := hl
  have hP : va_P D cls [(m0, .inr (6, mF g K A0 (nI st.length) np B)), ((g 7), .inl (cA 3, 400, .inl ex)), ((g 8), .inl (cA 1, 400, .inr (.inl ti)))] s.heap := hP
  have hD : va_D A [(m0, .inr (6, mF g K A0 (nI st.length) np B)), ((g 7), .inl (cA 3, 400, .inl ex)), ((g 8), .inl (cA 1, 400, .inr (.inl ti)))] := hD
  refine lv_aload_n hx hb d_Md_wantRow_0 rfl (lv_at hl 0 rfl) ?_
  refine lv_bipush (v := 100) hx hb d_Md_wantRow_1 (by decide) ?_
  refine lv_iload_n hx hb d_Md_wantRow_3 rfl (lv_at hl 1 rfl) ?_
  refine lv_iadd hx hb d_Md_wantRow_4 ?_
  refine cV (As := [.int (100 + x)]) (rest := []) (n := 1) (wc := [(m0, .inr (6, mF g K A0 (nI st.length) np B)), ((g 7), .inl (cA 3, 400, .inl ex)), ((g 8), .inl (cA 1, 400, .inr (.inl ti)))]) (wr := []) ⟨hx, hb, hml, hown, hts⟩ hno hlocks hl.1 (c_Md_want l hl9 D cA ad s.heap.size m0 g K (A0.1, A0.2.1, A0.2.2) np B ex ti st hst (by (try simp only [List.length_cons]); omega) (100 + x) (100 + wx) (by rw [hwx]; exact nI_add 100 wx)) iw3_220 iw3_222 sel_Md_want iw1_7 iw3_223 (by decide +kernel) rfl ⟨Nat.le_of_ble_eq_true rfl, Nat.le_of_ble_eq_true rfl⟩ ⟨Nat.le_of_ble_eq_true rfl, Nat.le_of_ble_eq_true rfl⟩ rfl (Nat.le_of_ble_eq_true rfl) d_Md_wantRow_5 hE hP hD hS hA [0, 1, 2] [] rfl rfl rfl rfl (by decide) (ci := 6) rfl rfl 0 rfl (fun _ h => h.elim) (fun v_5 u_5 H locs hp_5 hP hD hS => ?_)
  obtain ⟨rfl, hst39⟩ := hp_5
  obtain ⟨ex39, ti39⟩ := u_5
  have hP : va_P D cls [(m0, .inr (6, mF g K A0 (nI (st.length + 1)) np B)), ((g 7), .inl (cA 3, 400, .inl ex39)), ((g 8), .inl (cA 1, 400, .inr (.inl ti39)))] H := hP
  have hD : va_D A [(m0, .inr (6, mF g K A0 (nI (st.length + 1)) np B)), ((g 7), .inl (cA 3, 400, .inl ex39)), ((g 8), .inl (cA 1, 400, .inr (.inl ti39)))] := hD
  refine W.cs (cells' := 0) (slots' := 0) rfl rfl ?_
  refine W.eq (g2 := F0 m 8 ls []) rfl ?_
  exact cRv ((ex39, ti39) : (Nat → Int32) × (Nat → Int64)) hx hb hr hlocks d_Md_wantRow_8 hS hP hD (⟨rfl, hst39⟩) (Nat.le_refl _) (Nat.le_refl _)
set_option maxHeartbeats 4000000 in
set_option maxRecDepth 100000 in
/-- thing(k) -/
theorem c_Md_thing (l : Launch) (hl9 : l.stackTraces = false) (D : va_G) (cA : Nat → ClassId) (ad : Nat → Nat) (sz : Nat) (m0 : Nat) (g : Nat → Nat) (K : MK) (a : Nat) (f p e np bl_ la_ co_ : Int32) (lo_ : Int64) (lA_ xx_ se_ : Int32) (sta_ dco_ : Int64) (kd fr to re : Nat → Int32) (T : TL) (hT : TH kd fr to re T) (hT9 : T.length < 2000) (k : Nat) :
    cM l y_Md_thing (.code y_Md_thing b_Md_thing 2 (some .int) :: wAll) ({ frames := 0, cells := 0, slots := 0, locals := 0 }) D cA ad [.ref m0, .int (nI k)] [(m0, .inr (6, mF g K (nI a, f, p) e np (bl_, la_, co_, lo_, lA_, nI T.length, xx_, se_, sta_, dco_))), ((g 18), .inl (cA 3, 2000, .inl kd)), ((g 19), .inl (cA 3, 2000, .inl fr)), ((g 20), .inl (cA 3, 2000, .inl to))] sz (fun v u => fI v ∧ TH u.1 u.2.1 u.2.2 re ((k, a, none) :: T)) (fun _ => False) (fun (u : (Nat → Int32) × (Nat → Int32) × (Nat → Int32)) => [(m0, .inr (6, mF g K (nI a, f, p) e np (bl_, la_, co_, lo_, lA_, nI (T.length + 1), xx_, se_, sta_, dco_))), ((g 18), .inl (cA 3, 2000, .inl u.1)), ((g 19), .inl (cA 3, 2000, .inl u.2.1)), ((g 20), .inl (cA 3, 2000, .inl u.2.2))]) (fun _ => (0, 0)) := by
  refine cM.ofW (cc := b_Md_thing) (maxL := 2) (ret := (some .int)) (by decide) (Nat.le_of_ble_eq_true rfl) ?_
  intro pg ev s m bw meth cdx A ls hF hsz hA hE hP hD hl
  obtain ⟨⟨hx, hb, hml, hown, hts⟩, hr, hno, hlocks, hin⟩ := hF
  subst hsz
  have hown : s.vm.findClass "ModuleBytesModel" = some m.cls := hown
  have hS : va_S A s.heap s.heap [] := va_S.rf
  have hl : lv_has ls 2 [(0, .ref m0), (1, .int (nI k))] := hl
  have hP : va_P D cls [(m0, .inr (6, mF g K (nI a, f, p) e np (bl_, la_, co_, lo_, lA_, nI T.length, xx_, se_, sta_, dco_))), ((g 18), .inl (cA 3, 2000, .inl kd)), ((g 19), .inl (cA 3, 2000, .inl fr)), ((g 20), .inl (cA 3, 2000, .inl to))] s.heap := hP
  have hD : va_D A [(m0, .inr (6, mF g K (nI a, f, p) e np (bl_, la_, co_, lo_, lA_, nI T.length, xx_, se_, sta_, dco_))), ((g 18), .inl (cA 3, 2000, .inl kd)), ((g 19), .inl (cA 3, 2000, .inl fr)), ((g 20), .inl (cA 3, 2000, .inl to))] := hD
  refine lv_aload_n hx hb d_Md_thing_0 rfl (lv_at hl 0 rfl) ?_
  refine va_get (D := D) (ci := 6) (v := .ref (g 18)) (C := R_Md) (T := F_Md) (N := 44) hx hb hts (fun w h => List.mem_cons_of_mem _ (i_Md w h)) hown hE.1 hP 0 rfl rfl 18 (by decide) (hts _ (List.mem_cons_of_mem _ iw3_72)) (fun _ h9 => h9) rfl d_Md_thing_1 ?_
  refine lv_aload_n hx hb d_Md_thing_4 rfl (lv_at hl 0 rfl) ?_
  refine va_get (D := D) (ci := 6) (v := .int (nI T.length)) (C := R_Md) (T := F_Md) (N := 44) hx hb hts (fun w h => List.mem_cons_of_mem _ (i_Md w h)) hown hE.1 hP 0 rfl rfl 17 (by decide) (hts _ (List.mem_cons_of_mem _ iw3_71)) (fun _ h9 => h9) rfl d_Md_thing_5 ?_
  refine lv_iload_n hx hb d_Md_thing_8 rfl (lv_at hl 1 rfl) ?_
  refine va_iast hx hb hE.1 hP hD hS 1 3 rfl rfl (vp_in_nI (by omega) (by omega)) d_Md_thing_9 (fun H locs hP hD hS => ?_)
  have hP : va_P D cls [(m0, .inr (6, mF g K (nI a, f, p) e np (bl_, la_, co_, lo_, lA_, nI T.length, xx_, se_, sta_, dco_))), ((g 18), .inl (cA 3, 2000, .inl (upd kd (nI T.length).toNatClampNeg (nI k)))), ((g 19), .inl (cA 3, 2000, .inl fr)), ((g 20), .inl (cA 3, 2000, .inl to))] H := hP
  have hD : va_D A [(m0, .inr (6, mF g K (nI a, f, p) e np (bl_, la_, co_, lo_, lA_, nI T.length, xx_, se_, sta_, dco_))), ((g 18), .inl (cA 3, 2000, .inl (upd kd (nI T.length).toNatClampNeg (nI k)))), ((g 19), .inl (cA 3, 2000, .inl fr)), ((g 20), .inl (cA 3, 2000, .inl to))] := hD
  refine lv_aload_n hx hb d_Md_thing_10 rfl (lv_at hl 0 rfl) ?_
  refine va_get (D := D) (ci := 6) (v := .ref (g 19)) (C := R_Md) (T := F_Md) (N := 44) hx hb hts (fun w h => List.mem_cons_of_mem _ (i_Md w h)) hown hE.1 hP 0 rfl rfl 19 (by decide) (hts _ (List.mem_cons_of_mem _ iw3_73)) (fun _ h9 => h9) rfl d_Md_thing_11 ?_
  refine lv_aload_n hx hb d_Md_thing_14 rfl (lv_at hl 0 rfl) ?_
  refine va_get (D := D) (ci := 6) (v := .int (nI T.length)) (C := R_Md) (T := F_Md) (N := 44) hx hb hts (fun w h => List.mem_cons_of_mem _ (i_Md w h)) hown hE.1 hP 0 rfl rfl 17 (by decide) (hts _ (List.mem_cons_of_mem _ iw3_71)) (fun _ h9 => h9) rfl d_Md_thing_15 ?_
  refine lv_aload_n hx hb d_Md_thing_18 rfl (lv_at hl 0 rfl) ?_
  refine va_get (D := D) (ci := 6) (v := .int (nI a)) (C := R_Md) (T := F_Md) (N := 44) hx hb hts (fun w h => List.mem_cons_of_mem _ (i_Md w h)) hown hE.1 hP 0 rfl rfl 2 (by decide) (hts _ (List.mem_cons_of_mem _ iw3_56)) (fun _ h9 => h9) rfl d_Md_thing_19 ?_
  refine va_iast hx hb hE.1 hP hD hS 2 3 rfl rfl (vp_in_nI (by omega) (by omega)) d_Md_thing_22 (fun H locs hP hD hS => ?_)
  have hP : va_P D cls [(m0, .inr (6, mF g K (nI a, f, p) e np (bl_, la_, co_, lo_, lA_, nI T.length, xx_, se_, sta_, dco_))), ((g 18), .inl (cA 3, 2000, .inl (upd kd (nI T.length).toNatClampNeg (nI k)))), ((g 19), .inl (cA 3, 2000, .inl (upd fr (nI T.length).toNatClampNeg (nI a)))), ((g 20), .inl (cA 3, 2000, .inl to))] H := hP
  have hD : va_D A [(m0, .inr (6, mF g K (nI a, f, p) e np (bl_, la_, co_, lo_, lA_, nI T.length, xx_, se_, sta_, dco_))), ((g 18), .inl (cA 3, 2000, .inl (upd kd (nI T.length).toNatClampNeg (nI k)))), ((g 19), .inl (cA 3, 2000, .inl (upd fr (nI T.length).toNatClampNeg (nI a)))), ((g 20), .inl (cA 3, 2000, .inl to))] := hD
  refine lv_aload_n hx hb d_Md_thing_23 rfl (lv_at hl 0 rfl) ?_
  refine va_get (D := D) (ci := 6) (v := .ref (g 20)) (C := R_Md) (T := F_Md) (N := 44) hx hb hts (fun w h => List.mem_cons_of_mem _ (i_Md w h)) hown hE.1 hP 0 rfl rfl 20 (by decide) (hts _ (List.mem_cons_of_mem _ iw3_74)) (fun _ h9 => h9) rfl d_Md_thing_24 ?_
  refine lv_aload_n hx hb d_Md_thing_27 rfl (lv_at hl 0 rfl) ?_
  refine va_get (D := D) (ci := 6) (v := .int (nI T.length)) (C := R_Md) (T := F_Md) (N := 44) hx hb hts (fun w h => List.mem_cons_of_mem _ (i_Md w h)) hown hE.1 hP 0 rfl rfl 17 (by decide) (hts _ (List.mem_cons_of_mem _ iw3_71)) (fun _ h9 => h9) rfl d_Md_thing_28 ?_
  refine lv_iconst (v := (-1)) hx hb d_Md_thing_31 (by decide) ?_
  refine va_iast hx hb hE.1 hP hD hS 3 3 rfl rfl (vp_in_nI (by omega) (by omega)) d_Md_thing_32 (fun H locs hP hD hS => ?_)
  have hP : va_P D cls [(m0, .inr (6, mF g K (nI a, f, p) e np (bl_, la_, co_, lo_, lA_, nI T.length, xx_, se_, sta_, dco_))), ((g 18), .inl (cA 3, 2000, .inl (upd kd (nI T.length).toNatClampNeg (nI k)))), ((g 19), .inl (cA 3, 2000, .inl (upd fr (nI T.length).toNatClampNeg (nI a)))), ((g 20), .inl (cA 3, 2000, .inl (upd to (nI T.length).toNatClampNeg (-1))))] H := hP
  have hD : va_D A [(m0, .inr (6, mF g K (nI a, f, p) e np (bl_, la_, co_, lo_, lA_, nI T.length, xx_, se_, sta_, dco_))), ((g 18), .inl (cA 3, 2000, .inl (upd kd (nI T.length).toNatClampNeg (nI k)))), ((g 19), .inl (cA 3, 2000, .inl (upd fr (nI T.length).toNatClampNeg (nI a)))), ((g 20), .inl (cA 3, 2000, .inl (upd to (nI T.length).toNatClampNeg (-1))))] := hD
  refine lv_aload_n hx hb d_Md_thing_33 rfl (lv_at hl 0 rfl) ?_
  refine lv_dup hx hb d_Md_thing_34 rfl ?_
  refine va_get (D := D) (ci := 6) (v := .int (nI T.length)) (C := R_Md) (T := F_Md) (N := 44) hx hb hts (fun w h => List.mem_cons_of_mem _ (i_Md w h)) hown hE.1 hP 0 rfl rfl 17 (by decide) (hts _ (List.mem_cons_of_mem _ iw3_71)) (fun _ h9 => h9) rfl d_Md_thing_35 ?_
  refine lv_iconst (v := 1) hx hb d_Md_thing_38 (by decide) ?_
  refine lv_iadd hx hb d_Md_thing_39 ?_
  rw [nI_1]
  refine va_put (D := D) (ci := 6) (v := .int (nI (T.length + 1))) (ty := .int) (C := R_Md) (T := F_Md) (N := 44) hx hb hts (fun w h => List.mem_cons_of_mem _ (i_Md w h)) t_Md tk_Md n_Md hown hE.1 hP hD hS 0 rfl rfl 17 (by decide) (hts _ (List.mem_cons_of_mem _ iw3_71)) (fun _ h9 => h9) rfl (by decide +kernel) rfl rfl (Nat.le_of_ble_eq_true rfl) d_Md_thing_40 (fun H locs hP hD hS => ?_)
  have hP : va_P D cls [(m0, .inr (6, mF g K (nI a, f, p) e np (bl_, la_, co_, lo_, lA_, nI (T.length + 1), xx_, se_, sta_, dco_))), ((g 18), .inl (cA 3, 2000, .inl (upd kd (nI T.length).toNatClampNeg (nI k)))), ((g 19), .inl (cA 3, 2000, .inl (upd fr (nI T.length).toNatClampNeg (nI a)))), ((g 20), .inl (cA 3, 2000, .inl (upd to (nI T.length).toNatClampNeg (-1))))] H := hP
  have hD : va_D A [(m0, .inr (6, mF g K (nI a, f, p) e np (bl_, la_, co_, lo_, lA_, nI (T.length + 1), xx_, se_, sta_, dco_))), ((g 18), .inl (cA 3, 2000, .inl (upd kd (nI T.length).toNatClampNeg (nI k)))), ((g 19), .inl (cA 3, 2000, .inl (upd fr (nI T.length).toNatClampNeg (nI a)))), ((g 20), .inl (cA 3, 2000, .inl (upd to (nI T.length).toNatClampNeg (-1))))] := hD
  refine lv_aload_n hx hb d_Md_thing_43 rfl (lv_at hl 0 rfl) ?_
  refine va_get (D := D) (ci := 6) (v := .int (nI (T.length + 1))) (C := R_Md) (T := F_Md) (N := 44) hx hb hts (fun w h => List.mem_cons_of_mem _ (i_Md w h)) hown hE.1 hP 0 rfl rfl 17 (by decide) (hts _ (List.mem_cons_of_mem _ iw3_71)) (fun _ h9 => h9) rfl d_Md_thing_44 ?_
  refine lv_iconst (v := 1) hx hb d_Md_thing_47 (by decide) ?_
  refine lv_isub hx hb d_Md_thing_48 ?_
  rw [nI_clamp (n := T.length) (by omega)] at hP hD
  exact cRi ((upd kd T.length (nI k), upd fr T.length (nI a), upd to T.length (-1)) : (Nat → Int32) × (Nat → Int32) × (Nat → Int32)) hx hb hr hlocks d_Md_thing_49 hS hP hD (⟨⟨_, rfl⟩, ⟨pk_us, pk_us, fun z hz => by cases hz⟩, hT.keep (fun j hj => ⟨pk_un (by omega), pk_un (by omega), pk_un (by omega), rfl⟩)⟩) (Nat.le_refl _) (Nat.le_refl _)
set_option maxHeartbeats 4000000 in
set_option maxRecDepth 100000 in
/-- openPart() -/
theorem c_Md_openPart (l : Launch) (hl9 : l.stackTraces = false) (D : va_G) (cA : Nat → ClassId) (ad : Nat → Nat) (sz : Nat) (m0 : Nat) (g : Nat → Nat) (K : MK) (e : Int32) (np : Nat) (B : MB) (fd pe : Nat → Int32) (b : Nat → Nat) (N lm : Nat) (hnp : 1 ≤ np ∧ np ≤ 4) (hpe : pe (np - 1) = nI lm) (hlm : lm ≤ N) (hN : N ≤ 2000) (hfd : ∀ i, i < N → fd i = nI (b i)) (hb9 : ∀ i, b i < 256) (a : Nat) (p : Int32) (ha : a ≤ lm) (hn3 : np ≤ 3) :
    cM l y_Md_openPart (.code y_Md_openPart b_Md_openPart 4 none :: wAll) ({ frames := 3, cells := 0, slots := 0, locals := 66 }) D cA ad [.ref m0] [(m0, .inr (6, mF g K (nI a, 0, p) e (nI np) B)), ((g 0), .inl (cA 3, 2000, .inl fd)), ((g 10), .inl (cA 3, 4, .inl pe))] sz (fun v u => v = none ∧ ((∃ f q : Nat, pEnter b lm a = .inl (f, q) ∧ FL f ∧ u.1.2 = (nI f, nI q)) ∨ ∃ l2 a' : Nat, pEnter b lm a = .inr (l2, a') ∧ u = ((nI a', 0, p), nI (np + 1), upd pe np (nI l2)))) (fun _ => False) (fun (u : A3 × Int32 × (Nat → Int32)) => [(m0, .inr (6, mF g K u.1 e u.2.1 B)), ((g 0), .inl (cA 3, 2000, .inl fd)), ((g 10), .inl (cA 3, 4, .inl u.2.2))]) (fun _ => (0, 0)) := by
  refine cM.ofW (cc := b_Md_openPart) (maxL := 4) (ret := none) (by decide) (Nat.le_of_ble_eq_true rfl) ?_
  intro pg ev s m bw meth cdx A ls hF hsz hA hE hP hD hl
  obtain ⟨⟨hx, hb, hml, hown, hts⟩, hr, hno, hlocks, hin⟩ := hF
  subst hsz
  have hown : s.vm.findClass "ModuleBytesModel" = some m.cls := hown
  have hS : va_S A s.heap s.heap [] := va_S.rf
  have hl : lv_has ls 4 [(0, .ref m0)] := hl
  have hP : va_P D cls [(m0, .inr (6, mF g K (nI a, 0, p) e (nI np) B)), ((g 0), .inl (cA 3, 2000, .inl fd)), ((g 10), .inl (cA 3, 4, .inl pe))] s.heap := hP
  have hD : va_D A [(m0, .inr (6, mF g K (nI a, 0, p) e (nI np) B)), ((g 0), .inl (cA 3, 2000, .inl fd)), ((g 10), .inl (cA 3, 4, .inl pe))] := hD
  refine lv_aload_n hx hb d_Md_openPart_0 rfl (lv_at hl 0 rfl) ?_
  refine va_get (D := D) (ci := 6) (v := .int (nI a)) (C := R_Md) (T := F_Md) (N := 44) hx hb hts (fun w h => List.mem_cons_of_mem _ (i_Md w h)) hown hE.1 hP 0 rfl rfl 2 (by decide) (hts _ (List.mem_cons_of_mem _ iw3_56)) (fun _ h9 => h9) rfl d_Md_openPart_1 ?_
  refine lv_istore_n (lv' := [(1, .int (nI a)), (0, .ref m0)]) hx hb d_Md_openPart_4 rfl hl (by decide) rfl (fun ls hl => ?_)
  refine lv_aload_n hx hb d_Md_openPart_5 rfl (lv_at hl 1 rfl) ?_
  refine cV (As := []) (rest := []) (n := 0) (wc := [(m0, .inr (6, mF g K (nI a, 0, p) e (nI np) B)), ((g 0), .inl (cA 3, 2000, .inl fd)), ((g 10), .inl (cA 3, 4, .inl pe))]) (wr := []) ⟨hx, hb, hml, hown, hts⟩ hno hlocks hl.1 (c_Md_takeU32 l hl9 D cA ad s.heap.size m0 g K e np B fd pe b N lm hnp hpe hlm hN hfd hb9 a p (by omega) ) iw3_228 iw3_230 sel_Md_takeU32 iw1_7 iw3_231 (by decide +kernel) rfl ⟨Nat.le_of_ble_eq_true rfl, Nat.le_of_ble_eq_true rfl⟩ ⟨Nat.le_of_ble_eq_true rfl, Nat.le_of_ble_eq_true rfl⟩ rfl (Nat.le_of_ble_eq_true rfl) d_Md_openPart_6 hE hP hD hS hA [0, 1, 2] [] rfl rfl rfl rfl (by decide) (ci := 6) rfl rfl 0 rfl (fun _ h => h.elim) (fun v_6 u_6 H locs hp_6 hP hD hS => ?_)
  rcases hp_6 with ⟨f40, q40, hr40, hf40, hB40, ⟨w40, rfl⟩, zz40, hzz40, hzx40⟩ | ⟨v40, a40, hr40, rfl, rfl⟩
  · obtain ⟨x40, y40, z40⟩ := u_6
    cases hB40
    have hzx40 : x40 = nI zz40 := hzx40
    subst hzx40
    have hP : va_P D cls [(m0, .inr (6, mF g K (nI zz40, nI f40, nI q40) e (nI np) B)), ((g 0), .inl (cA 3, 2000, .inl fd)), ((g 10), .inl (cA 3, 4, .inl pe))] H := hP
    have hD : va_D A [(m0, .inr (6, mF g K (nI zz40, nI f40, nI q40) e (nI np) B)), ((g 0), .inl (cA 3, 2000, .inl fd)), ((g 10), .inl (cA 3, 4, .inl pe))] := hD
    refine W.cs (cells' := 0) (slots' := 0) rfl rfl ?_
    refine W.eq (g2 := F0 m 9 ls [.long w40]) rfl ?_
    refine lv_lstore_n (lv' := [(2, .long w40), (1, .int (nI a)), (0, .ref m0)]) hx hb d_Md_openPart_9 rfl hl (by decide) rfl (fun ls hl => ?_)
    refine lv_aload_n hx hb d_Md_openPart_10 rfl (lv_at hl 2 rfl) ?_
    refine va_get (D := D) (ci := 6) (v := .int (nI f40)) (C := R_Md) (T := F_Md) (N := 44) hx hb hts (fun w h => List.mem_cons_of_mem _ (i_Md w h)) hown hE.1 hP 0 rfl rfl 3 (by decide) (hts _ (List.mem_cons_of_mem _ iw3_57)) (fun _ h9 => h9) rfl d_Md_openPart_11 ?_
    refine lv_if_ne (tgt := 45) hx hb d_Md_openPart_14 (by decide) (fun c_14 => ?_) (fun c_14 => absurd c_14 (hf40.n0))
    refine lv_aload_n hx hb d_Md_openPart_45 rfl (lv_at hl 2 rfl) ?_
    refine va_get (D := D) (ci := 6) (v := .int (nI f40)) (C := R_Md) (T := F_Md) (N := 44) hx hb hts (fun w h => List.mem_cons_of_mem _ (i_Md w h)) hown hE.1 hP 0 rfl rfl 3 (by decide) (hts _ (List.mem_cons_of_mem _ iw3_57)) (fun _ h9 => h9) rfl d_Md_openPart_46 ?_
    refine lv_if_le (tgt := 53) hx hb d_Md_openPart_49 (by decide) (fun c_49 => absurd c_49 (hf40.nle)) (fun c_49 => ?_)
    exact cRv ((nI zz40, nI f40, nI q40), nI np, pe) hx hb hr hlocks d_Md_openPart_52 hS hP hD (⟨rfl, Or.inl ⟨f40, q40, pEnter_T hr40, hf40, rfl⟩⟩) (Nat.le_refl _) (Nat.le_refl _)
  · obtain ⟨hla40, hgt40, hv40⟩ := (pU32_ok (show a ≤ lm by omega) hr40)
    have hP : va_P D cls [(m0, .inr (6, mF g K (nI a40, 0, p) e (nI np) B)), ((g 0), .inl (cA 3, 2000, .inl fd)), ((g 10), .inl (cA 3, 4, .inl pe))] H := hP
    have hD : va_D A [(m0, .inr (6, mF g K (nI a40, 0, p) e (nI np) B)), ((g 0), .inl (cA 3, 2000, .inl fd)), ((g 10), .inl (cA 3, 4, .inl pe))] := hD
    refine W.cs (cells' := 0) (slots' := 0) rfl rfl ?_
    refine W.eq (g2 := F0 m 9 ls [.long (lN v40)]) rfl ?_
    refine lv_lstore_n (lv' := [(2, .long (lN v40)), (1, .int (nI a)), (0, .ref m0)]) hx hb d_Md_openPart_9 rfl hl (by decide) rfl (fun ls hl => ?_)
    refine lv_aload_n hx hb d_Md_openPart_10 rfl (lv_at hl 2 rfl) ?_
    refine va_get (D := D) (ci := 6) (v := .int 0) (C := R_Md) (T := F_Md) (N := 44) hx hb hts (fun w h => List.mem_cons_of_mem _ (i_Md w h)) hown hE.1 hP 0 rfl rfl 3 (by decide) (hts _ (List.mem_cons_of_mem _ iw3_57)) (fun _ h9 => h9) rfl d_Md_openPart_11 ?_
    refine lv_if_ne (tgt := 45) hx hb d_Md_openPart_14 (by decide) (fun c_14 => absurd (by decide) c_14) (fun c_14 => ?_)
    refine lv_lload_n hx hb d_Md_openPart_17 rfl (lv_at hl 0 rfl) ?_
    refine lv_aload_n hx hb d_Md_openPart_18 rfl (lv_at hl 2 rfl) ?_
    refine va_get (D := D) (ci := 6) (v := .ref (g 10)) (C := R_Md) (T := F_Md) (N := 44) hx hb hts (fun w h => List.mem_cons_of_mem _ (i_Md w h)) hown hE.1 hP 0 rfl rfl 10 (by decide) (hts _ (List.mem_cons_of_mem _ iw3_64)) (fun _ h9 => h9) rfl d_Md_openPart_19 ?_
    refine lv_aload_n hx hb d_Md_openPart_22 rfl (lv_at hl 2 rfl) ?_
    refine va_get (D := D) (ci := 6) (v := .int (nI np)) (C := R_Md) (T := F_Md) (N := 44) hx hb hts (fun w h => List.mem_cons_of_mem _ (i_Md w h)) hown hE.1 hP 0 rfl rfl 9 (by decide) (hts _ (List.mem_cons_of_mem _ iw3_63)) (fun _ h9 => h9) rfl d_Md_openPart_23 ?_
    refine lv_iconst (v := 1) hx hb d_Md_openPart_26 (by decide) ?_
    refine lv_isub hx hb d_Md_openPart_27 ?_
    rw [np1 hnp]
    refine va_iald hx hb hE.1 hP 2 3 rfl rfl (vp_in_nI (by omega) (by omega)) d_Md_openPart_28 ?_
    rw [nI_clamp (n := np - 1) (by omega), hpe]
    refine lv_aload_n hx hb d_Md_openPart_29 rfl (lv_at hl 2 rfl) ?_
    refine va_get (D := D) (ci := 6) (v := .int (nI a40)) (C := R_Md) (T := F_Md) (N := 44) hx hb hts (fun w h => List.mem_cons_of_mem _ (i_Md w h)) hown hE.1 hP 0 rfl rfl 2 (by decide) (hts _ (List.mem_cons_of_mem _ iw3_56)) (fun _ h9 => h9) rfl d_Md_openPart_30 ?_
    refine lv_isub hx hb d_Md_openPart_33 ?_
    refine lv_i2l hx hb d_Md_openPart_34 rfl ?_
    rw [pk_sub hla40, nI_l (n := lm - a40) (by omega)]
    refine W.lcmp hx hb d_Md_openPart_35 ?_
    refine lv_if_le (tgt := 45) hx hb d_Md_openPart_36 (by decide) (fun c_36 => ?_) (fun c_36 => ?_)
    · have hok : ¬ lm - a40 < v40 := Nat.not_lt.mpr ((pk_lLE (by omega) (by omega)).mp ((lg_cmp_le _ _).mp c_36))
      refine lv_aload_n hx hb d_Md_openPart_45 rfl (lv_at hl 2 rfl) ?_
      refine va_get (D := D) (ci := 6) (v := .int 0) (C := R_Md) (T := F_Md) (N := 44) hx hb hts (fun w h => List.mem_cons_of_mem _ (i_Md w h)) hown hE.1 hP 0 rfl rfl 3 (by decide) (hts _ (List.mem_cons_of_mem _ iw3_57)) (fun _ h9 => h9) rfl d_Md_openPart_46 ?_
      refine lv_if_le (tgt := 53) hx hb d_Md_openPart_49 (by decide) (fun c_49 => ?_) (fun c_49 => absurd (by decide) c_49)
      refine lv_aload_n hx hb d_Md_openPart_53 rfl (lv_at hl 2 rfl) ?_
      refine va_get (D := D) (ci := 6) (v := .ref (g 10)) (C := R_Md) (T := F_Md) (N := 44) hx hb hts (fun w h => List.mem_cons_of_mem _ (i_Md w h)) hown hE.1 hP 0 rfl rfl 10 (by decide) (hts _ (List.mem_cons_of_mem _ iw3_64)) (fun _ h9 => h9) rfl d_Md_openPart_54 ?_
      refine lv_aload_n hx hb d_Md_openPart_57 rfl (lv_at hl 2 rfl) ?_
      refine va_get (D := D) (ci := 6) (v := .int (nI np)) (C := R_Md) (T := F_Md) (N := 44) hx hb hts (fun w h => List.mem_cons_of_mem _ (i_Md w h)) hown hE.1 hP 0 rfl rfl 9 (by decide) (hts _ (List.mem_cons_of_mem _ iw3_63)) (fun _ h9 => h9) rfl d_Md_openPart_58 ?_
      refine lv_aload_n hx hb d_Md_openPart_61 rfl (lv_at hl 2 rfl) ?_
      refine va_get (D := D) (ci := 6) (v := .int (nI a40)) (C := R_Md) (T := F_Md) (N := 44) hx hb hts (fun w h => List.mem_cons_of_mem _ (i_Md w h)) hown hE.1 hP 0 rfl rfl 2 (by decide) (hts _ (List.mem_cons_of_mem _ iw3_56)) (fun _ h9 => h9) rfl d_Md_openPart_62 ?_
      refine lv_lload_n hx hb d_Md_openPart_65 rfl (lv_at hl 0 rfl) ?_
      refine lv_l2i hx hb d_Md_openPart_66 rfl ?_
      refine lv_iadd hx hb d_Md_openPart_67 ?_
      rw [lN_i, nI_add]
      refine va_iast hx hb hE.1 hP hD hS 2 3 rfl rfl (vp_in_nI (by omega) (by omega)) d_Md_openPart_68 (fun H locs hP hD hS => ?_)
      have hP : va_P D cls [(m0, .inr (6, mF g K (nI a40, 0, p) e (nI np) B)), ((g 0), .inl (cA 3, 2000, .inl fd)), ((g 10), .inl (cA 3, 4, .inl (upd pe (nI np).toNatClampNeg (nI (a40 + v40)))))] H := hP
      have hD : va_D A [(m0, .inr (6, mF g K (nI a40, 0, p) e (nI np) B)), ((g 0), .inl (cA 3, 2000, .inl fd)), ((g 10), .inl (cA 3, 4, .inl (upd pe (nI np).toNatClampNeg (nI (a40 + v40)))))] := hD
      refine lv_aload_n hx hb d_Md_openPart_69 rfl (lv_at hl 2 rfl) ?_
      refine lv_dup hx hb d_Md_openPart_70 rfl ?_
      refine va_get (D := D) (ci := 6) (v := .int (nI np)) (C := R_Md) (T := F_Md) (N := 44) hx hb hts (fun w h => List.mem_cons_of_mem _ (i_Md w h)) hown hE.1 hP 0 rfl rfl 9 (by decide) (hts _ (List.mem_cons_of_mem _ iw3_63)) (fun _ h9 => h9) rfl d_Md_openPart_71 ?_
      refine lv_iconst (v := 1) hx hb d_Md_openPart_74 (by decide) ?_
      refine lv_iadd hx hb d_Md_openPart_75 ?_
      rw [nI_1]
      refine va_put (D := D) (ci := 6) (v := .int (nI (np + 1))) (ty := .int) (C := R_Md) (T := F_Md) (N := 44) hx hb hts (fun w h => List.mem_cons_of_mem _ (i_Md w h)) t_Md tk_Md n_Md hown hE.1 hP hD hS 0 rfl rfl 9 (by decide) (hts _ (List.mem_cons_of_mem _ iw3_63)) (fun _ h9 => h9) rfl (by decide +kernel) rfl rfl (Nat.le_of_ble_eq_true rfl) d_Md_openPart_76 (fun H locs hP hD hS => ?_)
      have hP : va_P D cls [(m0, .inr (6, mF g K (nI a40, 0, p) e (nI (np + 1)) B)), ((g 0), .inl (cA 3, 2000, .inl fd)), ((g 10), .inl (cA 3, 4, .inl (upd pe (nI np).toNatClampNeg (nI (a40 + v40)))))] H := hP
      have hD : va_D A [(m0, .inr (6, mF g K (nI a40, 0, p) e (nI (np + 1)) B)), ((g 0), .inl (cA 3, 2000, .inl fd)), ((g 10), .inl (cA 3, 4, .inl (upd pe (nI np).toNatClampNeg (nI (a40 + v40)))))] := hD
      rw [nI_clamp (n := np) (by omega)] at hP hD
      exact cRv ((nI a40, 0, p), nI (np + 1), upd pe np (nI (a40 + v40))) hx hb hr hlocks d_Md_openPart_79 hS hP hD (⟨rfl, Or.inr ⟨a40 + v40, a40, pEnter_E hr40 hok, rfl⟩⟩) (Nat.le_refl _) (Nat.le_refl _)
    · have hbad : lm - a40 < v40 := (pk_lLT (by omega) (by omega)).mp (Int64.not_le.mp (fun q => c_36 ((lg_cmp_le _ _).mpr q)))
      refine lv_aload_n hx hb d_Md_openPart_39 rfl (lv_at hl 2 rfl) ?_
      refine lv_iconst (v := 2) hx hb d_Md_openPart_40 (by decide) ?_
      refine lv_iload_n hx hb d_Md_openPart_41 rfl (lv_at hl 1 rfl) ?_
      refine cV (As := [.int 2, .int (nI a)]) (rest := []) (n := 2) (wc := [(m0, .inr (6, mF g K (nI a40, 0, p) e (nI np) B))]) (wr := [((g 0), .inl (cA 3, 2000, .inl fd)), ((g 10), .inl (cA 3, 4, .inl pe))]) ⟨hx, hb, hml, hown, hts⟩ hno hlocks hl.1 (c_Md_stop l hl9 D cA ad H.size m0 g K e (nI np) B (nI a40) p (2 : Int32) (nI a)) iw3_216 iw3_218 sel_Md_stop iw1_7 iw3_219 (by decide +kernel) rfl ⟨Nat.le_of_ble_eq_true rfl, Nat.le_of_ble_eq_true rfl⟩ ⟨Nat.le_of_ble_eq_true rfl, Nat.le_of_ble_eq_true rfl⟩ rfl (Nat.le_of_ble_eq_true rfl) d_Md_openPart_42 hE hP hD hS hA [0] [1, 2] rfl rfl rfl rfl (by decide) (ci := 6) rfl rfl 0 rfl (fun _ h => h.elim) (fun v_42 u_42 H locs hp_42 hP hD hS => ?_)
      obtain rfl := hp_42
      have hP : va_P D cls [(m0, .inr (6, mF g K (nI a40, 2, nI a) e (nI np) B)), ((g 0), .inl (cA 3, 2000, .inl fd)), ((g 10), .inl (cA 3, 4, .inl pe))] H := hP.sub [2, 0, 1] rfl
      have hD : va_D A [(m0, .inr (6, mF g K (nI a40, 2, nI a) e (nI np) B)), ((g 0), .inl (cA 3, 2000, .inl fd)), ((g 10), .inl (cA 3, 4, .inl pe))] := hD.sub [2, 0, 1] (by decide) rfl
      refine W.cs (cells' := 0) (slots' := 0) rfl rfl ?_
      refine W.eq (g2 := F0 m 45 ls []) rfl ?_
      refine lv_aload_n hx hb d_Md_openPart_45 rfl (lv_at hl 2 rfl) ?_
      refine va_get (D := D) (ci := 6) (v := .int 2) (C := R_Md) (T := F_Md) (N := 44) hx hb hts (fun w h => List.mem_cons_of_mem _ (i_Md w h)) hown hE.1 hP 0 rfl rfl 3 (by decide) (hts _ (List.mem_cons_of_mem _ iw3_57)) (fun _ h9 => h9) rfl d_Md_openPart_46 ?_
      refine lv_if_le (tgt := 53) hx hb d_Md_openPart_49 (by decide) (fun c_49 => absurd c_49 (by decide)) (fun c_49 => ?_)
      exact cRv ((nI a40, 2, nI a), nI np, pe) hx hb hr hlocks d_Md_openPart_52 hS hP hD (⟨rfl, Or.inl ⟨2, a, pEnter_F hr40 hbad, ⟨by decide, by decide⟩, rfl⟩⟩) (Nat.le_refl _) (Nat.le_refl _)
set_option maxHeartbeats 4000000 in
set_option maxRecDepth 100000 in
/-- closePart() -/
theorem c_Md_closePart (l : Launch) (hl9 : l.stackTraces = false) (D : va_G) (cA : Nat → ClassId) (ad : Nat → Nat) (sz : Nat) (m0 : Nat) (g : Nat → Nat) (K : MK) (e : Int32) (np : Nat) (B : MB) (fd pe : Nat → Int32) (b : Nat → Nat) (N lm : Nat) (hnp : 1 ≤ np ∧ np ≤ 4) (hpe : pe (np - 1) = nI lm) (hlm : lm ≤ N) (hN : N ≤ 2000) (hfd : ∀ i, i < N → fd i = nI (b i)) (hb9 : ∀ i, b i < 256) (a : Nat) (p : Int32) (ha : a ≤ lm)  :
    cM l y_Md_closePart (.code y_Md_closePart b_Md_closePart 1 none :: wAll) ({ frames := 1, cells := 0, slots := 0, locals := 22 }) D cA ad [.ref m0] [(m0, .inr (6, mF g K (nI a, 0, p) e (nI np) B)), ((g 0), .inl (cA 3, 2000, .inl fd)), ((g 10), .inl (cA 3, 4, .inl pe))] sz (oP (pLeave lm a) p fN vN) (fun _ => False) (fun (u : A3) => [(m0, .inr (6, mF g K u e (nI (np - 1)) B)), ((g 0), .inl (cA 3, 2000, .inl fd)), ((g 10), .inl (cA 3, 4, .inl pe))]) (fun _ => (0, 0)) := by
  refine cM.ofW (cc := b_Md_closePart) (maxL := 1) (ret := none) (by decide) (Nat.le_of_ble_eq_true rfl) ?_
  intro pg ev s m bw meth cdx A ls hF hsz hA hE hP hD hl
  obtain ⟨⟨hx, hb, hml, hown, hts⟩, hr, hno, hlocks, hin⟩ := hF
  subst hsz
  have hown : s.vm.findClass "ModuleBytesModel" = some m.cls := hown
  have hS : va_S A s.heap s.heap [] := va_S.rf
  have hl : lv_has ls 1 [(0, .ref m0)] := hl
  have hP : va_P D cls [(m0, .inr (6, mF g K (nI a, 0, p) e (nI np) B)), ((g 0), .inl (cA 3, 2000, .inl fd)), ((g 10), .inl (cA 3, 4, .inl pe))] s.heap := hP
  have hD : va_D A [(m0, .inr (6, mF g K (nI a, 0, p) e (nI np) B)), ((g 0), .inl (cA 3, 2000, .inl fd)), ((g 10), .inl (cA 3, 4, .inl pe))] := hD
  refine lv_aload_n hx hb d_Md_closePart_0 rfl (lv_at hl 0 rfl) ?_
  refine va_get (D := D) (ci := 6) (v := .int (nI a)) (C := R_Md) (T := F_Md) (N := 44) hx hb hts (fun w h => List.mem_cons_of_mem _ (i_Md w h)) hown hE.1 hP 0 rfl rfl 2 (by decide) (hts _ (List.mem_cons_of_mem _ iw3_56)) (fun _ h9 => h9) rfl d_Md_closePart_1 ?_
  refine lv_aload_n hx hb d_Md_closePart_4 rfl (lv_at hl 0 rfl) ?_
  refine va_get (D := D) (ci := 6) (v := .ref (g 10)) (C := R_Md) (T := F_Md) (N := 44) hx hb hts (fun w h => List.mem_cons_of_mem _ (i_Md w h)) hown hE.1 hP 0 rfl rfl 10 (by decide) (hts _ (List.mem_cons_of_mem _ iw3_64)) (fun _ h9 => h9) rfl d_Md_closePart_5 ?_
  refine lv_aload_n hx hb d_Md_closePart_8 rfl (lv_at hl 0 rfl) ?_
  refine va_get (D := D) (ci := 6) (v := .int (nI np)) (C := R_Md) (T := F_Md) (N := 44) hx hb hts (fun w h => List.mem_cons_of_mem _ (i_Md w h)) hown hE.1 hP 0 rfl rfl 9 (by decide) (hts _ (List.mem_cons_of_mem _ iw3_63)) (fun _ h9 => h9) rfl d_Md_closePart_9 ?_
  refine lv_iconst (v := 1) hx hb d_Md_closePart_12 (by decide) ?_
  refine lv_isub hx hb d_Md_closePart_13 ?_
  rw [np1 hnp]
  refine va_iald hx hb hE.1 hP 2 3 rfl rfl (vp_in_nI (by omega) (by omega)) d_Md_closePart_14 ?_
  rw [nI_clamp (n := np - 1) (by omega), hpe]
  refine lv_icmp_ge (tgt := 27) hx hb d_Md_closePart_15 (by decide) (fun c_15 => ?_) (fun c_15 => ?_)
  · refine lv_aload_n hx hb d_Md_closePart_27 rfl (lv_at hl 0 rfl) ?_
    refine lv_dup hx hb d_Md_closePart_28 rfl ?_
    refine va_get (D := D) (ci := 6) (v := .int (nI np)) (C := R_Md) (T := F_Md) (N := 44) hx hb hts (fun w h => List.mem_cons_of_mem _ (i_Md w h)) hown hE.1 hP 0 rfl rfl 9 (by decide) (hts _ (List.mem_cons_of_mem _ iw3_63)) (fun _ h9 => h9) rfl d_Md_closePart_29 ?_
    refine lv_iconst (v := 1) hx hb d_Md_closePart_32 (by decide) ?_
    refine lv_isub hx hb d_Md_closePart_33 ?_
    rw [np1 hnp]
    refine va_put (D := D) (ci := 6) (v := .int (nI (np - 1))) (ty := .int) (C := R_Md) (T := F_Md) (N := 44) hx hb hts (fun w h => List.mem_cons_of_mem _ (i_Md w h)) t_Md tk_Md n_Md hown hE.1 hP hD hS 0 rfl rfl 9 (by decide) (hts _ (List.mem_cons_of_mem _ iw3_63)) (fun _ h9 => h9) rfl (by decide +kernel) rfl rfl (Nat.le_of_ble_eq_true rfl) d_Md_closePart_34 (fun H locs hP hD hS => ?_)
    have hP : va_P D cls [(m0, .inr (6, mF g K (nI a, 0, p) e (nI (np - 1)) B)), ((g 0), .inl (cA 3, 2000, .inl fd)), ((g 10), .inl (cA 3, 4, .inl pe))] H := hP
    have hD : va_D A [(m0, .inr (6, mF g K (nI a, 0, p) e (nI (np - 1)) B)), ((g 0), .inl (cA 3, 2000, .inl fd)), ((g 10), .inl (cA 3, 4, .inl pe))] := hD
    have hok : ¬ a < lm := Nat.not_lt.mpr ((nI_leI (by omega) (by omega)).mp c_15)
    exact cRv ((nI a, 0, p) : A3) hx hb hr hlocks d_Md_closePart_37 hS hP hD (Or.inr ⟨(), a, by rw [pLeave, if_neg hok], rfl, rfl⟩) (Nat.le_refl _) (Nat.le_refl _)
  · have hbad : a < lm := Nat.lt_of_not_le (fun q => c_15 (nI_le q (by omega)))
    refine lv_aload_n hx hb d_Md_closePart_18 rfl (lv_at hl 0 rfl) ?_
    refine lv_iconst (v := 3) hx hb d_Md_closePart_19 (by decide) ?_
    refine lv_aload_n hx hb d_Md_closePart_20 rfl (lv_at hl 0 rfl) ?_
    refine va_get (D := D) (ci := 6) (v := .int (nI a)) (C := R_Md) (T := F_Md) (N := 44) hx hb hts (fun w h => List.mem_cons_of_mem _ (i_Md w h)) hown hE.1 hP 0 rfl rfl 2 (by decide) (hts _ (List.mem_cons_of_mem _ iw3_56)) (fun _ h9 => h9) rfl d_Md_closePart_21 ?_
    refine cV (As := [.int 3, .int (nI a)]) (rest := []) (n := 2) (wc := [(m0, .inr (6, mF g K (nI a, 0, p) e (nI np) B))]) (wr := [((g 0), .inl (cA 3, 2000, .inl fd)), ((g 10), .inl (cA 3, 4, .inl pe))]) ⟨hx, hb, hml, hown, hts⟩ hno hlocks hl.1 (c_Md_stop l hl9 D cA ad s.heap.size m0 g K e (nI np) B (nI a) p (3 : Int32) (nI a)) iw3_216 iw3_218 sel_Md_stop iw1_7 iw3_219 (by decide +kernel) rfl ⟨Nat.le_of_ble_eq_true rfl, Nat.le_of_ble_eq_true rfl⟩ ⟨Nat.le_of_ble_eq_true rfl, Nat.le_of_ble_eq_true rfl⟩ rfl (Nat.le_of_ble_eq_true rfl) d_Md_closePart_24 hE hP hD hS hA [0] [1, 2] rfl rfl rfl rfl (by decide) (ci := 6) rfl rfl 0 rfl (fun _ h => h.elim) (fun v_24 u_24 H locs hp_24 hP hD hS => ?_)
    obtain rfl := hp_24
    have hP : va_P D cls [(m0, .inr (6, mF g K (nI a, 3, nI a) e (nI np) B)), ((g 0), .inl (cA 3, 2000, .inl fd)), ((g 10), .inl (cA 3, 4, .inl pe))] H := hP.sub [2, 0, 1] rfl
    have hD : va_D A [(m0, .inr (6, mF g K (nI a, 3, nI a) e (nI np) B)), ((g 0), .inl (cA 3, 2000, .inl fd)), ((g 10), .inl (cA 3, 4, .inl pe))] := hD.sub [2, 0, 1] (by decide) rfl
    refine W.cs (cells' := 0) (slots' := 0) rfl rfl ?_
    refine W.eq (g2 := F0 m 27 ls []) rfl ?_
    refine lv_aload_n hx hb d_Md_closePart_27 rfl (lv_at hl 0 rfl) ?_
    refine lv_dup hx hb d_Md_closePart_28 rfl ?_
    refine va_get (D := D) (ci := 6) (v := .int (nI np)) (C := R_Md) (T := F_Md) (N := 44) hx hb hts (fun w h => List.mem_cons_of_mem _ (i_Md w h)) hown hE.1 hP 0 rfl rfl 9 (by decide) (hts _ (List.mem_cons_of_mem _ iw3_63)) (fun _ h9 => h9) rfl d_Md_closePart_29 ?_
    refine lv_iconst (v := 1) hx hb d_Md_closePart_32 (by decide) ?_
    refine lv_isub hx hb d_Md_closePart_33 ?_
    rw [np1 hnp]
    refine va_put (D := D) (ci := 6) (v := .int (nI (np - 1))) (ty := .int) (C := R_Md) (T := F_Md) (N := 44) hx hb hts (fun w h => List.mem_cons_of_mem _ (i_Md w h)) t_Md tk_Md n_Md hown hE.1 hP hD hS 0 rfl rfl 9 (by decide) (hts _ (List.mem_cons_of_mem _ iw3_63)) (fun _ h9 => h9) rfl (by decide +kernel) rfl rfl (Nat.le_of_ble_eq_true rfl) d_Md_closePart_34 (fun H locs hP hD hS => ?_)
    have hP : va_P D cls [(m0, .inr (6, mF g K (nI a, 3, nI a) e (nI (np - 1)) B)), ((g 0), .inl (cA 3, 2000, .inl fd)), ((g 10), .inl (cA 3, 4, .inl pe))] H := hP
    have hD : va_D A [(m0, .inr (6, mF g K (nI a, 3, nI a) e (nI (np - 1)) B)), ((g 0), .inl (cA 3, 2000, .inl fd)), ((g 10), .inl (cA 3, 4, .inl pe))] := hD
    exact cRv ((nI a, 3, nI a) : A3) hx hb hr hlocks d_Md_closePart_37 hS hP hD (Or.inl ⟨3, a, by rw [pLeave, if_pos hbad], ⟨by decide, by decide⟩, rfl, rfl, a, by omega, rfl⟩) (Nat.le_refl _) (Nat.le_refl _)
def ordF (x : Nat) : Nat := if x < 1 ∨ 12 < x then 0 else rkOf x
def aloF (x : Nat) : Bool := decide (x < 2 ∨ x = 15 ∨ x = 26 ∨ x = 27 ∨ (69 ≤ x ∧ x ≤ 196) ∨ x = 209)
def oneF (x : Nat) : Bool := decide (x = 12 ∨ x = 13 ∨ x = 16 ∨ (32 ≤ x ∧ x ≤ 38) ∨ x = 210)
set_option maxHeartbeats 4000000 in
set_option maxRecDepth 100000 in
theorem c_Md_order (l : Launch) (hl9 : l.stackTraces = false) (D : va_G) (cA : Nat → ClassId) (ad : Nat → Nat) (sz : Nat) (x : Nat) (hx9 : x < 256) :
    cM l y_Md_order (.code y_Md_order b_Md_order 1 (some .int) :: wAll) ({ frames := 0, cells := 0, slots := 0, locals := 0 }) D cA ad [.int (nI x)] [] sz (fun v (_ : Unit) => v = some (.int (nI (ordF x)))) (fun _ => False) (fun _ => []) (fun _ => (0, 0)) := by
  refine cM.ofW (cc := b_Md_order) (maxL := 1) (ret := (some .int)) (by decide) (Nat.le_of_ble_eq_true rfl) ?_
  intro pg ev s m bw meth cdx A ls hF hsz hA hE hP hD hl
  obtain ⟨⟨hx, hb, hml, hown, hts⟩, hr, hno, hlocks, hin⟩ := hF
  subst hsz
  have hown : s.vm.findClass "ModuleBytesModel" = some m.cls := hown
  have hS : va_S A s.heap s.heap [] := va_S.rf
  have hl : lv_has ls 1 [(0, .int (nI x))] := hl
  refine lv_iload_n hx hb d_Md_order_0 rfl (lv_at hl 0 rfl) ?_
  refine lv_iconst (v := 1) hx hb d_Md_order_1 (by decide) ?_
  refine lv_icmp_lt (tgt := 11) hx hb d_Md_order_2 (by decide) (fun c_2 => ?_) (fun c_2 => ?_)
  · refine lv_iconst (v := 0) hx hb d_Md_order_11 (by decide) ?_
    refine lv_goto (tgt := 39) hx hb d_Md_order_12 (by decide) ?_
    try (have e_2 := (nI_ltI (a := x) (b := 1) (by omega) (by omega)); rw [show nI 1 = (1 : Int32) from rfl] at e_2; simp only [e_2] at c_2)
    try (have e_8 := (nI_leI (a := x) (b := 12) (by omega) (by omega)); rw [show nI 12 = (12 : Int32) from rfl] at e_8; simp only [e_8] at c_8)
    try (have e_18 := (nI_eq (a := x) (b := 12) (by omega) (by omega)); rw [show nI 12 = (12 : Int32) from rfl] at e_18; simp only [e_18] at c_18)
    try (have e_29 := (nI_leI (a := 10) (b := x) (by omega) (by omega)); rw [show nI 10 = (10 : Int32) from rfl] at e_29; simp only [e_29] at c_29)
    have ho : ordF x = 0 := by
      unfold ordF rkOf
      repeat (first | rw [if_pos (by omega)] | rw [if_neg (by omega)])
    exact cRi () hx hb hr hlocks d_Md_order_39 hS hP hD (congrArg (fun z : Nat => some (Value.int (nI z))) ho.symm) (Nat.le_refl _) (Nat.le_refl _)
  · refine lv_iload_n hx hb d_Md_order_5 rfl (lv_at hl 0 rfl) ?_
    refine lv_bipush (v := 12) hx hb d_Md_order_6 (by decide) ?_
    refine lv_icmp_le (tgt := 15) hx hb d_Md_order_8 (by decide) (fun c_8 => ?_) (fun c_8 => ?_)
    · refine lv_iload_n hx hb d_Md_order_15 rfl (lv_at hl 0 rfl) ?_
      refine lv_bipush (v := 12) hx hb d_Md_order_16 (by decide) ?_
      refine lv_icmp_ne (tgt := 26) hx hb d_Md_order_18 (by decide) (fun c_18 => ?_) (fun c_18 => ?_)
      · refine lv_iload_n hx hb d_Md_order_26 rfl (lv_at hl 0 rfl) ?_
        refine lv_bipush (v := 10) hx hb d_Md_order_27 (by decide) ?_
        refine lv_icmp_ge (tgt := 36) hx hb d_Md_order_29 (by decide) (fun c_29 => ?_) (fun c_29 => ?_)
        · refine lv_iload_n hx hb d_Md_order_36 rfl (lv_at hl 0 rfl) ?_
          refine lv_iconst (v := 1) hx hb d_Md_order_37 (by decide) ?_
          refine lv_iadd hx hb d_Md_order_38 ?_
          try (have e_2 := (nI_ltI (a := x) (b := 1) (by omega) (by omega)); rw [show nI 1 = (1 : Int32) from rfl] at e_2; simp only [e_2] at c_2)
          try (have e_8 := (nI_leI (a := x) (b := 12) (by omega) (by omega)); rw [show nI 12 = (12 : Int32) from rfl] at e_8; simp only [e_8] at c_8)
          try (have e_18 := (nI_eq (a := x) (b := 12) (by omega) (by omega)); rw [show nI 12 = (12 : Int32) from rfl] at e_18; simp only [e_18] at c_18)
          try (have e_29 := (nI_leI (a := 10) (b := x) (by omega) (by omega)); rw [show nI 10 = (10 : Int32) from rfl] at e_29; simp only [e_29] at c_29)
          rw [nI_1]
          have ho : ordF x = x + 1 := by
            rcases (show x = 10 ∨ x = 11 by omega) with rfl | rfl <;> rfl
          exact cRi () hx hb hr hlocks d_Md_order_39 hS hP hD (congrArg (fun z : Nat => some (Value.int (nI z))) ho.symm) (Nat.le_refl _) (Nat.le_refl _)
        · refine lv_iload_n hx hb d_Md_order_32 rfl (lv_at hl 0 rfl) ?_
          refine lv_goto (tgt := 39) hx hb d_Md_order_33 (by decide) ?_
          try (have e_2 := (nI_ltI (a := x) (b := 1) (by omega) (by omega)); rw [show nI 1 = (1 : Int32) from rfl] at e_2; simp only [e_2] at c_2)
          try (have e_8 := (nI_leI (a := x) (b := 12) (by omega) (by omega)); rw [show nI 12 = (12 : Int32) from rfl] at e_8; simp only [e_8] at c_8)
          try (have e_18 := (nI_eq (a := x) (b := 12) (by omega) (by omega)); rw [show nI 12 = (12 : Int32) from rfl] at e_18; simp only [e_18] at c_18)
          try (have e_29 := (nI_leI (a := 10) (b := x) (by omega) (by omega)); rw [show nI 10 = (10 : Int32) from rfl] at e_29; simp only [e_29] at c_29)
          have ho : ordF x = x := by
            unfold ordF rkOf
            repeat (first | rw [if_pos (by omega)] | rw [if_neg (by omega)])
          exact cRi () hx hb hr hlocks d_Md_order_39 hS hP hD (congrArg (fun z : Nat => some (Value.int (nI z))) ho.symm) (Nat.le_refl _) (Nat.le_refl _)
      · refine lv_bipush (v := 10) hx hb d_Md_order_21 (by decide) ?_
        refine lv_goto (tgt := 39) hx hb d_Md_order_23 (by decide) ?_
        try (have e_2 := (nI_ltI (a := x) (b := 1) (by omega) (by omega)); rw [show nI 1 = (1 : Int32) from rfl] at e_2; simp only [e_2] at c_2)
        try (have e_8 := (nI_leI (a := x) (b := 12) (by omega) (by omega)); rw [show nI 12 = (12 : Int32) from rfl] at e_8; simp only [e_8] at c_8)
        try (have e_18 := (nI_eq (a := x) (b := 12) (by omega) (by omega)); rw [show nI 12 = (12 : Int32) from rfl] at e_18; simp only [e_18] at c_18)
        try (have e_29 := (nI_leI (a := 10) (b := x) (by omega) (by omega)); rw [show nI 10 = (10 : Int32) from rfl] at e_29; simp only [e_29] at c_29)
        have ho : ordF x = 10 := by
          unfold ordF rkOf
          repeat (first | rw [if_pos (by omega)] | rw [if_neg (by omega)])
        exact cRi () hx hb hr hlocks d_Md_order_39 hS hP hD (congrArg (fun z : Nat => some (Value.int (nI z))) ho.symm) (Nat.le_refl _) (Nat.le_refl _)
    · refine lv_iconst (v := 0) hx hb d_Md_order_11 (by decide) ?_
      refine lv_goto (tgt := 39) hx hb d_Md_order_12 (by decide) ?_
      try (have e_2 := (nI_ltI (a := x) (b := 1) (by omega) (by omega)); rw [show nI 1 = (1 : Int32) from rfl] at e_2; simp only [e_2] at c_2)
      try (have e_8 := (nI_leI (a := x) (b := 12) (by omega) (by omega)); rw [show nI 12 = (12 : Int32) from rfl] at e_8; simp only [e_8] at c_8)
      try (have e_18 := (nI_eq (a := x) (b := 12) (by omega) (by omega)); rw [show nI 12 = (12 : Int32) from rfl] at e_18; simp only [e_18] at c_18)
      try (have e_29 := (nI_leI (a := 10) (b := x) (by omega) (by omega)); rw [show nI 10 = (10 : Int32) from rfl] at e_29; simp only [e_29] at c_29)
      have ho : ordF x = 0 := by
        unfold ordF rkOf
        repeat (first | rw [if_pos (by omega)] | rw [if_neg (by omega)])
      exact cRi () hx hb hr hlocks d_Md_order_39 hS hP hD (congrArg (fun z : Nat => some (Value.int (nI z))) ho.symm) (Nat.le_refl _) (Nat.le_refl _)
set_option maxHeartbeats 4000000 in
set_option maxRecDepth 100000 in
theorem c_Md_isAlone (l : Launch) (hl9 : l.stackTraces = false) (D : va_G) (cA : Nat → ClassId) (ad : Nat → Nat) (sz : Nat) (x : Nat) (hx9 : x < 256) :
    cM l y_Md_isAlone (.code y_Md_isAlone b_Md_isAlone 1 (some .boolean) :: wAll) ({ frames := 0, cells := 0, slots := 0, locals := 0 }) D cA ad [.int (nI x)] [] sz (fun v (_ : Unit) => v = some (.int (zI (aloF x)))) (fun _ => False) (fun _ => []) (fun _ => (0, 0)) := by
  refine cM.ofW (cc := b_Md_isAlone) (maxL := 1) (ret := (some .boolean)) (by decide) (Nat.le_of_ble_eq_true rfl) ?_
  intro pg ev s m bw meth cdx A ls hF hsz hA hE hP hD hl
  obtain ⟨⟨hx, hb, hml, hown, hts⟩, hr, hno, hlocks, hin⟩ := hF
  subst hsz
  have hown : s.vm.findClass "ModuleBytesModel" = some m.cls := hown
  have hS : va_S A s.heap s.heap [] := va_S.rf
  have hl : lv_has ls 1 [(0, .int (nI x))] := hl
  refine lv_iload_n hx hb d_Md_isAlone_0 rfl (lv_at hl 0 rfl) ?_
  refine lv_iconst (v := 2) hx hb d_Md_isAlone_1 (by decide) ?_
  refine lv_icmp_lt (tgt := 43) hx hb d_Md_isAlone_2 (by decide) (fun c_2 => ?_) (fun c_2 => ?_)
  · refine lv_iconst (v := 1) hx hb d_Md_isAlone_43 (by decide) ?_
    refine lv_goto (tgt := 48) hx hb d_Md_isAlone_44 (by decide) ?_
    try (have e_2 := (nI_ltI (a := x) (b := 2) (by omega) (by omega)); rw [show nI 2 = (2 : Int32) from rfl] at e_2; simp only [e_2] at c_2)
    try (have e_8 := (nI_eq (a := x) (b := 15) (by omega) (by omega)); rw [show nI 15 = (15 : Int32) from rfl] at e_8; simp only [e_8] at c_8)
    try (have e_14 := (nI_eq (a := x) (b := 26) (by omega) (by omega)); rw [show nI 26 = (26 : Int32) from rfl] at e_14; simp only [e_14] at c_14)
    try (have e_20 := (nI_eq (a := x) (b := 27) (by omega) (by omega)); rw [show nI 27 = (27 : Int32) from rfl] at e_20; simp only [e_20] at c_20)
    try (have e_26 := (nI_ltI (a := x) (b := 69) (by omega) (by omega)); rw [show nI 69 = (69 : Int32) from rfl] at e_26; simp only [e_26] at c_26)
    try (have e_33 := (nI_leI (a := x) (b := 196) (by omega) (by omega)); rw [show nI 196 = (196 : Int32) from rfl] at e_33; simp only [e_33] at c_33)
    try (have e_40 := (nI_eq (a := x) (b := 209) (by omega) (by omega)); rw [show nI 209 = (209 : Int32) from rfl] at e_40; simp only [e_40] at c_40)
    exact cRz () hx hb hr (by decide) hlocks d_Md_isAlone_48 hS hP hD (by rw [show aloF x = true from by unfold aloF; simp; omega]; rfl) (Nat.le_refl _) (Nat.le_refl _)
  · refine lv_iload_n hx hb d_Md_isAlone_5 rfl (lv_at hl 0 rfl) ?_
    refine lv_bipush (v := 15) hx hb d_Md_isAlone_6 (by decide) ?_
    refine lv_icmp_eq (tgt := 43) hx hb d_Md_isAlone_8 (by decide) (fun c_8 => ?_) (fun c_8 => ?_)
    · refine lv_iconst (v := 1) hx hb d_Md_isAlone_43 (by decide) ?_
      refine lv_goto (tgt := 48) hx hb d_Md_isAlone_44 (by decide) ?_
      try (have e_2 := (nI_ltI (a := x) (b := 2) (by omega) (by omega)); rw [show nI 2 = (2 : Int32) from rfl] at e_2; simp only [e_2] at c_2)
      try (have e_8 := (nI_eq (a := x) (b := 15) (by omega) (by omega)); rw [show nI 15 = (15 : Int32) from rfl] at e_8; simp only [e_8] at c_8)
      try (have e_14 := (nI_eq (a := x) (b := 26) (by omega) (by omega)); rw [show nI 26 = (26 : Int32) from rfl] at e_14; simp only [e_14] at c_14)
      try (have e_20 := (nI_eq (a := x) (b := 27) (by omega) (by omega)); rw [show nI 27 = (27 : Int32) from rfl] at e_20; simp only [e_20] at c_20)
      try (have e_26 := (nI_ltI (a := x) (b := 69) (by omega) (by omega)); rw [show nI 69 = (69 : Int32) from rfl] at e_26; simp only [e_26] at c_26)
      try (have e_33 := (nI_leI (a := x) (b := 196) (by omega) (by omega)); rw [show nI 196 = (196 : Int32) from rfl] at e_33; simp only [e_33] at c_33)
      try (have e_40 := (nI_eq (a := x) (b := 209) (by omega) (by omega)); rw [show nI 209 = (209 : Int32) from rfl] at e_40; simp only [e_40] at c_40)
      exact cRz () hx hb hr (by decide) hlocks d_Md_isAlone_48 hS hP hD (by rw [show aloF x = true from by unfold aloF; simp; omega]; rfl) (Nat.le_refl _) (Nat.le_refl _)
    · refine lv_iload_n hx hb d_Md_isAlone_11 rfl (lv_at hl 0 rfl) ?_
      refine lv_bipush (v := 26) hx hb d_Md_isAlone_12 (by decide) ?_
      refine lv_icmp_eq (tgt := 43) hx hb d_Md_isAlone_14 (by decide) (fun c_14 => ?_) (fun c_14 => ?_)
      · refine lv_iconst (v := 1) hx hb d_Md_isAlone_43 (by decide) ?_
        refine lv_goto (tgt := 48) hx hb d_Md_isAlone_44 (by decide) ?_
        try (have e_2 := (nI_ltI (a := x) (b := 2) (by omega) (by omega)); rw [show nI 2 = (2 : Int32) from rfl] at e_2; simp only [e_2] at c_2)
        try (have e_8 := (nI_eq (a := x) (b := 15) (by omega) (by omega)); rw [show nI 15 = (15 : Int32) from rfl] at e_8; simp only [e_8] at c_8)
        try (have e_14 := (nI_eq (a := x) (b := 26) (by omega) (by omega)); rw [show nI 26 = (26 : Int32) from rfl] at e_14; simp only [e_14] at c_14)
        try (have e_20 := (nI_eq (a := x) (b := 27) (by omega) (by omega)); rw [show nI 27 = (27 : Int32) from rfl] at e_20; simp only [e_20] at c_20)
        try (have e_26 := (nI_ltI (a := x) (b := 69) (by omega) (by omega)); rw [show nI 69 = (69 : Int32) from rfl] at e_26; simp only [e_26] at c_26)
        try (have e_33 := (nI_leI (a := x) (b := 196) (by omega) (by omega)); rw [show nI 196 = (196 : Int32) from rfl] at e_33; simp only [e_33] at c_33)
        try (have e_40 := (nI_eq (a := x) (b := 209) (by omega) (by omega)); rw [show nI 209 = (209 : Int32) from rfl] at e_40; simp only [e_40] at c_40)
        exact cRz () hx hb hr (by decide) hlocks d_Md_isAlone_48 hS hP hD (by rw [show aloF x = true from by unfold aloF; simp; omega]; rfl) (Nat.le_refl _) (Nat.le_refl _)
      · refine lv_iload_n hx hb d_Md_isAlone_17 rfl (lv_at hl 0 rfl) ?_
        refine lv_bipush (v := 27) hx hb d_Md_isAlone_18 (by decide) ?_
        refine lv_icmp_eq (tgt := 43) hx hb d_Md_isAlone_20 (by decide) (fun c_20 => ?_) (fun c_20 => ?_)
        · refine lv_iconst (v := 1) hx hb d_Md_isAlone_43 (by decide) ?_
          refine lv_goto (tgt := 48) hx hb d_Md_isAlone_44 (by decide) ?_
          try (have e_2 := (nI_ltI (a := x) (b := 2) (by omega) (by omega)); rw [show nI 2 = (2 : Int32) from rfl] at e_2; simp only [e_2] at c_2)
          try (have e_8 := (nI_eq (a := x) (b := 15) (by omega) (by omega)); rw [show nI 15 = (15 : Int32) from rfl] at e_8; simp only [e_8] at c_8)
          try (have e_14 := (nI_eq (a := x) (b := 26) (by omega) (by omega)); rw [show nI 26 = (26 : Int32) from rfl] at e_14; simp only [e_14] at c_14)
          try (have e_20 := (nI_eq (a := x) (b := 27) (by omega) (by omega)); rw [show nI 27 = (27 : Int32) from rfl] at e_20; simp only [e_20] at c_20)
          try (have e_26 := (nI_ltI (a := x) (b := 69) (by omega) (by omega)); rw [show nI 69 = (69 : Int32) from rfl] at e_26; simp only [e_26] at c_26)
          try (have e_33 := (nI_leI (a := x) (b := 196) (by omega) (by omega)); rw [show nI 196 = (196 : Int32) from rfl] at e_33; simp only [e_33] at c_33)
          try (have e_40 := (nI_eq (a := x) (b := 209) (by omega) (by omega)); rw [show nI 209 = (209 : Int32) from rfl] at e_40; simp only [e_40] at c_40)
          exact cRz () hx hb hr (by decide) hlocks d_Md_isAlone_48 hS hP hD (by rw [show aloF x = true from by unfold aloF; simp; omega]; rfl) (Nat.le_refl _) (Nat.le_refl _)
        · refine lv_iload_n hx hb d_Md_isAlone_23 rfl (lv_at hl 0 rfl) ?_
          refine lv_bipush (v := 69) hx hb d_Md_isAlone_24 (by decide) ?_
          refine lv_icmp_lt (tgt := 36) hx hb d_Md_isAlone_26 (by decide) (fun c_26 => ?_) (fun c_26 => ?_)
          · refine lv_iload_n hx hb d_Md_isAlone_36 rfl (lv_at hl 0 rfl) ?_
            refine lv_sipush (v := 209) hx hb d_Md_isAlone_37 (by decide) ?_
            refine lv_icmp_ne (tgt := 47) hx hb d_Md_isAlone_40 (by decide) (fun c_40 => ?_) (fun c_40 => ?_)
            · refine lv_iconst (v := 0) hx hb d_Md_isAlone_47 (by decide) ?_
              try (have e_2 := (nI_ltI (a := x) (b := 2) (by omega) (by omega)); rw [show nI 2 = (2 : Int32) from rfl] at e_2; simp only [e_2] at c_2)
              try (have e_8 := (nI_eq (a := x) (b := 15) (by omega) (by omega)); rw [show nI 15 = (15 : Int32) from rfl] at e_8; simp only [e_8] at c_8)
              try (have e_14 := (nI_eq (a := x) (b := 26) (by omega) (by omega)); rw [show nI 26 = (26 : Int32) from rfl] at e_14; simp only [e_14] at c_14)
              try (have e_20 := (nI_eq (a := x) (b := 27) (by omega) (by omega)); rw [show nI 27 = (27 : Int32) from rfl] at e_20; simp only [e_20] at c_20)
              try (have e_26 := (nI_ltI (a := x) (b := 69) (by omega) (by omega)); rw [show nI 69 = (69 : Int32) from rfl] at e_26; simp only [e_26] at c_26)
              try (have e_33 := (nI_leI (a := x) (b := 196) (by omega) (by omega)); rw [show nI 196 = (196 : Int32) from rfl] at e_33; simp only [e_33] at c_33)
              try (have e_40 := (nI_eq (a := x) (b := 209) (by omega) (by omega)); rw [show nI 209 = (209 : Int32) from rfl] at e_40; simp only [e_40] at c_40)
              exact cRz () hx hb hr (by decide) hlocks d_Md_isAlone_48 hS hP hD (by rw [show aloF x = false from by unfold aloF; simp; omega]; rfl) (Nat.le_refl _) (Nat.le_refl _)
            · refine lv_iconst (v := 1) hx hb d_Md_isAlone_43 (by decide) ?_
              refine lv_goto (tgt := 48) hx hb d_Md_isAlone_44 (by decide) ?_
              try (have e_2 := (nI_ltI (a := x) (b := 2) (by omega) (by omega)); rw [show nI 2 = (2 : Int32) from rfl] at e_2; simp only [e_2] at c_2)
              try (have e_8 := (nI_eq (a := x) (b := 15) (by omega) (by omega)); rw [show nI 15 = (15 : Int32) from rfl] at e_8; simp only [e_8] at c_8)
              try (have e_14 := (nI_eq (a := x) (b := 26) (by omega) (by omega)); rw [show nI 26 = (26 : Int32) from rfl] at e_14; simp only [e_14] at c_14)
              try (have e_20 := (nI_eq (a := x) (b := 27) (by omega) (by omega)); rw [show nI 27 = (27 : Int32) from rfl] at e_20; simp only [e_20] at c_20)
              try (have e_26 := (nI_ltI (a := x) (b := 69) (by omega) (by omega)); rw [show nI 69 = (69 : Int32) from rfl] at e_26; simp only [e_26] at c_26)
              try (have e_33 := (nI_leI (a := x) (b := 196) (by omega) (by omega)); rw [show nI 196 = (196 : Int32) from rfl] at e_33; simp only [e_33] at c_33)
              try (have e_40 := (nI_eq (a := x) (b := 209) (by omega) (by omega)); rw [show nI 209 = (209 : Int32) from rfl] at e_40; simp only [e_40] at c_40)
              exact cRz () hx hb hr (by decide) hlocks d_Md_isAlone_48 hS hP hD (by rw [show aloF x = true from by unfold aloF; simp; omega]; rfl) (Nat.le_refl _) (Nat.le_refl _)
          · refine lv_iload_n hx hb d_Md_isAlone_29 rfl (lv_at hl 0 rfl) ?_
            refine lv_sipush (v := 196) hx hb d_Md_isAlone_30 (by decide) ?_
            refine lv_icmp_le (tgt := 43) hx hb d_Md_isAlone_33 (by decide) (fun c_33 => ?_) (fun c_33 => ?_)
            · refine lv_iconst (v := 1) hx hb d_Md_isAlone_43 (by decide) ?_
              refine lv_goto (tgt := 48) hx hb d_Md_isAlone_44 (by decide) ?_
              try (have e_2 := (nI_ltI (a := x) (b := 2) (by omega) (by omega)); rw [show nI 2 = (2 : Int32) from rfl] at e_2; simp only [e_2] at c_2)
              try (have e_8 := (nI_eq (a := x) (b := 15) (by omega) (by omega)); rw [show nI 15 = (15 : Int32) from rfl] at e_8; simp only [e_8] at c_8)
              try (have e_14 := (nI_eq (a := x) (b := 26) (by omega) (by omega)); rw [show nI 26 = (26 : Int32) from rfl] at e_14; simp only [e_14] at c_14)
              try (have e_20 := (nI_eq (a := x) (b := 27) (by omega) (by omega)); rw [show nI 27 = (27 : Int32) from rfl] at e_20; simp only [e_20] at c_20)
              try (have e_26 := (nI_ltI (a := x) (b := 69) (by omega) (by omega)); rw [show nI 69 = (69 : Int32) from rfl] at e_26; simp only [e_26] at c_26)
              try (have e_33 := (nI_leI (a := x) (b := 196) (by omega) (by omega)); rw [show nI 196 = (196 : Int32) from rfl] at e_33; simp only [e_33] at c_33)
              try (have e_40 := (nI_eq (a := x) (b := 209) (by omega) (by omega)); rw [show nI 209 = (209 : Int32) from rfl] at e_40; simp only [e_40] at c_40)
              exact cRz () hx hb hr (by decide) hlocks d_Md_isAlone_48 hS hP hD (by rw [show aloF x = true from by unfold aloF; simp; omega]; rfl) (Nat.le_refl _) (Nat.le_refl _)
            · refine lv_iload_n hx hb d_Md_isAlone_36 rfl (lv_at hl 0 rfl) ?_
              refine lv_sipush (v := 209) hx hb d_Md_isAlone_37 (by decide) ?_
              refine lv_icmp_ne (tgt := 47) hx hb d_Md_isAlone_40 (by decide) (fun c_40 => ?_) (fun c_40 => ?_)
              · refine lv_iconst (v := 0) hx hb d_Md_isAlone_47 (by decide) ?_
                try (have e_2 := (nI_ltI (a := x) (b := 2) (by omega) (by omega)); rw [show nI 2 = (2 : Int32) from rfl] at e_2; simp only [e_2] at c_2)
                try (have e_8 := (nI_eq (a := x) (b := 15) (by omega) (by omega)); rw [show nI 15 = (15 : Int32) from rfl] at e_8; simp only [e_8] at c_8)
                try (have e_14 := (nI_eq (a := x) (b := 26) (by omega) (by omega)); rw [show nI 26 = (26 : Int32) from rfl] at e_14; simp only [e_14] at c_14)
                try (have e_20 := (nI_eq (a := x) (b := 27) (by omega) (by omega)); rw [show nI 27 = (27 : Int32) from rfl] at e_20; simp only [e_20] at c_20)
                try (have e_26 := (nI_ltI (a := x) (b := 69) (by omega) (by omega)); rw [show nI 69 = (69 : Int32) from rfl] at e_26; simp only [e_26] at c_26)
                try (have e_33 := (nI_leI (a := x) (b := 196) (by omega) (by omega)); rw [show nI 196 = (196 : Int32) from rfl] at e_33; simp only [e_33] at c_33)
                try (have e_40 := (nI_eq (a := x) (b := 209) (by omega) (by omega)); rw [show nI 209 = (209 : Int32) from rfl] at e_40; simp only [e_40] at c_40)
                exact cRz () hx hb hr (by decide) hlocks d_Md_isAlone_48 hS hP hD (by rw [show aloF x = false from by unfold aloF; simp; omega]; rfl) (Nat.le_refl _) (Nat.le_refl _)
              · refine lv_iconst (v := 1) hx hb d_Md_isAlone_43 (by decide) ?_
                refine lv_goto (tgt := 48) hx hb d_Md_isAlone_44 (by decide) ?_
                try (have e_2 := (nI_ltI (a := x) (b := 2) (by omega) (by omega)); rw [show nI 2 = (2 : Int32) from rfl] at e_2; simp only [e_2] at c_2)
                try (have e_8 := (nI_eq (a := x) (b := 15) (by omega) (by omega)); rw [show nI 15 = (15 : Int32) from rfl] at e_8; simp only [e_8] at c_8)
                try (have e_14 := (nI_eq (a := x) (b := 26) (by omega) (by omega)); rw [show nI 26 = (26 : Int32) from rfl] at e_14; simp only [e_14] at c_14)
                try (have e_20 := (nI_eq (a := x) (b := 27) (by omega) (by omega)); rw [show nI 27 = (27 : Int32) from rfl] at e_20; simp only [e_20] at c_20)
                try (have e_26 := (nI_ltI (a := x) (b := 69) (by omega) (by omega)); rw [show nI 69 = (69 : Int32) from rfl] at e_26; simp only [e_26] at c_26)
                try (have e_33 := (nI_leI (a := x) (b := 196) (by omega) (by omega)); rw [show nI 196 = (196 : Int32) from rfl] at e_33; simp only [e_33] at c_33)
                try (have e_40 := (nI_eq (a := x) (b := 209) (by omega) (by omega)); rw [show nI 209 = (209 : Int32) from rfl] at e_40; simp only [e_40] at c_40)
                exact cRz () hx hb hr (by decide) hlocks d_Md_isAlone_48 hS hP hD (by rw [show aloF x = true from by unfold aloF; simp; omega]; rfl) (Nat.le_refl _) (Nat.le_refl _)
set_option maxHeartbeats 4000000 in
set_option maxRecDepth 100000 in
theorem c_Md_hasOne (l : Launch) (hl9 : l.stackTraces = false) (D : va_G) (cA : Nat → ClassId) (ad : Nat → Nat) (sz : Nat) (x : Nat) (hx9 : x < 256) :
    cM l y_Md_hasOne (.code y_Md_hasOne b_Md_hasOne 1 (some .boolean) :: wAll) ({ frames := 0, cells := 0, slots := 0, locals := 0 }) D cA ad [.int (nI x)] [] sz (fun v (_ : Unit) => v = some (.int (zI (oneF x)))) (fun _ => False) (fun _ => []) (fun _ => (0, 0)) := by
  refine cM.ofW (cc := b_Md_hasOne) (maxL := 1) (ret := (some .boolean)) (by decide) (Nat.le_of_ble_eq_true rfl) ?_
  intro pg ev s m bw meth cdx A ls hF hsz hA hE hP hD hl
  obtain ⟨⟨hx, hb, hml, hown, hts⟩, hr, hno, hlocks, hin⟩ := hF
  subst hsz
  have hown : s.vm.findClass "ModuleBytesModel" = some m.cls := hown
  have hS : va_S A s.heap s.heap [] := va_S.rf
  have hl : lv_has ls 1 [(0, .int (nI x))] := hl
  refine lv_iload_n hx hb d_Md_hasOne_0 rfl (lv_at hl 0 rfl) ?_
  refine lv_bipush (v := 12) hx hb d_Md_hasOne_1 (by decide) ?_
  refine lv_icmp_eq (tgt := 37) hx hb d_Md_hasOne_3 (by decide) (fun c_3 => ?_) (fun c_3 => ?_)
  · refine lv_iconst (v := 1) hx hb d_Md_hasOne_37 (by decide) ?_
    refine lv_goto (tgt := 42) hx hb d_Md_hasOne_38 (by decide) ?_
    try (have e_3 := (nI_eq (a := x) (b := 12) (by omega) (by omega)); rw [show nI 12 = (12 : Int32) from rfl] at e_3; simp only [e_3] at c_3)
    try (have e_9 := (nI_eq (a := x) (b := 13) (by omega) (by omega)); rw [show nI 13 = (13 : Int32) from rfl] at e_9; simp only [e_9] at c_9)
    try (have e_15 := (nI_eq (a := x) (b := 16) (by omega) (by omega)); rw [show nI 16 = (16 : Int32) from rfl] at e_15; simp only [e_15] at c_15)
    try (have e_21 := (nI_ltI (a := x) (b := 32) (by omega) (by omega)); rw [show nI 32 = (32 : Int32) from rfl] at e_21; simp only [e_21] at c_21)
    try (have e_27 := (nI_leI (a := x) (b := 38) (by omega) (by omega)); rw [show nI 38 = (38 : Int32) from rfl] at e_27; simp only [e_27] at c_27)
    try (have e_34 := (nI_eq (a := x) (b := 210) (by omega) (by omega)); rw [show nI 210 = (210 : Int32) from rfl] at e_34; simp only [e_34] at c_34)
    exact cRz () hx hb hr (by decide) hlocks d_Md_hasOne_42 hS hP hD (by rw [show oneF x = true from by unfold oneF; simp; omega]; rfl) (Nat.le_refl _) (Nat.le_refl _)
  · refine lv_iload_n hx hb d_Md_hasOne_6 rfl (lv_at hl 0 rfl) ?_
    refine lv_bipush (v := 13) hx hb d_Md_hasOne_7 (by decide) ?_
    refine lv_icmp_eq (tgt := 37) hx hb d_Md_hasOne_9 (by decide) (fun c_9 => ?_) (fun c_9 => ?_)
    · refine lv_iconst (v := 1) hx hb d_Md_hasOne_37 (by decide) ?_
      refine lv_goto (tgt := 42) hx hb d_Md_hasOne_38 (by decide) ?_
      try (have e_3 := (nI_eq (a := x) (b := 12) (by omega) (by omega)); rw [show nI 12 = (12 : Int32) from rfl] at e_3; simp only [e_3] at c_3)
      try (have e_9 := (nI_eq (a := x) (b := 13) (by omega) (by omega)); rw [show nI 13 = (13 : Int32) from rfl] at e_9; simp only [e_9] at c_9)
      try (have e_15 := (nI_eq (a := x) (b := 16) (by omega) (by omega)); rw [show nI 16 = (16 : Int32) from rfl] at e_15; simp only [e_15] at c_15)
      try (have e_21 := (nI_ltI (a := x) (b := 32) (by omega) (by omega)); rw [show nI 32 = (32 : Int32) from rfl] at e_21; simp only [e_21] at c_21)
      try (have e_27 := (nI_leI (a := x) (b := 38) (by omega) (by omega)); rw [show nI 38 = (38 : Int32) from rfl] at e_27; simp only [e_27] at c_27)
      try (have e_34 := (nI_eq (a := x) (b := 210) (by omega) (by omega)); rw [show nI 210 = (210 : Int32) from rfl] at e_34; simp only [e_34] at c_34)
      exact cRz () hx hb hr (by decide) hlocks d_Md_hasOne_42 hS hP hD (by rw [show oneF x = true from by unfold oneF; simp; omega]; rfl) (Nat.le_refl _) (Nat.le_refl _)
    · refine lv_iload_n hx hb d_Md_hasOne_12 rfl (lv_at hl 0 rfl) ?_
      refine lv_bipush (v := 16) hx hb d_Md_hasOne_13 (by decide) ?_
      refine lv_icmp_eq (tgt := 37) hx hb d_Md_hasOne_15 (by decide) (fun c_15 => ?_) (fun c_15 => ?_)
      · refine lv_iconst (v := 1) hx hb d_Md_hasOne_37 (by decide) ?_
        refine lv_goto (tgt := 42) hx hb d_Md_hasOne_38 (by decide) ?_
        try (have e_3 := (nI_eq (a := x) (b := 12) (by omega) (by omega)); rw [show nI 12 = (12 : Int32) from rfl] at e_3; simp only [e_3] at c_3)
        try (have e_9 := (nI_eq (a := x) (b := 13) (by omega) (by omega)); rw [show nI 13 = (13 : Int32) from rfl] at e_9; simp only [e_9] at c_9)
        try (have e_15 := (nI_eq (a := x) (b := 16) (by omega) (by omega)); rw [show nI 16 = (16 : Int32) from rfl] at e_15; simp only [e_15] at c_15)
        try (have e_21 := (nI_ltI (a := x) (b := 32) (by omega) (by omega)); rw [show nI 32 = (32 : Int32) from rfl] at e_21; simp only [e_21] at c_21)
        try (have e_27 := (nI_leI (a := x) (b := 38) (by omega) (by omega)); rw [show nI 38 = (38 : Int32) from rfl] at e_27; simp only [e_27] at c_27)
        try (have e_34 := (nI_eq (a := x) (b := 210) (by omega) (by omega)); rw [show nI 210 = (210 : Int32) from rfl] at e_34; simp only [e_34] at c_34)
        exact cRz () hx hb hr (by decide) hlocks d_Md_hasOne_42 hS hP hD (by rw [show oneF x = true from by unfold oneF; simp; omega]; rfl) (Nat.le_refl _) (Nat.le_refl _)
      · refine lv_iload_n hx hb d_Md_hasOne_18 rfl (lv_at hl 0 rfl) ?_
        refine lv_bipush (v := 32) hx hb d_Md_hasOne_19 (by decide) ?_
        refine lv_icmp_lt (tgt := 30) hx hb d_Md_hasOne_21 (by decide) (fun c_21 => ?_) (fun c_21 => ?_)
        · refine lv_iload_n hx hb d_Md_hasOne_30 rfl (lv_at hl 0 rfl) ?_
          refine lv_sipush (v := 210) hx hb d_Md_hasOne_31 (by decide) ?_
          refine lv_icmp_ne (tgt := 41) hx hb d_Md_hasOne_34 (by decide) (fun c_34 => ?_) (fun c_34 => ?_)
          · refine lv_iconst (v := 0) hx hb d_Md_hasOne_41 (by decide) ?_
            try (have e_3 := (nI_eq (a := x) (b := 12) (by omega) (by omega)); rw [show nI 12 = (12 : Int32) from rfl] at e_3; simp only [e_3] at c_3)
            try (have e_9 := (nI_eq (a := x) (b := 13) (by omega) (by omega)); rw [show nI 13 = (13 : Int32) from rfl] at e_9; simp only [e_9] at c_9)
            try (have e_15 := (nI_eq (a := x) (b := 16) (by omega) (by omega)); rw [show nI 16 = (16 : Int32) from rfl] at e_15; simp only [e_15] at c_15)
            try (have e_21 := (nI_ltI (a := x) (b := 32) (by omega) (by omega)); rw [show nI 32 = (32 : Int32) from rfl] at e_21; simp only [e_21] at c_21)
            try (have e_27 := (nI_leI (a := x) (b := 38) (by omega) (by omega)); rw [show nI 38 = (38 : Int32) from rfl] at e_27; simp only [e_27] at c_27)
            try (have e_34 := (nI_eq (a := x) (b := 210) (by omega) (by omega)); rw [show nI 210 = (210 : Int32) from rfl] at e_34; simp only [e_34] at c_34)
            exact cRz () hx hb hr (by decide) hlocks d_Md_hasOne_42 hS hP hD (by rw [show oneF x = false from by unfold oneF; simp; omega]; rfl) (Nat.le_refl _) (Nat.le_refl _)
          · refine lv_iconst (v := 1) hx hb d_Md_hasOne_37 (by decide) ?_
            refine lv_goto (tgt := 42) hx hb d_Md_hasOne_38 (by decide) ?_
            try (have e_3 := (nI_eq (a := x) (b := 12) (by omega) (by omega)); rw [show nI 12 = (12 : Int32) from rfl] at e_3; simp only [e_3] at c_3)
            try (have e_9 := (nI_eq (a := x) (b := 13) (by omega) (by omega)); rw [show nI 13 = (13 : Int32) from rfl] at e_9; simp only [e_9] at c_9)
            try (have e_15 := (nI_eq (a := x) (b := 16) (by omega) (by omega)); rw [show nI 16 = (16 : Int32) from rfl] at e_15; simp only [e_15] at c_15)
            try (have e_21 := (nI_ltI (a := x) (b := 32) (by omega) (by omega)); rw [show nI 32 = (32 : Int32) from rfl] at e_21; simp only [e_21] at c_21)
            try (have e_27 := (nI_leI (a := x) (b := 38) (by omega) (by omega)); rw [show nI 38 = (38 : Int32) from rfl] at e_27; simp only [e_27] at c_27)
            try (have e_34 := (nI_eq (a := x) (b := 210) (by omega) (by omega)); rw [show nI 210 = (210 : Int32) from rfl] at e_34; simp only [e_34] at c_34)
            exact cRz () hx hb hr (by decide) hlocks d_Md_hasOne_42 hS hP hD (by rw [show oneF x = true from by unfold oneF; simp; omega]; rfl) (Nat.le_refl _) (Nat.le_refl _)
        · refine lv_iload_n hx hb d_Md_hasOne_24 rfl (lv_at hl 0 rfl) ?_
          refine lv_bipush (v := 38) hx hb d_Md_hasOne_25 (by decide) ?_
          refine lv_icmp_le (tgt := 37) hx hb d_Md_hasOne_27 (by decide) (fun c_27 => ?_) (fun c_27 => ?_)
          · refine lv_iconst (v := 1) hx hb d_Md_hasOne_37 (by decide) ?_
            refine lv_goto (tgt := 42) hx hb d_Md_hasOne_38 (by decide) ?_
            try (have e_3 := (nI_eq (a := x) (b := 12) (by omega) (by omega)); rw [show nI 12 = (12 : Int32) from rfl] at e_3; simp only [e_3] at c_3)
            try (have e_9 := (nI_eq (a := x) (b := 13) (by omega) (by omega)); rw [show nI 13 = (13 : Int32) from rfl] at e_9; simp only [e_9] at c_9)
            try (have e_15 := (nI_eq (a := x) (b := 16) (by omega) (by omega)); rw [show nI 16 = (16 : Int32) from rfl] at e_15; simp only [e_15] at c_15)
            try (have e_21 := (nI_ltI (a := x) (b := 32) (by omega) (by omega)); rw [show nI 32 = (32 : Int32) from rfl] at e_21; simp only [e_21] at c_21)
            try (have e_27 := (nI_leI (a := x) (b := 38) (by omega) (by omega)); rw [show nI 38 = (38 : Int32) from rfl] at e_27; simp only [e_27] at c_27)
            try (have e_34 := (nI_eq (a := x) (b := 210) (by omega) (by omega)); rw [show nI 210 = (210 : Int32) from rfl] at e_34; simp only [e_34] at c_34)
            exact cRz () hx hb hr (by decide) hlocks d_Md_hasOne_42 hS hP hD (by rw [show oneF x = true from by unfold oneF; simp; omega]; rfl) (Nat.le_refl _) (Nat.le_refl _)
          · refine lv_iload_n hx hb d_Md_hasOne_30 rfl (lv_at hl 0 rfl) ?_
            refine lv_sipush (v := 210) hx hb d_Md_hasOne_31 (by decide) ?_
            refine lv_icmp_ne (tgt := 41) hx hb d_Md_hasOne_34 (by decide) (fun c_34 => ?_) (fun c_34 => ?_)
            · refine lv_iconst (v := 0) hx hb d_Md_hasOne_41 (by decide) ?_
              try (have e_3 := (nI_eq (a := x) (b := 12) (by omega) (by omega)); rw [show nI 12 = (12 : Int32) from rfl] at e_3; simp only [e_3] at c_3)
              try (have e_9 := (nI_eq (a := x) (b := 13) (by omega) (by omega)); rw [show nI 13 = (13 : Int32) from rfl] at e_9; simp only [e_9] at c_9)
              try (have e_15 := (nI_eq (a := x) (b := 16) (by omega) (by omega)); rw [show nI 16 = (16 : Int32) from rfl] at e_15; simp only [e_15] at c_15)
              try (have e_21 := (nI_ltI (a := x) (b := 32) (by omega) (by omega)); rw [show nI 32 = (32 : Int32) from rfl] at e_21; simp only [e_21] at c_21)
              try (have e_27 := (nI_leI (a := x) (b := 38) (by omega) (by omega)); rw [show nI 38 = (38 : Int32) from rfl] at e_27; simp only [e_27] at c_27)
              try (have e_34 := (nI_eq (a := x) (b := 210) (by omega) (by omega)); rw [show nI 210 = (210 : Int32) from rfl] at e_34; simp only [e_34] at c_34)
              exact cRz () hx hb hr (by decide) hlocks d_Md_hasOne_42 hS hP hD (by rw [show oneF x = false from by unfold oneF; simp; omega]; rfl) (Nat.le_refl _) (Nat.le_refl _)
            · refine lv_iconst (v := 1) hx hb d_Md_hasOne_37 (by decide) ?_
              refine lv_goto (tgt := 42) hx hb d_Md_hasOne_38 (by decide) ?_
              try (have e_3 := (nI_eq (a := x) (b := 12) (by omega) (by omega)); rw [show nI 12 = (12 : Int32) from rfl] at e_3; simp only [e_3] at c_3)
              try (have e_9 := (nI_eq (a := x) (b := 13) (by omega) (by omega)); rw [show nI 13 = (13 : Int32) from rfl] at e_9; simp only [e_9] at c_9)
              try (have e_15 := (nI_eq (a := x) (b := 16) (by omega) (by omega)); rw [show nI 16 = (16 : Int32) from rfl] at e_15; simp only [e_15] at c_15)
              try (have e_21 := (nI_ltI (a := x) (b := 32) (by omega) (by omega)); rw [show nI 32 = (32 : Int32) from rfl] at e_21; simp only [e_21] at c_21)
              try (have e_27 := (nI_leI (a := x) (b := 38) (by omega) (by omega)); rw [show nI 38 = (38 : Int32) from rfl] at e_27; simp only [e_27] at c_27)
              try (have e_34 := (nI_eq (a := x) (b := 210) (by omega) (by omega)); rw [show nI 210 = (210 : Int32) from rfl] at e_34; simp only [e_34] at c_34)
              exact cRz () hx hb hr (by decide) hlocks d_Md_hasOne_42 hS hP hD (by rw [show oneF x = true from by unfold oneF; simp; omega]; rfl) (Nat.le_refl _) (Nat.le_refl _)
set_option maxHeartbeats 4000000 in
set_option maxRecDepth 100000 in
theorem c_Md_head_0 (l : Launch) (hl9 : l.stackTraces = false) (D : va_G) (cA : Nat → ClassId) (ad : Nat → Nat) (sz : Nat)  :
    cM l y_Md_head (.code y_Md_head b_Md_head 1 (some .int) :: wAll) ({ frames := 0, cells := 0, slots := 0, locals := 0 }) D cA ad [.int 0] [] sz (fun v (_ : Unit) => v = some (.int (0))) (fun _ => False) (fun _ => []) (fun _ => (0, 0)) := by
  refine cM.ofW (cc := b_Md_head) (maxL := 1) (ret := (some .int)) (by decide) (Nat.le_of_ble_eq_true rfl) ?_
  intro pg ev s m bw meth cdx A ls hF hsz hA hE hP hD hl
  obtain ⟨⟨hx, hb, hml, hown, hts⟩, hr, hno, hlocks, hin⟩ := hF
  subst hsz
  have hown : s.vm.findClass "ModuleBytesModel" = some m.cls := hown
  have hS : va_S A s.heap s.heap [] := va_S.rf
  have hl : lv_has ls 1 [(0, .int 0)] := hl
  refine lv_iload_n hx hb d_Md_head_0 rfl (lv_at hl 0 rfl) ?_
  refine lv_iconst (v := 1) hx hb d_Md_head_1 (by decide) ?_
  refine lv_icmp_ne (tgt := 10) hx hb d_Md_head_2 (by decide) (fun c_2 => ?_) (fun c_2 => absurd c_2 (by decide))
  refine lv_iload_n hx hb d_Md_head_10 rfl (lv_at hl 0 rfl) ?_
  refine lv_iconst (v := 2) hx hb d_Md_head_11 (by decide) ?_
  refine lv_icmp_ne (tgt := 20) hx hb d_Md_head_12 (by decide) (fun c_12 => ?_) (fun c_12 => absurd c_12 (by decide))
  refine lv_iload_n hx hb d_Md_head_20 rfl (lv_at hl 0 rfl) ?_
  refine lv_iconst (v := 3) hx hb d_Md_head_21 (by decide) ?_
  refine lv_icmp_ne (tgt := 30) hx hb d_Md_head_22 (by decide) (fun c_22 => ?_) (fun c_22 => absurd c_22 (by decide))
  refine lv_iload_n hx hb d_Md_head_30 rfl (lv_at hl 0 rfl) ?_
  refine lv_iconst (v := 4) hx hb d_Md_head_31 (by decide) ?_
  refine lv_icmp_ne (tgt := 39) hx hb d_Md_head_32 (by decide) (fun c_32 => ?_) (fun c_32 => absurd c_32 (by decide))
  refine lv_iconst (v := 0) hx hb d_Md_head_39 (by decide) ?_
  exact cRi () hx hb hr hlocks d_Md_head_40 hS hP hD rfl (Nat.le_refl _) (Nat.le_refl _)
set_option maxHeartbeats 4000000 in
set_option maxRecDepth 100000 in
theorem c_Md_head_1 (l : Launch) (hl9 : l.stackTraces = false) (D : va_G) (cA : Nat → ClassId) (ad : Nat → Nat) (sz : Nat)  :
    cM l y_Md_head (.code y_Md_head b_Md_head 1 (some .int) :: wAll) ({ frames := 0, cells := 0, slots := 0, locals := 0 }) D cA ad [.int 1] [] sz (fun v (_ : Unit) => v = some (.int (97))) (fun _ => False) (fun _ => []) (fun _ => (0, 0)) := by
  refine cM.ofW (cc := b_Md_head) (maxL := 1) (ret := (some .int)) (by decide) (Nat.le_of_ble_eq_true rfl) ?_
  intro pg ev s m bw meth cdx A ls hF hsz hA hE hP hD hl
  obtain ⟨⟨hx, hb, hml, hown, hts⟩, hr, hno, hlocks, hin⟩ := hF
  subst hsz
  have hown : s.vm.findClass "ModuleBytesModel" = some m.cls := hown
  have hS : va_S A s.heap s.heap [] := va_S.rf
  have hl : lv_has ls 1 [(0, .int 1)] := hl
  refine lv_iload_n hx hb d_Md_head_0 rfl (lv_at hl 0 rfl) ?_
  refine lv_iconst (v := 1) hx hb d_Md_head_1 (by decide) ?_
  refine lv_icmp_ne (tgt := 10) hx hb d_Md_head_2 (by decide) (fun c_2 => absurd (by decide) c_2) (fun c_2 => ?_)
  refine lv_bipush (v := 97) hx hb d_Md_head_5 (by decide) ?_
  refine lv_goto (tgt := 40) hx hb d_Md_head_7 (by decide) ?_
  exact cRi () hx hb hr hlocks d_Md_head_40 hS hP hD rfl (Nat.le_refl _) (Nat.le_refl _)
set_option maxHeartbeats 4000000 in
set_option maxRecDepth 100000 in
theorem c_Md_head_2 (l : Launch) (hl9 : l.stackTraces = false) (D : va_G) (cA : Nat → ClassId) (ad : Nat → Nat) (sz : Nat)  :
    cM l y_Md_head (.code y_Md_head b_Md_head 1 (some .int) :: wAll) ({ frames := 0, cells := 0, slots := 0, locals := 0 }) D cA ad [.int 2] [] sz (fun v (_ : Unit) => v = some (.int (115))) (fun _ => False) (fun _ => []) (fun _ => (0, 0)) := by
  refine cM.ofW (cc := b_Md_head) (maxL := 1) (ret := (some .int)) (by decide) (Nat.le_of_ble_eq_true rfl) ?_
  intro pg ev s m bw meth cdx A ls hF hsz hA hE hP hD hl
  obtain ⟨⟨hx, hb, hml, hown, hts⟩, hr, hno, hlocks, hin⟩ := hF
  subst hsz
  have hown : s.vm.findClass "ModuleBytesModel" = some m.cls := hown
  have hS : va_S A s.heap s.heap [] := va_S.rf
  have hl : lv_has ls 1 [(0, .int 2)] := hl
  refine lv_iload_n hx hb d_Md_head_0 rfl (lv_at hl 0 rfl) ?_
  refine lv_iconst (v := 1) hx hb d_Md_head_1 (by decide) ?_
  refine lv_icmp_ne (tgt := 10) hx hb d_Md_head_2 (by decide) (fun c_2 => ?_) (fun c_2 => absurd c_2 (by decide))
  refine lv_iload_n hx hb d_Md_head_10 rfl (lv_at hl 0 rfl) ?_
  refine lv_iconst (v := 2) hx hb d_Md_head_11 (by decide) ?_
  refine lv_icmp_ne (tgt := 20) hx hb d_Md_head_12 (by decide) (fun c_12 => absurd (by decide) c_12) (fun c_12 => ?_)
  refine lv_bipush (v := 115) hx hb d_Md_head_15 (by decide) ?_
  refine lv_goto (tgt := 40) hx hb d_Md_head_17 (by decide) ?_
  exact cRi () hx hb hr hlocks d_Md_head_40 hS hP hD rfl (Nat.le_refl _) (Nat.le_refl _)
set_option maxHeartbeats 4000000 in
set_option maxRecDepth 100000 in
theorem c_Md_head_3 (l : Launch) (hl9 : l.stackTraces = false) (D : va_G) (cA : Nat → ClassId) (ad : Nat → Nat) (sz : Nat)  :
    cM l y_Md_head (.code y_Md_head b_Md_head 1 (some .int) :: wAll) ({ frames := 0, cells := 0, slots := 0, locals := 0 }) D cA ad [.int 3] [] sz (fun v (_ : Unit) => v = some (.int (109))) (fun _ => False) (fun _ => []) (fun _ => (0, 0)) := by
  refine cM.ofW (cc := b_Md_head) (maxL := 1) (ret := (some .int)) (by decide) (Nat.le_of_ble_eq_true rfl) ?_
  intro pg ev s m bw meth cdx A ls hF hsz hA hE hP hD hl
  obtain ⟨⟨hx, hb, hml, hown, hts⟩, hr, hno, hlocks, hin⟩ := hF
  subst hsz
  have hown : s.vm.findClass "ModuleBytesModel" = some m.cls := hown
  have hS : va_S A s.heap s.heap [] := va_S.rf
  have hl : lv_has ls 1 [(0, .int 3)] := hl
  refine lv_iload_n hx hb d_Md_head_0 rfl (lv_at hl 0 rfl) ?_
  refine lv_iconst (v := 1) hx hb d_Md_head_1 (by decide) ?_
  refine lv_icmp_ne (tgt := 10) hx hb d_Md_head_2 (by decide) (fun c_2 => ?_) (fun c_2 => absurd c_2 (by decide))
  refine lv_iload_n hx hb d_Md_head_10 rfl (lv_at hl 0 rfl) ?_
  refine lv_iconst (v := 2) hx hb d_Md_head_11 (by decide) ?_
  refine lv_icmp_ne (tgt := 20) hx hb d_Md_head_12 (by decide) (fun c_12 => ?_) (fun c_12 => absurd c_12 (by decide))
  refine lv_iload_n hx hb d_Md_head_20 rfl (lv_at hl 0 rfl) ?_
  refine lv_iconst (v := 3) hx hb d_Md_head_21 (by decide) ?_
  refine lv_icmp_ne (tgt := 30) hx hb d_Md_head_22 (by decide) (fun c_22 => absurd (by decide) c_22) (fun c_22 => ?_)
  refine lv_bipush (v := 109) hx hb d_Md_head_25 (by decide) ?_
  refine lv_goto (tgt := 40) hx hb d_Md_head_27 (by decide) ?_
  exact cRi () hx hb hr hlocks d_Md_head_40 hS hP hD rfl (Nat.le_refl _) (Nat.le_refl _)
set_option maxHeartbeats 4000000 in
set_option maxRecDepth 100000 in
theorem c_Md_head_4 (l : Launch) (hl9 : l.stackTraces = false) (D : va_G) (cA : Nat → ClassId) (ad : Nat → Nat) (sz : Nat)  :
    cM l y_Md_head (.code y_Md_head b_Md_head 1 (some .int) :: wAll) ({ frames := 0, cells := 0, slots := 0, locals := 0 }) D cA ad [.int 4] [] sz (fun v (_ : Unit) => v = some (.int (1))) (fun _ => False) (fun _ => []) (fun _ => (0, 0)) := by
  refine cM.ofW (cc := b_Md_head) (maxL := 1) (ret := (some .int)) (by decide) (Nat.le_of_ble_eq_true rfl) ?_
  intro pg ev s m bw meth cdx A ls hF hsz hA hE hP hD hl
  obtain ⟨⟨hx, hb, hml, hown, hts⟩, hr, hno, hlocks, hin⟩ := hF
  subst hsz
  have hown : s.vm.findClass "ModuleBytesModel" = some m.cls := hown
  have hS : va_S A s.heap s.heap [] := va_S.rf
  have hl : lv_has ls 1 [(0, .int 4)] := hl
  refine lv_iload_n hx hb d_Md_head_0 rfl (lv_at hl 0 rfl) ?_
  refine lv_iconst (v := 1) hx hb d_Md_head_1 (by decide) ?_
  refine lv_icmp_ne (tgt := 10) hx hb d_Md_head_2 (by decide) (fun c_2 => ?_) (fun c_2 => absurd c_2 (by decide))
  refine lv_iload_n hx hb d_Md_head_10 rfl (lv_at hl 0 rfl) ?_
  refine lv_iconst (v := 2) hx hb d_Md_head_11 (by decide) ?_
  refine lv_icmp_ne (tgt := 20) hx hb d_Md_head_12 (by decide) (fun c_12 => ?_) (fun c_12 => absurd c_12 (by decide))
  refine lv_iload_n hx hb d_Md_head_20 rfl (lv_at hl 0 rfl) ?_
  refine lv_iconst (v := 3) hx hb d_Md_head_21 (by decide) ?_
  refine lv_icmp_ne (tgt := 30) hx hb d_Md_head_22 (by decide) (fun c_22 => ?_) (fun c_22 => absurd c_22 (by decide))
  refine lv_iload_n hx hb d_Md_head_30 rfl (lv_at hl 0 rfl) ?_
  refine lv_iconst (v := 4) hx hb d_Md_head_31 (by decide) ?_
  refine lv_icmp_ne (tgt := 39) hx hb d_Md_head_32 (by decide) (fun c_32 => absurd (by decide) c_32) (fun c_32 => ?_)
  refine lv_iconst (v := 1) hx hb d_Md_head_35 (by decide) ?_
  refine lv_goto (tgt := 40) hx hb d_Md_head_36 (by decide) ?_
  exact cRi () hx hb hr hlocks d_Md_head_40 hS hP hD rfl (Nat.le_refl _) (Nat.le_refl _)
set_option maxHeartbeats 4000000 in
set_option maxRecDepth 100000 in
theorem c_Md_head_5 (l : Launch) (hl9 : l.stackTraces = false) (D : va_G) (cA : Nat → ClassId) (ad : Nat → Nat) (sz : Nat)  :
    cM l y_Md_head (.code y_Md_head b_Md_head 1 (some .int) :: wAll) ({ frames := 0, cells := 0, slots := 0, locals := 0 }) D cA ad [.int 5] [] sz (fun v (_ : Unit) => v = some (.int (0))) (fun _ => False) (fun _ => []) (fun _ => (0, 0)) := by
  refine cM.ofW (cc := b_Md_head) (maxL := 1) (ret := (some .int)) (by decide) (Nat.le_of_ble_eq_true rfl) ?_
  intro pg ev s m bw meth cdx A ls hF hsz hA hE hP hD hl
  obtain ⟨⟨hx, hb, hml, hown, hts⟩, hr, hno, hlocks, hin⟩ := hF
  subst hsz
  have hown : s.vm.findClass "ModuleBytesModel" = some m.cls := hown
  have hS : va_S A s.heap s.heap [] := va_S.rf
  have hl : lv_has ls 1 [(0, .int 5)] := hl
  refine lv_iload_n hx hb d_Md_head_0 rfl (lv_at hl 0 rfl) ?_
  refine lv_iconst (v := 1) hx hb d_Md_head_1 (by decide) ?_
  refine lv_icmp_ne (tgt := 10) hx hb d_Md_head_2 (by decide) (fun c_2 => ?_) (fun c_2 => absurd c_2 (by decide))
  refine lv_iload_n hx hb d_Md_head_10 rfl (lv_at hl 0 rfl) ?_
  refine lv_iconst (v := 2) hx hb d_Md_head_11 (by decide) ?_
  refine lv_icmp_ne (tgt := 20) hx hb d_Md_head_12 (by decide) (fun c_12 => ?_) (fun c_12 => absurd c_12 (by decide))
  refine lv_iload_n hx hb d_Md_head_20 rfl (lv_at hl 0 rfl) ?_
  refine lv_iconst (v := 3) hx hb d_Md_head_21 (by decide) ?_
  refine lv_icmp_ne (tgt := 30) hx hb d_Md_head_22 (by decide) (fun c_22 => ?_) (fun c_22 => absurd c_22 (by decide))
  refine lv_iload_n hx hb d_Md_head_30 rfl (lv_at hl 0 rfl) ?_
  refine lv_iconst (v := 4) hx hb d_Md_head_31 (by decide) ?_
  refine lv_icmp_ne (tgt := 39) hx hb d_Md_head_32 (by decide) (fun c_32 => ?_) (fun c_32 => absurd c_32 (by decide))
  refine lv_iconst (v := 0) hx hb d_Md_head_39 (by decide) ?_
  exact cRi () hx hb hr hlocks d_Md_head_40 hS hP hD rfl (Nat.le_refl _) (Nat.le_refl _)
set_option maxHeartbeats 4000000 in
set_option maxRecDepth 100000 in
theorem c_Md_head_6 (l : Launch) (hl9 : l.stackTraces = false) (D : va_G) (cA : Nat → ClassId) (ad : Nat → Nat) (sz : Nat)  :
    cM l y_Md_head (.code y_Md_head b_Md_head 1 (some .int) :: wAll) ({ frames := 0, cells := 0, slots := 0, locals := 0 }) D cA ad [.int 6] [] sz (fun v (_ : Unit) => v = some (.int (0))) (fun _ => False) (fun _ => []) (fun _ => (0, 0)) := by
  refine cM.ofW (cc := b_Md_head) (maxL := 1) (ret := (some .int)) (by decide) (Nat.le_of_ble_eq_true rfl) ?_
  intro pg ev s m bw meth cdx A ls hF hsz hA hE hP hD hl
  obtain ⟨⟨hx, hb, hml, hown, hts⟩, hr, hno, hlocks, hin⟩ := hF
  subst hsz
  have hown : s.vm.findClass "ModuleBytesModel" = some m.cls := hown
  have hS : va_S A s.heap s.heap [] := va_S.rf
  have hl : lv_has ls 1 [(0, .int 6)] := hl
  refine lv_iload_n hx hb d_Md_head_0 rfl (lv_at hl 0 rfl) ?_
  refine lv_iconst (v := 1) hx hb d_Md_head_1 (by decide) ?_
  refine lv_icmp_ne (tgt := 10) hx hb d_Md_head_2 (by decide) (fun c_2 => ?_) (fun c_2 => absurd c_2 (by decide))
  refine lv_iload_n hx hb d_Md_head_10 rfl (lv_at hl 0 rfl) ?_
  refine lv_iconst (v := 2) hx hb d_Md_head_11 (by decide) ?_
  refine lv_icmp_ne (tgt := 20) hx hb d_Md_head_12 (by decide) (fun c_12 => ?_) (fun c_12 => absurd c_12 (by decide))
  refine lv_iload_n hx hb d_Md_head_20 rfl (lv_at hl 0 rfl) ?_
  refine lv_iconst (v := 3) hx hb d_Md_head_21 (by decide) ?_
  refine lv_icmp_ne (tgt := 30) hx hb d_Md_head_22 (by decide) (fun c_22 => ?_) (fun c_22 => absurd c_22 (by decide))
  refine lv_iload_n hx hb d_Md_head_30 rfl (lv_at hl 0 rfl) ?_
  refine lv_iconst (v := 4) hx hb d_Md_head_31 (by decide) ?_
  refine lv_icmp_ne (tgt := 39) hx hb d_Md_head_32 (by decide) (fun c_32 => ?_) (fun c_32 => absurd c_32 (by decide))
  refine lv_iconst (v := 0) hx hb d_Md_head_39 (by decide) ?_
  exact cRi () hx hb hr hlocks d_Md_head_40 hS hP hD rfl (Nat.le_refl _) (Nat.le_refl _)
set_option maxHeartbeats 4000000 in
set_option maxRecDepth 100000 in
theorem c_Md_head_7 (l : Launch) (hl9 : l.stackTraces = false) (D : va_G) (cA : Nat → ClassId) (ad : Nat → Nat) (sz : Nat)  :
    cM l y_Md_head (.code y_Md_head b_Md_head 1 (some .int) :: wAll) ({ frames := 0, cells := 0, slots := 0, locals := 0 }) D cA ad [.int 7] [] sz (fun v (_ : Unit) => v = some (.int (0))) (fun _ => False) (fun _ => []) (fun _ => (0, 0)) := by
  refine cM.ofW (cc := b_Md_head) (maxL := 1) (ret := (some .int)) (by decide) (Nat.le_of_ble_eq_true rfl) ?_
  intro pg ev s m bw meth cdx A ls hF hsz hA hE hP hD hl
  obtain ⟨⟨hx, hb, hml, hown, hts⟩, hr, hno, hlocks, hin⟩ := hF
  subst hsz
  have hown : s.vm.findClass "ModuleBytesModel" = some m.cls := hown
  have hS : va_S A s.heap s.heap [] := va_S.rf
  have hl : lv_has ls 1 [(0, .int 7)] := hl
  refine lv_iload_n hx hb d_Md_head_0 rfl (lv_at hl 0 rfl) ?_
  refine lv_iconst (v := 1) hx hb d_Md_head_1 (by decide) ?_
  refine lv_icmp_ne (tgt := 10) hx hb d_Md_head_2 (by decide) (fun c_2 => ?_) (fun c_2 => absurd c_2 (by decide))
  refine lv_iload_n hx hb d_Md_head_10 rfl (lv_at hl 0 rfl) ?_
  refine lv_iconst (v := 2) hx hb d_Md_head_11 (by decide) ?_
  refine lv_icmp_ne (tgt := 20) hx hb d_Md_head_12 (by decide) (fun c_12 => ?_) (fun c_12 => absurd c_12 (by decide))
  refine lv_iload_n hx hb d_Md_head_20 rfl (lv_at hl 0 rfl) ?_
  refine lv_iconst (v := 3) hx hb d_Md_head_21 (by decide) ?_
  refine lv_icmp_ne (tgt := 30) hx hb d_Md_head_22 (by decide) (fun c_22 => ?_) (fun c_22 => absurd c_22 (by decide))
  refine lv_iload_n hx hb d_Md_head_30 rfl (lv_at hl 0 rfl) ?_
  refine lv_iconst (v := 4) hx hb d_Md_head_31 (by decide) ?_
  refine lv_icmp_ne (tgt := 39) hx hb d_Md_head_32 (by decide) (fun c_32 => ?_) (fun c_32 => absurd c_32 (by decide))
  refine lv_iconst (v := 0) hx hb d_Md_head_39 (by decide) ?_
  exact cRi () hx hb hr hlocks d_Md_head_40 hS hP hD rfl (Nat.le_refl _) (Nat.le_refl _)
