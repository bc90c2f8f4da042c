theorem sLook_bk {LS : Nat → RL} {LL : List Int64} {kk : Nat} {k c : Int32} (hk : kk < 2 ^ 31) (h : k < 0 ∨ nI (LS kk).length ≤ k) : sLook LS LL (nI kk) k c = -1 := by
  refine sLook_bad (Or.inr (Or.inr ?_))
  rw [nI_clamp hk]
  exact h.elim Or.inl (fun q => Or.inr (Or.inl q))
theorem sLook_bc {LS : Nat → RL} {LL : List Int64} {x k c : Int32} (h : c < 0) : sLook LS LL x k c = -1 := sLook_bad (Or.inr (Or.inr (Or.inr (Or.inr h))))
theorem sLook_bx {LS : Nat → RL} {LL : List Int64} {x k c : Int32} (h : x < 1 ∨ 10 < x) : sLook LS LL x k c = -1 := sLook_bad (h.elim Or.inl (fun q => Or.inr (Or.inl q)))
set_option maxHeartbeats 4000000 in
set_option maxRecDepth 100000 in
/-- look(k, i, what) -/
theorem c_Md_look (l : Launch) (hl9 : l.stackTraces = false) (D : va_G) (cA : Nat → ClassId) (ad : Nat → Nat) (sz : Nat) (m0 : Nat) (g : Nat → Nat) (K : MK) (A0 : A3) (e np : Int32) (B : MB) (yb : Nat → Int32) (b : Nat → Nat) (N : Nat) (hN : N ≤ 2000) (hybN : ∀ i, i < N → yb i = nI (b i)) (hb9 : ∀ i, b i < 256) (T : TL) (X : XL) (LS : Nat → RL) (LL : List Int64) (hrel : REL b N T X LS LL) (hT : T.length ≤ 2000) (hX : X.length ≤ 2000) (hLL : LL.length < 2 ^ 31) (kd fr to re ow fi be : Nat → Int32) (hTH : TH kd fr to re T) (hXH : XH ow fi be X) (x k c : Int32) :
    cM l y_Md_look (.code y_Md_look b_Md_look 6 (some .long) :: wAll) ({ frames := 3, cells := 0, slots := 0, locals := 80 }) D cA ad [.ref m0, .int x, .int k, .int c] [(m0, .inr (6, mF g (K.1, K.2.1, K.2.2.1, nI T.length, nI X.length, K.2.2.2.2.2.1, K.2.2.2.2.2.2.1, K.2.2.2.2.2.2.2.1, K.2.2.2.2.2.2.2.2) A0 e np B)), ((g 30), .inl (cA 3, 2000, .inl yb)), ((g 34), .inl (cA 3, 2000, .inl kd)), ((g 35), .inl (cA 3, 2000, .inl fr)), ((g 36), .inl (cA 3, 2000, .inl to)), ((g 37), .inl (cA 3, 2000, .inl re)), ((g 38), .inl (cA 3, 2000, .inl ow)), ((g 39), .inl (cA 3, 2000, .inl fi)), ((g 40), .inl (cA 3, 2000, .inl be))] sz (fun v (_ : Int32) => v = some (.long (sLook LS LL x k c))) (fun _ => False) (fun (q : Int32) => [(m0, .inr (6, mF g (K.1, K.2.1, K.2.2.1, nI T.length, nI X.length, K.2.2.2.2.2.1, K.2.2.2.2.2.2.1, K.2.2.2.2.2.2.2.1, q) A0 e np B)), ((g 30), .inl (cA 3, 2000, .inl yb)), ((g 34), .inl (cA 3, 2000, .inl kd)), ((g 35), .inl (cA 3, 2000, .inl fr)), ((g 36), .inl (cA 3, 2000, .inl to)), ((g 37), .inl (cA 3, 2000, .inl re)), ((g 38), .inl (cA 3, 2000, .inl ow)), ((g 39), .inl (cA 3, 2000, .inl fi)), ((g 40), .inl (cA 3, 2000, .inl be))]) (fun _ => (0, 0)) := by
  refine cM.ofW (cc := b_Md_look) (maxL := 6) (ret := (some .long)) (by decide) (Nat.le_of_ble_eq_true rfl) ?_
  intro pg ev s m bw meth cdx A ls hF hsz hA hE hP hD hl
  obtain ⟨⟨hx, hb, hml, hown, hts⟩, hr, hno, hlocks, hin⟩ := hF
  subst hsz
  have hown : s.vm.findClass "ModuleBytesModel" = some m.cls := hown
  have hS : va_S A s.heap s.heap [] := va_S.rf
  have hl : lv_has ls 6 [(0, .ref m0), (1, .int x), (2, .int k), (3, .int c)] := hl
  have hP : va_P D cls [(m0, .inr (6, mF g (K.1, K.2.1, K.2.2.1, nI T.length, nI X.length, K.2.2.2.2.2.1, K.2.2.2.2.2.2.1, K.2.2.2.2.2.2.2.1, K.2.2.2.2.2.2.2.2) A0 e np B)), ((g 30), .inl (cA 3, 2000, .inl yb)), ((g 34), .inl (cA 3, 2000, .inl kd)), ((g 35), .inl (cA 3, 2000, .inl fr)), ((g 36), .inl (cA 3, 2000, .inl to)), ((g 37), .inl (cA 3, 2000, .inl re)), ((g 38), .inl (cA 3, 2000, .inl ow)), ((g 39), .inl (cA 3, 2000, .inl fi)), ((g 40), .inl (cA 3, 2000, .inl be))] s.heap := hP
  have hD : va_D A [(m0, .inr (6, mF g (K.1, K.2.1, K.2.2.1, nI T.length, nI X.length, K.2.2.2.2.2.1, K.2.2.2.2.2.2.1, K.2.2.2.2.2.2.2.1, K.2.2.2.2.2.2.2.2) A0 e np B)), ((g 30), .inl (cA 3, 2000, .inl yb)), ((g 34), .inl (cA 3, 2000, .inl kd)), ((g 35), .inl (cA 3, 2000, .inl fr)), ((g 36), .inl (cA 3, 2000, .inl to)), ((g 37), .inl (cA 3, 2000, .inl re)), ((g 38), .inl (cA 3, 2000, .inl ow)), ((g 39), .inl (cA 3, 2000, .inl fi)), ((g 40), .inl (cA 3, 2000, .inl be))] := hD
  have hXf : ∀ x ∈ X, x.1 < 2000 ∧ x.2.1 ≤ 2000 ∧ ∃ z : Nat, x.2.2 = some z ∧ z ≤ 2000 := fun x hx => ⟨by have := (hrel.1 x hx).1; omega, (hrel.1 x hx).2⟩
  have h11 := hrel.2.1
  have hLk : ∀ k, k < 11 → (LS k).length ≤ 2000 := fun k hk => by rw [← (hrel.2.2 k hk).1, ← cK_of hk hTH h11]; have := cK_le kd (nI k) T.length; omega
  refine lv_iload_n hx hb d_Md_look_0 rfl (lv_at hl 1 rfl) ?_
  refine lv_iconst (v := 1) hx hb d_Md_look_1 (by decide) ?_
  refine lv_icmp_lt (tgt := 11) hx hb d_Md_look_2 (by decide) (fun c_2 => ?_) (fun c_2 => ?_)
  · refine lv_iconst (v := (-1)) hx hb d_Md_look_11 (by decide) ?_
    refine lv_goto (tgt := 21) hx hb d_Md_look_12 (by decide) ?_
    refine lv_istore (lv' := [(4, .int (-1)), (0, .ref m0), (1, .int x), (2, .int k), (3, .int c)]) hx hb d_Md_look_21 hl (by decide) rfl (fun ls hl => ?_)
    refine lv_iload hx hb d_Md_look_23 (lv_at hl 0 rfl) ?_
    refine lv_if_lt (tgt := 32) hx hb d_Md_look_25 (by decide) (fun c_25 => ?_) (fun c_25 => absurd (by decide) c_25)
    refine lv_ldc2 hx hb hown (hts _ (List.mem_cons_of_mem _ iw3_204)) d_Md_look_32 ?_
    exact cRl (K.2.2.2.2.2.2.2.2) hx hb hr hlocks d_Md_look_35 hS hP hD (congrArg (fun z : Int64 => some (Value.long z)) (sLook_bx (LS := LS) (LL := LL) (x := x) (k := k) (c := c) (by first | exact Or.inl c_2 | exact Or.inr (Int32.not_le.mp c_8))).symm) (Nat.le_refl _) (Nat.le_refl _)
  · refine lv_iload_n hx hb d_Md_look_5 rfl (lv_at hl 1 rfl) ?_
    refine lv_bipush (v := 10) hx hb d_Md_look_6 (by decide) ?_
    refine lv_icmp_le (tgt := 15) hx hb d_Md_look_8 (by decide) (fun c_8 => ?_) (fun c_8 => ?_)
    · obtain ⟨kk, hkk, ekk⟩ : ∃ kk : Nat, kk < 2 ^ 31 ∧ x = nI kk := i32_nn (fun q => c_2 (Int32.lt_trans q (by decide)))
      subst ekk
      have hk1 : 1 ≤ kk := Nat.le_of_not_lt (fun q => c_2 (nI_lt (a := kk) (b := 1) q (by decide)))
      have hk10 : kk ≤ 10 := (nI_leI (a := kk) (b := 10) hkk (by decide)).mp c_8
      rcases (show kk = 1 ∨ kk = 2 ∨ kk = 3 ∨ kk = 4 ∨ kk = 5 ∨ kk = 6 ∨ kk = 7 ∨ kk = 8 ∨ kk = 9 ∨ kk = 10 by omega) with rfl | rfl | rfl | rfl | rfl | rfl | rfl | rfl | rfl | rfl
      · have hl : lv_has ls 6 [(0, .ref m0), (1, .int 1), (2, .int k), (3, .int c)] := hl
        refine lv_aload_n hx hb d_Md_look_15 rfl (lv_at hl 0 rfl) ?_
        refine lv_iload_n hx hb d_Md_look_16 rfl (lv_at hl 1 rfl) ?_
        refine lv_iload_n hx hb d_Md_look_17 rfl (lv_at hl 2 rfl) ?_
        refine cV (As := [.int 1, .int k]) (rest := []) (n := 2) (wc := [(m0, .inr (6, mF g (K.1, K.2.1, K.2.2.1, nI T.length, nI X.length, K.2.2.2.2.2.1, K.2.2.2.2.2.2.1, K.2.2.2.2.2.2.2.1, K.2.2.2.2.2.2.2.2) A0 e np B)), ((g 34), .inl (cA 3, 2000, .inl kd))]) (wr := [((g 30), .inl (cA 3, 2000, .inl yb)), ((g 35), .inl (cA 3, 2000, .inl fr)), ((g 36), .inl (cA 3, 2000, .inl to)), ((g 37), .inl (cA 3, 2000, .inl re)), ((g 38), .inl (cA 3, 2000, .inl ow)), ((g 39), .inl (cA 3, 2000, .inl fi)), ((g 40), .inl (cA 3, 2000, .inl be))]) ⟨hx, hb, hml, hown, hts⟩ hno hlocks hl.1 (c_Md_thingOf l hl9 D cA ad s.heap.size m0 g (K.1, K.2.1, K.2.2.1, nI T.length, nI X.length, K.2.2.2.2.2.1, K.2.2.2.2.2.2.1, K.2.2.2.2.2.2.2.1, K.2.2.2.2.2.2.2.2) A0 e np B kd fr to re T hTH h11 hT 1 (by decide) k) iw4_128 iw4_130 sel_Md_thingOf iw1_7 iw4_131 (by decide +kernel) rfl ⟨Nat.le_of_ble_eq_true rfl, Nat.le_of_ble_eq_true rfl⟩ ⟨Nat.le_of_ble_eq_true rfl, Nat.le_of_ble_eq_true rfl⟩ rfl (Nat.le_of_ble_eq_true rfl) d_Md_look_18 hE hP hD hS hA [0, 2] [1, 3, 4, 5, 6, 7, 8] rfl rfl rfl rfl (by decide) (ci := 6) rfl rfl 0 rfl (fun _ h => h.elim) (fun v_18 u_18 H locs hp_18 hP hD hS => ?_)
        rcases hp_18 with ⟨rfl, hbad⟩ | ⟨j, t, hj31, ej, hjt, htl, rfl⟩
        · have hbad : k < 0 ∨ nI (LS 1).length ≤ k := hbad.elim Or.inl (fun q => by obtain ⟨j, hj, rfl, q⟩ := q; exact Or.inr (nI_le (by rw [← (hrel.2.2 1 (by decide)).1]; exact q) hj))
          have hP : va_P D cls [(m0, .inr (6, mF g (K.1, K.2.1, K.2.2.1, nI T.length, nI X.length, K.2.2.2.2.2.1, K.2.2.2.2.2.2.1, K.2.2.2.2.2.2.2.1, K.2.2.2.2.2.2.2.2) A0 e np B)), ((g 30), .inl (cA 3, 2000, .inl yb)), ((g 34), .inl (cA 3, 2000, .inl kd)), ((g 35), .inl (cA 3, 2000, .inl fr)), ((g 36), .inl (cA 3, 2000, .inl to)), ((g 37), .inl (cA 3, 2000, .inl re)), ((g 38), .inl (cA 3, 2000, .inl ow)), ((g 39), .inl (cA 3, 2000, .inl fi)), ((g 40), .inl (cA 3, 2000, .inl be))] H := hP.sub [7, 0, 8, 1, 2, 3, 4, 5, 6] rfl
          have hD : va_D A [(m0, .inr (6, mF g (K.1, K.2.1, K.2.2.1, nI T.length, nI X.length, K.2.2.2.2.2.1, K.2.2.2.2.2.2.1, K.2.2.2.2.2.2.2.1, K.2.2.2.2.2.2.2.2) A0 e np B)), ((g 30), .inl (cA 3, 2000, .inl yb)), ((g 34), .inl (cA 3, 2000, .inl kd)), ((g 35), .inl (cA 3, 2000, .inl fr)), ((g 36), .inl (cA 3, 2000, .inl to)), ((g 37), .inl (cA 3, 2000, .inl re)), ((g 38), .inl (cA 3, 2000, .inl ow)), ((g 39), .inl (cA 3, 2000, .inl fi)), ((g 40), .inl (cA 3, 2000, .inl be))] := hD.sub [7, 0, 8, 1, 2, 3, 4, 5, 6] (by decide) rfl
          refine W.cs (cells' := 0) (slots' := 0) rfl rfl ?_
          refine W.eq (g2 := F0 m 21 ls [.int (-1)]) rfl ?_
          refine lv_istore (lv' := [(4, .int (-1)), (0, .ref m0), (1, .int 1), (2, .int k), (3, .int c)]) hx hb d_Md_look_21 hl (by decide) rfl (fun ls hl => ?_)
          refine lv_iload hx hb d_Md_look_23 (lv_at hl 0 rfl) ?_
          refine lv_if_lt (tgt := 32) hx hb d_Md_look_25 (by decide) (fun c_25 => ?_) (fun c_25 => absurd (by decide) c_25)
          refine lv_ldc2 hx hb hown (hts _ (List.mem_cons_of_mem _ iw3_204)) d_Md_look_32 ?_
          exact cRl (K.2.2.2.2.2.2.2.2) hx hb hr hlocks d_Md_look_35 hS hP hD (congrArg (fun z : Int64 => some (Value.long z)) (sLook_bk (LS := LS) (LL := LL) (kk := 1) (k := k) (c := c) (by decide) hbad).symm) (Nat.le_refl _) (Nat.le_refl _)
        · subst ej
          have hP : va_P D cls [(m0, .inr (6, mF g (K.1, K.2.1, K.2.2.1, nI T.length, nI X.length, K.2.2.2.2.2.1, K.2.2.2.2.2.2.1, K.2.2.2.2.2.2.2.1, K.2.2.2.2.2.2.2.2) A0 e np B)), ((g 30), .inl (cA 3, 2000, .inl yb)), ((g 34), .inl (cA 3, 2000, .inl kd)), ((g 35), .inl (cA 3, 2000, .inl fr)), ((g 36), .inl (cA 3, 2000, .inl to)), ((g 37), .inl (cA 3, 2000, .inl re)), ((g 38), .inl (cA 3, 2000, .inl ow)), ((g 39), .inl (cA 3, 2000, .inl fi)), ((g 40), .inl (cA 3, 2000, .inl be))] H := hP.sub [7, 0, 8, 1, 2, 3, 4, 5, 6] rfl
          have hD : va_D A [(m0, .inr (6, mF g (K.1, K.2.1, K.2.2.1, nI T.length, nI X.length, K.2.2.2.2.2.1, K.2.2.2.2.2.2.1, K.2.2.2.2.2.2.2.1, K.2.2.2.2.2.2.2.2) A0 e np B)), ((g 30), .inl (cA 3, 2000, .inl yb)), ((g 34), .inl (cA 3, 2000, .inl kd)), ((g 35), .inl (cA 3, 2000, .inl fr)), ((g 36), .inl (cA 3, 2000, .inl to)), ((g 37), .inl (cA 3, 2000, .inl re)), ((g 38), .inl (cA 3, 2000, .inl ow)), ((g 39), .inl (cA 3, 2000, .inl fi)), ((g 40), .inl (cA 3, 2000, .inl be))] := hD.sub [7, 0, 8, 1, 2, 3, 4, 5, 6] (by decide) rfl
          refine W.cs (cells' := 0) (slots' := 0) rfl rfl ?_
          refine W.eq (g2 := F0 m 21 ls [.int (nI t)]) rfl ?_
          have hl : lv_has ls 6 [(0, .ref m0), (1, .int 1), (2, .int (nI j)), (3, .int c)] := hl
          have hjl : j < (LS 1).length := by rw [← (hrel.2.2 1 (by decide)).1]; exact (List.getElem?_eq_some_iff.mp hjt).1
          obtain ⟨t2, f0, o, e1, e2, e3, e4⟩ := (hrel.2.2 1 (by decide)).2 j hjl
          have et : t2 = t := Option.some.inj (e1.symm.trans hjt)
          subst et
          obtain ⟨-, hfr, hto⟩ := TH_at hTH e2
          rw [e3] at hfr hto
          have hfr : fr t2 = nI f0 := hfr
          obtain ⟨z, hz⟩ : ∃ z, z = ((LS 1).getD j (0, c_1)).2 := ⟨_, rfl⟩
          rw [← hz] at e4
          obtain ⟨lm, dc, a', hlmN, hfl, p0, p1, p2, p3, p4, p5, p6, p7, p8, p9, p10⟩ := e4
          have hlm : lm ≤ 2000 := by omega
          have hyb : ∀ i, i < lm → yb i = nI (b i) := fun i hi => hybN i (by omega)
          refine lv_istore (lv' := [(4, .int (nI t2)), (0, .ref m0), (1, .int 1), (2, .int (nI j)), (3, .int c)]) hx hb d_Md_look_21 hl (by decide) rfl (fun ls hl => ?_)
          refine lv_iload hx hb d_Md_look_23 (lv_at hl 0 rfl) ?_
          refine lv_if_lt (tgt := 32) hx hb d_Md_look_25 (by decide) (fun c_25 => absurd c_25 (nI_pos (by omega))) (fun c_25 => ?_)
          refine lv_iload_n hx hb d_Md_look_28 rfl (lv_at hl 4 rfl) ?_
          refine lv_if_ge (tgt := 36) hx hb d_Md_look_29 (by decide) (fun c_29 => ?_) (fun c_29 => ?_)
          · obtain ⟨wh, hwh, ewh⟩ := i32_nn (Int32.not_lt.mpr c_29)
            subst ewh
            have hl : lv_has ls 6 [(4, .int (nI t2)), (0, .ref m0), (1, .int 1), (2, .int (nI j)), (3, .int (nI wh))] := hl
            have hS9 : sLook LS LL (nI 1) (nI j) (nI wh) = lkS 1 z LL wh := by rw [hz]; exact sLook_ok (by decide) hjl (by have := hLk 1 (by decide); omega) hwh
            refine lv_aload_n hx hb d_Md_look_36 rfl (lv_at hl 1 rfl) ?_
            refine lv_aload_n hx hb d_Md_look_37 rfl (lv_at hl 1 rfl) ?_
            refine va_get (D := D) (ci := 6) (v := .ref (g 35)) (C := R_Md) (T := F_Md) (N := 44) hx hb hts (fun w h => List.mem_cons_of_mem _ (i_Md w h)) hown hE.1 hP 0 rfl rfl 35 (by decide) (hts _ (List.mem_cons_of_mem _ iw3_89)) (fun _ h9 => h9) rfl d_Md_look_38 ?_
            refine lv_iload hx hb d_Md_look_41 (lv_at hl 0 rfl) ?_
            refine va_iald hx hb hE.1 hP 3 3 rfl rfl (vp_in_nI (by omega) (by omega)) d_Md_look_43 ?_
            rw [nI_clamp (n := t2) (by omega), hfr]
            refine va_put (D := D) (ci := 6) (v := .int (nI f0)) (ty := .int) (C := R_Md) (T := F_Md) (N := 44) hx hb hts (fun w h => List.mem_cons_of_mem _ (i_Md w h)) t_Md tk_Md n_Md hown hE.1 hP hD hS 0 rfl rfl 43 (by decide) (hts _ (List.mem_cons_of_mem _ iw3_97)) (fun _ h9 => h9) rfl (by decide +kernel) rfl rfl (Nat.le_of_ble_eq_true rfl) d_Md_look_44 (fun H locs hP hD hS => ?_)
            have hP : va_P D cls [(m0, .inr (6, mF g (K.1, K.2.1, K.2.2.1, nI T.length, nI X.length, K.2.2.2.2.2.1, K.2.2.2.2.2.2.1, K.2.2.2.2.2.2.2.1, nI f0) A0 e np B)), ((g 30), .inl (cA 3, 2000, .inl yb)), ((g 34), .inl (cA 3, 2000, .inl kd)), ((g 35), .inl (cA 3, 2000, .inl fr)), ((g 36), .inl (cA 3, 2000, .inl to)), ((g 37), .inl (cA 3, 2000, .inl re)), ((g 38), .inl (cA 3, 2000, .inl ow)), ((g 39), .inl (cA 3, 2000, .inl fi)), ((g 40), .inl (cA 3, 2000, .inl be))] H := hP
            have hD : va_D A [(m0, .inr (6, mF g (K.1, K.2.1, K.2.2.1, nI T.length, nI X.length, K.2.2.2.2.2.1, K.2.2.2.2.2.2.1, K.2.2.2.2.2.2.2.1, nI f0) A0 e np B)), ((g 30), .inl (cA 3, 2000, .inl yb)), ((g 34), .inl (cA 3, 2000, .inl kd)), ((g 35), .inl (cA 3, 2000, .inl fr)), ((g 36), .inl (cA 3, 2000, .inl to)), ((g 37), .inl (cA 3, 2000, .inl re)), ((g 38), .inl (cA 3, 2000, .inl ow)), ((g 39), .inl (cA 3, 2000, .inl fi)), ((g 40), .inl (cA 3, 2000, .inl be))] := hD
            refine lv_iload_n hx hb d_Md_look_47 rfl (lv_at hl 2 rfl) ?_
            refine lv_tableIn (off := 52) (tgt := 100) hx hb d_Md_look_48 (by decide) (by decide) (by decide) (by decide) ?_
            refine lv_aload_n hx hb d_Md_look_100 rfl (lv_at hl 1 rfl) ?_
            refine lv_iload hx hb d_Md_look_101 (lv_at hl 0 rfl) ?_
            refine lv_iload_n hx hb d_Md_look_103 rfl (lv_at hl 4 rfl) ?_
            refine cV (As := [.int (nI t2), .int (nI wh)]) (rest := []) (n := 2) (wc := [(m0, .inr (6, mF g (K.1, K.2.1, K.2.2.1, nI T.length, nI X.length, K.2.2.2.2.2.1, K.2.2.2.2.2.2.1, K.2.2.2.2.2.2.2.1, nI f0) A0 e np B)), ((g 30), .inl (cA 3, 2000, .inl yb))]) (wr := [((g 34), .inl (cA 3, 2000, .inl kd)), ((g 35), .inl (cA 3, 2000, .inl fr)), ((g 36), .inl (cA 3, 2000, .inl to)), ((g 37), .inl (cA 3, 2000, .inl re)), ((g 38), .inl (cA 3, 2000, .inl ow)), ((g 39), .inl (cA 3, 2000, .inl fi)), ((g 40), .inl (cA 3, 2000, .inl be))]) ⟨hx, hb, hml, hown, hts⟩ hno hlocks hl.1 (c_Md_lookImport l hl9 D cA ad H.size m0 g (K.1, K.2.1, K.2.2.1, nI T.length, nI X.length, K.2.2.2.2.2.1, K.2.2.2.2.2.2.1, K.2.2.2.2.2.2.2.1, nI f0) A0 e np B yb b lm hlm hyb hb9 f0 a' z hfl (p1 rfl) LL (nI t2) wh hwh) iw4_140 iw4_142 sel_Md_lookImport iw1_7 iw4_143 (by decide +kernel) rfl ⟨Nat.le_of_ble_eq_true rfl, Nat.le_of_ble_eq_true rfl⟩ ⟨Nat.le_of_ble_eq_true rfl, Nat.le_of_ble_eq_true rfl⟩ rfl (Nat.le_of_ble_eq_true rfl) d_Md_look_104 hE hP hD hS hA [0, 1] [2, 3, 4, 5, 6, 7, 8] rfl rfl rfl rfl (by decide) (ci := 6) rfl rfl 0 rfl (fun _ h => h.elim) (fun v_104 u_104 H locs hp_104 hP hD hS => ?_)
            obtain rfl := hp_104
            obtain ⟨qq270, hqq270⟩ : ∃ z : Int32, z = u_104 := ⟨_, rfl⟩
            rw [← hqq270] at hP hD
            have hP : va_P D cls [(m0, .inr (6, mF g (K.1, K.2.1, K.2.2.1, nI T.length, nI X.length, K.2.2.2.2.2.1, K.2.2.2.2.2.2.1, K.2.2.2.2.2.2.2.1, qq270) A0 e np B)), ((g 30), .inl (cA 3, 2000, .inl yb)), ((g 34), .inl (cA 3, 2000, .inl kd)), ((g 35), .inl (cA 3, 2000, .inl fr)), ((g 36), .inl (cA 3, 2000, .inl to)), ((g 37), .inl (cA 3, 2000, .inl re)), ((g 38), .inl (cA 3, 2000, .inl ow)), ((g 39), .inl (cA 3, 2000, .inl fi)), ((g 40), .inl (cA 3, 2000, .inl be))] H := hP.sub [7, 8, 0, 1, 2, 3, 4, 5, 6] rfl
            have hD : va_D A [(m0, .inr (6, mF g (K.1, K.2.1, K.2.2.1, nI T.length, nI X.length, K.2.2.2.2.2.1, K.2.2.2.2.2.2.1, K.2.2.2.2.2.2.2.1, qq270) A0 e np B)), ((g 30), .inl (cA 3, 2000, .inl yb)), ((g 34), .inl (cA 3, 2000, .inl kd)), ((g 35), .inl (cA 3, 2000, .inl fr)), ((g 36), .inl (cA 3, 2000, .inl to)), ((g 37), .inl (cA 3, 2000, .inl re)), ((g 38), .inl (cA 3, 2000, .inl ow)), ((g 39), .inl (cA 3, 2000, .inl fi)), ((g 40), .inl (cA 3, 2000, .inl be))] := hD.sub [7, 8, 0, 1, 2, 3, 4, 5, 6] (by decide) rfl
            refine W.cs (cells' := 0) (slots' := 0) rfl rfl ?_
            refine W.eq (g2 := F0 m 107 ls [.long (lkS 1 z LL wh)]) rfl ?_
            exact cRl (qq270) hx hb hr hlocks d_Md_look_107 hS hP hD (by rw [hS9]) (Nat.le_refl _) (Nat.le_refl _)
          · refine lv_ldc2 hx hb hown (hts _ (List.mem_cons_of_mem _ iw3_204)) d_Md_look_32 ?_
            exact cRl (K.2.2.2.2.2.2.2.2) hx hb hr hlocks d_Md_look_35 hS hP hD (congrArg (fun z : Int64 => some (Value.long z)) (sLook_bc (LS := LS) (LL := LL) (x := nI 1) (k := nI j) (c := c) (Int32.not_le.mp c_29)).symm) (Nat.le_refl _) (Nat.le_refl _)
      · have hl : lv_has ls 6 [(0, .ref m0), (1, .int 2), (2, .int k), (3, .int c)] := hl
        refine lv_aload_n hx hb d_Md_look_15 rfl (lv_at hl 0 rfl) ?_
        refine lv_iload_n hx hb d_Md_look_16 rfl (lv_at hl 1 rfl) ?_
        refine lv_iload_n hx hb d_Md_look_17 rfl (lv_at hl 2 rfl) ?_
        refine cV (As := [.int 2, .int k]) (rest := []) (n := 2) (wc := [(m0, .inr (6, mF g (K.1, K.2.1, K.2.2.1, nI T.length, nI X.length, K.2.2.2.2.2.1, K.2.2.2.2.2.2.1, K.2.2.2.2.2.2.2.1, K.2.2.2.2.2.2.2.2) A0 e np B)), ((g 34), .inl (cA 3, 2000, .inl kd))]) (wr := [((g 30), .inl (cA 3, 2000, .inl yb)), ((g 35), .inl (cA 3, 2000, .inl fr)), ((g 36), .inl (cA 3, 2000, .inl to)), ((g 37), .inl (cA 3, 2000, .inl re)), ((g 38), .inl (cA 3, 2000, .inl ow)), ((g 39), .inl (cA 3, 2000, .inl fi)), ((g 40), .inl (cA 3, 2000, .inl be))]) ⟨hx, hb, hml, hown, hts⟩ hno hlocks hl.1 (c_Md_thingOf l hl9 D cA ad s.heap.size m0 g (K.1, K.2.1, K.2.2.1, nI T.length, nI X.length, K.2.2.2.2.2.1, K.2.2.2.2.2.2.1, K.2.2.2.2.2.2.2.1, K.2.2.2.2.2.2.2.2) A0 e np B kd fr to re T hTH h11 hT 2 (by decide) k) iw4_128 iw4_130 sel_Md_thingOf iw1_7 iw4_131 (by decide +kernel) rfl ⟨Nat.le_of_ble_eq_true rfl, Nat.le_of_ble_eq_true rfl⟩ ⟨Nat.le_of_ble_eq_true rfl, Nat.le_of_ble_eq_true rfl⟩ rfl (Nat.le_of_ble_eq_true rfl) d_Md_look_18 hE hP hD hS hA [0, 2] [1, 3, 4, 5, 6, 7, 8] rfl rfl rfl rfl (by decide) (ci := 6) rfl rfl 0 rfl (fun _ h => h.elim) (fun v_18 u_18 H locs hp_18 hP hD hS => ?_)
        rcases hp_18 with ⟨rfl, hbad⟩ | ⟨j, t, hj31, ej, hjt, htl, rfl⟩
        · have hbad : k < 0 ∨ nI (LS 2).length ≤ k := hbad.elim Or.inl (fun q => by obtain ⟨j, hj, rfl, q⟩ := q; exact Or.inr (nI_le (by rw [← (hrel.2.2 2 (by decide)).1]; exact q) hj))
          have hP : va_P D cls [(m0, .inr (6, mF g (K.1, K.2.1, K.2.2.1, nI T.length, nI X.length, K.2.2.2.2.2.1, K.2.2.2.2.2.2.1, K.2.2.2.2.2.2.2.1, K.2.2.2.2.2.2.2.2) A0 e np B)), ((g 30), .inl (cA 3, 2000, .inl yb)), ((g 34), .inl (cA 3, 2000, .inl kd)), ((g 35), .inl (cA 3, 2000, .inl fr)), ((g 36), .inl (cA 3, 2000, .inl to)), ((g 37), .inl (cA 3, 2000, .inl re)), ((g 38), .inl (cA 3, 2000, .inl ow)), ((g 39), .inl (cA 3, 2000, .inl fi)), ((g 40), .inl (cA 3, 2000, .inl be))] H := hP.sub [7, 0, 8, 1, 2, 3, 4, 5, 6] rfl
          have hD : va_D A [(m0, .inr (6, mF g (K.1, K.2.1, K.2.2.1, nI T.length, nI X.length, K.2.2.2.2.2.1, K.2.2.2.2.2.2.1, K.2.2.2.2.2.2.2.1, K.2.2.2.2.2.2.2.2) A0 e np B)), ((g 30), .inl (cA 3, 2000, .inl yb)), ((g 34), .inl (cA 3, 2000, .inl kd)), ((g 35), .inl (cA 3, 2000, .inl fr)), ((g 36), .inl (cA 3, 2000, .inl to)), ((g 37), .inl (cA 3, 2000, .inl re)), ((g 38), .inl (cA 3, 2000, .inl ow)), ((g 39), .inl (cA 3, 2000, .inl fi)), ((g 40), .inl (cA 3, 2000, .inl be))] := hD.sub [7, 0, 8, 1, 2, 3, 4, 5, 6] (by decide) rfl
          refine W.cs (cells' := 0) (slots' := 0) rfl rfl ?_
          refine W.eq (g2 := F0 m 21 ls [.int (-1)]) rfl ?_
          refine lv_istore (lv' := [(4, .int (-1)), (0, .ref m0), (1, .int 2), (2, .int k), (3, .int c)]) hx hb d_Md_look_21 hl (by decide) rfl (fun ls hl => ?_)
          refine lv_iload hx hb d_Md_look_23 (lv_at hl 0 rfl) ?_
          refine lv_if_lt (tgt := 32) hx hb d_Md_look_25 (by decide) (fun c_25 => ?_) (fun c_25 => absurd (by decide) c_25)
          refine lv_ldc2 hx hb hown (hts _ (List.mem_cons_of_mem _ iw3_204)) d_Md_look_32 ?_
          exact cRl (K.2.2.2.2.2.2.2.2) hx hb hr hlocks d_Md_look_35 hS hP hD (congrArg (fun z : Int64 => some (Value.long z)) (sLook_bk (LS := LS) (LL := LL) (kk := 2) (k := k) (c := c) (by decide) hbad).symm) (Nat.le_refl _) (Nat.le_refl _)
        · subst ej
          have hP : va_P D cls [(m0, .inr (6, mF g (K.1, K.2.1, K.2.2.1, nI T.length, nI X.length, K.2.2.2.2.2.1, K.2.2.2.2.2.2.1, K.2.2.2.2.2.2.2.1, K.2.2.2.2.2.2.2.2) A0 e np B)), ((g 30), .inl (cA 3, 2000, .inl yb)), ((g 34), .inl (cA 3, 2000, .inl kd)), ((g 35), .inl (cA 3, 2000, .inl fr)), ((g 36), .inl (cA 3, 2000, .inl to)), ((g 37), .inl (cA 3, 2000, .inl re)), ((g 38), .inl (cA 3, 2000, .inl ow)), ((g 39), .inl (cA 3, 2000, .inl fi)), ((g 40), .inl (cA 3, 2000, .inl be))] H := hP.sub [7, 0, 8, 1, 2, 3, 4, 5, 6] rfl
          have hD : va_D A [(m0, .inr (6, mF g (K.1, K.2.1, K.2.2.1, nI T.length, nI X.length, K.2.2.2.2.2.1, K.2.2.2.2.2.2.1, K.2.2.2.2.2.2.2.1, K.2.2.2.2.2.2.2.2) A0 e np B)), ((g 30), .inl (cA 3, 2000, .inl yb)), ((g 34), .inl (cA 3, 2000, .inl kd)), ((g 35), .inl (cA 3, 2000, .inl fr)), ((g 36), .inl (cA 3, 2000, .inl to)), ((g 37), .inl (cA 3, 2000, .inl re)), ((g 38), .inl (cA 3, 2000, .inl ow)), ((g 39), .inl (cA 3, 2000, .inl fi)), ((g 40), .inl (cA 3, 2000, .inl be))] := hD.sub [7, 0, 8, 1, 2, 3, 4, 5, 6] (by decide) rfl
          refine W.cs (cells' := 0) (slots' := 0) rfl rfl ?_
          refine W.eq (g2 := F0 m 21 ls [.int (nI t)]) rfl ?_
          have hl : lv_has ls 6 [(0, .ref m0), (1, .int 2), (2, .int (nI j)), (3, .int c)] := hl
          have hjl : j < (LS 2).length := by rw [← (hrel.2.2 2 (by decide)).1]; exact (List.getElem?_eq_some_iff.mp hjt).1
          obtain ⟨t2, f0, o, e1, e2, e3, e4⟩ := (hrel.2.2 2 (by decide)).2 j hjl
          have et : t2 = t := Option.some.inj (e1.symm.trans hjt)
          subst et
          obtain ⟨-, hfr, hto⟩ := TH_at hTH e2
          rw [e3] at hfr hto
          have hfr : fr t2 = nI f0 := hfr
          obtain ⟨z, hz⟩ : ∃ z, z = ((LS 2).getD j (0, c_1)).2 := ⟨_, rfl⟩
          rw [← hz] at e4
          obtain ⟨lm, dc, a', hlmN, hfl, p0, p1, p2, p3, p4, p5, p6, p7, p8, p9, p10⟩ := e4
          have hlm : lm ≤ 2000 := by omega
          have hyb : ∀ i, i < lm → yb i = nI (b i) := fun i hi => hybN i (by omega)
          refine lv_istore (lv' := [(4, .int (nI t2)), (0, .ref m0), (1, .int 2), (2, .int (nI j)), (3, .int c)]) hx hb d_Md_look_21 hl (by decide) rfl (fun ls hl => ?_)
          refine lv_iload hx hb d_Md_look_23 (lv_at hl 0 rfl) ?_
          refine lv_if_lt (tgt := 32) hx hb d_Md_look_25 (by decide) (fun c_25 => absurd c_25 (nI_pos (by omega))) (fun c_25 => ?_)
          refine lv_iload_n hx hb d_Md_look_28 rfl (lv_at hl 4 rfl) ?_
          refine lv_if_ge (tgt := 36) hx hb d_Md_look_29 (by decide) (fun c_29 => ?_) (fun c_29 => ?_)
          · obtain ⟨wh, hwh, ewh⟩ := i32_nn (Int32.not_lt.mpr c_29)
            subst ewh
            have hl : lv_has ls 6 [(4, .int (nI t2)), (0, .ref m0), (1, .int 2), (2, .int (nI j)), (3, .int (nI wh))] := hl
            have hS9 : sLook LS LL (nI 2) (nI j) (nI wh) = lkS 2 z LL wh := by rw [hz]; exact sLook_ok (by decide) hjl (by have := hLk 2 (by decide); omega) hwh
            refine lv_aload_n hx hb d_Md_look_36 rfl (lv_at hl 1 rfl) ?_
            refine lv_aload_n hx hb d_Md_look_37 rfl (lv_at hl 1 rfl) ?_
            refine va_get (D := D) (ci := 6) (v := .ref (g 35)) (C := R_Md) (T := F_Md) (N := 44) hx hb hts (fun w h => List.mem_cons_of_mem _ (i_Md w h)) hown hE.1 hP 0 rfl rfl 35 (by decide) (hts _ (List.mem_cons_of_mem _ iw3_89)) (fun _ h9 => h9) rfl d_Md_look_38 ?_
            refine lv_iload hx hb d_Md_look_41 (lv_at hl 0 rfl) ?_
            refine va_iald hx hb hE.1 hP 3 3 rfl rfl (vp_in_nI (by omega) (by omega)) d_Md_look_43 ?_
            rw [nI_clamp (n := t2) (by omega), hfr]
            refine va_put (D := D) (ci := 6) (v := .int (nI f0)) (ty := .int) (C := R_Md) (T := F_Md) (N := 44) hx hb hts (fun w h => List.mem_cons_of_mem _ (i_Md w h)) t_Md tk_Md n_Md hown hE.1 hP hD hS 0 rfl rfl 43 (by decide) (hts _ (List.mem_cons_of_mem _ iw3_97)) (fun _ h9 => h9) rfl (by decide +kernel) rfl rfl (Nat.le_of_ble_eq_true rfl) d_Md_look_44 (fun H locs hP hD hS => ?_)
            have hP : va_P D cls [(m0, .inr (6, mF g (K.1, K.2.1, K.2.2.1, nI T.length, nI X.length, K.2.2.2.2.2.1, K.2.2.2.2.2.2.1, K.2.2.2.2.2.2.2.1, nI f0) A0 e np B)), ((g 30), .inl (cA 3, 2000, .inl yb)), ((g 34), .inl (cA 3, 2000, .inl kd)), ((g 35), .inl (cA 3, 2000, .inl fr)), ((g 36), .inl (cA 3, 2000, .inl to)), ((g 37), .inl (cA 3, 2000, .inl re)), ((g 38), .inl (cA 3, 2000, .inl ow)), ((g 39), .inl (cA 3, 2000, .inl fi)), ((g 40), .inl (cA 3, 2000, .inl be))] H := hP
            have hD : va_D A [(m0, .inr (6, mF g (K.1, K.2.1, K.2.2.1, nI T.length, nI X.length, K.2.2.2.2.2.1, K.2.2.2.2.2.2.1, K.2.2.2.2.2.2.2.1, nI f0) A0 e np B)), ((g 30), .inl (cA 3, 2000, .inl yb)), ((g 34), .inl (cA 3, 2000, .inl kd)), ((g 35), .inl (cA 3, 2000, .inl fr)), ((g 36), .inl (cA 3, 2000, .inl to)), ((g 37), .inl (cA 3, 2000, .inl re)), ((g 38), .inl (cA 3, 2000, .inl ow)), ((g 39), .inl (cA 3, 2000, .inl fi)), ((g 40), .inl (cA 3, 2000, .inl be))] := hD
            obtain ⟨v, hv, rfl⟩ := pFun_inv (p2 rfl)
            rcases (show wh = 0 ∨ wh = 1 ∨ wh = 2 ∨ wh = 3 ∨ wh = 4 ∨ wh = 5 ∨ wh = 6 ∨ wh = 7 ∨ 8 ≤ wh by omega) with rfl | rfl | rfl | rfl | rfl | rfl | rfl | rfl | hw8
            · have hl : lv_has ls 6 [(4, .int (nI t2)), (0, .ref m0), (1, .int 2), (2, .int (nI j)), (3, .int 0)] := hl
              refine lv_iload_n hx hb d_Md_look_47 rfl (lv_at hl 2 rfl) ?_
              refine lv_tableIn (off := 60) (tgt := 108) hx hb d_Md_look_48 (by decide) (by decide) (by decide) (by decide) ?_
              refine lv_iload_n hx hb d_Md_look_108 rfl (lv_at hl 4 rfl) ?_
              refine lv_if_ne (tgt := 119) hx hb d_Md_look_109 (by decide) (fun c_109 => absurd (by decide) c_109) (fun c_109 => ?_)
              refine lv_aload_n hx hb d_Md_look_112 rfl (lv_at hl 1 rfl) ?_
              refine cV (As := []) (rest := []) (n := 0) (wc := [(m0, .inr (6, mF g (K.1, K.2.1, K.2.2.1, nI T.length, nI X.length, K.2.2.2.2.2.1, K.2.2.2.2.2.2.1, K.2.2.2.2.2.2.2.1, nI f0) A0 e np B)), ((g 30), .inl (cA 3, 2000, .inl yb))]) (wr := [((g 34), .inl (cA 3, 2000, .inl kd)), ((g 35), .inl (cA 3, 2000, .inl fr)), ((g 36), .inl (cA 3, 2000, .inl to)), ((g 37), .inl (cA 3, 2000, .inl re)), ((g 38), .inl (cA 3, 2000, .inl ow)), ((g 39), .inl (cA 3, 2000, .inl fi)), ((g 40), .inl (cA 3, 2000, .inl be))]) ⟨hx, hb, hml, hown, hts⟩ hno hlocks hl.1 (c_Md_number l hl9 D cA ad H.size m0 g (K.1, K.2.1, K.2.2.1, nI T.length, nI X.length, K.2.2.2.2.2.1, K.2.2.2.2.2.2.1, K.2.2.2.2.2.2.2.1, nI f0) A0 e np B yb b lm hlm hyb hb9 f0 v a' (by omega) hv) iw4_132 iw4_134 sel_Md_number iw1_7 iw4_135 (by decide +kernel) rfl ⟨Nat.le_of_ble_eq_true rfl, Nat.le_of_ble_eq_true rfl⟩ ⟨Nat.le_of_ble_eq_true rfl, Nat.le_of_ble_eq_true rfl⟩ rfl (Nat.le_of_ble_eq_true rfl) d_Md_look_113 hE hP hD hS hA [0, 1] [2, 3, 4, 5, 6, 7, 8] rfl rfl rfl rfl (by decide) (ci := 6) rfl rfl 0 rfl (fun _ h => h.elim) (fun v_113 u_113 H locs hp_113 hP hD hS => ?_)
              obtain rfl := hp_113
              have hP : va_P D cls [(m0, .inr (6, mF g (K.1, K.2.1, K.2.2.1, nI T.length, nI X.length, K.2.2.2.2.2.1, K.2.2.2.2.2.2.1, K.2.2.2.2.2.2.2.1, nI a') A0 e np B)), ((g 30), .inl (cA 3, 2000, .inl yb)), ((g 34), .inl (cA 3, 2000, .inl kd)), ((g 35), .inl (cA 3, 2000, .inl fr)), ((g 36), .inl (cA 3, 2000, .inl to)), ((g 37), .inl (cA 3, 2000, .inl re)), ((g 38), .inl (cA 3, 2000, .inl ow)), ((g 39), .inl (cA 3, 2000, .inl fi)), ((g 40), .inl (cA 3, 2000, .inl be))] H := hP.sub [7, 8, 0, 1, 2, 3, 4, 5, 6] rfl
              have hD : va_D A [(m0, .inr (6, mF g (K.1, K.2.1, K.2.2.1, nI T.length, nI X.length, K.2.2.2.2.2.1, K.2.2.2.2.2.2.1, K.2.2.2.2.2.2.2.1, nI a') A0 e np B)), ((g 30), .inl (cA 3, 2000, .inl yb)), ((g 34), .inl (cA 3, 2000, .inl kd)), ((g 35), .inl (cA 3, 2000, .inl fr)), ((g 36), .inl (cA 3, 2000, .inl to)), ((g 37), .inl (cA 3, 2000, .inl re)), ((g 38), .inl (cA 3, 2000, .inl ow)), ((g 39), .inl (cA 3, 2000, .inl fi)), ((g 40), .inl (cA 3, 2000, .inl be))] := hD.sub [7, 8, 0, 1, 2, 3, 4, 5, 6] (by decide) rfl
              refine W.cs (cells' := 0) (slots' := 0) rfl rfl ?_
              refine W.eq (g2 := F0 m 116 ls [.long (lN v)]) rfl ?_
              refine lv_goto (tgt := 122) hx hb d_Md_look_116 (by decide) ?_
              exact cRl (nI a') hx hb hr hlocks d_Md_look_122 hS hP hD (by rw [hS9]; exact rfl) (Nat.le_refl _) (Nat.le_refl _)
            · have hl : lv_has ls 6 [(4, .int (nI t2)), (0, .ref m0), (1, .int 2), (2, .int (nI j)), (3, .int 1)] := hl
              refine lv_iload_n hx hb d_Md_look_47 rfl (lv_at hl 2 rfl) ?_
              refine lv_tableIn (off := 60) (tgt := 108) hx hb d_Md_look_48 (by decide) (by decide) (by decide) (by decide) ?_
              refine lv_iload_n hx hb d_Md_look_108 rfl (lv_at hl 4 rfl) ?_
              refine lv_if_ne (tgt := 119) hx hb d_Md_look_109 (by decide) (fun c_109 => ?_) (fun c_109 => absurd c_109 (by decide))
              refine lv_ldc2 hx hb hown (hts _ (List.mem_cons_of_mem _ iw3_204)) d_Md_look_119 ?_
              exact cRl (nI f0) hx hb hr hlocks d_Md_look_122 hS hP hD (by rw [hS9]; exact rfl) (Nat.le_refl _) (Nat.le_refl _)
            · have hl : lv_has ls 6 [(4, .int (nI t2)), (0, .ref m0), (1, .int 2), (2, .int (nI j)), (3, .int 2)] := hl
              refine lv_iload_n hx hb d_Md_look_47 rfl (lv_at hl 2 rfl) ?_
              refine lv_tableIn (off := 60) (tgt := 108) hx hb d_Md_look_48 (by decide) (by decide) (by decide) (by decide) ?_
              refine lv_iload_n hx hb d_Md_look_108 rfl (lv_at hl 4 rfl) ?_
              refine lv_if_ne (tgt := 119) hx hb d_Md_look_109 (by decide) (fun c_109 => ?_) (fun c_109 => absurd c_109 (by decide))
              refine lv_ldc2 hx hb hown (hts _ (List.mem_cons_of_mem _ iw3_204)) d_Md_look_119 ?_
              exact cRl (nI f0) hx hb hr hlocks d_Md_look_122 hS hP hD (by rw [hS9]; exact rfl) (Nat.le_refl _) (Nat.le_refl _)
            · have hl : lv_has ls 6 [(4, .int (nI t2)), (0, .ref m0), (1, .int 2), (2, .int (nI j)), (3, .int 3)] := hl
              refine lv_iload_n hx hb d_Md_look_47 rfl (lv_at hl 2 rfl) ?_
              refine lv_tableIn (off := 60) (tgt := 108) hx hb d_Md_look_48 (by decide) (by decide) (by decide) (by decide) ?_
              refine lv_iload_n hx hb d_Md_look_108 rfl (lv_at hl 4 rfl) ?_
              refine lv_if_ne (tgt := 119) hx hb d_Md_look_109 (by decide) (fun c_109 => ?_) (fun c_109 => absurd c_109 (by decide))
              refine lv_ldc2 hx hb hown (hts _ (List.mem_cons_of_mem _ iw3_204)) d_Md_look_119 ?_
              exact cRl (nI f0) hx hb hr hlocks d_Md_look_122 hS hP hD (by rw [hS9]; exact rfl) (Nat.le_refl _) (Nat.le_refl _)
            · have hl : lv_has ls 6 [(4, .int (nI t2)), (0, .ref m0), (1, .int 2), (2, .int (nI j)), (3, .int 4)] := hl
              refine lv_iload_n hx hb d_Md_look_47 rfl (lv_at hl 2 rfl) ?_
              refine lv_tableIn (off := 60) (tgt := 108) hx hb d_Md_look_48 (by decide) (by decide) (by decide) (by decide) ?_
              refine lv_iload_n hx hb d_Md_look_108 rfl (lv_at hl 4 rfl) ?_
              refine lv_if_ne (tgt := 119) hx hb d_Md_look_109 (by decide) (fun c_109 => ?_) (fun c_109 => absurd c_109 (by decide))
              refine lv_ldc2 hx hb hown (hts _ (List.mem_cons_of_mem _ iw3_204)) d_Md_look_119 ?_
              exact cRl (nI f0) hx hb hr hlocks d_Md_look_122 hS hP hD (by rw [hS9]; exact rfl) (Nat.le_refl _) (Nat.le_refl _)
            · have hl : lv_has ls 6 [(4, .int (nI t2)), (0, .ref m0), (1, .int 2), (2, .int (nI j)), (3, .int 5)] := hl
              refine lv_iload_n hx hb d_Md_look_47 rfl (lv_at hl 2 rfl) ?_
              refine lv_tableIn (off := 60) (tgt := 108) hx hb d_Md_look_48 (by decide) (by decide) (by decide) (by decide) ?_
              refine lv_iload_n hx hb d_Md_look_108 rfl (lv_at hl 4 rfl) ?_
              refine lv_if_ne (tgt := 119) hx hb d_Md_look_109 (by decide) (fun c_109 => ?_) (fun c_109 => absurd c_109 (by decide))
              refine lv_ldc2 hx hb hown (hts _ (List.mem_cons_of_mem _ iw3_204)) d_Md_look_119 ?_
              exact cRl (nI f0) hx hb hr hlocks d_Md_look_122 hS hP hD (by rw [hS9]; exact rfl) (Nat.le_refl _) (Nat.le_refl _)
            · have hl : lv_has ls 6 [(4, .int (nI t2)), (0, .ref m0), (1, .int 2), (2, .int (nI j)), (3, .int 6)] := hl
              refine lv_iload_n hx hb d_Md_look_47 rfl (lv_at hl 2 rfl) ?_
              refine lv_tableIn (off := 60) (tgt := 108) hx hb d_Md_look_48 (by decide) (by decide) (by decide) (by decide) ?_
              refine lv_iload_n hx hb d_Md_look_108 rfl (lv_at hl 4 rfl) ?_
              refine lv_if_ne (tgt := 119) hx hb d_Md_look_109 (by decide) (fun c_109 => ?_) (fun c_109 => absurd c_109 (by decide))
              refine lv_ldc2 hx hb hown (hts _ (List.mem_cons_of_mem _ iw3_204)) d_Md_look_119 ?_
              exact cRl (nI f0) hx hb hr hlocks d_Md_look_122 hS hP hD (by rw [hS9]; exact rfl) (Nat.le_refl _) (Nat.le_refl _)
            · have hl : lv_has ls 6 [(4, .int (nI t2)), (0, .ref m0), (1, .int 2), (2, .int (nI j)), (3, .int 7)] := hl
              refine lv_iload_n hx hb d_Md_look_47 rfl (lv_at hl 2 rfl) ?_
              refine lv_tableIn (off := 60) (tgt := 108) hx hb d_Md_look_48 (by decide) (by decide) (by decide) (by decide) ?_
              refine lv_iload_n hx hb d_Md_look_108 rfl (lv_at hl 4 rfl) ?_
              refine lv_if_ne (tgt := 119) hx hb d_Md_look_109 (by decide) (fun c_109 => ?_) (fun c_109 => absurd c_109 (by decide))
              refine lv_ldc2 hx hb hown (hts _ (List.mem_cons_of_mem _ iw3_204)) d_Md_look_119 ?_
              exact cRl (nI f0) hx hb hr hlocks d_Md_look_122 hS hP hD (by rw [hS9]; exact rfl) (Nat.le_refl _) (Nat.le_refl _)
            · have hl := hl
              refine lv_iload_n hx hb d_Md_look_47 rfl (lv_at hl 2 rfl) ?_
              refine lv_tableIn (off := 60) (tgt := 108) hx hb d_Md_look_48 (by decide) (by decide) (by decide) (by decide) ?_
              refine lv_iload_n hx hb d_Md_look_108 rfl (lv_at hl 4 rfl) ?_
              refine lv_if_ne (tgt := 119) hx hb d_Md_look_109 (by decide) (fun c_109 => ?_) (fun c_109 => absurd c_109 (fun q => absurd ((nI_eq (a := wh) (b := 0) (by omega) (by decide)).mp q) (by omega)))
              refine lv_ldc2 hx hb hown (hts _ (List.mem_cons_of_mem _ iw3_204)) d_Md_look_119 ?_
              exact cRl (nI f0) hx hb hr hlocks d_Md_look_122 hS hP hD (by rw [hS9]; exact by rw [lkS, if_pos hw8]; rfl) (Nat.le_refl _) (Nat.le_refl _)
          · refine lv_ldc2 hx hb hown (hts _ (List.mem_cons_of_mem _ iw3_204)) d_Md_look_32 ?_
            exact cRl (K.2.2.2.2.2.2.2.2) hx hb hr hlocks d_Md_look_35 hS hP hD (congrArg (fun z : Int64 => some (Value.long z)) (sLook_bc (LS := LS) (LL := LL) (x := nI 2) (k := nI j) (c := c) (Int32.not_le.mp c_29)).symm) (Nat.le_refl _) (Nat.le_refl _)
      · have hl : lv_has ls 6 [(0, .ref m0), (1, .int 3), (2, .int k), (3, .int c)] := hl
        refine lv_aload_n hx hb d_Md_look_15 rfl (lv_at hl 0 rfl) ?_
        refine lv_iload_n hx hb d_Md_look_16 rfl (lv_at hl 1 rfl) ?_
        refine lv_iload_n hx hb d_Md_look_17 rfl (lv_at hl 2 rfl) ?_
        refine cV (As := [.int 3, .int k]) (rest := []) (n := 2) (wc := [(m0, .inr (6, mF g (K.1, K.2.1, K.2.2.1, nI T.length, nI X.length, K.2.2.2.2.2.1, K.2.2.2.2.2.2.1, K.2.2.2.2.2.2.2.1, K.2.2.2.2.2.2.2.2) A0 e np B)), ((g 34), .inl (cA 3, 2000, .inl kd))]) (wr := [((g 30), .inl (cA 3, 2000, .inl yb)), ((g 35), .inl (cA 3, 2000, .inl fr)), ((g 36), .inl (cA 3, 2000, .inl to)), ((g 37), .inl (cA 3, 2000, .inl re)), ((g 38), .inl (cA 3, 2000, .inl ow)), ((g 39), .inl (cA 3, 2000, .inl fi)), ((g 40), .inl (cA 3, 2000, .inl be))]) ⟨hx, hb, hml, hown, hts⟩ hno hlocks hl.1 (c_Md_thingOf l hl9 D cA ad s.heap.size m0 g (K.1, K.2.1, K.2.2.1, nI T.length, nI X.length, K.2.2.2.2.2.1, K.2.2.2.2.2.2.1, K.2.2.2.2.2.2.2.1, K.2.2.2.2.2.2.2.2) A0 e np B kd fr to re T hTH h11 hT 3 (by decide) k) iw4_128 iw4_130 sel_Md_thingOf iw1_7 iw4_131 (by decide +kernel) rfl ⟨Nat.le_of_ble_eq_true rfl, Nat.le_of_ble_eq_true rfl⟩ ⟨Nat.le_of_ble_eq_true rfl, Nat.le_of_ble_eq_true rfl⟩ rfl (Nat.le_of_ble_eq_true rfl) d_Md_look_18 hE hP hD hS hA [0, 2] [1, 3, 4, 5, 6, 7, 8] rfl rfl rfl rfl (by decide) (ci := 6) rfl rfl 0 rfl (fun _ h => h.elim) (fun v_18 u_18 H locs hp_18 hP hD hS => ?_)
        rcases hp_18 with ⟨rfl, hbad⟩ | ⟨j, t, hj31, ej, hjt, htl, rfl⟩
        · have hbad : k < 0 ∨ nI (LS 3).length ≤ k := hbad.elim Or.inl (fun q => by obtain ⟨j, hj, rfl, q⟩ := q; exact Or.inr (nI_le (by rw [← (hrel.2.2 3 (by decide)).1]; exact q) hj))
          have hP : va_P D cls [(m0, .inr (6, mF g (K.1, K.2.1, K.2.2.1, nI T.length, nI X.length, K.2.2.2.2.2.1, K.2.2.2.2.2.2.1, K.2.2.2.2.2.2.2.1, K.2.2.2.2.2.2.2.2) A0 e np B)), ((g 30), .inl (cA 3, 2000, .inl yb)), ((g 34), .inl (cA 3, 2000, .inl kd)), ((g 35), .inl (cA 3, 2000, .inl fr)), ((g 36), .inl (cA 3, 2000, .inl to)), ((g 37), .inl (cA 3, 2000, .inl re)), ((g 38), .inl (cA 3, 2000, .inl ow)), ((g 39), .inl (cA 3, 2000, .inl fi)), ((g 40), .inl (cA 3, 2000, .inl be))] H := hP.sub [7, 0, 8, 1, 2, 3, 4, 5, 6] rfl
          have hD : va_D A [(m0, .inr (6, mF g (K.1, K.2.1, K.2.2.1, nI T.length, nI X.length, K.2.2.2.2.2.1, K.2.2.2.2.2.2.1, K.2.2.2.2.2.2.2.1, K.2.2.2.2.2.2.2.2) A0 e np B)), ((g 30), .inl (cA 3, 2000, .inl yb)), ((g 34), .inl (cA 3, 2000, .inl kd)), ((g 35), .inl (cA 3, 2000, .inl fr)), ((g 36), .inl (cA 3, 2000, .inl to)), ((g 37), .inl (cA 3, 2000, .inl re)), ((g 38), .inl (cA 3, 2000, .inl ow)), ((g 39), .inl (cA 3, 2000, .inl fi)), ((g 40), .inl (cA 3, 2000, .inl be))] := hD.sub [7, 0, 8, 1, 2, 3, 4, 5, 6] (by decide) rfl
          refine W.cs (cells' := 0) (slots' := 0) rfl rfl ?_
          refine W.eq (g2 := F0 m 21 ls [.int (-1)]) rfl ?_
          refine lv_istore (lv' := [(4, .int (-1)), (0, .ref m0), (1, .int 3), (2, .int k), (3, .int c)]) hx hb d_Md_look_21 hl (by decide) rfl (fun ls hl => ?_)
          refine lv_iload hx hb d_Md_look_23 (lv_at hl 0 rfl) ?_
          refine lv_if_lt (tgt := 32) hx hb d_Md_look_25 (by decide) (fun c_25 => ?_) (fun c_25 => absurd (by decide) c_25)
          refine lv_ldc2 hx hb hown (hts _ (List.mem_cons_of_mem _ iw3_204)) d_Md_look_32 ?_
          exact cRl (K.2.2.2.2.2.2.2.2) hx hb hr hlocks d_Md_look_35 hS hP hD (congrArg (fun z : Int64 => some (Value.long z)) (sLook_bk (LS := LS) (LL := LL) (kk := 3) (k := k) (c := c) (by decide) hbad).symm) (Nat.le_refl _) (Nat.le_refl _)
        · subst ej
          have hP : va_P D cls [(m0, .inr (6, mF g (K.1, K.2.1, K.2.2.1, nI T.length, nI X.length, K.2.2.2.2.2.1, K.2.2.2.2.2.2.1, K.2.2.2.2.2.2.2.1, K.2.2.2.2.2.2.2.2) A0 e np B)), ((g 30), .inl (cA 3, 2000, .inl yb)), ((g 34), .inl (cA 3, 2000, .inl kd)), ((g 35), .inl (cA 3, 2000, .inl fr)), ((g 36), .inl (cA 3, 2000, .inl to)), ((g 37), .inl (cA 3, 2000, .inl re)), ((g 38), .inl (cA 3, 2000, .inl ow)), ((g 39), .inl (cA 3, 2000, .inl fi)), ((g 40), .inl (cA 3, 2000, .inl be))] H := hP.sub [7, 0, 8, 1, 2, 3, 4, 5, 6] rfl
          have hD : va_D A [(m0, .inr (6, mF g (K.1, K.2.1, K.2.2.1, nI T.length, nI X.length, K.2.2.2.2.2.1, K.2.2.2.2.2.2.1, K.2.2.2.2.2.2.2.1, K.2.2.2.2.2.2.2.2) A0 e np B)), ((g 30), .inl (cA 3, 2000, .inl yb)), ((g 34), .inl (cA 3, 2000, .inl kd)), ((g 35), .inl (cA 3, 2000, .inl fr)), ((g 36), .inl (cA 3, 2000, .inl to)), ((g 37), .inl (cA 3, 2000, .inl re)), ((g 38), .inl (cA 3, 2000, .inl ow)), ((g 39), .inl (cA 3, 2000, .inl fi)), ((g 40), .inl (cA 3, 2000, .inl be))] := hD.sub [7, 0, 8, 1, 2, 3, 4, 5, 6] (by decide) rfl
          refine W.cs (cells' := 0) (slots' := 0) rfl rfl ?_
          refine W.eq (g2 := F0 m 21 ls [.int (nI t)]) rfl ?_
          have hl : lv_has ls 6 [(0, .ref m0), (1, .int 3), (2, .int (nI j)), (3, .int c)] := hl
          have hjl : j < (LS 3).length := by rw [← (hrel.2.2 3 (by decide)).1]; exact (List.getElem?_eq_some_iff.mp hjt).1
          obtain ⟨t2, f0, o, e1, e2, e3, e4⟩ := (hrel.2.2 3 (by decide)).2 j hjl
          have et : t2 = t := Option.some.inj (e1.symm.trans hjt)
          subst et
          obtain ⟨-, hfr, hto⟩ := TH_at hTH e2
          rw [e3] at hfr hto
          have hfr : fr t2 = nI f0 := hfr
          obtain ⟨z, hz⟩ : ∃ z, z = ((LS 3).getD j (0, c_1)).2 := ⟨_, rfl⟩
          rw [← hz] at e4
          obtain ⟨lm, dc, a', hlmN, hfl, p0, p1, p2, p3, p4, p5, p6, p7, p8, p9, p10⟩ := e4
          have hlm : lm ≤ 2000 := by omega
          have hyb : ∀ i, i < lm → yb i = nI (b i) := fun i hi => hybN i (by omega)
          refine lv_istore (lv' := [(4, .int (nI t2)), (0, .ref m0), (1, .int 3), (2, .int (nI j)), (3, .int c)]) hx hb d_Md_look_21 hl (by decide) rfl (fun ls hl => ?_)
          refine lv_iload hx hb d_Md_look_23 (lv_at hl 0 rfl) ?_
          refine lv_if_lt (tgt := 32) hx hb d_Md_look_25 (by decide) (fun c_25 => absurd c_25 (nI_pos (by omega))) (fun c_25 => ?_)
          refine lv_iload_n hx hb d_Md_look_28 rfl (lv_at hl 4 rfl) ?_
          refine lv_if_ge (tgt := 36) hx hb d_Md_look_29 (by decide) (fun c_29 => ?_) (fun c_29 => ?_)
          · obtain ⟨wh, hwh, ewh⟩ := i32_nn (Int32.not_lt.mpr c_29)
            subst ewh
            have hl : lv_has ls 6 [(4, .int (nI t2)), (0, .ref m0), (1, .int 3), (2, .int (nI j)), (3, .int (nI wh))] := hl
            have hS9 : sLook LS LL (nI 3) (nI j) (nI wh) = lkS 3 z LL wh := by rw [hz]; exact sLook_ok (by decide) hjl (by have := hLk 3 (by decide); omega) hwh
            refine lv_aload_n hx hb d_Md_look_36 rfl (lv_at hl 1 rfl) ?_
            refine lv_aload_n hx hb d_Md_look_37 rfl (lv_at hl 1 rfl) ?_
            refine va_get (D := D) (ci := 6) (v := .ref (g 35)) (C := R_Md) (T := F_Md) (N := 44) hx hb hts (fun w h => List.mem_cons_of_mem _ (i_Md w h)) hown hE.1 hP 0 rfl rfl 35 (by decide) (hts _ (List.mem_cons_of_mem _ iw3_89)) (fun _ h9 => h9) rfl d_Md_look_38 ?_
            refine lv_iload hx hb d_Md_look_41 (lv_at hl 0 rfl) ?_
            refine va_iald hx hb hE.1 hP 3 3 rfl rfl (vp_in_nI (by omega) (by omega)) d_Md_look_43 ?_
            rw [nI_clamp (n := t2) (by omega), hfr]
            refine va_put (D := D) (ci := 6) (v := .int (nI f0)) (ty := .int) (C := R_Md) (T := F_Md) (N := 44) hx hb hts (fun w h => List.mem_cons_of_mem _ (i_Md w h)) t_Md tk_Md n_Md hown hE.1 hP hD hS 0 rfl rfl 43 (by decide) (hts _ (List.mem_cons_of_mem _ iw3_97)) (fun _ h9 => h9) rfl (by decide +kernel) rfl rfl (Nat.le_of_ble_eq_true rfl) d_Md_look_44 (fun H locs hP hD hS => ?_)
            have hP : va_P D cls [(m0, .inr (6, mF g (K.1, K.2.1, K.2.2.1, nI T.length, nI X.length, K.2.2.2.2.2.1, K.2.2.2.2.2.2.1, K.2.2.2.2.2.2.2.1, nI f0) A0 e np B)), ((g 30), .inl (cA 3, 2000, .inl yb)), ((g 34), .inl (cA 3, 2000, .inl kd)), ((g 35), .inl (cA 3, 2000, .inl fr)), ((g 36), .inl (cA 3, 2000, .inl to)), ((g 37), .inl (cA 3, 2000, .inl re)), ((g 38), .inl (cA 3, 2000, .inl ow)), ((g 39), .inl (cA 3, 2000, .inl fi)), ((g 40), .inl (cA 3, 2000, .inl be))] H := hP
            have hD : va_D A [(m0, .inr (6, mF g (K.1, K.2.1, K.2.2.1, nI T.length, nI X.length, K.2.2.2.2.2.1, K.2.2.2.2.2.2.1, K.2.2.2.2.2.2.2.1, nI f0) A0 e np B)), ((g 30), .inl (cA 3, 2000, .inl yb)), ((g 34), .inl (cA 3, 2000, .inl kd)), ((g 35), .inl (cA 3, 2000, .inl fr)), ((g 36), .inl (cA 3, 2000, .inl to)), ((g 37), .inl (cA 3, 2000, .inl re)), ((g 38), .inl (cA 3, 2000, .inl ow)), ((g 39), .inl (cA 3, 2000, .inl fi)), ((g 40), .inl (cA 3, 2000, .inl be))] := hD
            obtain ⟨ht1, hzl⟩ := pTab_inv2 (p3 rfl)
            obtain ⟨v, b2, v2, b3, hl1, hl2, hl3, hl4, rfl⟩ := pLim_inv hzl
            obtain ⟨hc2, hc3⟩ := lim2 (cols := vp_updL c_1 1 (lN (b f0))) (v := v) (v2 := v2) hl2 rfl
            rcases (show wh = 0 ∨ wh = 1 ∨ wh = 2 ∨ wh = 3 ∨ wh = 4 ∨ wh = 5 ∨ wh = 6 ∨ wh = 7 ∨ 8 ≤ wh by omega) with rfl | rfl | rfl | rfl | rfl | rfl | rfl | rfl | hw8
            · have hl : lv_has ls 6 [(4, .int (nI t2)), (0, .ref m0), (1, .int 3), (2, .int (nI j)), (3, .int 0)] := hl
              refine lv_iload_n hx hb d_Md_look_47 rfl (lv_at hl 2 rfl) ?_
              refine lv_tableIn (off := 75) (tgt := 123) hx hb d_Md_look_48 (by decide) (by decide) (by decide) (by decide) ?_
              refine lv_aload_n hx hb d_Md_look_123 rfl (lv_at hl 1 rfl) ?_
              refine va_get (D := D) (ci := 6) (v := .ref (g 30)) (C := R_Md) (T := F_Md) (N := 44) hx hb hts (fun w h => List.mem_cons_of_mem _ (i_Md w h)) hown hE.1 hP 0 rfl rfl 30 (by decide) (hts _ (List.mem_cons_of_mem _ iw3_84)) (fun _ h9 => h9) rfl d_Md_look_124 ?_
              refine lv_aload_n hx hb d_Md_look_127 rfl (lv_at hl 1 rfl) ?_
              refine va_get (D := D) (ci := 6) (v := .int (nI f0)) (C := R_Md) (T := F_Md) (N := 44) hx hb hts (fun w h => List.mem_cons_of_mem _ (i_Md w h)) hown hE.1 hP 0 rfl rfl 43 (by decide) (hts _ (List.mem_cons_of_mem _ iw3_97)) (fun _ h9 => h9) rfl d_Md_look_128 ?_
              refine va_iald hx hb hE.1 hP 1 3 rfl rfl (vp_in_nI (by omega) (by omega)) d_Md_look_131 ?_
              rw [nI_clamp (n := f0) (by omega), hyb f0 (by omega)]
              refine lv_istore (lv' := [(5, .int (nI (b f0))), (4, .int (nI t2)), (0, .ref m0), (1, .int 3), (2, .int (nI j)), (3, .int 0)]) hx hb d_Md_look_132 hl (by decide) rfl (fun ls hl => ?_)
              refine lv_aload_n hx hb d_Md_look_134 rfl (lv_at hl 2 rfl) ?_
              refine lv_dup hx hb d_Md_look_135 rfl ?_
              refine va_get (D := D) (ci := 6) (v := .int (nI f0)) (C := R_Md) (T := F_Md) (N := 44) hx hb hts (fun w h => List.mem_cons_of_mem _ (i_Md w h)) hown hE.1 hP 0 rfl rfl 43 (by decide) (hts _ (List.mem_cons_of_mem _ iw3_97)) (fun _ h9 => h9) rfl d_Md_look_136 ?_
              refine lv_iconst (v := 1) hx hb d_Md_look_139 (by decide) ?_
              refine lv_iadd hx hb d_Md_look_140 ?_
              rw [nI_1]
              refine va_put (D := D) (ci := 6) (v := .int (nI (f0 + 1))) (ty := .int) (C := R_Md) (T := F_Md) (N := 44) hx hb hts (fun w h => List.mem_cons_of_mem _ (i_Md w h)) t_Md tk_Md n_Md hown hE.1 hP hD hS 0 rfl rfl 43 (by decide) (hts _ (List.mem_cons_of_mem _ iw3_97)) (fun _ h9 => h9) rfl (by decide +kernel) rfl rfl (Nat.le_of_ble_eq_true rfl) d_Md_look_141 (fun H locs hP hD hS => ?_)
              have hP : va_P D cls [(m0, .inr (6, mF g (K.1, K.2.1, K.2.2.1, nI T.length, nI X.length, K.2.2.2.2.2.1, K.2.2.2.2.2.2.1, K.2.2.2.2.2.2.2.1, nI (f0 + 1)) A0 e np B)), ((g 30), .inl (cA 3, 2000, .inl yb)), ((g 34), .inl (cA 3, 2000, .inl kd)), ((g 35), .inl (cA 3, 2000, .inl fr)), ((g 36), .inl (cA 3, 2000, .inl to)), ((g 37), .inl (cA 3, 2000, .inl re)), ((g 38), .inl (cA 3, 2000, .inl ow)), ((g 39), .inl (cA 3, 2000, .inl fi)), ((g 40), .inl (cA 3, 2000, .inl be))] H := hP
              have hD : va_D A [(m0, .inr (6, mF g (K.1, K.2.1, K.2.2.1, nI T.length, nI X.length, K.2.2.2.2.2.1, K.2.2.2.2.2.2.1, K.2.2.2.2.2.2.2.1, nI (f0 + 1)) A0 e np B)), ((g 30), .inl (cA 3, 2000, .inl yb)), ((g 34), .inl (cA 3, 2000, .inl kd)), ((g 35), .inl (cA 3, 2000, .inl fr)), ((g 36), .inl (cA 3, 2000, .inl to)), ((g 37), .inl (cA 3, 2000, .inl re)), ((g 38), .inl (cA 3, 2000, .inl ow)), ((g 39), .inl (cA 3, 2000, .inl fi)), ((g 40), .inl (cA 3, 2000, .inl be))] := hD
              refine lv_iload_n hx hb d_Md_look_144 rfl (lv_at hl 5 rfl) ?_
              refine lv_iconst (v := 1) hx hb d_Md_look_145 (by decide) ?_
              refine lv_icmp_ne (tgt := 155) hx hb d_Md_look_146 (by decide) (fun c_146 => ?_) (fun c_146 => absurd c_146 (by decide))
              refine lv_iload_n hx hb d_Md_look_155 rfl (lv_at hl 5 rfl) ?_
              refine lv_iconst (v := 2) hx hb d_Md_look_156 (by decide) ?_
              refine lv_icmp_eq (tgt := 165) hx hb d_Md_look_157 (by decide) (fun c_157 => absurd c_157 (by decide)) (fun c_157 => ?_)
              refine lv_iload_n hx hb d_Md_look_160 rfl (lv_at hl 5 rfl) ?_
              refine lv_iconst (v := 3) hx hb d_Md_look_161 (by decide) ?_
              refine lv_icmp_ne (tgt := 182) hx hb d_Md_look_162 (by decide) (fun c_162 => ?_) (fun c_162 => absurd c_162 (by decide))
              refine lv_ldc2 hx hb hown (hts _ (List.mem_cons_of_mem _ iw3_204)) d_Md_look_182 ?_
              exact cRl (nI (f0 + 1)) hx hb hr hlocks d_Md_look_185 hS hP hD (by rw [hS9]; exact by show some (Value.long _) = some (Value.long ((ite _ _ _ : Nat → Int64) 0)); split <;> rfl) (Nat.le_refl _) (Nat.le_refl _)
            · have hl : lv_has ls 6 [(4, .int (nI t2)), (0, .ref m0), (1, .int 3), (2, .int (nI j)), (3, .int 1)] := hl
              refine lv_iload_n hx hb d_Md_look_47 rfl (lv_at hl 2 rfl) ?_
              refine lv_tableIn (off := 75) (tgt := 123) hx hb d_Md_look_48 (by decide) (by decide) (by decide) (by decide) ?_
              refine lv_aload_n hx hb d_Md_look_123 rfl (lv_at hl 1 rfl) ?_
              refine va_get (D := D) (ci := 6) (v := .ref (g 30)) (C := R_Md) (T := F_Md) (N := 44) hx hb hts (fun w h => List.mem_cons_of_mem _ (i_Md w h)) hown hE.1 hP 0 rfl rfl 30 (by decide) (hts _ (List.mem_cons_of_mem _ iw3_84)) (fun _ h9 => h9) rfl d_Md_look_124 ?_
              refine lv_aload_n hx hb d_Md_look_127 rfl (lv_at hl 1 rfl) ?_
              refine va_get (D := D) (ci := 6) (v := .int (nI f0)) (C := R_Md) (T := F_Md) (N := 44) hx hb hts (fun w h => List.mem_cons_of_mem _ (i_Md w h)) hown hE.1 hP 0 rfl rfl 43 (by decide) (hts _ (List.mem_cons_of_mem _ iw3_97)) (fun _ h9 => h9) rfl d_Md_look_128 ?_
              refine va_iald hx hb hE.1 hP 1 3 rfl rfl (vp_in_nI (by omega) (by omega)) d_Md_look_131 ?_
              rw [nI_clamp (n := f0) (by omega), hyb f0 (by omega)]
              refine lv_istore (lv' := [(5, .int (nI (b f0))), (4, .int (nI t2)), (0, .ref m0), (1, .int 3), (2, .int (nI j)), (3, .int 1)]) hx hb d_Md_look_132 hl (by decide) rfl (fun ls hl => ?_)
              refine lv_aload_n hx hb d_Md_look_134 rfl (lv_at hl 2 rfl) ?_
              refine lv_dup hx hb d_Md_look_135 rfl ?_
              refine va_get (D := D) (ci := 6) (v := .int (nI f0)) (C := R_Md) (T := F_Md) (N := 44) hx hb hts (fun w h => List.mem_cons_of_mem _ (i_Md w h)) hown hE.1 hP 0 rfl rfl 43 (by decide) (hts _ (List.mem_cons_of_mem _ iw3_97)) (fun _ h9 => h9) rfl d_Md_look_136 ?_
              refine lv_iconst (v := 1) hx hb d_Md_look_139 (by decide) ?_
              refine lv_iadd hx hb d_Md_look_140 ?_
              rw [nI_1]
              refine va_put (D := D) (ci := 6) (v := .int (nI (f0 + 1))) (ty := .int) (C := R_Md) (T := F_Md) (N := 44) hx hb hts (fun w h => List.mem_cons_of_mem _ (i_Md w h)) t_Md tk_Md n_Md hown hE.1 hP hD hS 0 rfl rfl 43 (by decide) (hts _ (List.mem_cons_of_mem _ iw3_97)) (fun _ h9 => h9) rfl (by decide +kernel) rfl rfl (Nat.le_of_ble_eq_true rfl) d_Md_look_141 (fun H locs hP hD hS => ?_)
              have hP : va_P D cls [(m0, .inr (6, mF g (K.1, K.2.1, K.2.2.1, nI T.length, nI X.length, K.2.2.2.2.2.1, K.2.2.2.2.2.2.1, K.2.2.2.2.2.2.2.1, nI (f0 + 1)) A0 e np B)), ((g 30), .inl (cA 3, 2000, .inl yb)), ((g 34), .inl (cA 3, 2000, .inl kd)), ((g 35), .inl (cA 3, 2000, .inl fr)), ((g 36), .inl (cA 3, 2000, .inl to)), ((g 37), .inl (cA 3, 2000, .inl re)), ((g 38), .inl (cA 3, 2000, .inl ow)), ((g 39), .inl (cA 3, 2000, .inl fi)), ((g 40), .inl (cA 3, 2000, .inl be))] H := hP
              have hD : va_D A [(m0, .inr (6, mF g (K.1, K.2.1, K.2.2.1, nI T.length, nI X.length, K.2.2.2.2.2.1, K.2.2.2.2.2.2.1, K.2.2.2.2.2.2.2.1, nI (f0 + 1)) A0 e np B)), ((g 30), .inl (cA 3, 2000, .inl yb)), ((g 34), .inl (cA 3, 2000, .inl kd)), ((g 35), .inl (cA 3, 2000, .inl fr)), ((g 36), .inl (cA 3, 2000, .inl to)), ((g 37), .inl (cA 3, 2000, .inl re)), ((g 38), .inl (cA 3, 2000, .inl ow)), ((g 39), .inl (cA 3, 2000, .inl fi)), ((g 40), .inl (cA 3, 2000, .inl be))] := hD
              refine lv_iload_n hx hb d_Md_look_144 rfl (lv_at hl 5 rfl) ?_
              refine lv_iconst (v := 1) hx hb d_Md_look_145 (by decide) ?_
              refine lv_icmp_ne (tgt := 155) hx hb d_Md_look_146 (by decide) (fun c_146 => absurd (by decide) c_146) (fun c_146 => ?_)
              refine lv_iload hx hb d_Md_look_149 (lv_at hl 0 rfl) ?_
              refine lv_i2l hx hb d_Md_look_151 rfl ?_
              rw [nI_l (n := b f0) (by have := hb9 f0; omega)]
              refine lv_goto (tgt := 185) hx hb d_Md_look_152 (by decide) ?_
              exact cRl (nI (f0 + 1)) hx hb hr hlocks d_Md_look_185 hS hP hD (by rw [hS9]; exact by show some (Value.long _) = some (Value.long ((ite _ _ _ : Nat → Int64) 1)); split <;> rfl) (Nat.le_refl _) (Nat.le_refl _)
            · have hl : lv_has ls 6 [(4, .int (nI t2)), (0, .ref m0), (1, .int 3), (2, .int (nI j)), (3, .int 2)] := hl
              refine lv_iload_n hx hb d_Md_look_47 rfl (lv_at hl 2 rfl) ?_
              refine lv_tableIn (off := 75) (tgt := 123) hx hb d_Md_look_48 (by decide) (by decide) (by decide) (by decide) ?_
              refine lv_aload_n hx hb d_Md_look_123 rfl (lv_at hl 1 rfl) ?_
              refine va_get (D := D) (ci := 6) (v := .ref (g 30)) (C := R_Md) (T := F_Md) (N := 44) hx hb hts (fun w h => List.mem_cons_of_mem _ (i_Md w h)) hown hE.1 hP 0 rfl rfl 30 (by decide) (hts _ (List.mem_cons_of_mem _ iw3_84)) (fun _ h9 => h9) rfl d_Md_look_124 ?_
              refine lv_aload_n hx hb d_Md_look_127 rfl (lv_at hl 1 rfl) ?_
              refine va_get (D := D) (ci := 6) (v := .int (nI f0)) (C := R_Md) (T := F_Md) (N := 44) hx hb hts (fun w h => List.mem_cons_of_mem _ (i_Md w h)) hown hE.1 hP 0 rfl rfl 43 (by decide) (hts _ (List.mem_cons_of_mem _ iw3_97)) (fun _ h9 => h9) rfl d_Md_look_128 ?_
              refine va_iald hx hb hE.1 hP 1 3 rfl rfl (vp_in_nI (by omega) (by omega)) d_Md_look_131 ?_
              rw [nI_clamp (n := f0) (by omega), hyb f0 (by omega)]
              refine lv_istore (lv' := [(5, .int (nI (b f0))), (4, .int (nI t2)), (0, .ref m0), (1, .int 3), (2, .int (nI j)), (3, .int 2)]) hx hb d_Md_look_132 hl (by decide) rfl (fun ls hl => ?_)
              refine lv_aload_n hx hb d_Md_look_134 rfl (lv_at hl 2 rfl) ?_
              refine lv_dup hx hb d_Md_look_135 rfl ?_
              refine va_get (D := D) (ci := 6) (v := .int (nI f0)) (C := R_Md) (T := F_Md) (N := 44) hx hb hts (fun w h => List.mem_cons_of_mem _ (i_Md w h)) hown hE.1 hP 0 rfl rfl 43 (by decide) (hts _ (List.mem_cons_of_mem _ iw3_97)) (fun _ h9 => h9) rfl d_Md_look_136 ?_
              refine lv_iconst (v := 1) hx hb d_Md_look_139 (by decide) ?_
              refine lv_iadd hx hb d_Md_look_140 ?_
              rw [nI_1]
              refine va_put (D := D) (ci := 6) (v := .int (nI (f0 + 1))) (ty := .int) (C := R_Md) (T := F_Md) (N := 44) hx hb hts (fun w h => List.mem_cons_of_mem _ (i_Md w h)) t_Md tk_Md n_Md hown hE.1 hP hD hS 0 rfl rfl 43 (by decide) (hts _ (List.mem_cons_of_mem _ iw3_97)) (fun _ h9 => h9) rfl (by decide +kernel) rfl rfl (Nat.le_of_ble_eq_true rfl) d_Md_look_141 (fun H locs hP hD hS => ?_)
              have hP : va_P D cls [(m0, .inr (6, mF g (K.1, K.2.1, K.2.2.1, nI T.length, nI X.length, K.2.2.2.2.2.1, K.2.2.2.2.2.2.1, K.2.2.2.2.2.2.2.1, nI (f0 + 1)) A0 e np B)), ((g 30), .inl (cA 3, 2000, .inl yb)), ((g 34), .inl (cA 3, 2000, .inl kd)), ((g 35), .inl (cA 3, 2000, .inl fr)), ((g 36), .inl (cA 3, 2000, .inl to)), ((g 37), .inl (cA 3, 2000, .inl re)), ((g 38), .inl (cA 3, 2000, .inl ow)), ((g 39), .inl (cA 3, 2000, .inl fi)), ((g 40), .inl (cA 3, 2000, .inl be))] H := hP
              have hD : va_D A [(m0, .inr (6, mF g (K.1, K.2.1, K.2.2.1, nI T.length, nI X.length, K.2.2.2.2.2.1, K.2.2.2.2.2.2.1, K.2.2.2.2.2.2.2.1, nI (f0 + 1)) A0 e np B)), ((g 30), .inl (cA 3, 2000, .inl yb)), ((g 34), .inl (cA 3, 2000, .inl kd)), ((g 35), .inl (cA 3, 2000, .inl fr)), ((g 36), .inl (cA 3, 2000, .inl to)), ((g 37), .inl (cA 3, 2000, .inl re)), ((g 38), .inl (cA 3, 2000, .inl ow)), ((g 39), .inl (cA 3, 2000, .inl fi)), ((g 40), .inl (cA 3, 2000, .inl be))] := hD
              refine lv_iload_n hx hb d_Md_look_144 rfl (lv_at hl 5 rfl) ?_
              refine lv_iconst (v := 1) hx hb d_Md_look_145 (by decide) ?_
              refine lv_icmp_ne (tgt := 155) hx hb d_Md_look_146 (by decide) (fun c_146 => ?_) (fun c_146 => absurd c_146 (by decide))
              refine lv_iload_n hx hb d_Md_look_155 rfl (lv_at hl 5 rfl) ?_
              refine lv_iconst (v := 2) hx hb d_Md_look_156 (by decide) ?_
              refine lv_icmp_eq (tgt := 165) hx hb d_Md_look_157 (by decide) (fun c_157 => ?_) (fun c_157 => absurd (by decide) c_157)
              refine lv_aload_n hx hb d_Md_look_165 rfl (lv_at hl 2 rfl) ?_
              refine lv_iload_n hx hb d_Md_look_166 rfl (lv_at hl 5 rfl) ?_
              refine lv_iconst (v := 3) hx hb d_Md_look_167 (by decide) ?_
              refine lv_icmp_ne (tgt := 175) hx hb d_Md_look_168 (by decide) (fun c_168 => ?_) (fun c_168 => absurd c_168 (by decide))
              refine lv_iconst (v := 0) hx hb d_Md_look_175 (by decide) ?_
              refine cV (As := [.int 0]) (rest := []) (n := 1) (wc := [(m0, .inr (6, mF g (K.1, K.2.1, K.2.2.1, nI T.length, nI X.length, K.2.2.2.2.2.1, K.2.2.2.2.2.2.1, K.2.2.2.2.2.2.2.1, nI (f0 + 1)) A0 e np B)), ((g 30), .inl (cA 3, 2000, .inl yb))]) (wr := [((g 34), .inl (cA 3, 2000, .inl kd)), ((g 35), .inl (cA 3, 2000, .inl fr)), ((g 36), .inl (cA 3, 2000, .inl to)), ((g 37), .inl (cA 3, 2000, .inl re)), ((g 38), .inl (cA 3, 2000, .inl ow)), ((g 39), .inl (cA 3, 2000, .inl fi)), ((g 40), .inl (cA 3, 2000, .inl be))]) ⟨hx, hb, hml, hown, hts⟩ hno hlocks hl.1 (c_Md_limit_0 l hl9 D cA ad H.size m0 g (K.1, K.2.1, K.2.2.1, nI T.length, nI X.length, K.2.2.2.2.2.1, K.2.2.2.2.2.2.1, K.2.2.2.2.2.2.2.1, nI (f0 + 1)) A0 e np B yb b lm hlm hyb hb9 (f0 + 1) v b2 v2 b3 hl1 hl2 hl3 hl4) iw4_148 iw4_150 sel_Md_limit iw1_7 iw4_151 (by decide +kernel) rfl ⟨Nat.le_of_ble_eq_true rfl, Nat.le_of_ble_eq_true rfl⟩ ⟨Nat.le_of_ble_eq_true rfl, Nat.le_of_ble_eq_true rfl⟩ rfl (Nat.le_of_ble_eq_true rfl) d_Md_look_176 hE hP hD hS hA [0, 1] [2, 3, 4, 5, 6, 7, 8] rfl rfl rfl rfl (by decide) (ci := 6) rfl rfl 0 rfl (fun _ h => h.elim) (fun v_176 u_176 H locs hp_176 hP hD hS => ?_)
              obtain rfl := hp_176
              obtain ⟨qq273, hqq273⟩ : ∃ z : Int32, z = u_176 := ⟨_, rfl⟩
              rw [← hqq273] at hP hD
              have hP : va_P D cls [(m0, .inr (6, mF g (K.1, K.2.1, K.2.2.1, nI T.length, nI X.length, K.2.2.2.2.2.1, K.2.2.2.2.2.2.1, K.2.2.2.2.2.2.2.1, qq273) A0 e np B)), ((g 30), .inl (cA 3, 2000, .inl yb)), ((g 34), .inl (cA 3, 2000, .inl kd)), ((g 35), .inl (cA 3, 2000, .inl fr)), ((g 36), .inl (cA 3, 2000, .inl to)), ((g 37), .inl (cA 3, 2000, .inl re)), ((g 38), .inl (cA 3, 2000, .inl ow)), ((g 39), .inl (cA 3, 2000, .inl fi)), ((g 40), .inl (cA 3, 2000, .inl be))] H := hP.sub [7, 8, 0, 1, 2, 3, 4, 5, 6] rfl
              have hD : va_D A [(m0, .inr (6, mF g (K.1, K.2.1, K.2.2.1, nI T.length, nI X.length, K.2.2.2.2.2.1, K.2.2.2.2.2.2.1, K.2.2.2.2.2.2.2.1, qq273) A0 e np B)), ((g 30), .inl (cA 3, 2000, .inl yb)), ((g 34), .inl (cA 3, 2000, .inl kd)), ((g 35), .inl (cA 3, 2000, .inl fr)), ((g 36), .inl (cA 3, 2000, .inl to)), ((g 37), .inl (cA 3, 2000, .inl re)), ((g 38), .inl (cA 3, 2000, .inl ow)), ((g 39), .inl (cA 3, 2000, .inl fi)), ((g 40), .inl (cA 3, 2000, .inl be))] := hD.sub [7, 8, 0, 1, 2, 3, 4, 5, 6] (by decide) rfl
              refine W.cs (cells' := 0) (slots' := 0) rfl rfl ?_
              refine W.eq (g2 := F0 m 179 ls [.long (limV (b (f0 + 1)) v v2 false)]) rfl ?_
              refine lv_goto (tgt := 185) hx hb d_Md_look_179 (by decide) ?_
              exact cRl (qq273) hx hb hr hlocks d_Md_look_185 hS hP hD (by rw [hS9]; exact congrArg (fun z : Int64 => some (Value.long z)) hc2.symm) (Nat.le_refl _) (Nat.le_refl _)
            · have hl : lv_has ls 6 [(4, .int (nI t2)), (0, .ref m0), (1, .int 3), (2, .int (nI j)), (3, .int 3)] := hl
              refine lv_iload_n hx hb d_Md_look_47 rfl (lv_at hl 2 rfl) ?_
              refine lv_tableIn (off := 75) (tgt := 123) hx hb d_Md_look_48 (by decide) (by decide) (by decide) (by decide) ?_
              refine lv_aload_n hx hb d_Md_look_123 rfl (lv_at hl 1 rfl) ?_
              refine va_get (D := D) (ci := 6) (v := .ref (g 30)) (C := R_Md) (T := F_Md) (N := 44) hx hb hts (fun w h => List.mem_cons_of_mem _ (i_Md w h)) hown hE.1 hP 0 rfl rfl 30 (by decide) (hts _ (List.mem_cons_of_mem _ iw3_84)) (fun _ h9 => h9) rfl d_Md_look_124 ?_
              refine lv_aload_n hx hb d_Md_look_127 rfl (lv_at hl 1 rfl) ?_
              refine va_get (D := D) (ci := 6) (v := .int (nI f0)) (C := R_Md) (T := F_Md) (N := 44) hx hb hts (fun w h => List.mem_cons_of_mem _ (i_Md w h)) hown hE.1 hP 0 rfl rfl 43 (by decide) (hts _ (List.mem_cons_of_mem _ iw3_97)) (fun _ h9 => h9) rfl d_Md_look_128 ?_
              refine va_iald hx hb hE.1 hP 1 3 rfl rfl (vp_in_nI (by omega) (by omega)) d_Md_look_131 ?_
              rw [nI_clamp (n := f0) (by omega), hyb f0 (by omega)]
              refine lv_istore (lv' := [(5, .int (nI (b f0))), (4, .int (nI t2)), (0, .ref m0), (1, .int 3), (2, .int (nI j)), (3, .int 3)]) hx hb d_Md_look_132 hl (by decide) rfl (fun ls hl => ?_)
              refine lv_aload_n hx hb d_Md_look_134 rfl (lv_at hl 2 rfl) ?_
              refine lv_dup hx hb d_Md_look_135 rfl ?_
              refine va_get (D := D) (ci := 6) (v := .int (nI f0)) (C := R_Md) (T := F_Md) (N := 44) hx hb hts (fun w h => List.mem_cons_of_mem _ (i_Md w h)) hown hE.1 hP 0 rfl rfl 43 (by decide) (hts _ (List.mem_cons_of_mem _ iw3_97)) (fun _ h9 => h9) rfl d_Md_look_136 ?_
              refine lv_iconst (v := 1) hx hb d_Md_look_139 (by decide) ?_
              refine lv_iadd hx hb d_Md_look_140 ?_
              rw [nI_1]
              refine va_put (D := D) (ci := 6) (v := .int (nI (f0 + 1))) (ty := .int) (C := R_Md) (T := F_Md) (N := 44) hx hb hts (fun w h => List.mem_cons_of_mem _ (i_Md w h)) t_Md tk_Md n_Md hown hE.1 hP hD hS 0 rfl rfl 43 (by decide) (hts _ (List.mem_cons_of_mem _ iw3_97)) (fun _ h9 => h9) rfl (by decide +kernel) rfl rfl (Nat.le_of_ble_eq_true rfl) d_Md_look_141 (fun H locs hP hD hS => ?_)
              have hP : va_P D cls [(m0, .inr (6, mF g (K.1, K.2.1, K.2.2.1, nI T.length, nI X.length, K.2.2.2.2.2.1, K.2.2.2.2.2.2.1, K.2.2.2.2.2.2.2.1, nI (f0 + 1)) A0 e np B)), ((g 30), .inl (cA 3, 2000, .inl yb)), ((g 34), .inl (cA 3, 2000, .inl kd)), ((g 35), .inl (cA 3, 2000, .inl fr)), ((g 36), .inl (cA 3, 2000, .inl to)), ((g 37), .inl (cA 3, 2000, .inl re)), ((g 38), .inl (cA 3, 2000, .inl ow)), ((g 39), .inl (cA 3, 2000, .inl fi)), ((g 40), .inl (cA 3, 2000, .inl be))] H := hP
              have hD : va_D A [(m0, .inr (6, mF g (K.1, K.2.1, K.2.2.1, nI T.length, nI X.length, K.2.2.2.2.2.1, K.2.2.2.2.2.2.1, K.2.2.2.2.2.2.2.1, nI (f0 + 1)) A0 e np B)), ((g 30), .inl (cA 3, 2000, .inl yb)), ((g 34), .inl (cA 3, 2000, .inl kd)), ((g 35), .inl (cA 3, 2000, .inl fr)), ((g 36), .inl (cA 3, 2000, .inl to)), ((g 37), .inl (cA 3, 2000, .inl re)), ((g 38), .inl (cA 3, 2000, .inl ow)), ((g 39), .inl (cA 3, 2000, .inl fi)), ((g 40), .inl (cA 3, 2000, .inl be))] := hD
              refine lv_iload_n hx hb d_Md_look_144 rfl (lv_at hl 5 rfl) ?_
              refine lv_iconst (v := 1) hx hb d_Md_look_145 (by decide) ?_
              refine lv_icmp_ne (tgt := 155) hx hb d_Md_look_146 (by decide) (fun c_146 => ?_) (fun c_146 => absurd c_146 (by decide))
              refine lv_iload_n hx hb d_Md_look_155 rfl (lv_at hl 5 rfl) ?_
              refine lv_iconst (v := 2) hx hb d_Md_look_156 (by decide) ?_
              refine lv_icmp_eq (tgt := 165) hx hb d_Md_look_157 (by decide) (fun c_157 => absurd c_157 (by decide)) (fun c_157 => ?_)
              refine lv_iload_n hx hb d_Md_look_160 rfl (lv_at hl 5 rfl) ?_
              refine lv_iconst (v := 3) hx hb d_Md_look_161 (by decide) ?_
              refine lv_icmp_ne (tgt := 182) hx hb d_Md_look_162 (by decide) (fun c_162 => absurd (by decide) c_162) (fun c_162 => ?_)
              refine lv_aload_n hx hb d_Md_look_165 rfl (lv_at hl 2 rfl) ?_
              refine lv_iload_n hx hb d_Md_look_166 rfl (lv_at hl 5 rfl) ?_
              refine lv_iconst (v := 3) hx hb d_Md_look_167 (by decide) ?_
              refine lv_icmp_ne (tgt := 175) hx hb d_Md_look_168 (by decide) (fun c_168 => absurd (by decide) c_168) (fun c_168 => ?_)
              refine lv_iconst (v := 1) hx hb d_Md_look_171 (by decide) ?_
              refine lv_goto (tgt := 176) hx hb d_Md_look_172 (by decide) ?_
              refine cV (As := [.int 1]) (rest := []) (n := 1) (wc := [(m0, .inr (6, mF g (K.1, K.2.1, K.2.2.1, nI T.length, nI X.length, K.2.2.2.2.2.1, K.2.2.2.2.2.2.1, K.2.2.2.2.2.2.2.1, nI (f0 + 1)) A0 e np B)), ((g 30), .inl (cA 3, 2000, .inl yb))]) (wr := [((g 34), .inl (cA 3, 2000, .inl kd)), ((g 35), .inl (cA 3, 2000, .inl fr)), ((g 36), .inl (cA 3, 2000, .inl to)), ((g 37), .inl (cA 3, 2000, .inl re)), ((g 38), .inl (cA 3, 2000, .inl ow)), ((g 39), .inl (cA 3, 2000, .inl fi)), ((g 40), .inl (cA 3, 2000, .inl be))]) ⟨hx, hb, hml, hown, hts⟩ hno hlocks hl.1 (c_Md_limit_1 l hl9 D cA ad H.size m0 g (K.1, K.2.1, K.2.2.1, nI T.length, nI X.length, K.2.2.2.2.2.1, K.2.2.2.2.2.2.1, K.2.2.2.2.2.2.2.1, nI (f0 + 1)) A0 e np B yb b lm hlm hyb hb9 (f0 + 1) v b2 v2 b3 hl1 hl2 hl3 hl4) iw4_148 iw4_150 sel_Md_limit iw1_7 iw4_151 (by decide +kernel) rfl ⟨Nat.le_of_ble_eq_true rfl, Nat.le_of_ble_eq_true rfl⟩ ⟨Nat.le_of_ble_eq_true rfl, Nat.le_of_ble_eq_true rfl⟩ rfl (Nat.le_of_ble_eq_true rfl) d_Md_look_176 hE hP hD hS hA [0, 1] [2, 3, 4, 5, 6, 7, 8] rfl rfl rfl rfl (by decide) (ci := 6) rfl rfl 0 rfl (fun _ h => h.elim) (fun v_176 u_176 H locs hp_176 hP hD hS => ?_)
              obtain rfl := hp_176
              obtain ⟨qq274, hqq274⟩ : ∃ z : Int32, z = u_176 := ⟨_, rfl⟩
              rw [← hqq274] at hP hD
              have hP : va_P D cls [(m0, .inr (6, mF g (K.1, K.2.1, K.2.2.1, nI T.length, nI X.length, K.2.2.2.2.2.1, K.2.2.2.2.2.2.1, K.2.2.2.2.2.2.2.1, qq274) A0 e np B)), ((g 30), .inl (cA 3, 2000, .inl yb)), ((g 34), .inl (cA 3, 2000, .inl kd)), ((g 35), .inl (cA 3, 2000, .inl fr)), ((g 36), .inl (cA 3, 2000, .inl to)), ((g 37), .inl (cA 3, 2000, .inl re)), ((g 38), .inl (cA 3, 2000, .inl ow)), ((g 39), .inl (cA 3, 2000, .inl fi)), ((g 40), .inl (cA 3, 2000, .inl be))] H := hP.sub [7, 8, 0, 1, 2, 3, 4, 5, 6] rfl
              have hD : va_D A [(m0, .inr (6, mF g (K.1, K.2.1, K.2.2.1, nI T.length, nI X.length, K.2.2.2.2.2.1, K.2.2.2.2.2.2.1, K.2.2.2.2.2.2.2.1, qq274) A0 e np B)), ((g 30), .inl (cA 3, 2000, .inl yb)), ((g 34), .inl (cA 3, 2000, .inl kd)), ((g 35), .inl (cA 3, 2000, .inl fr)), ((g 36), .inl (cA 3, 2000, .inl to)), ((g 37), .inl (cA 3, 2000, .inl re)), ((g 38), .inl (cA 3, 2000, .inl ow)), ((g 39), .inl (cA 3, 2000, .inl fi)), ((g 40), .inl (cA 3, 2000, .inl be))] := hD.sub [7, 8, 0, 1, 2, 3, 4, 5, 6] (by decide) rfl
              refine W.cs (cells' := 0) (slots' := 0) rfl rfl ?_
              refine W.eq (g2 := F0 m 179 ls [.long (limV (b (f0 + 1)) v v2 true)]) rfl ?_
              refine lv_goto (tgt := 185) hx hb d_Md_look_179 (by decide) ?_
              exact cRl (qq274) hx hb hr hlocks d_Md_look_185 hS hP hD (by rw [hS9]; exact congrArg (fun z : Int64 => some (Value.long z)) hc3.symm) (Nat.le_refl _) (Nat.le_refl _)
            · have hl : lv_has ls 6 [(4, .int (nI t2)), (0, .ref m0), (1, .int 3), (2, .int (nI j)), (3, .int 4)] := hl
              refine lv_iload_n hx hb d_Md_look_47 rfl (lv_at hl 2 rfl) ?_
              refine lv_tableIn (off := 75) (tgt := 123) hx hb d_Md_look_48 (by decide) (by decide) (by decide) (by decide) ?_
              refine lv_aload_n hx hb d_Md_look_123 rfl (lv_at hl 1 rfl) ?_
              refine va_get (D := D) (ci := 6) (v := .ref (g 30)) (C := R_Md) (T := F_Md) (N := 44) hx hb hts (fun w h => List.mem_cons_of_mem _ (i_Md w h)) hown hE.1 hP 0 rfl rfl 30 (by decide) (hts _ (List.mem_cons_of_mem _ iw3_84)) (fun _ h9 => h9) rfl d_Md_look_124 ?_
              refine lv_aload_n hx hb d_Md_look_127 rfl (lv_at hl 1 rfl) ?_
              refine va_get (D := D) (ci := 6) (v := .int (nI f0)) (C := R_Md) (T := F_Md) (N := 44) hx hb hts (fun w h => List.mem_cons_of_mem _ (i_Md w h)) hown hE.1 hP 0 rfl rfl 43 (by decide) (hts _ (List.mem_cons_of_mem _ iw3_97)) (fun _ h9 => h9) rfl d_Md_look_128 ?_
              refine va_iald hx hb hE.1 hP 1 3 rfl rfl (vp_in_nI (by omega) (by omega)) d_Md_look_131 ?_
              rw [nI_clamp (n := f0) (by omega), hyb f0 (by omega)]
              refine lv_istore (lv' := [(5, .int (nI (b f0))), (4, .int (nI t2)), (0, .ref m0), (1, .int 3), (2, .int (nI j)), (3, .int 4)]) hx hb d_Md_look_132 hl (by decide) rfl (fun ls hl => ?_)
              refine lv_aload_n hx hb d_Md_look_134 rfl (lv_at hl 2 rfl) ?_
              refine lv_dup hx hb d_Md_look_135 rfl ?_
              refine va_get (D := D) (ci := 6) (v := .int (nI f0)) (C := R_Md) (T := F_Md) (N := 44) hx hb hts (fun w h => List.mem_cons_of_mem _ (i_Md w h)) hown hE.1 hP 0 rfl rfl 43 (by decide) (hts _ (List.mem_cons_of_mem _ iw3_97)) (fun _ h9 => h9) rfl d_Md_look_136 ?_
              refine lv_iconst (v := 1) hx hb d_Md_look_139 (by decide) ?_
              refine lv_iadd hx hb d_Md_look_140 ?_
              rw [nI_1]
              refine va_put (D := D) (ci := 6) (v := .int (nI (f0 + 1))) (ty := .int) (C := R_Md) (T := F_Md) (N := 44) hx hb hts (fun w h => List.mem_cons_of_mem _ (i_Md w h)) t_Md tk_Md n_Md hown hE.1 hP hD hS 0 rfl rfl 43 (by decide) (hts _ (List.mem_cons_of_mem _ iw3_97)) (fun _ h9 => h9) rfl (by decide +kernel) rfl rfl (Nat.le_of_ble_eq_true rfl) d_Md_look_141 (fun H locs hP hD hS => ?_)
              have hP : va_P D cls [(m0, .inr (6, mF g (K.1, K.2.1, K.2.2.1, nI T.length, nI X.length, K.2.2.2.2.2.1, K.2.2.2.2.2.2.1, K.2.2.2.2.2.2.2.1, nI (f0 + 1)) A0 e np B)), ((g 30), .inl (cA 3, 2000, .inl yb)), ((g 34), .inl (cA 3, 2000, .inl kd)), ((g 35), .inl (cA 3, 2000, .inl fr)), ((g 36), .inl (cA 3, 2000, .inl to)), ((g 37), .inl (cA 3, 2000, .inl re)), ((g 38), .inl (cA 3, 2000, .inl ow)), ((g 39), .inl (cA 3, 2000, .inl fi)), ((g 40), .inl (cA 3, 2000, .inl be))] H := hP
              have hD : va_D A [(m0, .inr (6, mF g (K.1, K.2.1, K.2.2.1, nI T.length, nI X.length, K.2.2.2.2.2.1, K.2.2.2.2.2.2.1, K.2.2.2.2.2.2.2.1, nI (f0 + 1)) A0 e np B)), ((g 30), .inl (cA 3, 2000, .inl yb)), ((g 34), .inl (cA 3, 2000, .inl kd)), ((g 35), .inl (cA 3, 2000, .inl fr)), ((g 36), .inl (cA 3, 2000, .inl to)), ((g 37), .inl (cA 3, 2000, .inl re)), ((g 38), .inl (cA 3, 2000, .inl ow)), ((g 39), .inl (cA 3, 2000, .inl fi)), ((g 40), .inl (cA 3, 2000, .inl be))] := hD
              refine lv_iload_n hx hb d_Md_look_144 rfl (lv_at hl 5 rfl) ?_
              refine lv_iconst (v := 1) hx hb d_Md_look_145 (by decide) ?_
              refine lv_icmp_ne (tgt := 155) hx hb d_Md_look_146 (by decide) (fun c_146 => ?_) (fun c_146 => absurd c_146 (by decide))
              refine lv_iload_n hx hb d_Md_look_155 rfl (lv_at hl 5 rfl) ?_
              refine lv_iconst (v := 2) hx hb d_Md_look_156 (by decide) ?_
              refine lv_icmp_eq (tgt := 165) hx hb d_Md_look_157 (by decide) (fun c_157 => absurd c_157 (by decide)) (fun c_157 => ?_)
              refine lv_iload_n hx hb d_Md_look_160 rfl (lv_at hl 5 rfl) ?_
              refine lv_iconst (v := 3) hx hb d_Md_look_161 (by decide) ?_
              refine lv_icmp_ne (tgt := 182) hx hb d_Md_look_162 (by decide) (fun c_162 => ?_) (fun c_162 => absurd c_162 (by decide))
              refine lv_ldc2 hx hb hown (hts _ (List.mem_cons_of_mem _ iw3_204)) d_Md_look_182 ?_
              exact cRl (nI (f0 + 1)) hx hb hr hlocks d_Md_look_185 hS hP hD (by rw [hS9]; exact rfl) (Nat.le_refl _) (Nat.le_refl _)
            · have hl : lv_has ls 6 [(4, .int (nI t2)), (0, .ref m0), (1, .int 3), (2, .int (nI j)), (3, .int 5)] := hl
              refine lv_iload_n hx hb d_Md_look_47 rfl (lv_at hl 2 rfl) ?_
              refine lv_tableIn (off := 75) (tgt := 123) hx hb d_Md_look_48 (by decide) (by decide) (by decide) (by decide) ?_
              refine lv_aload_n hx hb d_Md_look_123 rfl (lv_at hl 1 rfl) ?_
              refine va_get (D := D) (ci := 6) (v := .ref (g 30)) (C := R_Md) (T := F_Md) (N := 44) hx hb hts (fun w h => List.mem_cons_of_mem _ (i_Md w h)) hown hE.1 hP 0 rfl rfl 30 (by decide) (hts _ (List.mem_cons_of_mem _ iw3_84)) (fun _ h9 => h9) rfl d_Md_look_124 ?_
              refine lv_aload_n hx hb d_Md_look_127 rfl (lv_at hl 1 rfl) ?_
              refine va_get (D := D) (ci := 6) (v := .int (nI f0)) (C := R_Md) (T := F_Md) (N := 44) hx hb hts (fun w h => List.mem_cons_of_mem _ (i_Md w h)) hown hE.1 hP 0 rfl rfl 43 (by decide) (hts _ (List.mem_cons_of_mem _ iw3_97)) (fun _ h9 => h9) rfl d_Md_look_128 ?_
              refine va_iald hx hb hE.1 hP 1 3 rfl rfl (vp_in_nI (by omega) (by omega)) d_Md_look_131 ?_
              rw [nI_clamp (n := f0) (by omega), hyb f0 (by omega)]
              refine lv_istore (lv' := [(5, .int (nI (b f0))), (4, .int (nI t2)), (0, .ref m0), (1, .int 3), (2, .int (nI j)), (3, .int 5)]) hx hb d_Md_look_132 hl (by decide) rfl (fun ls hl => ?_)
              refine lv_aload_n hx hb d_Md_look_134 rfl (lv_at hl 2 rfl) ?_
              refine lv_dup hx hb d_Md_look_135 rfl ?_
              refine va_get (D := D) (ci := 6) (v := .int (nI f0)) (C := R_Md) (T := F_Md) (N := 44) hx hb hts (fun w h => List.mem_cons_of_mem _ (i_Md w h)) hown hE.1 hP 0 rfl rfl 43 (by decide) (hts _ (List.mem_cons_of_mem _ iw3_97)) (fun _ h9 => h9) rfl d_Md_look_136 ?_
              refine lv_iconst (v := 1) hx hb d_Md_look_139 (by decide) ?_
              refine lv_iadd hx hb d_Md_look_140 ?_
              rw [nI_1]
              refine va_put (D := D) (ci := 6) (v := .int (nI (f0 + 1))) (ty := .int) (C := R_Md) (T := F_Md) (N := 44) hx hb hts (fun w h => List.mem_cons_of_mem _ (i_Md w h)) t_Md tk_Md n_Md hown hE.1 hP hD hS 0 rfl rfl 43 (by decide) (hts _ (List.mem_cons_of_mem _ iw3_97)) (fun _ h9 => h9) rfl (by decide +kernel) rfl rfl (Nat.le_of_ble_eq_true rfl) d_Md_look_141 (fun H locs hP hD hS => ?_)
              have hP : va_P D cls [(m0, .inr (6, mF g (K.1, K.2.1, K.2.2.1, nI T.length, nI X.length, K.2.2.2.2.2.1, K.2.2.2.2.2.2.1, K.2.2.2.2.2.2.2.1, nI (f0 + 1)) A0 e np B)), ((g 30), .inl (cA 3, 2000, .inl yb)), ((g 34), .inl (cA 3, 2000, .inl kd)), ((g 35), .inl (cA 3, 2000, .inl fr)), ((g 36), .inl (cA 3, 2000, .inl to)), ((g 37), .inl (cA 3, 2000, .inl re)), ((g 38), .inl (cA 3, 2000, .inl ow)), ((g 39), .inl (cA 3, 2000, .inl fi)), ((g 40), .inl (cA 3, 2000, .inl be))] H := hP
              have hD : va_D A [(m0, .inr (6, mF g (K.1, K.2.1, K.2.2.1, nI T.length, nI X.length, K.2.2.2.2.2.1, K.2.2.2.2.2.2.1, K.2.2.2.2.2.2.2.1, nI (f0 + 1)) A0 e np B)), ((g 30), .inl (cA 3, 2000, .inl yb)), ((g 34), .inl (cA 3, 2000, .inl kd)), ((g 35), .inl (cA 3, 2000, .inl fr)), ((g 36), .inl (cA 3, 2000, .inl to)), ((g 37), .inl (cA 3, 2000, .inl re)), ((g 38), .inl (cA 3, 2000, .inl ow)), ((g 39), .inl (cA 3, 2000, .inl fi)), ((g 40), .inl (cA 3, 2000, .inl be))] := hD
              refine lv_iload_n hx hb d_Md_look_144 rfl (lv_at hl 5 rfl) ?_
              refine lv_iconst (v := 1) hx hb d_Md_look_145 (by decide) ?_
              refine lv_icmp_ne (tgt := 155) hx hb d_Md_look_146 (by decide) (fun c_146 => ?_) (fun c_146 => absurd c_146 (by decide))
              refine lv_iload_n hx hb d_Md_look_155 rfl (lv_at hl 5 rfl) ?_
              refine lv_iconst (v := 2) hx hb d_Md_look_156 (by decide) ?_
              refine lv_icmp_eq (tgt := 165) hx hb d_Md_look_157 (by decide) (fun c_157 => absurd c_157 (by decide)) (fun c_157 => ?_)
              refine lv_iload_n hx hb d_Md_look_160 rfl (lv_at hl 5 rfl) ?_
              refine lv_iconst (v := 3) hx hb d_Md_look_161 (by decide) ?_
              refine lv_icmp_ne (tgt := 182) hx hb d_Md_look_162 (by decide) (fun c_162 => ?_) (fun c_162 => absurd c_162 (by decide))
              refine lv_ldc2 hx hb hown (hts _ (List.mem_cons_of_mem _ iw3_204)) d_Md_look_182 ?_
              exact cRl (nI (f0 + 1)) hx hb hr hlocks d_Md_look_185 hS hP hD (by rw [hS9]; exact rfl) (Nat.le_refl _) (Nat.le_refl _)
            · have hl : lv_has ls 6 [(4, .int (nI t2)), (0, .ref m0), (1, .int 3), (2, .int (nI j)), (3, .int 6)] := hl
              refine lv_iload_n hx hb d_Md_look_47 rfl (lv_at hl 2 rfl) ?_
              refine lv_tableIn (off := 75) (tgt := 123) hx hb d_Md_look_48 (by decide) (by decide) (by decide) (by decide) ?_
              refine lv_aload_n hx hb d_Md_look_123 rfl (lv_at hl 1 rfl) ?_
              refine va_get (D := D) (ci := 6) (v := .ref (g 30)) (C := R_Md) (T := F_Md) (N := 44) hx hb hts (fun w h => List.mem_cons_of_mem _ (i_Md w h)) hown hE.1 hP 0 rfl rfl 30 (by decide) (hts _ (List.mem_cons_of_mem _ iw3_84)) (fun _ h9 => h9) rfl d_Md_look_124 ?_
              refine lv_aload_n hx hb d_Md_look_127 rfl (lv_at hl 1 rfl) ?_
              refine va_get (D := D) (ci := 6) (v := .int (nI f0)) (C := R_Md) (T := F_Md) (N := 44) hx hb hts (fun w h => List.mem_cons_of_mem _ (i_Md w h)) hown hE.1 hP 0 rfl rfl 43 (by decide) (hts _ (List.mem_cons_of_mem _ iw3_97)) (fun _ h9 => h9) rfl d_Md_look_128 ?_
              refine va_iald hx hb hE.1 hP 1 3 rfl rfl (vp_in_nI (by omega) (by omega)) d_Md_look_131 ?_
              rw [nI_clamp (n := f0) (by omega), hyb f0 (by omega)]
              refine lv_istore (lv' := [(5, .int (nI (b f0))), (4, .int (nI t2)), (0, .ref m0), (1, .int 3), (2, .int (nI j)), (3, .int 6)]) hx hb d_Md_look_132 hl (by decide) rfl (fun ls hl => ?_)
              refine lv_aload_n hx hb d_Md_look_134 rfl (lv_at hl 2 rfl) ?_
              refine lv_dup hx hb d_Md_look_135 rfl ?_
              refine va_get (D := D) (ci := 6) (v := .int (nI f0)) (C := R_Md) (T := F_Md) (N := 44) hx hb hts (fun w h => List.mem_cons_of_mem _ (i_Md w h)) hown hE.1 hP 0 rfl rfl 43 (by decide) (hts _ (List.mem_cons_of_mem _ iw3_97)) (fun _ h9 => h9) rfl d_Md_look_136 ?_
              refine lv_iconst (v := 1) hx hb d_Md_look_139 (by decide) ?_
              refine lv_iadd hx hb d_Md_look_140 ?_
              rw [nI_1]
              refine va_put (D := D) (ci := 6) (v := .int (nI (f0 + 1))) (ty := .int) (C := R_Md) (T := F_Md) (N := 44) hx hb hts (fun w h => List.mem_cons_of_mem _ (i_Md w h)) t_Md tk_Md n_Md hown hE.1 hP hD hS 0 rfl rfl 43 (by decide) (hts _ (List.mem_cons_of_mem _ iw3_97)) (fun _ h9 => h9) rfl (by decide +kernel) rfl rfl (Nat.le_of_ble_eq_true rfl) d_Md_look_141 (fun H locs hP hD hS => ?_)
              have hP : va_P D cls [(m0, .inr (6, mF g (K.1, K.2.1, K.2.2.1, nI T.length, nI X.length, K.2.2.2.2.2.1, K.2.2.2.2.2.2.1, K.2.2.2.2.2.2.2.1, nI (f0 + 1)) A0 e np B)), ((g 30), .inl (cA 3, 2000, .inl yb)), ((g 34), .inl (cA 3, 2000, .inl kd)), ((g 35), .inl (cA 3, 2000, .inl fr)), ((g 36), .inl (cA 3, 2000, .inl to)), ((g 37), .inl (cA 3, 2000, .inl re)), ((g 38), .inl (cA 3, 2000, .inl ow)), ((g 39), .inl (cA 3, 2000, .inl fi)), ((g 40), .inl (cA 3, 2000, .inl be))] H := hP
              have hD : va_D A [(m0, .inr (6, mF g (K.1, K.2.1, K.2.2.1, nI T.length, nI X.length, K.2.2.2.2.2.1, K.2.2.2.2.2.2.1, K.2.2.2.2.2.2.2.1, nI (f0 + 1)) A0 e np B)), ((g 30), .inl (cA 3, 2000, .inl yb)), ((g 34), .inl (cA 3, 2000, .inl kd)), ((g 35), .inl (cA 3, 2000, .inl fr)), ((g 36), .inl (cA 3, 2000, .inl to)), ((g 37), .inl (cA 3, 2000, .inl re)), ((g 38), .inl (cA 3, 2000, .inl ow)), ((g 39), .inl (cA 3, 2000, .inl fi)), ((g 40), .inl (cA 3, 2000, .inl be))] := hD
              refine lv_iload_n hx hb d_Md_look_144 rfl (lv_at hl 5 rfl) ?_
              refine lv_iconst (v := 1) hx hb d_Md_look_145 (by decide) ?_
              refine lv_icmp_ne (tgt := 155) hx hb d_Md_look_146 (by decide) (fun c_146 => ?_) (fun c_146 => absurd c_146 (by decide))
              refine lv_iload_n hx hb d_Md_look_155 rfl (lv_at hl 5 rfl) ?_
              refine lv_iconst (v := 2) hx hb d_Md_look_156 (by decide) ?_
              refine lv_icmp_eq (tgt := 165) hx hb d_Md_look_157 (by decide) (fun c_157 => absurd c_157 (by decide)) (fun c_157 => ?_)
              refine lv_iload_n hx hb d_Md_look_160 rfl (lv_at hl 5 rfl) ?_
              refine lv_iconst (v := 3) hx hb d_Md_look_161 (by decide) ?_
              refine lv_icmp_ne (tgt := 182) hx hb d_Md_look_162 (by decide) (fun c_162 => ?_) (fun c_162 => absurd c_162 (by decide))
              refine lv_ldc2 hx hb hown (hts _ (List.mem_cons_of_mem _ iw3_204)) d_Md_look_182 ?_
              exact cRl (nI (f0 + 1)) hx hb hr hlocks d_Md_look_185 hS hP hD (by rw [hS9]; exact rfl) (Nat.le_refl _) (Nat.le_refl _)
            · have hl : lv_has ls 6 [(4, .int (nI t2)), (0, .ref m0), (1, .int 3), (2, .int (nI j)), (3, .int 7)] := hl
              refine lv_iload_n hx hb d_Md_look_47 rfl (lv_at hl 2 rfl) ?_
              refine lv_tableIn (off := 75) (tgt := 123) hx hb d_Md_look_48 (by decide) (by decide) (by decide) (by decide) ?_
              refine lv_aload_n hx hb d_Md_look_123 rfl (lv_at hl 1 rfl) ?_
              refine va_get (D := D) (ci := 6) (v := .ref (g 30)) (C := R_Md) (T := F_Md) (N := 44) hx hb hts (fun w h => List.mem_cons_of_mem _ (i_Md w h)) hown hE.1 hP 0 rfl rfl 30 (by decide) (hts _ (List.mem_cons_of_mem _ iw3_84)) (fun _ h9 => h9) rfl d_Md_look_124 ?_
              refine lv_aload_n hx hb d_Md_look_127 rfl (lv_at hl 1 rfl) ?_
              refine va_get (D := D) (ci := 6) (v := .int (nI f0)) (C := R_Md) (T := F_Md) (N := 44) hx hb hts (fun w h => List.mem_cons_of_mem _ (i_Md w h)) hown hE.1 hP 0 rfl rfl 43 (by decide) (hts _ (List.mem_cons_of_mem _ iw3_97)) (fun _ h9 => h9) rfl d_Md_look_128 ?_
              refine va_iald hx hb hE.1 hP 1 3 rfl rfl (vp_in_nI (by omega) (by omega)) d_Md_look_131 ?_
              rw [nI_clamp (n := f0) (by omega), hyb f0 (by omega)]
              refine lv_istore (lv' := [(5, .int (nI (b f0))), (4, .int (nI t2)), (0, .ref m0), (1, .int 3), (2, .int (nI j)), (3, .int 7)]) hx hb d_Md_look_132 hl (by decide) rfl (fun ls hl => ?_)
              refine lv_aload_n hx hb d_Md_look_134 rfl (lv_at hl 2 rfl) ?_
              refine lv_dup hx hb d_Md_look_135 rfl ?_
              refine va_get (D := D) (ci := 6) (v := .int (nI f0)) (C := R_Md) (T := F_Md) (N := 44) hx hb hts (fun w h => List.mem_cons_of_mem _ (i_Md w h)) hown hE.1 hP 0 rfl rfl 43 (by decide) (hts _ (List.mem_cons_of_mem _ iw3_97)) (fun _ h9 => h9) rfl d_Md_look_136 ?_
              refine lv_iconst (v := 1) hx hb d_Md_look_139 (by decide) ?_
              refine lv_iadd hx hb d_Md_look_140 ?_
              rw [nI_1]
              refine va_put (D := D) (ci := 6) (v := .int (nI (f0 + 1))) (ty := .int) (C := R_Md) (T := F_Md) (N := 44) hx hb hts (fun w h => List.mem_cons_of_mem _ (i_Md w h)) t_Md tk_Md n_Md hown hE.1 hP hD hS 0 rfl rfl 43 (by decide) (hts _ (List.mem_cons_of_mem _ iw3_97)) (fun _ h9 => h9) rfl (by decide +kernel) rfl rfl (Nat.le_of_ble_eq_true rfl) d_Md_look_141 (fun H locs hP hD hS => ?_)
              have hP : va_P D cls [(m0, .inr (6, mF g (K.1, K.2.1, K.2.2.1, nI T.length, nI X.length, K.2.2.2.2.2.1, K.2.2.2.2.2.2.1, K.2.2.2.2.2.2.2.1, nI (f0 + 1)) A0 e np B)), ((g 30), .inl (cA 3, 2000, .inl yb)), ((g 34), .inl (cA 3, 2000, .inl kd)), ((g 35), .inl (cA 3, 2000, .inl fr)), ((g 36), .inl (cA 3, 2000, .inl to)), ((g 37), .inl (cA 3, 2000, .inl re)), ((g 38), .inl (cA 3, 2000, .inl ow)), ((g 39), .inl (cA 3, 2000, .inl fi)), ((g 40), .inl (cA 3, 2000, .inl be))] H := hP
              have hD : va_D A [(m0, .inr (6, mF g (K.1, K.2.1, K.2.2.1, nI T.length, nI X.length, K.2.2.2.2.2.1, K.2.2.2.2.2.2.1, K.2.2.2.2.2.2.2.1, nI (f0 + 1)) A0 e np B)), ((g 30), .inl (cA 3, 2000, .inl yb)), ((g 34), .inl (cA 3, 2000, .inl kd)), ((g 35), .inl (cA 3, 2000, .inl fr)), ((g 36), .inl (cA 3, 2000, .inl to)), ((g 37), .inl (cA 3, 2000, .inl re)), ((g 38), .inl (cA 3, 2000, .inl ow)), ((g 39), .inl (cA 3, 2000, .inl fi)), ((g 40), .inl (cA 3, 2000, .inl be))] := hD
              refine lv_iload_n hx hb d_Md_look_144 rfl (lv_at hl 5 rfl) ?_
              refine lv_iconst (v := 1) hx hb d_Md_look_145 (by decide) ?_
              refine lv_icmp_ne (tgt := 155) hx hb d_Md_look_146 (by decide) (fun c_146 => ?_) (fun c_146 => absurd c_146 (by decide))
              refine lv_iload_n hx hb d_Md_look_155 rfl (lv_at hl 5 rfl) ?_
              refine lv_iconst (v := 2) hx hb d_Md_look_156 (by decide) ?_
              refine lv_icmp_eq (tgt := 165) hx hb d_Md_look_157 (by decide) (fun c_157 => absurd c_157 (by decide)) (fun c_157 => ?_)
              refine lv_iload_n hx hb d_Md_look_160 rfl (lv_at hl 5 rfl) ?_
              refine lv_iconst (v := 3) hx hb d_Md_look_161 (by decide) ?_
              refine lv_icmp_ne (tgt := 182) hx hb d_Md_look_162 (by decide) (fun c_162 => ?_) (fun c_162 => absurd c_162 (by decide))
              refine lv_ldc2 hx hb hown (hts _ (List.mem_cons_of_mem _ iw3_204)) d_Md_look_182 ?_
              exact cRl (nI (f0 + 1)) hx hb hr hlocks d_Md_look_185 hS hP hD (by rw [hS9]; exact rfl) (Nat.le_refl _) (Nat.le_refl _)
            · have hl := hl
              refine lv_iload_n hx hb d_Md_look_47 rfl (lv_at hl 2 rfl) ?_
              refine lv_tableIn (off := 75) (tgt := 123) hx hb d_Md_look_48 (by decide) (by decide) (by decide) (by decide) ?_
              refine lv_aload_n hx hb d_Md_look_123 rfl (lv_at hl 1 rfl) ?_
              refine va_get (D := D) (ci := 6) (v := .ref (g 30)) (C := R_Md) (T := F_Md) (N := 44) hx hb hts (fun w h => List.mem_cons_of_mem _ (i_Md w h)) hown hE.1 hP 0 rfl rfl 30 (by decide) (hts _ (List.mem_cons_of_mem _ iw3_84)) (fun _ h9 => h9) rfl d_Md_look_124 ?_
              refine lv_aload_n hx hb d_Md_look_127 rfl (lv_at hl 1 rfl) ?_
              refine va_get (D := D) (ci := 6) (v := .int (nI f0)) (C := R_Md) (T := F_Md) (N := 44) hx hb hts (fun w h => List.mem_cons_of_mem _ (i_Md w h)) hown hE.1 hP 0 rfl rfl 43 (by decide) (hts _ (List.mem_cons_of_mem _ iw3_97)) (fun _ h9 => h9) rfl d_Md_look_128 ?_
              refine va_iald hx hb hE.1 hP 1 3 rfl rfl (vp_in_nI (by omega) (by omega)) d_Md_look_131 ?_
              rw [nI_clamp (n := f0) (by omega), hyb f0 (by omega)]
              refine lv_istore (lv' := [(5, .int (nI (b f0))), (4, .int (nI t2)), (0, .ref m0), (1, .int 3), (2, .int (nI j)), (3, .int (nI wh))]) hx hb d_Md_look_132 hl (by decide) rfl (fun ls hl => ?_)
              refine lv_aload_n hx hb d_Md_look_134 rfl (lv_at hl 2 rfl) ?_
              refine lv_dup hx hb d_Md_look_135 rfl ?_
              refine va_get (D := D) (ci := 6) (v := .int (nI f0)) (C := R_Md) (T := F_Md) (N := 44) hx hb hts (fun w h => List.mem_cons_of_mem _ (i_Md w h)) hown hE.1 hP 0 rfl rfl 43 (by decide) (hts _ (List.mem_cons_of_mem _ iw3_97)) (fun _ h9 => h9) rfl d_Md_look_136 ?_
              refine lv_iconst (v := 1) hx hb d_Md_look_139 (by decide) ?_
              refine lv_iadd hx hb d_Md_look_140 ?_
              rw [nI_1]
              refine va_put (D := D) (ci := 6) (v := .int (nI (f0 + 1))) (ty := .int) (C := R_Md) (T := F_Md) (N := 44) hx hb hts (fun w h => List.mem_cons_of_mem _ (i_Md w h)) t_Md tk_Md n_Md hown hE.1 hP hD hS 0 rfl rfl 43 (by decide) (hts _ (List.mem_cons_of_mem _ iw3_97)) (fun _ h9 => h9) rfl (by decide +kernel) rfl rfl (Nat.le_of_ble_eq_true rfl) d_Md_look_141 (fun H locs hP hD hS => ?_)
              have hP : va_P D cls [(m0, .inr (6, mF g (K.1, K.2.1, K.2.2.1, nI T.length, nI X.length, K.2.2.2.2.2.1, K.2.2.2.2.2.2.1, K.2.2.2.2.2.2.2.1, nI (f0 + 1)) A0 e np B)), ((g 30), .inl (cA 3, 2000, .inl yb)), ((g 34), .inl (cA 3, 2000, .inl kd)), ((g 35), .inl (cA 3, 2000, .inl fr)), ((g 36), .inl (cA 3, 2000, .inl to)), ((g 37), .inl (cA 3, 2000, .inl re)), ((g 38), .inl (cA 3, 2000, .inl ow)), ((g 39), .inl (cA 3, 2000, .inl fi)), ((g 40), .inl (cA 3, 2000, .inl be))] H := hP
              have hD : va_D A [(m0, .inr (6, mF g (K.1, K.2.1, K.2.2.1, nI T.length, nI X.length, K.2.2.2.2.2.1, K.2.2.2.2.2.2.1, K.2.2.2.2.2.2.2.1, nI (f0 + 1)) A0 e np B)), ((g 30), .inl (cA 3, 2000, .inl yb)), ((g 34), .inl (cA 3, 2000, .inl kd)), ((g 35), .inl (cA 3, 2000, .inl fr)), ((g 36), .inl (cA 3, 2000, .inl to)), ((g 37), .inl (cA 3, 2000, .inl re)), ((g 38), .inl (cA 3, 2000, .inl ow)), ((g 39), .inl (cA 3, 2000, .inl fi)), ((g 40), .inl (cA 3, 2000, .inl be))] := hD
              refine lv_iload_n hx hb d_Md_look_144 rfl (lv_at hl 5 rfl) ?_
              refine lv_iconst (v := 1) hx hb d_Md_look_145 (by decide) ?_
              refine lv_icmp_ne (tgt := 155) hx hb d_Md_look_146 (by decide) (fun c_146 => ?_) (fun c_146 => absurd c_146 (fun q => absurd ((nI_eq (a := wh) (b := 1) (by omega) (by decide)).mp q) (by omega)))
              refine lv_iload_n hx hb d_Md_look_155 rfl (lv_at hl 5 rfl) ?_
              refine lv_iconst (v := 2) hx hb d_Md_look_156 (by decide) ?_
              refine lv_icmp_eq (tgt := 165) hx hb d_Md_look_157 (by decide) (fun c_157 => absurd c_157 (fun q => absurd ((nI_eq (a := wh) (b := 2) (by omega) (by decide)).mp q) (by omega))) (fun c_157 => ?_)
              refine lv_iload_n hx hb d_Md_look_160 rfl (lv_at hl 5 rfl) ?_
              refine lv_iconst (v := 3) hx hb d_Md_look_161 (by decide) ?_
              refine lv_icmp_ne (tgt := 182) hx hb d_Md_look_162 (by decide) (fun c_162 => ?_) (fun c_162 => absurd c_162 (fun q => absurd ((nI_eq (a := wh) (b := 3) (by omega) (by decide)).mp q) (by omega)))
              refine lv_ldc2 hx hb hown (hts _ (List.mem_cons_of_mem _ iw3_204)) d_Md_look_182 ?_
              exact cRl (nI (f0 + 1)) hx hb hr hlocks d_Md_look_185 hS hP hD (by rw [hS9]; exact by rw [lkS, if_pos hw8]; rfl) (Nat.le_refl _) (Nat.le_refl _)
          · refine lv_ldc2 hx hb hown (hts _ (List.mem_cons_of_mem _ iw3_204)) d_Md_look_32 ?_
            exact cRl (K.2.2.2.2.2.2.2.2) hx hb hr hlocks d_Md_look_35 hS hP hD (congrArg (fun z : Int64 => some (Value.long z)) (sLook_bc (LS := LS) (LL := LL) (x := nI 3) (k := nI j) (c := c) (Int32.not_le.mp c_29)).symm) (Nat.le_refl _) (Nat.le_refl _)
      · have hl : lv_has ls 6 [(0, .ref m0), (1, .int 4), (2, .int k), (3, .int c)] := hl
        refine lv_aload_n hx hb d_Md_look_15 rfl (lv_at hl 0 rfl) ?_
        refine lv_iload_n hx hb d_Md_look_16 rfl (lv_at hl 1 rfl) ?_
        refine lv_iload_n hx hb d_Md_look_17 rfl (lv_at hl 2 rfl) ?_
        refine cV (As := [.int 4, .int k]) (rest := []) (n := 2) (wc := [(m0, .inr (6, mF g (K.1, K.2.1, K.2.2.1, nI T.length, nI X.length, K.2.2.2.2.2.1, K.2.2.2.2.2.2.1, K.2.2.2.2.2.2.2.1, K.2.2.2.2.2.2.2.2) A0 e np B)), ((g 34), .inl (cA 3, 2000, .inl kd))]) (wr := [((g 30), .inl (cA 3, 2000, .inl yb)), ((g 35), .inl (cA 3, 2000, .inl fr)), ((g 36), .inl (cA 3, 2000, .inl to)), ((g 37), .inl (cA 3, 2000, .inl re)), ((g 38), .inl (cA 3, 2000, .inl ow)), ((g 39), .inl (cA 3, 2000, .inl fi)), ((g 40), .inl (cA 3, 2000, .inl be))]) ⟨hx, hb, hml, hown, hts⟩ hno hlocks hl.1 (c_Md_thingOf l hl9 D cA ad s.heap.size m0 g (K.1, K.2.1, K.2.2.1, nI T.length, nI X.length, K.2.2.2.2.2.1, K.2.2.2.2.2.2.1, K.2.2.2.2.2.2.2.1, K.2.2.2.2.2.2.2.2) A0 e np B kd fr to re T hTH h11 hT 4 (by decide) k) iw4_128 iw4_130 sel_Md_thingOf iw1_7 iw4_131 (by decide +kernel) rfl ⟨Nat.le_of_ble_eq_true rfl, Nat.le_of_ble_eq_true rfl⟩ ⟨Nat.le_of_ble_eq_true rfl, Nat.le_of_ble_eq_true rfl⟩ rfl (Nat.le_of_ble_eq_true rfl) d_Md_look_18 hE hP hD hS hA [0, 2] [1, 3, 4, 5, 6, 7, 8] rfl rfl rfl rfl (by decide) (ci := 6) rfl rfl 0 rfl (fun _ h => h.elim) (fun v_18 u_18 H locs hp_18 hP hD hS => ?_)
        rcases hp_18 with ⟨rfl, hbad⟩ | ⟨j, t, hj31, ej, hjt, htl, rfl⟩
        · have hbad : k < 0 ∨ nI (LS 4).length ≤ k := hbad.elim Or.inl (fun q => by obtain ⟨j, hj, rfl, q⟩ := q; exact Or.inr (nI_le (by rw [← (hrel.2.2 4 (by decide)).1]; exact q) hj))
          have hP : va_P D cls [(m0, .inr (6, mF g (K.1, K.2.1, K.2.2.1, nI T.length, nI X.length, K.2.2.2.2.2.1, K.2.2.2.2.2.2.1, K.2.2.2.2.2.2.2.1, K.2.2.2.2.2.2.2.2) A0 e np B)), ((g 30), .inl (cA 3, 2000, .inl yb)), ((g 34), .inl (cA 3, 2000, .inl kd)), ((g 35), .inl (cA 3, 2000, .inl fr)), ((g 36), .inl (cA 3, 2000, .inl to)), ((g 37), .inl (cA 3, 2000, .inl re)), ((g 38), .inl (cA 3, 2000, .inl ow)), ((g 39), .inl (cA 3, 2000, .inl fi)), ((g 40), .inl (cA 3, 2000, .inl be))] H := hP.sub [7, 0, 8, 1, 2, 3, 4, 5, 6] rfl
          have hD : va_D A [(m0, .inr (6, mF g (K.1, K.2.1, K.2.2.1, nI T.length, nI X.length, K.2.2.2.2.2.1, K.2.2.2.2.2.2.1, K.2.2.2.2.2.2.2.1, K.2.2.2.2.2.2.2.2) A0 e np B)), ((g 30), .inl (cA 3, 2000, .inl yb)), ((g 34), .inl (cA 3, 2000, .inl kd)), ((g 35), .inl (cA 3, 2000, .inl fr)), ((g 36), .inl (cA 3, 2000, .inl to)), ((g 37), .inl (cA 3, 2000, .inl re)), ((g 38), .inl (cA 3, 2000, .inl ow)), ((g 39), .inl (cA 3, 2000, .inl fi)), ((g 40), .inl (cA 3, 2000, .inl be))] := hD.sub [7, 0, 8, 1, 2, 3, 4, 5, 6] (by decide) rfl
          refine W.cs (cells' := 0) (slots' := 0) rfl rfl ?_
          refine W.eq (g2 := F0 m 21 ls [.int (-1)]) rfl ?_
          refine lv_istore (lv' := [(4, .int (-1)), (0, .ref m0), (1, .int 4), (2, .int k), (3, .int c)]) hx hb d_Md_look_21 hl (by decide) rfl (fun ls hl => ?_)
          refine lv_iload hx hb d_Md_look_23 (lv_at hl 0 rfl) ?_
          refine lv_if_lt (tgt := 32) hx hb d_Md_look_25 (by decide) (fun c_25 => ?_) (fun c_25 => absurd (by decide) c_25)
          refine lv_ldc2 hx hb hown (hts _ (List.mem_cons_of_mem _ iw3_204)) d_Md_look_32 ?_
          exact cRl (K.2.2.2.2.2.2.2.2) hx hb hr hlocks d_Md_look_35 hS hP hD (congrArg (fun z : Int64 => some (Value.long z)) (sLook_bk (LS := LS) (LL := LL) (kk := 4) (k := k) (c := c) (by decide) hbad).symm) (Nat.le_refl _) (Nat.le_refl _)
        · subst ej
          have hP : va_P D cls [(m0, .inr (6, mF g (K.1, K.2.1, K.2.2.1, nI T.length, nI X.length, K.2.2.2.2.2.1, K.2.2.2.2.2.2.1, K.2.2.2.2.2.2.2.1, K.2.2.2.2.2.2.2.2) A0 e np B)), ((g 30), .inl (cA 3, 2000, .inl yb)), ((g 34), .inl (cA 3, 2000, .inl kd)), ((g 35), .inl (cA 3, 2000, .inl fr)), ((g 36), .inl (cA 3, 2000, .inl to)), ((g 37), .inl (cA 3, 2000, .inl re)), ((g 38), .inl (cA 3, 2000, .inl ow)), ((g 39), .inl (cA 3, 2000, .inl fi)), ((g 40), .inl (cA 3, 2000, .inl be))] H := hP.sub [7, 0, 8, 1, 2, 3, 4, 5, 6] rfl
          have hD : va_D A [(m0, .inr (6, mF g (K.1, K.2.1, K.2.2.1, nI T.length, nI X.length, K.2.2.2.2.2.1, K.2.2.2.2.2.2.1, K.2.2.2.2.2.2.2.1, K.2.2.2.2.2.2.2.2) A0 e np B)), ((g 30), .inl (cA 3, 2000, .inl yb)), ((g 34), .inl (cA 3, 2000, .inl kd)), ((g 35), .inl (cA 3, 2000, .inl fr)), ((g 36), .inl (cA 3, 2000, .inl to)), ((g 37), .inl (cA 3, 2000, .inl re)), ((g 38), .inl (cA 3, 2000, .inl ow)), ((g 39), .inl (cA 3, 2000, .inl fi)), ((g 40), .inl (cA 3, 2000, .inl be))] := hD.sub [7, 0, 8, 1, 2, 3, 4, 5, 6] (by decide) rfl
          refine W.cs (cells' := 0) (slots' := 0) rfl rfl ?_
          refine W.eq (g2 := F0 m 21 ls [.int (nI t)]) rfl ?_
          have hl : lv_has ls 6 [(0, .ref m0), (1, .int 4), (2, .int (nI j)), (3, .int c)] := hl
          have hjl : j < (LS 4).length := by rw [← (hrel.2.2 4 (by decide)).1]; exact (List.getElem?_eq_some_iff.mp hjt).1
          obtain ⟨t2, f0, o, e1, e2, e3, e4⟩ := (hrel.2.2 4 (by decide)).2 j hjl
          have et : t2 = t := Option.some.inj (e1.symm.trans hjt)
          subst et
          obtain ⟨-, hfr, hto⟩ := TH_at hTH e2
          rw [e3] at hfr hto
          have hfr : fr t2 = nI f0 := hfr
          obtain ⟨z, hz⟩ : ∃ z, z = ((LS 4).getD j (0, c_1)).2 := ⟨_, rfl⟩
          rw [← hz] at e4
          obtain ⟨lm, dc, a', hlmN, hfl, p0, p1, p2, p3, p4, p5, p6, p7, p8, p9, p10⟩ := e4
          have hlm : lm ≤ 2000 := by omega
          have hyb : ∀ i, i < lm → yb i = nI (b i) := fun i hi => hybN i (by omega)
          refine lv_istore (lv' := [(4, .int (nI t2)), (0, .ref m0), (1, .int 4), (2, .int (nI j)), (3, .int c)]) hx hb d_Md_look_21 hl (by decide) rfl (fun ls hl => ?_)
          refine lv_iload hx hb d_Md_look_23 (lv_at hl 0 rfl) ?_
          refine lv_if_lt (tgt := 32) hx hb d_Md_look_25 (by decide) (fun c_25 => absurd c_25 (nI_pos (by omega))) (fun c_25 => ?_)
          refine lv_iload_n hx hb d_Md_look_28 rfl (lv_at hl 4 rfl) ?_
          refine lv_if_ge (tgt := 36) hx hb d_Md_look_29 (by decide) (fun c_29 => ?_) (fun c_29 => ?_)
          · obtain ⟨wh, hwh, ewh⟩ := i32_nn (Int32.not_lt.mpr c_29)
            subst ewh
            have hl : lv_has ls 6 [(4, .int (nI t2)), (0, .ref m0), (1, .int 4), (2, .int (nI j)), (3, .int (nI wh))] := hl
            have hS9 : sLook LS LL (nI 4) (nI j) (nI wh) = lkS 4 z LL wh := by rw [hz]; exact sLook_ok (by decide) hjl (by have := hLk 4 (by decide); omega) hwh
            refine lv_aload_n hx hb d_Md_look_36 rfl (lv_at hl 1 rfl) ?_
            refine lv_aload_n hx hb d_Md_look_37 rfl (lv_at hl 1 rfl) ?_
            refine va_get (D := D) (ci := 6) (v := .ref (g 35)) (C := R_Md) (T := F_Md) (N := 44) hx hb hts (fun w h => List.mem_cons_of_mem _ (i_Md w h)) hown hE.1 hP 0 rfl rfl 35 (by decide) (hts _ (List.mem_cons_of_mem _ iw3_89)) (fun _ h9 => h9) rfl d_Md_look_38 ?_
            refine lv_iload hx hb d_Md_look_41 (lv_at hl 0 rfl) ?_
            refine va_iald hx hb hE.1 hP 3 3 rfl rfl (vp_in_nI (by omega) (by omega)) d_Md_look_43 ?_
            rw [nI_clamp (n := t2) (by omega), hfr]
            refine va_put (D := D) (ci := 6) (v := .int (nI f0)) (ty := .int) (C := R_Md) (T := F_Md) (N := 44) hx hb hts (fun w h => List.mem_cons_of_mem _ (i_Md w h)) t_Md tk_Md n_Md hown hE.1 hP hD hS 0 rfl rfl 43 (by decide) (hts _ (List.mem_cons_of_mem _ iw3_97)) (fun _ h9 => h9) rfl (by decide +kernel) rfl rfl (Nat.le_of_ble_eq_true rfl) d_Md_look_44 (fun H locs hP hD hS => ?_)
            have hP : va_P D cls [(m0, .inr (6, mF g (K.1, K.2.1, K.2.2.1, nI T.length, nI X.length, K.2.2.2.2.2.1, K.2.2.2.2.2.2.1, K.2.2.2.2.2.2.2.1, nI f0) A0 e np B)), ((g 30), .inl (cA 3, 2000, .inl yb)), ((g 34), .inl (cA 3, 2000, .inl kd)), ((g 35), .inl (cA 3, 2000, .inl fr)), ((g 36), .inl (cA 3, 2000, .inl to)), ((g 37), .inl (cA 3, 2000, .inl re)), ((g 38), .inl (cA 3, 2000, .inl ow)), ((g 39), .inl (cA 3, 2000, .inl fi)), ((g 40), .inl (cA 3, 2000, .inl be))] H := hP
            have hD : va_D A [(m0, .inr (6, mF g (K.1, K.2.1, K.2.2.1, nI T.length, nI X.length, K.2.2.2.2.2.1, K.2.2.2.2.2.2.1, K.2.2.2.2.2.2.2.1, nI f0) A0 e np B)), ((g 30), .inl (cA 3, 2000, .inl yb)), ((g 34), .inl (cA 3, 2000, .inl kd)), ((g 35), .inl (cA 3, 2000, .inl fr)), ((g 36), .inl (cA 3, 2000, .inl to)), ((g 37), .inl (cA 3, 2000, .inl re)), ((g 38), .inl (cA 3, 2000, .inl ow)), ((g 39), .inl (cA 3, 2000, .inl fi)), ((g 40), .inl (cA 3, 2000, .inl be))] := hD
            obtain ⟨v, b2, v2, b3, hl1, hl2, hl3, hl4, rfl⟩ := pLim_inv (p4 rfl)
            obtain ⟨hc2, hc3⟩ := lim2 (cols := vp_updL c_1 1 0) (v := v) (v2 := v2) hl2 rfl
            rcases (show wh = 0 ∨ wh = 1 ∨ wh = 2 ∨ wh = 3 ∨ wh = 4 ∨ wh = 5 ∨ wh = 6 ∨ wh = 7 ∨ 8 ≤ wh by omega) with rfl | rfl | rfl | rfl | rfl | rfl | rfl | rfl | hw8
            · have hl : lv_has ls 6 [(4, .int (nI t2)), (0, .ref m0), (1, .int 4), (2, .int (nI j)), (3, .int 0)] := hl
              refine lv_iload_n hx hb d_Md_look_47 rfl (lv_at hl 2 rfl) ?_
              refine lv_tableIn (off := 138) (tgt := 186) hx hb d_Md_look_48 (by decide) (by decide) (by decide) (by decide) ?_
              refine lv_iload_n hx hb d_Md_look_186 rfl (lv_at hl 4 rfl) ?_
              refine lv_iconst (v := 1) hx hb d_Md_look_187 (by decide) ?_
              refine lv_icmp_ne (tgt := 195) hx hb d_Md_look_188 (by decide) (fun c_188 => ?_) (fun c_188 => absurd c_188 (by decide))
              refine lv_iload_n hx hb d_Md_look_195 rfl (lv_at hl 4 rfl) ?_
              refine lv_iconst (v := 2) hx hb d_Md_look_196 (by decide) ?_
              refine lv_icmp_eq (tgt := 205) hx hb d_Md_look_197 (by decide) (fun c_197 => absurd c_197 (by decide)) (fun c_197 => ?_)
              refine lv_iload_n hx hb d_Md_look_200 rfl (lv_at hl 4 rfl) ?_
              refine lv_iconst (v := 3) hx hb d_Md_look_201 (by decide) ?_
              refine lv_icmp_ne (tgt := 222) hx hb d_Md_look_202 (by decide) (fun c_202 => ?_) (fun c_202 => absurd c_202 (by decide))
              refine lv_ldc2 hx hb hown (hts _ (List.mem_cons_of_mem _ iw3_204)) d_Md_look_222 ?_
              exact cRl (nI f0) hx hb hr hlocks d_Md_look_225 hS hP hD (by rw [hS9]; exact by show some (Value.long _) = some (Value.long ((ite _ _ _ : Nat → Int64) 0)); split <;> rfl) (Nat.le_refl _) (Nat.le_refl _)
            · have hl : lv_has ls 6 [(4, .int (nI t2)), (0, .ref m0), (1, .int 4), (2, .int (nI j)), (3, .int 1)] := hl
              refine lv_iload_n hx hb d_Md_look_47 rfl (lv_at hl 2 rfl) ?_
              refine lv_tableIn (off := 138) (tgt := 186) hx hb d_Md_look_48 (by decide) (by decide) (by decide) (by decide) ?_
              refine lv_iload_n hx hb d_Md_look_186 rfl (lv_at hl 4 rfl) ?_
              refine lv_iconst (v := 1) hx hb d_Md_look_187 (by decide) ?_
              refine lv_icmp_ne (tgt := 195) hx hb d_Md_look_188 (by decide) (fun c_188 => absurd (by decide) c_188) (fun c_188 => ?_)
              refine lv_lconst (v := 0) hx hb d_Md_look_191 (by decide) ?_
              refine lv_goto (tgt := 225) hx hb d_Md_look_192 (by decide) ?_
              exact cRl (nI f0) hx hb hr hlocks d_Md_look_225 hS hP hD (by rw [hS9]; exact by show some (Value.long _) = some (Value.long ((ite _ _ _ : Nat → Int64) 1)); split <;> rfl) (Nat.le_refl _) (Nat.le_refl _)
            · have hl : lv_has ls 6 [(4, .int (nI t2)), (0, .ref m0), (1, .int 4), (2, .int (nI j)), (3, .int 2)] := hl
              refine lv_iload_n hx hb d_Md_look_47 rfl (lv_at hl 2 rfl) ?_
              refine lv_tableIn (off := 138) (tgt := 186) hx hb d_Md_look_48 (by decide) (by decide) (by decide) (by decide) ?_
              refine lv_iload_n hx hb d_Md_look_186 rfl (lv_at hl 4 rfl) ?_
              refine lv_iconst (v := 1) hx hb d_Md_look_187 (by decide) ?_
              refine lv_icmp_ne (tgt := 195) hx hb d_Md_look_188 (by decide) (fun c_188 => ?_) (fun c_188 => absurd c_188 (by decide))
              refine lv_iload_n hx hb d_Md_look_195 rfl (lv_at hl 4 rfl) ?_
              refine lv_iconst (v := 2) hx hb d_Md_look_196 (by decide) ?_
              refine lv_icmp_eq (tgt := 205) hx hb d_Md_look_197 (by decide) (fun c_197 => ?_) (fun c_197 => absurd (by decide) c_197)
              refine lv_aload_n hx hb d_Md_look_205 rfl (lv_at hl 1 rfl) ?_
              refine lv_iload_n hx hb d_Md_look_206 rfl (lv_at hl 4 rfl) ?_
              refine lv_iconst (v := 3) hx hb d_Md_look_207 (by decide) ?_
              refine lv_icmp_ne (tgt := 215) hx hb d_Md_look_208 (by decide) (fun c_208 => ?_) (fun c_208 => absurd c_208 (by decide))
              refine lv_iconst (v := 0) hx hb d_Md_look_215 (by decide) ?_
              refine cV (As := [.int 0]) (rest := []) (n := 1) (wc := [(m0, .inr (6, mF g (K.1, K.2.1, K.2.2.1, nI T.length, nI X.length, K.2.2.2.2.2.1, K.2.2.2.2.2.2.1, K.2.2.2.2.2.2.2.1, nI f0) A0 e np B)), ((g 30), .inl (cA 3, 2000, .inl yb))]) (wr := [((g 34), .inl (cA 3, 2000, .inl kd)), ((g 35), .inl (cA 3, 2000, .inl fr)), ((g 36), .inl (cA 3, 2000, .inl to)), ((g 37), .inl (cA 3, 2000, .inl re)), ((g 38), .inl (cA 3, 2000, .inl ow)), ((g 39), .inl (cA 3, 2000, .inl fi)), ((g 40), .inl (cA 3, 2000, .inl be))]) ⟨hx, hb, hml, hown, hts⟩ hno hlocks hl.1 (c_Md_limit_0 l hl9 D cA ad H.size m0 g (K.1, K.2.1, K.2.2.1, nI T.length, nI X.length, K.2.2.2.2.2.1, K.2.2.2.2.2.2.1, K.2.2.2.2.2.2.2.1, nI f0) A0 e np B yb b lm hlm hyb hb9 f0 v b2 v2 b3 hl1 hl2 hl3 hl4) iw4_148 iw4_150 sel_Md_limit iw1_7 iw4_151 (by decide +kernel) rfl ⟨Nat.le_of_ble_eq_true rfl, Nat.le_of_ble_eq_true rfl⟩ ⟨Nat.le_of_ble_eq_true rfl, Nat.le_of_ble_eq_true rfl⟩ rfl (Nat.le_of_ble_eq_true rfl) d_Md_look_216 hE hP hD hS hA [0, 1] [2, 3, 4, 5, 6, 7, 8] rfl rfl rfl rfl (by decide) (ci := 6) rfl rfl 0 rfl (fun _ h => h.elim) (fun v_216 u_216 H locs hp_216 hP hD hS => ?_)
              obtain rfl := hp_216
              obtain ⟨qq276, hqq276⟩ : ∃ z : Int32, z = u_216 := ⟨_, rfl⟩
              rw [← hqq276] at hP hD
              have hP : va_P D cls [(m0, .inr (6, mF g (K.1, K.2.1, K.2.2.1, nI T.length, nI X.length, K.2.2.2.2.2.1, K.2.2.2.2.2.2.1, K.2.2.2.2.2.2.2.1, qq276) A0 e np B)), ((g 30), .inl (cA 3, 2000, .inl yb)), ((g 34), .inl (cA 3, 2000, .inl kd)), ((g 35), .inl (cA 3, 2000, .inl fr)), ((g 36), .inl (cA 3, 2000, .inl to)), ((g 37), .inl (cA 3, 2000, .inl re)), ((g 38), .inl (cA 3, 2000, .inl ow)), ((g 39), .inl (cA 3, 2000, .inl fi)), ((g 40), .inl (cA 3, 2000, .inl be))] H := hP.sub [7, 8, 0, 1, 2, 3, 4, 5, 6] rfl
              have hD : va_D A [(m0, .inr (6, mF g (K.1, K.2.1, K.2.2.1, nI T.length, nI X.length, K.2.2.2.2.2.1, K.2.2.2.2.2.2.1, K.2.2.2.2.2.2.2.1, qq276) A0 e np B)), ((g 30), .inl (cA 3, 2000, .inl yb)), ((g 34), .inl (cA 3, 2000, .inl kd)), ((g 35), .inl (cA 3, 2000, .inl fr)), ((g 36), .inl (cA 3, 2000, .inl to)), ((g 37), .inl (cA 3, 2000, .inl re)), ((g 38), .inl (cA 3, 2000, .inl ow)), ((g 39), .inl (cA 3, 2000, .inl fi)), ((g 40), .inl (cA 3, 2000, .inl be))] := hD.sub [7, 8, 0, 1, 2, 3, 4, 5, 6] (by decide) rfl
              refine W.cs (cells' := 0) (slots' := 0) rfl rfl ?_
              refine W.eq (g2 := F0 m 219 ls [.long (limV (b f0) v v2 false)]) rfl ?_
              refine lv_goto (tgt := 225) hx hb d_Md_look_219 (by decide) ?_
              exact cRl (qq276) hx hb hr hlocks d_Md_look_225 hS hP hD (by rw [hS9]; exact congrArg (fun z : Int64 => some (Value.long z)) hc2.symm) (Nat.le_refl _) (Nat.le_refl _)
            · have hl : lv_has ls 6 [(4, .int (nI t2)), (0, .ref m0), (1, .int 4), (2, .int (nI j)), (3, .int 3)] := hl
              refine lv_iload_n hx hb d_Md_look_47 rfl (lv_at hl 2 rfl) ?_
              refine lv_tableIn (off := 138) (tgt := 186) hx hb d_Md_look_48 (by decide) (by decide) (by decide) (by decide) ?_
              refine lv_iload_n hx hb d_Md_look_186 rfl (lv_at hl 4 rfl) ?_
              refine lv_iconst (v := 1) hx hb d_Md_look_187 (by decide) ?_
              refine lv_icmp_ne (tgt := 195) hx hb d_Md_look_188 (by decide) (fun c_188 => ?_) (fun c_188 => absurd c_188 (by decide))
              refine lv_iload_n hx hb d_Md_look_195 rfl (lv_at hl 4 rfl) ?_
              refine lv_iconst (v := 2) hx hb d_Md_look_196 (by decide) ?_
              refine lv_icmp_eq (tgt := 205) hx hb d_Md_look_197 (by decide) (fun c_197 => absurd c_197 (by decide)) (fun c_197 => ?_)
              refine lv_iload_n hx hb d_Md_look_200 rfl (lv_at hl 4 rfl) ?_
              refine lv_iconst (v := 3) hx hb d_Md_look_201 (by decide) ?_
              refine lv_icmp_ne (tgt := 222) hx hb d_Md_look_202 (by decide) (fun c_202 => absurd (by decide) c_202) (fun c_202 => ?_)
              refine lv_aload_n hx hb d_Md_look_205 rfl (lv_at hl 1 rfl) ?_
              refine lv_iload_n hx hb d_Md_look_206 rfl (lv_at hl 4 rfl) ?_
              refine lv_iconst (v := 3) hx hb d_Md_look_207 (by decide) ?_
              refine lv_icmp_ne (tgt := 215) hx hb d_Md_look_208 (by decide) (fun c_208 => absurd (by decide) c_208) (fun c_208 => ?_)
              refine lv_iconst (v := 1) hx hb d_Md_look_211 (by decide) ?_
              refine lv_goto (tgt := 216) hx hb d_Md_look_212 (by decide) ?_
              refine cV (As := [.int 1]) (rest := []) (n := 1) (wc := [(m0, .inr (6, mF g (K.1, K.2.1, K.2.2.1, nI T.length, nI X.length, K.2.2.2.2.2.1, K.2.2.2.2.2.2.1, K.2.2.2.2.2.2.2.1, nI f0) A0 e np B)), ((g 30), .inl (cA 3, 2000, .inl yb))]) (wr := [((g 34), .inl (cA 3, 2000, .inl kd)), ((g 35), .inl (cA 3, 2000, .inl fr)), ((g 36), .inl (cA 3, 2000, .inl to)), ((g 37), .inl (cA 3, 2000, .inl re)), ((g 38), .inl (cA 3, 2000, .inl ow)), ((g 39), .inl (cA 3, 2000, .inl fi)), ((g 40), .inl (cA 3, 2000, .inl be))]) ⟨hx, hb, hml, hown, hts⟩ hno hlocks hl.1 (c_Md_limit_1 l hl9 D cA ad H.size m0 g (K.1, K.2.1, K.2.2.1, nI T.length, nI X.length, K.2.2.2.2.2.1, K.2.2.2.2.2.2.1, K.2.2.2.2.2.2.2.1, nI f0) A0 e np B yb b lm hlm hyb hb9 f0 v b2 v2 b3 hl1 hl2 hl3 hl4) iw4_148 iw4_150 sel_Md_limit iw1_7 iw4_151 (by decide +kernel) rfl ⟨Nat.le_of_ble_eq_true rfl, Nat.le_of_ble_eq_true rfl⟩ ⟨Nat.le_of_ble_eq_true rfl, Nat.le_of_ble_eq_true rfl⟩ rfl (Nat.le_of_ble_eq_true rfl) d_Md_look_216 hE hP hD hS hA [0, 1] [2, 3, 4, 5, 6, 7, 8] rfl rfl rfl rfl (by decide) (ci := 6) rfl rfl 0 rfl (fun _ h => h.elim) (fun v_216 u_216 H locs hp_216 hP hD hS => ?_)
              obtain rfl := hp_216
              obtain ⟨qq277, hqq277⟩ : ∃ z : Int32, z = u_216 := ⟨_, rfl⟩
              rw [← hqq277] at hP hD
              have hP : va_P D cls [(m0, .inr (6, mF g (K.1, K.2.1, K.2.2.1, nI T.length, nI X.length, K.2.2.2.2.2.1, K.2.2.2.2.2.2.1, K.2.2.2.2.2.2.2.1, qq277) A0 e np B)), ((g 30), .inl (cA 3, 2000, .inl yb)), ((g 34), .inl (cA 3, 2000, .inl kd)), ((g 35), .inl (cA 3, 2000, .inl fr)), ((g 36), .inl (cA 3, 2000, .inl to)), ((g 37), .inl (cA 3, 2000, .inl re)), ((g 38), .inl (cA 3, 2000, .inl ow)), ((g 39), .inl (cA 3, 2000, .inl fi)), ((g 40), .inl (cA 3, 2000, .inl be))] H := hP.sub [7, 8, 0, 1, 2, 3, 4, 5, 6] rfl
              have hD : va_D A [(m0, .inr (6, mF g (K.1, K.2.1, K.2.2.1, nI T.length, nI X.length, K.2.2.2.2.2.1, K.2.2.2.2.2.2.1, K.2.2.2.2.2.2.2.1, qq277) A0 e np B)), ((g 30), .inl (cA 3, 2000, .inl yb)), ((g 34), .inl (cA 3, 2000, .inl kd)), ((g 35), .inl (cA 3, 2000, .inl fr)), ((g 36), .inl (cA 3, 2000, .inl to)), ((g 37), .inl (cA 3, 2000, .inl re)), ((g 38), .inl (cA 3, 2000, .inl ow)), ((g 39), .inl (cA 3, 2000, .inl fi)), ((g 40), .inl (cA 3, 2000, .inl be))] := hD.sub [7, 8, 0, 1, 2, 3, 4, 5, 6] (by decide) rfl
              refine W.cs (cells' := 0) (slots' := 0) rfl rfl ?_
              refine W.eq (g2 := F0 m 219 ls [.long (limV (b f0) v v2 true)]) rfl ?_
              refine lv_goto (tgt := 225) hx hb d_Md_look_219 (by decide) ?_
              exact cRl (qq277) hx hb hr hlocks d_Md_look_225 hS hP hD (by rw [hS9]; exact congrArg (fun z : Int64 => some (Value.long z)) hc3.symm) (Nat.le_refl _) (Nat.le_refl _)
            · have hl : lv_has ls 6 [(4, .int (nI t2)), (0, .ref m0), (1, .int 4), (2, .int (nI j)), (3, .int 4)] := hl
              refine lv_iload_n hx hb d_Md_look_47 rfl (lv_at hl 2 rfl) ?_
              refine lv_tableIn (off := 138) (tgt := 186) hx hb d_Md_look_48 (by decide) (by decide) (by decide) (by decide) ?_
              refine lv_iload_n hx hb d_Md_look_186 rfl (lv_at hl 4 rfl) ?_
              refine lv_iconst (v := 1) hx hb d_Md_look_187 (by decide) ?_
              refine lv_icmp_ne (tgt := 195) hx hb d_Md_look_188 (by decide) (fun c_188 => ?_) (fun c_188 => absurd c_188 (by decide))
              refine lv_iload_n hx hb d_Md_look_195 rfl (lv_at hl 4 rfl) ?_
              refine lv_iconst (v := 2) hx hb d_Md_look_196 (by decide) ?_
              refine lv_icmp_eq (tgt := 205) hx hb d_Md_look_197 (by decide) (fun c_197 => absurd c_197 (by decide)) (fun c_197 => ?_)
              refine lv_iload_n hx hb d_Md_look_200 rfl (lv_at hl 4 rfl) ?_
              refine lv_iconst (v := 3) hx hb d_Md_look_201 (by decide) ?_
              refine lv_icmp_ne (tgt := 222) hx hb d_Md_look_202 (by decide) (fun c_202 => ?_) (fun c_202 => absurd c_202 (by decide))
              refine lv_ldc2 hx hb hown (hts _ (List.mem_cons_of_mem _ iw3_204)) d_Md_look_222 ?_
              exact cRl (nI f0) hx hb hr hlocks d_Md_look_225 hS hP hD (by rw [hS9]; exact rfl) (Nat.le_refl _) (Nat.le_refl _)
            · have hl : lv_has ls 6 [(4, .int (nI t2)), (0, .ref m0), (1, .int 4), (2, .int (nI j)), (3, .int 5)] := hl
              refine lv_iload_n hx hb d_Md_look_47 rfl (lv_at hl 2 rfl) ?_
              refine lv_tableIn (off := 138) (tgt := 186) hx hb d_Md_look_48 (by decide) (by decide) (by decide) (by decide) ?_
              refine lv_iload_n hx hb d_Md_look_186 rfl (lv_at hl 4 rfl) ?_
              refine lv_iconst (v := 1) hx hb d_Md_look_187 (by decide) ?_
              refine lv_icmp_ne (tgt := 195) hx hb d_Md_look_188 (by decide) (fun c_188 => ?_) (fun c_188 => absurd c_188 (by decide))
              refine lv_iload_n hx hb d_Md_look_195 rfl (lv_at hl 4 rfl) ?_
              refine lv_iconst (v := 2) hx hb d_Md_look_196 (by decide) ?_
              refine lv_icmp_eq (tgt := 205) hx hb d_Md_look_197 (by decide) (fun c_197 => absurd c_197 (by decide)) (fun c_197 => ?_)
              refine lv_iload_n hx hb d_Md_look_200 rfl (lv_at hl 4 rfl) ?_
              refine lv_iconst (v := 3) hx hb d_Md_look_201 (by decide) ?_
              refine lv_icmp_ne (tgt := 222) hx hb d_Md_look_202 (by decide) (fun c_202 => ?_) (fun c_202 => absurd c_202 (by decide))
              refine lv_ldc2 hx hb hown (hts _ (List.mem_cons_of_mem _ iw3_204)) d_Md_look_222 ?_
              exact cRl (nI f0) hx hb hr hlocks d_Md_look_225 hS hP hD (by rw [hS9]; exact rfl) (Nat.le_refl _) (Nat.le_refl _)
            · have hl : lv_has ls 6 [(4, .int (nI t2)), (0, .ref m0), (1, .int 4), (2, .int (nI j)), (3, .int 6)] := hl
              refine lv_iload_n hx hb d_Md_look_47 rfl (lv_at hl 2 rfl) ?_
              refine lv_tableIn (off := 138) (tgt := 186) hx hb d_Md_look_48 (by decide) (by decide) (by decide) (by decide) ?_
              refine lv_iload_n hx hb d_Md_look_186 rfl (lv_at hl 4 rfl) ?_
              refine lv_iconst (v := 1) hx hb d_Md_look_187 (by decide) ?_
              refine lv_icmp_ne (tgt := 195) hx hb d_Md_look_188 (by decide) (fun c_188 => ?_) (fun c_188 => absurd c_188 (by decide))
              refine lv_iload_n hx hb d_Md_look_195 rfl (lv_at hl 4 rfl) ?_
              refine lv_iconst (v := 2) hx hb d_Md_look_196 (by decide) ?_
              refine lv_icmp_eq (tgt := 205) hx hb d_Md_look_197 (by decide) (fun c_197 => absurd c_197 (by decide)) (fun c_197 => ?_)
              refine lv_iload_n hx hb d_Md_look_200 rfl (lv_at hl 4 rfl) ?_
              refine lv_iconst (v := 3) hx hb d_Md_look_201 (by decide) ?_
              refine lv_icmp_ne (tgt := 222) hx hb d_Md_look_202 (by decide) (fun c_202 => ?_) (fun c_202 => absurd c_202 (by decide))
              refine lv_ldc2 hx hb hown (hts _ (List.mem_cons_of_mem _ iw3_204)) d_Md_look_222 ?_
              exact cRl (nI f0) hx hb hr hlocks d_Md_look_225 hS hP hD (by rw [hS9]; exact rfl) (Nat.le_refl _) (Nat.le_refl _)
            · have hl : lv_has ls 6 [(4, .int (nI t2)), (0, .ref m0), (1, .int 4), (2, .int (nI j)), (3, .int 7)] := hl
              refine lv_iload_n hx hb d_Md_look_47 rfl (lv_at hl 2 rfl) ?_
              refine lv_tableIn (off := 138) (tgt := 186) hx hb d_Md_look_48 (by decide) (by decide) (by decide) (by decide) ?_
              refine lv_iload_n hx hb d_Md_look_186 rfl (lv_at hl 4 rfl) ?_
              refine lv_iconst (v := 1) hx hb d_Md_look_187 (by decide) ?_
              refine lv_icmp_ne (tgt := 195) hx hb d_Md_look_188 (by decide) (fun c_188 => ?_) (fun c_188 => absurd c_188 (by decide))
              refine lv_iload_n hx hb d_Md_look_195 rfl (lv_at hl 4 rfl) ?_
              refine lv_iconst (v := 2) hx hb d_Md_look_196 (by decide) ?_
              refine lv_icmp_eq (tgt := 205) hx hb d_Md_look_197 (by decide) (fun c_197 => absurd c_197 (by decide)) (fun c_197 => ?_)
              refine lv_iload_n hx hb d_Md_look_200 rfl (lv_at hl 4 rfl) ?_
              refine lv_iconst (v := 3) hx hb d_Md_look_201 (by decide) ?_
              refine lv_icmp_ne (tgt := 222) hx hb d_Md_look_202 (by decide) (fun c_202 => ?_) (fun c_202 => absurd c_202 (by decide))
              refine lv_ldc2 hx hb hown (hts _ (List.mem_cons_of_mem _ iw3_204)) d_Md_look_222 ?_
              exact cRl (nI f0) hx hb hr hlocks d_Md_look_225 hS hP hD (by rw [hS9]; exact rfl) (Nat.le_refl _) (Nat.le_refl _)
            · have hl := hl
              refine lv_iload_n hx hb d_Md_look_47 rfl (lv_at hl 2 rfl) ?_
              refine lv_tableIn (off := 138) (tgt := 186) hx hb d_Md_look_48 (by decide) (by decide) (by decide) (by decide) ?_
              refine lv_iload_n hx hb d_Md_look_186 rfl (lv_at hl 4 rfl) ?_
              refine lv_iconst (v := 1) hx hb d_Md_look_187 (by decide) ?_
              refine lv_icmp_ne (tgt := 195) hx hb d_Md_look_188 (by decide) (fun c_188 => ?_) (fun c_188 => absurd c_188 (fun q => absurd ((nI_eq (a := wh) (b := 1) (by omega) (by decide)).mp q) (by omega)))
              refine lv_iload_n hx hb d_Md_look_195 rfl (lv_at hl 4 rfl) ?_
              refine lv_iconst (v := 2) hx hb d_Md_look_196 (by decide) ?_
              refine lv_icmp_eq (tgt := 205) hx hb d_Md_look_197 (by decide) (fun c_197 => absurd c_197 (fun q => absurd ((nI_eq (a := wh) (b := 2) (by omega) (by decide)).mp q) (by omega))) (fun c_197 => ?_)
              refine lv_iload_n hx hb d_Md_look_200 rfl (lv_at hl 4 rfl) ?_
              refine lv_iconst (v := 3) hx hb d_Md_look_201 (by decide) ?_
              refine lv_icmp_ne (tgt := 222) hx hb d_Md_look_202 (by decide) (fun c_202 => ?_) (fun c_202 => absurd c_202 (fun q => absurd ((nI_eq (a := wh) (b := 3) (by omega) (by decide)).mp q) (by omega)))
              refine lv_ldc2 hx hb hown (hts _ (List.mem_cons_of_mem _ iw3_204)) d_Md_look_222 ?_
              exact cRl (nI f0) hx hb hr hlocks d_Md_look_225 hS hP hD (by rw [hS9]; exact by rw [lkS, if_pos hw8]; rfl) (Nat.le_refl _) (Nat.le_refl _)
          · refine lv_ldc2 hx hb hown (hts _ (List.mem_cons_of_mem _ iw3_204)) d_Md_look_32 ?_
            exact cRl (K.2.2.2.2.2.2.2.2) hx hb hr hlocks d_Md_look_35 hS hP hD (congrArg (fun z : Int64 => some (Value.long z)) (sLook_bc (LS := LS) (LL := LL) (x := nI 4) (k := nI j) (c := c) (Int32.not_le.mp c_29)).symm) (Nat.le_refl _) (Nat.le_refl _)
      · have hl : lv_has ls 6 [(0, .ref m0), (1, .int 5), (2, .int k), (3, .int c)] := hl
        refine lv_aload_n hx hb d_Md_look_15 rfl (lv_at hl 0 rfl) ?_
        refine lv_iload_n hx hb d_Md_look_16 rfl (lv_at hl 1 rfl) ?_
        refine lv_iload_n hx hb d_Md_look_17 rfl (lv_at hl 2 rfl) ?_
        refine cV (As := [.int 5, .int k]) (rest := []) (n := 2) (wc := [(m0, .inr (6, mF g (K.1, K.2.1, K.2.2.1, nI T.length, nI X.length, K.2.2.2.2.2.1, K.2.2.2.2.2.2.1, K.2.2.2.2.2.2.2.1, K.2.2.2.2.2.2.2.2) A0 e np B)), ((g 34), .inl (cA 3, 2000, .inl kd))]) (wr := [((g 30), .inl (cA 3, 2000, .inl yb)), ((g 35), .inl (cA 3, 2000, .inl fr)), ((g 36), .inl (cA 3, 2000, .inl to)), ((g 37), .inl (cA 3, 2000, .inl re)), ((g 38), .inl (cA 3, 2000, .inl ow)), ((g 39), .inl (cA 3, 2000, .inl fi)), ((g 40), .inl (cA 3, 2000, .inl be))]) ⟨hx, hb, hml, hown, hts⟩ hno hlocks hl.1 (c_Md_thingOf l hl9 D cA ad s.heap.size m0 g (K.1, K.2.1, K.2.2.1, nI T.length, nI X.length, K.2.2.2.2.2.1, K.2.2.2.2.2.2.1, K.2.2.2.2.2.2.2.1, K.2.2.2.2.2.2.2.2) A0 e np B kd fr to re T hTH h11 hT 5 (by decide) k) iw4_128 iw4_130 sel_Md_thingOf iw1_7 iw4_131 (by decide +kernel) rfl ⟨Nat.le_of_ble_eq_true rfl, Nat.le_of_ble_eq_true rfl⟩ ⟨Nat.le_of_ble_eq_true rfl, Nat.le_of_ble_eq_true rfl⟩ rfl (Nat.le_of_ble_eq_true rfl) d_Md_look_18 hE hP hD hS hA [0, 2] [1, 3, 4, 5, 6, 7, 8] rfl rfl rfl rfl (by decide) (ci := 6) rfl rfl 0 rfl (fun _ h => h.elim) (fun v_18 u_18 H locs hp_18 hP hD hS => ?_)
        rcases hp_18 with ⟨rfl, hbad⟩ | ⟨j, t, hj31, ej, hjt, htl, rfl⟩
        · have hbad : k < 0 ∨ nI (LS 5).length ≤ k := hbad.elim Or.inl (fun q => by obtain ⟨j, hj, rfl, q⟩ := q; exact Or.inr (nI_le (by rw [← (hrel.2.2 5 (by decide)).1]; exact q) hj))
          have hP : va_P D cls [(m0, .inr (6, mF g (K.1, K.2.1, K.2.2.1, nI T.length, nI X.length, K.2.2.2.2.2.1, K.2.2.2.2.2.2.1, K.2.2.2.2.2.2.2.1, K.2.2.2.2.2.2.2.2) A0 e np B)), ((g 30), .inl (cA 3, 2000, .inl yb)), ((g 34), .inl (cA 3, 2000, .inl kd)), ((g 35), .inl (cA 3, 2000, .inl fr)), ((g 36), .inl (cA 3, 2000, .inl to)), ((g 37), .inl (cA 3, 2000, .inl re)), ((g 38), .inl (cA 3, 2000, .inl ow)), ((g 39), .inl (cA 3, 2000, .inl fi)), ((g 40), .inl (cA 3, 2000, .inl be))] H := hP.sub [7, 0, 8, 1, 2, 3, 4, 5, 6] rfl
          have hD : va_D A [(m0, .inr (6, mF g (K.1, K.2.1, K.2.2.1, nI T.length, nI X.length, K.2.2.2.2.2.1, K.2.2.2.2.2.2.1, K.2.2.2.2.2.2.2.1, K.2.2.2.2.2.2.2.2) A0 e np B)), ((g 30), .inl (cA 3, 2000, .inl yb)), ((g 34), .inl (cA 3, 2000, .inl kd)), ((g 35), .inl (cA 3, 2000, .inl fr)), ((g 36), .inl (cA 3, 2000, .inl to)), ((g 37), .inl (cA 3, 2000, .inl re)), ((g 38), .inl (cA 3, 2000, .inl ow)), ((g 39), .inl (cA 3, 2000, .inl fi)), ((g 40), .inl (cA 3, 2000, .inl be))] := hD.sub [7, 0, 8, 1, 2, 3, 4, 5, 6] (by decide) rfl
          refine W.cs (cells' := 0) (slots' := 0) rfl rfl ?_
          refine W.eq (g2 := F0 m 21 ls [.int (-1)]) rfl ?_
          refine lv_istore (lv' := [(4, .int (-1)), (0, .ref m0), (1, .int 5), (2, .int k), (3, .int c)]) hx hb d_Md_look_21 hl (by decide) rfl (fun ls hl => ?_)
          refine lv_iload hx hb d_Md_look_23 (lv_at hl 0 rfl) ?_
          refine lv_if_lt (tgt := 32) hx hb d_Md_look_25 (by decide) (fun c_25 => ?_) (fun c_25 => absurd (by decide) c_25)
          refine lv_ldc2 hx hb hown (hts _ (List.mem_cons_of_mem _ iw3_204)) d_Md_look_32 ?_
          exact cRl (K.2.2.2.2.2.2.2.2) hx hb hr hlocks d_Md_look_35 hS hP hD (congrArg (fun z : Int64 => some (Value.long z)) (sLook_bk (LS := LS) (LL := LL) (kk := 5) (k := k) (c := c) (by decide) hbad).symm) (Nat.le_refl _) (Nat.le_refl _)
        · subst ej
          have hP : va_P D cls [(m0, .inr (6, mF g (K.1, K.2.1, K.2.2.1, nI T.length, nI X.length, K.2.2.2.2.2.1, K.2.2.2.2.2.2.1, K.2.2.2.2.2.2.2.1, K.2.2.2.2.2.2.2.2) A0 e np B)), ((g 30), .inl (cA 3, 2000, .inl yb)), ((g 34), .inl (cA 3, 2000, .inl kd)), ((g 35), .inl (cA 3, 2000, .inl fr)), ((g 36), .inl (cA 3, 2000, .inl to)), ((g 37), .inl (cA 3, 2000, .inl re)), ((g 38), .inl (cA 3, 2000, .inl ow)), ((g 39), .inl (cA 3, 2000, .inl fi)), ((g 40), .inl (cA 3, 2000, .inl be))] H := hP.sub [7, 0, 8, 1, 2, 3, 4, 5, 6] rfl
          have hD : va_D A [(m0, .inr (6, mF g (K.1, K.2.1, K.2.2.1, nI T.length, nI X.length, K.2.2.2.2.2.1, K.2.2.2.2.2.2.1, K.2.2.2.2.2.2.2.1, K.2.2.2.2.2.2.2.2) A0 e np B)), ((g 30), .inl (cA 3, 2000, .inl yb)), ((g 34), .inl (cA 3, 2000, .inl kd)), ((g 35), .inl (cA 3, 2000, .inl fr)), ((g 36), .inl (cA 3, 2000, .inl to)), ((g 37), .inl (cA 3, 2000, .inl re)), ((g 38), .inl (cA 3, 2000, .inl ow)), ((g 39), .inl (cA 3, 2000, .inl fi)), ((g 40), .inl (cA 3, 2000, .inl be))] := hD.sub [7, 0, 8, 1, 2, 3, 4, 5, 6] (by decide) rfl
          refine W.cs (cells' := 0) (slots' := 0) rfl rfl ?_
          refine W.eq (g2 := F0 m 21 ls [.int (nI t)]) rfl ?_
          have hl : lv_has ls 6 [(0, .ref m0), (1, .int 5), (2, .int (nI j)), (3, .int c)] := hl
          have hjl : j < (LS 5).length := by rw [← (hrel.2.2 5 (by decide)).1]; exact (List.getElem?_eq_some_iff.mp hjt).1
          obtain ⟨t2, f0, o, e1, e2, e3, e4⟩ := (hrel.2.2 5 (by decide)).2 j hjl
          have et : t2 = t := Option.some.inj (e1.symm.trans hjt)
          subst et
          obtain ⟨-, hfr, hto⟩ := TH_at hTH e2
          rw [e3] at hfr hto
          have hfr : fr t2 = nI f0 := hfr
          obtain ⟨z, hz⟩ : ∃ z, z = ((LS 5).getD j (0, c_1)).2 := ⟨_, rfl⟩
          rw [← hz] at e4
          obtain ⟨lm, dc, a', hlmN, hfl, p0, p1, p2, p3, p4, p5, p6, p7, p8, p9, p10⟩ := e4
          have hlm : lm ≤ 2000 := by omega
          have hyb : ∀ i, i < lm → yb i = nI (b i) := fun i hi => hybN i (by omega)
          refine lv_istore (lv' := [(4, .int (nI t2)), (0, .ref m0), (1, .int 5), (2, .int (nI j)), (3, .int c)]) hx hb d_Md_look_21 hl (by decide) rfl (fun ls hl => ?_)
          refine lv_iload hx hb d_Md_look_23 (lv_at hl 0 rfl) ?_
          refine lv_if_lt (tgt := 32) hx hb d_Md_look_25 (by decide) (fun c_25 => absurd c_25 (nI_pos (by omega))) (fun c_25 => ?_)
          refine lv_iload_n hx hb d_Md_look_28 rfl (lv_at hl 4 rfl) ?_
          refine lv_if_ge (tgt := 36) hx hb d_Md_look_29 (by decide) (fun c_29 => ?_) (fun c_29 => ?_)
          · obtain ⟨wh, hwh, ewh⟩ := i32_nn (Int32.not_lt.mpr c_29)
            subst ewh
            have hl : lv_has ls 6 [(4, .int (nI t2)), (0, .ref m0), (1, .int 5), (2, .int (nI j)), (3, .int (nI wh))] := hl
            have hS9 : sLook LS LL (nI 5) (nI j) (nI wh) = lkS 5 z LL wh := by rw [hz]; exact sLook_ok (by decide) hjl (by have := hLk 5 (by decide); omega) hwh
            refine lv_aload_n hx hb d_Md_look_36 rfl (lv_at hl 1 rfl) ?_
            refine lv_aload_n hx hb d_Md_look_37 rfl (lv_at hl 1 rfl) ?_
            refine va_get (D := D) (ci := 6) (v := .ref (g 35)) (C := R_Md) (T := F_Md) (N := 44) hx hb hts (fun w h => List.mem_cons_of_mem _ (i_Md w h)) hown hE.1 hP 0 rfl rfl 35 (by decide) (hts _ (List.mem_cons_of_mem _ iw3_89)) (fun _ h9 => h9) rfl d_Md_look_38 ?_
            refine lv_iload hx hb d_Md_look_41 (lv_at hl 0 rfl) ?_
            refine va_iald hx hb hE.1 hP 3 3 rfl rfl (vp_in_nI (by omega) (by omega)) d_Md_look_43 ?_
            rw [nI_clamp (n := t2) (by omega), hfr]
            refine va_put (D := D) (ci := 6) (v := .int (nI f0)) (ty := .int) (C := R_Md) (T := F_Md) (N := 44) hx hb hts (fun w h => List.mem_cons_of_mem _ (i_Md w h)) t_Md tk_Md n_Md hown hE.1 hP hD hS 0 rfl rfl 43 (by decide) (hts _ (List.mem_cons_of_mem _ iw3_97)) (fun _ h9 => h9) rfl (by decide +kernel) rfl rfl (Nat.le_of_ble_eq_true rfl) d_Md_look_44 (fun H locs hP hD hS => ?_)
            have hP : va_P D cls [(m0, .inr (6, mF g (K.1, K.2.1, K.2.2.1, nI T.length, nI X.length, K.2.2.2.2.2.1, K.2.2.2.2.2.2.1, K.2.2.2.2.2.2.2.1, nI f0) A0 e np B)), ((g 30), .inl (cA 3, 2000, .inl yb)), ((g 34), .inl (cA 3, 2000, .inl kd)), ((g 35), .inl (cA 3, 2000, .inl fr)), ((g 36), .inl (cA 3, 2000, .inl to)), ((g 37), .inl (cA 3, 2000, .inl re)), ((g 38), .inl (cA 3, 2000, .inl ow)), ((g 39), .inl (cA 3, 2000, .inl fi)), ((g 40), .inl (cA 3, 2000, .inl be))] H := hP
            have hD : va_D A [(m0, .inr (6, mF g (K.1, K.2.1, K.2.2.1, nI T.length, nI X.length, K.2.2.2.2.2.1, K.2.2.2.2.2.2.1, K.2.2.2.2.2.2.2.1, nI f0) A0 e np B)), ((g 30), .inl (cA 3, 2000, .inl yb)), ((g 34), .inl (cA 3, 2000, .inl kd)), ((g 35), .inl (cA 3, 2000, .inl fr)), ((g 36), .inl (cA 3, 2000, .inl to)), ((g 37), .inl (cA 3, 2000, .inl re)), ((g 38), .inl (cA 3, 2000, .inl ow)), ((g 39), .inl (cA 3, 2000, .inl fi)), ((g 40), .inl (cA 3, 2000, .inl be))] := hD
            obtain ⟨c0, a1, a2, hgl, ha2, hzz, hexx⟩ := p5 rfl
            obtain ⟨hg1, hg2, rfl⟩ := pGlo_inv hgl
            subst hg2
            subst hzz
            rcases (show wh = 0 ∨ wh = 1 ∨ wh = 2 ∨ wh = 3 ∨ wh = 4 ∨ wh = 5 ∨ wh = 6 ∨ wh = 7 ∨ 8 ≤ wh by omega) with rfl | rfl | rfl | rfl | rfl | rfl | rfl | rfl | hw8
            · have hl : lv_has ls 6 [(4, .int (nI t2)), (0, .ref m0), (1, .int 5), (2, .int (nI j)), (3, .int 0)] := hl
              refine lv_iload_n hx hb d_Md_look_47 rfl (lv_at hl 2 rfl) ?_
              refine lv_tableIn (off := 178) (tgt := 226) hx hb d_Md_look_48 (by decide) (by decide) (by decide) (by decide) ?_
              refine lv_iload_n hx hb d_Md_look_226 rfl (lv_at hl 4 rfl) ?_
              refine lv_iconst (v := 1) hx hb d_Md_look_227 (by decide) ?_
              refine lv_icmp_ne (tgt := 244) hx hb d_Md_look_228 (by decide) (fun c_228 => ?_) (fun c_228 => absurd c_228 (by decide))
              refine lv_iload_n hx hb d_Md_look_244 rfl (lv_at hl 4 rfl) ?_
              refine lv_iconst (v := 2) hx hb d_Md_look_245 (by decide) ?_
              refine lv_icmp_ne (tgt := 264) hx hb d_Md_look_246 (by decide) (fun c_246 => ?_) (fun c_246 => absurd c_246 (by decide))
              refine lv_iload_n hx hb d_Md_look_264 rfl (lv_at hl 4 rfl) ?_
              refine lv_iconst (v := 4) hx hb d_Md_look_265 (by decide) ?_
              refine lv_icmp_eq (tgt := 274) hx hb d_Md_look_266 (by decide) (fun c_266 => absurd c_266 (by decide)) (fun c_266 => ?_)
              refine lv_iload_n hx hb d_Md_look_269 rfl (lv_at hl 4 rfl) ?_
              refine lv_iconst (v := 5) hx hb d_Md_look_270 (by decide) ?_
              refine lv_icmp_ne (tgt := 285) hx hb d_Md_look_271 (by decide) (fun c_271 => ?_) (fun c_271 => absurd c_271 (by decide))
              refine lv_ldc2 hx hb hown (hts _ (List.mem_cons_of_mem _ iw3_204)) d_Md_look_285 ?_
              exact cRl (nI f0) hx hb hr hlocks d_Md_look_288 hS hP hD (by rw [hS9]; exact rfl) (Nat.le_refl _) (Nat.le_refl _)
            · have hl : lv_has ls 6 [(4, .int (nI t2)), (0, .ref m0), (1, .int 5), (2, .int (nI j)), (3, .int 1)] := hl
              refine lv_iload_n hx hb d_Md_look_47 rfl (lv_at hl 2 rfl) ?_
              refine lv_tableIn (off := 178) (tgt := 226) hx hb d_Md_look_48 (by decide) (by decide) (by decide) (by decide) ?_
              refine lv_iload_n hx hb d_Md_look_226 rfl (lv_at hl 4 rfl) ?_
              refine lv_iconst (v := 1) hx hb d_Md_look_227 (by decide) ?_
              refine lv_icmp_ne (tgt := 244) hx hb d_Md_look_228 (by decide) (fun c_228 => absurd (by decide) c_228) (fun c_228 => ?_)
              refine lv_aload_n hx hb d_Md_look_231 rfl (lv_at hl 1 rfl) ?_
              refine va_get (D := D) (ci := 6) (v := .ref (g 30)) (C := R_Md) (T := F_Md) (N := 44) hx hb hts (fun w h => List.mem_cons_of_mem _ (i_Md w h)) hown hE.1 hP 0 rfl rfl 30 (by decide) (hts _ (List.mem_cons_of_mem _ iw3_84)) (fun _ h9 => h9) rfl d_Md_look_232 ?_
              refine lv_aload_n hx hb d_Md_look_235 rfl (lv_at hl 1 rfl) ?_
              refine va_get (D := D) (ci := 6) (v := .int (nI f0)) (C := R_Md) (T := F_Md) (N := 44) hx hb hts (fun w h => List.mem_cons_of_mem _ (i_Md w h)) hown hE.1 hP 0 rfl rfl 43 (by decide) (hts _ (List.mem_cons_of_mem _ iw3_97)) (fun _ h9 => h9) rfl d_Md_look_236 ?_
              refine va_iald hx hb hE.1 hP 1 3 rfl rfl (vp_in_nI (by omega) (by omega)) d_Md_look_239 ?_
              rw [nI_clamp (n := f0) (by omega), hyb f0 (by omega)]
              refine lv_i2l hx hb d_Md_look_240 rfl ?_
              rw [nI_l (n := b f0) (by have := hb9 f0; omega)]
              refine lv_goto (tgt := 288) hx hb d_Md_look_241 (by decide) ?_
              exact cRl (nI f0) hx hb hr hlocks d_Md_look_288 hS hP hD (by rw [hS9]; exact rfl) (Nat.le_refl _) (Nat.le_refl _)
            · have hl : lv_has ls 6 [(4, .int (nI t2)), (0, .ref m0), (1, .int 5), (2, .int (nI j)), (3, .int 2)] := hl
              refine lv_iload_n hx hb d_Md_look_47 rfl (lv_at hl 2 rfl) ?_
              refine lv_tableIn (off := 178) (tgt := 226) hx hb d_Md_look_48 (by decide) (by decide) (by decide) (by decide) ?_
              refine lv_iload_n hx hb d_Md_look_226 rfl (lv_at hl 4 rfl) ?_
              refine lv_iconst (v := 1) hx hb d_Md_look_227 (by decide) ?_
              refine lv_icmp_ne (tgt := 244) hx hb d_Md_look_228 (by decide) (fun c_228 => ?_) (fun c_228 => absurd c_228 (by decide))
              refine lv_iload_n hx hb d_Md_look_244 rfl (lv_at hl 4 rfl) ?_
              refine lv_iconst (v := 2) hx hb d_Md_look_245 (by decide) ?_
              refine lv_icmp_ne (tgt := 264) hx hb d_Md_look_246 (by decide) (fun c_246 => absurd (by decide) c_246) (fun c_246 => ?_)
              refine lv_aload_n hx hb d_Md_look_249 rfl (lv_at hl 1 rfl) ?_
              refine va_get (D := D) (ci := 6) (v := .ref (g 30)) (C := R_Md) (T := F_Md) (N := 44) hx hb hts (fun w h => List.mem_cons_of_mem _ (i_Md w h)) hown hE.1 hP 0 rfl rfl 30 (by decide) (hts _ (List.mem_cons_of_mem _ iw3_84)) (fun _ h9 => h9) rfl d_Md_look_250 ?_
              refine lv_aload_n hx hb d_Md_look_253 rfl (lv_at hl 1 rfl) ?_
              refine va_get (D := D) (ci := 6) (v := .int (nI f0)) (C := R_Md) (T := F_Md) (N := 44) hx hb hts (fun w h => List.mem_cons_of_mem _ (i_Md w h)) hown hE.1 hP 0 rfl rfl 43 (by decide) (hts _ (List.mem_cons_of_mem _ iw3_97)) (fun _ h9 => h9) rfl d_Md_look_254 ?_
              refine lv_iconst (v := 1) hx hb d_Md_look_257 (by decide) ?_
              refine lv_iadd hx hb d_Md_look_258 ?_
              rw [nI_1]
              refine va_iald hx hb hE.1 hP 1 3 rfl rfl (vp_in_nI (by omega) (by omega)) d_Md_look_259 ?_
              rw [nI_clamp (n := (f0 + 1)) (by omega), hyb (f0 + 1) (by omega)]
              refine lv_i2l hx hb d_Md_look_260 rfl ?_
              rw [nI_l (n := b (f0 + 1)) (by have := hb9 (f0 + 1); omega)]
              refine lv_goto (tgt := 288) hx hb d_Md_look_261 (by decide) ?_
              exact cRl (nI f0) hx hb hr hlocks d_Md_look_288 hS hP hD (by rw [hS9]; exact rfl) (Nat.le_refl _) (Nat.le_refl _)
            · have hl : lv_has ls 6 [(4, .int (nI t2)), (0, .ref m0), (1, .int 5), (2, .int (nI j)), (3, .int 3)] := hl
              refine lv_iload_n hx hb d_Md_look_47 rfl (lv_at hl 2 rfl) ?_
              refine lv_tableIn (off := 178) (tgt := 226) hx hb d_Md_look_48 (by decide) (by decide) (by decide) (by decide) ?_
              refine lv_iload_n hx hb d_Md_look_226 rfl (lv_at hl 4 rfl) ?_
              refine lv_iconst (v := 1) hx hb d_Md_look_227 (by decide) ?_
              refine lv_icmp_ne (tgt := 244) hx hb d_Md_look_228 (by decide) (fun c_228 => ?_) (fun c_228 => absurd c_228 (by decide))
              refine lv_iload_n hx hb d_Md_look_244 rfl (lv_at hl 4 rfl) ?_
              refine lv_iconst (v := 2) hx hb d_Md_look_245 (by decide) ?_
              refine lv_icmp_ne (tgt := 264) hx hb d_Md_look_246 (by decide) (fun c_246 => ?_) (fun c_246 => absurd c_246 (by decide))
              refine lv_iload_n hx hb d_Md_look_264 rfl (lv_at hl 4 rfl) ?_
              refine lv_iconst (v := 4) hx hb d_Md_look_265 (by decide) ?_
              refine lv_icmp_eq (tgt := 274) hx hb d_Md_look_266 (by decide) (fun c_266 => absurd c_266 (by decide)) (fun c_266 => ?_)
              refine lv_iload_n hx hb d_Md_look_269 rfl (lv_at hl 4 rfl) ?_
              refine lv_iconst (v := 5) hx hb d_Md_look_270 (by decide) ?_
              refine lv_icmp_ne (tgt := 285) hx hb d_Md_look_271 (by decide) (fun c_271 => ?_) (fun c_271 => absurd c_271 (by decide))
              refine lv_ldc2 hx hb hown (hts _ (List.mem_cons_of_mem _ iw3_204)) d_Md_look_285 ?_
              exact cRl (nI f0) hx hb hr hlocks d_Md_look_288 hS hP hD (by rw [hS9]; exact rfl) (Nat.le_refl _) (Nat.le_refl _)
            · have hl : lv_has ls 6 [(4, .int (nI t2)), (0, .ref m0), (1, .int 5), (2, .int (nI j)), (3, .int 4)] := hl
              refine lv_iload_n hx hb d_Md_look_47 rfl (lv_at hl 2 rfl) ?_
              refine lv_tableIn (off := 178) (tgt := 226) hx hb d_Md_look_48 (by decide) (by decide) (by decide) (by decide) ?_
              refine lv_iload_n hx hb d_Md_look_226 rfl (lv_at hl 4 rfl) ?_
              refine lv_iconst (v := 1) hx hb d_Md_look_227 (by decide) ?_
              refine lv_icmp_ne (tgt := 244) hx hb d_Md_look_228 (by decide) (fun c_228 => ?_) (fun c_228 => absurd c_228 (by decide))
              refine lv_iload_n hx hb d_Md_look_244 rfl (lv_at hl 4 rfl) ?_
              refine lv_iconst (v := 2) hx hb d_Md_look_245 (by decide) ?_
              refine lv_icmp_ne (tgt := 264) hx hb d_Md_look_246 (by decide) (fun c_246 => ?_) (fun c_246 => absurd c_246 (by decide))
              refine lv_iload_n hx hb d_Md_look_264 rfl (lv_at hl 4 rfl) ?_
              refine lv_iconst (v := 4) hx hb d_Md_look_265 (by decide) ?_
              refine lv_icmp_eq (tgt := 274) hx hb d_Md_look_266 (by decide) (fun c_266 => ?_) (fun c_266 => absurd (by decide) c_266)
              refine lv_aload_n hx hb d_Md_look_274 rfl (lv_at hl 1 rfl) ?_
              refine lv_iload hx hb d_Md_look_275 (lv_at hl 0 rfl) ?_
              refine lv_iload_n hx hb d_Md_look_277 rfl (lv_at hl 4 rfl) ?_
              refine cV (As := [.int (nI t2), .int 4]) (rest := []) (n := 2) (wc := [(m0, .inr (6, mF g (K.1, K.2.1, K.2.2.1, nI T.length, nI X.length, K.2.2.2.2.2.1, K.2.2.2.2.2.2.1, K.2.2.2.2.2.2.2.1, nI f0) A0 e np B)), ((g 38), .inl (cA 3, 2000, .inl ow)), ((g 39), .inl (cA 3, 2000, .inl fi)), ((g 40), .inl (cA 3, 2000, .inl be))]) (wr := [((g 30), .inl (cA 3, 2000, .inl yb)), ((g 34), .inl (cA 3, 2000, .inl kd)), ((g 35), .inl (cA 3, 2000, .inl fr)), ((g 36), .inl (cA 3, 2000, .inl to)), ((g 37), .inl (cA 3, 2000, .inl re))]) ⟨hx, hb, hml, hown, hts⟩ hno hlocks hl.1 (c_Md_placeOf l hl9 D cA ad H.size m0 g (K.1, K.2.1, K.2.2.1, nI T.length, nI X.length, K.2.2.2.2.2.1, K.2.2.2.2.2.2.1, K.2.2.2.2.2.2.2.1, nI f0) A0 e np B ow fi be X hXH hXf hX t2 (by omega) (f0 + 2) a2 [] hexx (4 : Int32)) iw4_152 iw4_154 sel_Md_placeOf iw1_7 iw4_155 (by decide +kernel) rfl ⟨Nat.le_of_ble_eq_true rfl, Nat.le_of_ble_eq_true rfl⟩ ⟨Nat.le_of_ble_eq_true rfl, Nat.le_of_ble_eq_true rfl⟩ rfl (Nat.le_of_ble_eq_true rfl) d_Md_look_278 hE hP hD hS hA [0, 6, 7, 8] [1, 2, 3, 4, 5] rfl rfl rfl rfl (by decide) (ci := 6) rfl rfl 0 rfl (fun _ h => h.elim) (fun v_278 u_278 H locs hp_278 hP hD hS => ?_)
              obtain rfl := hp_278
              have hP : va_P D cls [(m0, .inr (6, mF g (K.1, K.2.1, K.2.2.1, nI T.length, nI X.length, K.2.2.2.2.2.1, K.2.2.2.2.2.2.1, K.2.2.2.2.2.2.2.1, nI f0) A0 e np B)), ((g 30), .inl (cA 3, 2000, .inl yb)), ((g 34), .inl (cA 3, 2000, .inl kd)), ((g 35), .inl (cA 3, 2000, .inl fr)), ((g 36), .inl (cA 3, 2000, .inl to)), ((g 37), .inl (cA 3, 2000, .inl re)), ((g 38), .inl (cA 3, 2000, .inl ow)), ((g 39), .inl (cA 3, 2000, .inl fi)), ((g 40), .inl (cA 3, 2000, .inl be))] H := hP.sub [5, 0, 1, 2, 3, 4, 6, 7, 8] rfl
              have hD : va_D A [(m0, .inr (6, mF g (K.1, K.2.1, K.2.2.1, nI T.length, nI X.length, K.2.2.2.2.2.1, K.2.2.2.2.2.2.1, K.2.2.2.2.2.2.2.1, nI f0) A0 e np B)), ((g 30), .inl (cA 3, 2000, .inl yb)), ((g 34), .inl (cA 3, 2000, .inl kd)), ((g 35), .inl (cA 3, 2000, .inl fr)), ((g 36), .inl (cA 3, 2000, .inl to)), ((g 37), .inl (cA 3, 2000, .inl re)), ((g 38), .inl (cA 3, 2000, .inl ow)), ((g 39), .inl (cA 3, 2000, .inl fi)), ((g 40), .inl (cA 3, 2000, .inl be))] := hD.sub [5, 0, 1, 2, 3, 4, 6, 7, 8] (by decide) rfl
              refine W.cs (cells' := 0) (slots' := 0) rfl rfl ?_
              refine W.eq (g2 := F0 m 281 ls [.int (if (4 : Int32) = 4 then nI (f0 + 2) else nI a2)]) rfl ?_
              refine lv_i2l hx hb d_Md_look_281 rfl ?_
              rw [if_pos rfl, nI_l (n := f0 + 2) (by omega)]
              refine lv_goto (tgt := 288) hx hb d_Md_look_282 (by decide) ?_
              exact cRl (nI f0) hx hb hr hlocks d_Md_look_288 hS hP hD (by rw [hS9]; exact rfl) (Nat.le_refl _) (Nat.le_refl _)
            · have hl : lv_has ls 6 [(4, .int (nI t2)), (0, .ref m0), (1, .int 5), (2, .int (nI j)), (3, .int 5)] := hl
              refine lv_iload_n hx hb d_Md_look_47 rfl (lv_at hl 2 rfl) ?_
              refine lv_tableIn (off := 178) (tgt := 226) hx hb d_Md_look_48 (by decide) (by decide) (by decide) (by decide) ?_
              refine lv_iload_n hx hb d_Md_look_226 rfl (lv_at hl 4 rfl) ?_
              refine lv_iconst (v := 1) hx hb d_Md_look_227 (by decide) ?_
              refine lv_icmp_ne (tgt := 244) hx hb d_Md_look_228 (by decide) (fun c_228 => ?_) (fun c_228 => absurd c_228 (by decide))
              refine lv_iload_n hx hb d_Md_look_244 rfl (lv_at hl 4 rfl) ?_
              refine lv_iconst (v := 2) hx hb d_Md_look_245 (by decide) ?_
              refine lv_icmp_ne (tgt := 264) hx hb d_Md_look_246 (by decide) (fun c_246 => ?_) (fun c_246 => absurd c_246 (by decide))
              refine lv_iload_n hx hb d_Md_look_264 rfl (lv_at hl 4 rfl) ?_
              refine lv_iconst (v := 4) hx hb d_Md_look_265 (by decide) ?_
              refine lv_icmp_eq (tgt := 274) hx hb d_Md_look_266 (by decide) (fun c_266 => absurd c_266 (by decide)) (fun c_266 => ?_)
              refine lv_iload_n hx hb d_Md_look_269 rfl (lv_at hl 4 rfl) ?_
              refine lv_iconst (v := 5) hx hb d_Md_look_270 (by decide) ?_
              refine lv_icmp_ne (tgt := 285) hx hb d_Md_look_271 (by decide) (fun c_271 => absurd (by decide) c_271) (fun c_271 => ?_)
              refine lv_aload_n hx hb d_Md_look_274 rfl (lv_at hl 1 rfl) ?_
              refine lv_iload hx hb d_Md_look_275 (lv_at hl 0 rfl) ?_
              refine lv_iload_n hx hb d_Md_look_277 rfl (lv_at hl 4 rfl) ?_
              refine cV (As := [.int (nI t2), .int 5]) (rest := []) (n := 2) (wc := [(m0, .inr (6, mF g (K.1, K.2.1, K.2.2.1, nI T.length, nI X.length, K.2.2.2.2.2.1, K.2.2.2.2.2.2.1, K.2.2.2.2.2.2.2.1, nI f0) A0 e np B)), ((g 38), .inl (cA 3, 2000, .inl ow)), ((g 39), .inl (cA 3, 2000, .inl fi)), ((g 40), .inl (cA 3, 2000, .inl be))]) (wr := [((g 30), .inl (cA 3, 2000, .inl yb)), ((g 34), .inl (cA 3, 2000, .inl kd)), ((g 35), .inl (cA 3, 2000, .inl fr)), ((g 36), .inl (cA 3, 2000, .inl to)), ((g 37), .inl (cA 3, 2000, .inl re))]) ⟨hx, hb, hml, hown, hts⟩ hno hlocks hl.1 (c_Md_placeOf l hl9 D cA ad H.size m0 g (K.1, K.2.1, K.2.2.1, nI T.length, nI X.length, K.2.2.2.2.2.1, K.2.2.2.2.2.2.1, K.2.2.2.2.2.2.2.1, nI f0) A0 e np B ow fi be X hXH hXf hX t2 (by omega) (f0 + 2) a2 [] hexx (5 : Int32)) iw4_152 iw4_154 sel_Md_placeOf iw1_7 iw4_155 (by decide +kernel) rfl ⟨Nat.le_of_ble_eq_true rfl, Nat.le_of_ble_eq_true rfl⟩ ⟨Nat.le_of_ble_eq_true rfl, Nat.le_of_ble_eq_true rfl⟩ rfl (Nat.le_of_ble_eq_true rfl) d_Md_look_278 hE hP hD hS hA [0, 6, 7, 8] [1, 2, 3, 4, 5] rfl rfl rfl rfl (by decide) (ci := 6) rfl rfl 0 rfl (fun _ h => h.elim) (fun v_278 u_278 H locs hp_278 hP hD hS => ?_)
              obtain rfl := hp_278
              have hP : va_P D cls [(m0, .inr (6, mF g (K.1, K.2.1, K.2.2.1, nI T.length, nI X.length, K.2.2.2.2.2.1, K.2.2.2.2.2.2.1, K.2.2.2.2.2.2.2.1, nI f0) A0 e np B)), ((g 30), .inl (cA 3, 2000, .inl yb)), ((g 34), .inl (cA 3, 2000, .inl kd)), ((g 35), .inl (cA 3, 2000, .inl fr)), ((g 36), .inl (cA 3, 2000, .inl to)), ((g 37), .inl (cA 3, 2000, .inl re)), ((g 38), .inl (cA 3, 2000, .inl ow)), ((g 39), .inl (cA 3, 2000, .inl fi)), ((g 40), .inl (cA 3, 2000, .inl be))] H := hP.sub [5, 0, 1, 2, 3, 4, 6, 7, 8] rfl
              have hD : va_D A [(m0, .inr (6, mF g (K.1, K.2.1, K.2.2.1, nI T.length, nI X.length, K.2.2.2.2.2.1, K.2.2.2.2.2.2.1, K.2.2.2.2.2.2.2.1, nI f0) A0 e np B)), ((g 30), .inl (cA 3, 2000, .inl yb)), ((g 34), .inl (cA 3, 2000, .inl kd)), ((g 35), .inl (cA 3, 2000, .inl fr)), ((g 36), .inl (cA 3, 2000, .inl to)), ((g 37), .inl (cA 3, 2000, .inl re)), ((g 38), .inl (cA 3, 2000, .inl ow)), ((g 39), .inl (cA 3, 2000, .inl fi)), ((g 40), .inl (cA 3, 2000, .inl be))] := hD.sub [5, 0, 1, 2, 3, 4, 6, 7, 8] (by decide) rfl
              refine W.cs (cells' := 0) (slots' := 0) rfl rfl ?_
              refine W.eq (g2 := F0 m 281 ls [.int (if (5 : Int32) = 4 then nI (f0 + 2) else nI a2)]) rfl ?_
              refine lv_i2l hx hb d_Md_look_281 rfl ?_
              rw [if_neg (by decide), nI_l (n := a2) (by omega)]
              refine lv_goto (tgt := 288) hx hb d_Md_look_282 (by decide) ?_
              exact cRl (nI f0) hx hb hr hlocks d_Md_look_288 hS hP hD (by rw [hS9]; exact rfl) (Nat.le_refl _) (Nat.le_refl _)
            · have hl : lv_has ls 6 [(4, .int (nI t2)), (0, .ref m0), (1, .int 5), (2, .int (nI j)), (3, .int 6)] := hl
              refine lv_iload_n hx hb d_Md_look_47 rfl (lv_at hl 2 rfl) ?_
              refine lv_tableIn (off := 178) (tgt := 226) hx hb d_Md_look_48 (by decide) (by decide) (by decide) (by decide) ?_
              refine lv_iload_n hx hb d_Md_look_226 rfl (lv_at hl 4 rfl) ?_
              refine lv_iconst (v := 1) hx hb d_Md_look_227 (by decide) ?_
              refine lv_icmp_ne (tgt := 244) hx hb d_Md_look_228 (by decide) (fun c_228 => ?_) (fun c_228 => absurd c_228 (by decide))
              refine lv_iload_n hx hb d_Md_look_244 rfl (lv_at hl 4 rfl) ?_
              refine lv_iconst (v := 2) hx hb d_Md_look_245 (by decide) ?_
              refine lv_icmp_ne (tgt := 264) hx hb d_Md_look_246 (by decide) (fun c_246 => ?_) (fun c_246 => absurd c_246 (by decide))
              refine lv_iload_n hx hb d_Md_look_264 rfl (lv_at hl 4 rfl) ?_
              refine lv_iconst (v := 4) hx hb d_Md_look_265 (by decide) ?_
              refine lv_icmp_eq (tgt := 274) hx hb d_Md_look_266 (by decide) (fun c_266 => absurd c_266 (by decide)) (fun c_266 => ?_)
              refine lv_iload_n hx hb d_Md_look_269 rfl (lv_at hl 4 rfl) ?_
              refine lv_iconst (v := 5) hx hb d_Md_look_270 (by decide) ?_
              refine lv_icmp_ne (tgt := 285) hx hb d_Md_look_271 (by decide) (fun c_271 => ?_) (fun c_271 => absurd c_271 (by decide))
              refine lv_ldc2 hx hb hown (hts _ (List.mem_cons_of_mem _ iw3_204)) d_Md_look_285 ?_
              exact cRl (nI f0) hx hb hr hlocks d_Md_look_288 hS hP hD (by rw [hS9]; exact rfl) (Nat.le_refl _) (Nat.le_refl _)
            · have hl : lv_has ls 6 [(4, .int (nI t2)), (0, .ref m0), (1, .int 5), (2, .int (nI j)), (3, .int 7)] := hl
              refine lv_iload_n hx hb d_Md_look_47 rfl (lv_at hl 2 rfl) ?_
              refine lv_tableIn (off := 178) (tgt := 226) hx hb d_Md_look_48 (by decide) (by decide) (by decide) (by decide) ?_
              refine lv_iload_n hx hb d_Md_look_226 rfl (lv_at hl 4 rfl) ?_
              refine lv_iconst (v := 1) hx hb d_Md_look_227 (by decide) ?_
              refine lv_icmp_ne (tgt := 244) hx hb d_Md_look_228 (by decide) (fun c_228 => ?_) (fun c_228 => absurd c_228 (by decide))
              refine lv_iload_n hx hb d_Md_look_244 rfl (lv_at hl 4 rfl) ?_
              refine lv_iconst (v := 2) hx hb d_Md_look_245 (by decide) ?_
              refine lv_icmp_ne (tgt := 264) hx hb d_Md_look_246 (by decide) (fun c_246 => ?_) (fun c_246 => absurd c_246 (by decide))
              refine lv_iload_n hx hb d_Md_look_264 rfl (lv_at hl 4 rfl) ?_
              refine lv_iconst (v := 4) hx hb d_Md_look_265 (by decide) ?_
              refine lv_icmp_eq (tgt := 274) hx hb d_Md_look_266 (by decide) (fun c_266 => absurd c_266 (by decide)) (fun c_266 => ?_)
              refine lv_iload_n hx hb d_Md_look_269 rfl (lv_at hl 4 rfl) ?_
              refine lv_iconst (v := 5) hx hb d_Md_look_270 (by decide) ?_
              refine lv_icmp_ne (tgt := 285) hx hb d_Md_look_271 (by decide) (fun c_271 => ?_) (fun c_271 => absurd c_271 (by decide))
              refine lv_ldc2 hx hb hown (hts _ (List.mem_cons_of_mem _ iw3_204)) d_Md_look_285 ?_
              exact cRl (nI f0) hx hb hr hlocks d_Md_look_288 hS hP hD (by rw [hS9]; exact rfl) (Nat.le_refl _) (Nat.le_refl _)
            · have hl := hl
              refine lv_iload_n hx hb d_Md_look_47 rfl (lv_at hl 2 rfl) ?_
              refine lv_tableIn (off := 178) (tgt := 226) hx hb d_Md_look_48 (by decide) (by decide) (by decide) (by decide) ?_
              refine lv_iload_n hx hb d_Md_look_226 rfl (lv_at hl 4 rfl) ?_
              refine lv_iconst (v := 1) hx hb d_Md_look_227 (by decide) ?_
              refine lv_icmp_ne (tgt := 244) hx hb d_Md_look_228 (by decide) (fun c_228 => ?_) (fun c_228 => absurd c_228 (fun q => absurd ((nI_eq (a := wh) (b := 1) (by omega) (by decide)).mp q) (by omega)))
              refine lv_iload_n hx hb d_Md_look_244 rfl (lv_at hl 4 rfl) ?_
              refine lv_iconst (v := 2) hx hb d_Md_look_245 (by decide) ?_
              refine lv_icmp_ne (tgt := 264) hx hb d_Md_look_246 (by decide) (fun c_246 => ?_) (fun c_246 => absurd c_246 (fun q => absurd ((nI_eq (a := wh) (b := 2) (by omega) (by decide)).mp q) (by omega)))
              refine lv_iload_n hx hb d_Md_look_264 rfl (lv_at hl 4 rfl) ?_
              refine lv_iconst (v := 4) hx hb d_Md_look_265 (by decide) ?_
              refine lv_icmp_eq (tgt := 274) hx hb d_Md_look_266 (by decide) (fun c_266 => absurd c_266 (fun q => absurd ((nI_eq (a := wh) (b := 4) (by omega) (by decide)).mp q) (by omega))) (fun c_266 => ?_)
              refine lv_iload_n hx hb d_Md_look_269 rfl (lv_at hl 4 rfl) ?_
              refine lv_iconst (v := 5) hx hb d_Md_look_270 (by decide) ?_
              refine lv_icmp_ne (tgt := 285) hx hb d_Md_look_271 (by decide) (fun c_271 => ?_) (fun c_271 => absurd c_271 (fun q => absurd ((nI_eq (a := wh) (b := 5) (by omega) (by decide)).mp q) (by omega)))
              refine lv_ldc2 hx hb hown (hts _ (List.mem_cons_of_mem _ iw3_204)) d_Md_look_285 ?_
              exact cRl (nI f0) hx hb hr hlocks d_Md_look_288 hS hP hD (by rw [hS9]; exact by rw [lkS, if_pos hw8]; rfl) (Nat.le_refl _) (Nat.le_refl _)
          · refine lv_ldc2 hx hb hown (hts _ (List.mem_cons_of_mem _ iw3_204)) d_Md_look_32 ?_
            exact cRl (K.2.2.2.2.2.2.2.2) hx hb hr hlocks d_Md_look_35 hS hP hD (congrArg (fun z : Int64 => some (Value.long z)) (sLook_bc (LS := LS) (LL := LL) (x := nI 5) (k := nI j) (c := c) (Int32.not_le.mp c_29)).symm) (Nat.le_refl _) (Nat.le_refl _)
      · have hl : lv_has ls 6 [(0, .ref m0), (1, .int 6), (2, .int k), (3, .int c)] := hl
        refine lv_aload_n hx hb d_Md_look_15 rfl (lv_at hl 0 rfl) ?_
        refine lv_iload_n hx hb d_Md_look_16 rfl (lv_at hl 1 rfl) ?_
        refine lv_iload_n hx hb d_Md_look_17 rfl (lv_at hl 2 rfl) ?_
        refine cV (As := [.int 6, .int k]) (rest := []) (n := 2) (wc := [(m0, .inr (6, mF g (K.1, K.2.1, K.2.2.1, nI T.length, nI X.length, K.2.2.2.2.2.1, K.2.2.2.2.2.2.1, K.2.2.2.2.2.2.2.1, K.2.2.2.2.2.2.2.2) A0 e np B)), ((g 34), .inl (cA 3, 2000, .inl kd))]) (wr := [((g 30), .inl (cA 3, 2000, .inl yb)), ((g 35), .inl (cA 3, 2000, .inl fr)), ((g 36), .inl (cA 3, 2000, .inl to)), ((g 37), .inl (cA 3, 2000, .inl re)), ((g 38), .inl (cA 3, 2000, .inl ow)), ((g 39), .inl (cA 3, 2000, .inl fi)), ((g 40), .inl (cA 3, 2000, .inl be))]) ⟨hx, hb, hml, hown, hts⟩ hno hlocks hl.1 (c_Md_thingOf l hl9 D cA ad s.heap.size m0 g (K.1, K.2.1, K.2.2.1, nI T.length, nI X.length, K.2.2.2.2.2.1, K.2.2.2.2.2.2.1, K.2.2.2.2.2.2.2.1, K.2.2.2.2.2.2.2.2) A0 e np B kd fr to re T hTH h11 hT 6 (by decide) k) iw4_128 iw4_130 sel_Md_thingOf iw1_7 iw4_131 (by decide +kernel) rfl ⟨Nat.le_of_ble_eq_true rfl, Nat.le_of_ble_eq_true rfl⟩ ⟨Nat.le_of_ble_eq_true rfl, Nat.le_of_ble_eq_true rfl⟩ rfl (Nat.le_of_ble_eq_true rfl) d_Md_look_18 hE hP hD hS hA [0, 2] [1, 3, 4, 5, 6, 7, 8] rfl rfl rfl rfl (by decide) (ci := 6) rfl rfl 0 rfl (fun _ h => h.elim) (fun v_18 u_18 H locs hp_18 hP hD hS => ?_)
        rcases hp_18 with ⟨rfl, hbad⟩ | ⟨j, t, hj31, ej, hjt, htl, rfl⟩
        · have hbad : k < 0 ∨ nI (LS 6).length ≤ k := hbad.elim Or.inl (fun q => by obtain ⟨j, hj, rfl, q⟩ := q; exact Or.inr (nI_le (by rw [← (hrel.2.2 6 (by decide)).1]; exact q) hj))
          have hP : va_P D cls [(m0, .inr (6, mF g (K.1, K.2.1, K.2.2.1, nI T.length, nI X.length, K.2.2.2.2.2.1, K.2.2.2.2.2.2.1, K.2.2.2.2.2.2.2.1, K.2.2.2.2.2.2.2.2) A0 e np B)), ((g 30), .inl (cA 3, 2000, .inl yb)), ((g 34), .inl (cA 3, 2000, .inl kd)), ((g 35), .inl (cA 3, 2000, .inl fr)), ((g 36), .inl (cA 3, 2000, .inl to)), ((g 37), .inl (cA 3, 2000, .inl re)), ((g 38), .inl (cA 3, 2000, .inl ow)), ((g 39), .inl (cA 3, 2000, .inl fi)), ((g 40), .inl (cA 3, 2000, .inl be))] H := hP.sub [7, 0, 8, 1, 2, 3, 4, 5, 6] rfl
          have hD : va_D A [(m0, .inr (6, mF g (K.1, K.2.1, K.2.2.1, nI T.length, nI X.length, K.2.2.2.2.2.1, K.2.2.2.2.2.2.1, K.2.2.2.2.2.2.2.1, K.2.2.2.2.2.2.2.2) A0 e np B)), ((g 30), .inl (cA 3, 2000, .inl yb)), ((g 34), .inl (cA 3, 2000, .inl kd)), ((g 35), .inl (cA 3, 2000, .inl fr)), ((g 36), .inl (cA 3, 2000, .inl to)), ((g 37), .inl (cA 3, 2000, .inl re)), ((g 38), .inl (cA 3, 2000, .inl ow)), ((g 39), .inl (cA 3, 2000, .inl fi)), ((g 40), .inl (cA 3, 2000, .inl be))] := hD.sub [7, 0, 8, 1, 2, 3, 4, 5, 6] (by decide) rfl
          refine W.cs (cells' := 0) (slots' := 0) rfl rfl ?_
          refine W.eq (g2 := F0 m 21 ls [.int (-1)]) rfl ?_
          refine lv_istore (lv' := [(4, .int (-1)), (0, .ref m0), (1, .int 6), (2, .int k), (3, .int c)]) hx hb d_Md_look_21 hl (by decide) rfl (fun ls hl => ?_)
          refine lv_iload hx hb d_Md_look_23 (lv_at hl 0 rfl) ?_
          refine lv_if_lt (tgt := 32) hx hb d_Md_look_25 (by decide) (fun c_25 => ?_) (fun c_25 => absurd (by decide) c_25)
          refine lv_ldc2 hx hb hown (hts _ (List.mem_cons_of_mem _ iw3_204)) d_Md_look_32 ?_
          exact cRl (K.2.2.2.2.2.2.2.2) hx hb hr hlocks d_Md_look_35 hS hP hD (congrArg (fun z : Int64 => some (Value.long z)) (sLook_bk (LS := LS) (LL := LL) (kk := 6) (k := k) (c := c) (by decide) hbad).symm) (Nat.le_refl _) (Nat.le_refl _)
        · subst ej
          have hP : va_P D cls [(m0, .inr (6, mF g (K.1, K.2.1, K.2.2.1, nI T.length, nI X.length, K.2.2.2.2.2.1, K.2.2.2.2.2.2.1, K.2.2.2.2.2.2.2.1, K.2.2.2.2.2.2.2.2) A0 e np B)), ((g 30), .inl (cA 3, 2000, .inl yb)), ((g 34), .inl (cA 3, 2000, .inl kd)), ((g 35), .inl (cA 3, 2000, .inl fr)), ((g 36), .inl (cA 3, 2000, .inl to)), ((g 37), .inl (cA 3, 2000, .inl re)), ((g 38), .inl (cA 3, 2000, .inl ow)), ((g 39), .inl (cA 3, 2000, .inl fi)), ((g 40), .inl (cA 3, 2000, .inl be))] H := hP.sub [7, 0, 8, 1, 2, 3, 4, 5, 6] rfl
          have hD : va_D A [(m0, .inr (6, mF g (K.1, K.2.1, K.2.2.1, nI T.length, nI X.length, K.2.2.2.2.2.1, K.2.2.2.2.2.2.1, K.2.2.2.2.2.2.2.1, K.2.2.2.2.2.2.2.2) A0 e np B)), ((g 30), .inl (cA 3, 2000, .inl yb)), ((g 34), .inl (cA 3, 2000, .inl kd)), ((g 35), .inl (cA 3, 2000, .inl fr)), ((g 36), .inl (cA 3, 2000, .inl to)), ((g 37), .inl (cA 3, 2000, .inl re)), ((g 38), .inl (cA 3, 2000, .inl ow)), ((g 39), .inl (cA 3, 2000, .inl fi)), ((g 40), .inl (cA 3, 2000, .inl be))] := hD.sub [7, 0, 8, 1, 2, 3, 4, 5, 6] (by decide) rfl
          refine W.cs (cells' := 0) (slots' := 0) rfl rfl ?_
          refine W.eq (g2 := F0 m 21 ls [.int (nI t)]) rfl ?_
          have hl : lv_has ls 6 [(0, .ref m0), (1, .int 6), (2, .int (nI j)), (3, .int c)] := hl
          have hjl : j < (LS 6).length := by rw [← (hrel.2.2 6 (by decide)).1]; exact (List.getElem?_eq_some_iff.mp hjt).1
          obtain ⟨t2, f0, o, e1, e2, e3, e4⟩ := (hrel.2.2 6 (by decide)).2 j hjl
          have et : t2 = t := Option.some.inj (e1.symm.trans hjt)
          subst et
          obtain ⟨-, hfr, hto⟩ := TH_at hTH e2
          rw [e3] at hfr hto
          have hfr : fr t2 = nI f0 := hfr
          obtain ⟨z, hz⟩ : ∃ z, z = ((LS 6).getD j (0, c_1)).2 := ⟨_, rfl⟩
          rw [← hz] at e4
          obtain ⟨lm, dc, a', hlmN, hfl, p0, p1, p2, p3, p4, p5, p6, p7, p8, p9, p10⟩ := e4
          have hlm : lm ≤ 2000 := by omega
          have hyb : ∀ i, i < lm → yb i = nI (b i) := fun i hi => hybN i (by omega)
          refine lv_istore (lv' := [(4, .int (nI t2)), (0, .ref m0), (1, .int 6), (2, .int (nI j)), (3, .int c)]) hx hb d_Md_look_21 hl (by decide) rfl (fun ls hl => ?_)
          refine lv_iload hx hb d_Md_look_23 (lv_at hl 0 rfl) ?_
          refine lv_if_lt (tgt := 32) hx hb d_Md_look_25 (by decide) (fun c_25 => absurd c_25 (nI_pos (by omega))) (fun c_25 => ?_)
          refine lv_iload_n hx hb d_Md_look_28 rfl (lv_at hl 4 rfl) ?_
          refine lv_if_ge (tgt := 36) hx hb d_Md_look_29 (by decide) (fun c_29 => ?_) (fun c_29 => ?_)
          · obtain ⟨wh, hwh, ewh⟩ := i32_nn (Int32.not_lt.mpr c_29)
            subst ewh
            have hl : lv_has ls 6 [(4, .int (nI t2)), (0, .ref m0), (1, .int 6), (2, .int (nI j)), (3, .int (nI wh))] := hl
            have hS9 : sLook LS LL (nI 6) (nI j) (nI wh) = lkS 6 z LL wh := by rw [hz]; exact sLook_ok (by decide) hjl (by have := hLk 6 (by decide); omega) hwh
            refine lv_aload_n hx hb d_Md_look_36 rfl (lv_at hl 1 rfl) ?_
            refine lv_aload_n hx hb d_Md_look_37 rfl (lv_at hl 1 rfl) ?_
            refine va_get (D := D) (ci := 6) (v := .ref (g 35)) (C := R_Md) (T := F_Md) (N := 44) hx hb hts (fun w h => List.mem_cons_of_mem _ (i_Md w h)) hown hE.1 hP 0 rfl rfl 35 (by decide) (hts _ (List.mem_cons_of_mem _ iw3_89)) (fun _ h9 => h9) rfl d_Md_look_38 ?_
            refine lv_iload hx hb d_Md_look_41 (lv_at hl 0 rfl) ?_
            refine va_iald hx hb hE.1 hP 3 3 rfl rfl (vp_in_nI (by omega) (by omega)) d_Md_look_43 ?_
            rw [nI_clamp (n := t2) (by omega), hfr]
            refine va_put (D := D) (ci := 6) (v := .int (nI f0)) (ty := .int) (C := R_Md) (T := F_Md) (N := 44) hx hb hts (fun w h => List.mem_cons_of_mem _ (i_Md w h)) t_Md tk_Md n_Md hown hE.1 hP hD hS 0 rfl rfl 43 (by decide) (hts _ (List.mem_cons_of_mem _ iw3_97)) (fun _ h9 => h9) rfl (by decide +kernel) rfl rfl (Nat.le_of_ble_eq_true rfl) d_Md_look_44 (fun H locs hP hD hS => ?_)
            have hP : va_P D cls [(m0, .inr (6, mF g (K.1, K.2.1, K.2.2.1, nI T.length, nI X.length, K.2.2.2.2.2.1, K.2.2.2.2.2.2.1, K.2.2.2.2.2.2.2.1, nI f0) A0 e np B)), ((g 30), .inl (cA 3, 2000, .inl yb)), ((g 34), .inl (cA 3, 2000, .inl kd)), ((g 35), .inl (cA 3, 2000, .inl fr)), ((g 36), .inl (cA 3, 2000, .inl to)), ((g 37), .inl (cA 3, 2000, .inl re)), ((g 38), .inl (cA 3, 2000, .inl ow)), ((g 39), .inl (cA 3, 2000, .inl fi)), ((g 40), .inl (cA 3, 2000, .inl be))] H := hP
            have hD : va_D A [(m0, .inr (6, mF g (K.1, K.2.1, K.2.2.1, nI T.length, nI X.length, K.2.2.2.2.2.1, K.2.2.2.2.2.2.1, K.2.2.2.2.2.2.2.1, nI f0) A0 e np B)), ((g 30), .inl (cA 3, 2000, .inl yb)), ((g 34), .inl (cA 3, 2000, .inl kd)), ((g 35), .inl (cA 3, 2000, .inl fr)), ((g 36), .inl (cA 3, 2000, .inl to)), ((g 37), .inl (cA 3, 2000, .inl re)), ((g 38), .inl (cA 3, 2000, .inl ow)), ((g 39), .inl (cA 3, 2000, .inl fi)), ((g 40), .inl (cA 3, 2000, .inl be))] := hD
            obtain ⟨nm, a1, v, hn1, ha1, hv, rfl⟩ := pExp_inv (p6 rfl)
            have hq1 := pName_ok hfl hn1
            rcases (show wh = 0 ∨ wh = 1 ∨ wh = 2 ∨ wh = 3 ∨ wh = 4 ∨ wh = 5 ∨ wh = 6 ∨ wh = 7 ∨ 8 ≤ wh by omega) with rfl | rfl | rfl | rfl | rfl | rfl | rfl | rfl | hw8
            · have hl : lv_has ls 6 [(4, .int (nI t2)), (0, .ref m0), (1, .int 6), (2, .int (nI j)), (3, .int 0)] := hl
              refine lv_iload_n hx hb d_Md_look_47 rfl (lv_at hl 2 rfl) ?_
              refine lv_tableIn (off := 241) (tgt := 289) hx hb d_Md_look_48 (by decide) (by decide) (by decide) (by decide) ?_
              refine lv_aload_n hx hb d_Md_look_289 rfl (lv_at hl 1 rfl) ?_
              refine cV (As := []) (rest := []) (n := 0) (wc := [(m0, .inr (6, mF g (K.1, K.2.1, K.2.2.1, nI T.length, nI X.length, K.2.2.2.2.2.1, K.2.2.2.2.2.2.1, K.2.2.2.2.2.2.2.1, nI f0) A0 e np B)), ((g 30), .inl (cA 3, 2000, .inl yb))]) (wr := [((g 34), .inl (cA 3, 2000, .inl kd)), ((g 35), .inl (cA 3, 2000, .inl fr)), ((g 36), .inl (cA 3, 2000, .inl to)), ((g 37), .inl (cA 3, 2000, .inl re)), ((g 38), .inl (cA 3, 2000, .inl ow)), ((g 39), .inl (cA 3, 2000, .inl fi)), ((g 40), .inl (cA 3, 2000, .inl be))]) ⟨hx, hb, hml, hown, hts⟩ hno hlocks hl.1 (c_Md_passName l hl9 D cA ad H.size m0 g (K.1, K.2.1, K.2.2.1, nI T.length, nI X.length, K.2.2.2.2.2.1, K.2.2.2.2.2.2.1, K.2.2.2.2.2.2.2.1, nI f0) A0 e np B yb b lm hlm hyb hb9 f0 a1 nm (by omega) hn1) iw4_144 iw4_146 sel_Md_passName iw1_7 iw4_147 (by decide +kernel) rfl ⟨Nat.le_of_ble_eq_true rfl, Nat.le_of_ble_eq_true rfl⟩ ⟨Nat.le_of_ble_eq_true rfl, Nat.le_of_ble_eq_true rfl⟩ rfl (Nat.le_of_ble_eq_true rfl) d_Md_look_290 hE hP hD hS hA [0, 1] [2, 3, 4, 5, 6, 7, 8] rfl rfl rfl rfl (by decide) (ci := 6) rfl rfl 0 rfl (fun _ h => h.elim) (fun v_290 u_290 H locs hp_290 hP hD hS => ?_)
              obtain rfl := hp_290
              have hP : va_P D cls [(m0, .inr (6, mF g (K.1, K.2.1, K.2.2.1, nI T.length, nI X.length, K.2.2.2.2.2.1, K.2.2.2.2.2.2.1, K.2.2.2.2.2.2.2.1, nI a1) A0 e np B)), ((g 30), .inl (cA 3, 2000, .inl yb)), ((g 34), .inl (cA 3, 2000, .inl kd)), ((g 35), .inl (cA 3, 2000, .inl fr)), ((g 36), .inl (cA 3, 2000, .inl to)), ((g 37), .inl (cA 3, 2000, .inl re)), ((g 38), .inl (cA 3, 2000, .inl ow)), ((g 39), .inl (cA 3, 2000, .inl fi)), ((g 40), .inl (cA 3, 2000, .inl be))] H := hP.sub [7, 8, 0, 1, 2, 3, 4, 5, 6] rfl
              have hD : va_D A [(m0, .inr (6, mF g (K.1, K.2.1, K.2.2.1, nI T.length, nI X.length, K.2.2.2.2.2.1, K.2.2.2.2.2.2.1, K.2.2.2.2.2.2.2.1, nI a1) A0 e np B)), ((g 30), .inl (cA 3, 2000, .inl yb)), ((g 34), .inl (cA 3, 2000, .inl kd)), ((g 35), .inl (cA 3, 2000, .inl fr)), ((g 36), .inl (cA 3, 2000, .inl to)), ((g 37), .inl (cA 3, 2000, .inl re)), ((g 38), .inl (cA 3, 2000, .inl ow)), ((g 39), .inl (cA 3, 2000, .inl fi)), ((g 40), .inl (cA 3, 2000, .inl be))] := hD.sub [7, 8, 0, 1, 2, 3, 4, 5, 6] (by decide) rfl
              refine W.cs (cells' := 0) (slots' := 0) rfl rfl ?_
              refine W.eq (g2 := F0 m 293 ls []) rfl ?_
              refine lv_iload_n hx hb d_Md_look_293 rfl (lv_at hl 4 rfl) ?_
              refine lv_if_ne (tgt := 310) hx hb d_Md_look_294 (by decide) (fun c_294 => absurd (by decide) c_294) (fun c_294 => ?_)
              refine lv_aload_n hx hb d_Md_look_297 rfl (lv_at hl 1 rfl) ?_
              refine va_get (D := D) (ci := 6) (v := .ref (g 30)) (C := R_Md) (T := F_Md) (N := 44) hx hb hts (fun w h => List.mem_cons_of_mem _ (i_Md w h)) hown hE.1 hP 0 rfl rfl 30 (by decide) (hts _ (List.mem_cons_of_mem _ iw3_84)) (fun _ h9 => h9) rfl d_Md_look_298 ?_
              refine lv_aload_n hx hb d_Md_look_301 rfl (lv_at hl 1 rfl) ?_
              refine va_get (D := D) (ci := 6) (v := .int (nI a1)) (C := R_Md) (T := F_Md) (N := 44) hx hb hts (fun w h => List.mem_cons_of_mem _ (i_Md w h)) hown hE.1 hP 0 rfl rfl 43 (by decide) (hts _ (List.mem_cons_of_mem _ iw3_97)) (fun _ h9 => h9) rfl d_Md_look_302 ?_
              refine va_iald hx hb hE.1 hP 1 3 rfl rfl (vp_in_nI (by omega) (by omega)) d_Md_look_305 ?_
              rw [nI_clamp (n := a1) (by omega), hyb a1 (by omega)]
              refine lv_i2l hx hb d_Md_look_306 rfl ?_
              rw [nI_l (n := b a1) (by have := hb9 a1; omega)]
              refine lv_goto (tgt := 325) hx hb d_Md_look_307 (by decide) ?_
              exact cRl (nI a1) hx hb hr hlocks d_Md_look_325 hS hP hD (by rw [hS9]; exact rfl) (Nat.le_refl _) (Nat.le_refl _)
            · have hl : lv_has ls 6 [(4, .int (nI t2)), (0, .ref m0), (1, .int 6), (2, .int (nI j)), (3, .int 1)] := hl
              refine lv_iload_n hx hb d_Md_look_47 rfl (lv_at hl 2 rfl) ?_
              refine lv_tableIn (off := 241) (tgt := 289) hx hb d_Md_look_48 (by decide) (by decide) (by decide) (by decide) ?_
              refine lv_aload_n hx hb d_Md_look_289 rfl (lv_at hl 1 rfl) ?_
              refine cV (As := []) (rest := []) (n := 0) (wc := [(m0, .inr (6, mF g (K.1, K.2.1, K.2.2.1, nI T.length, nI X.length, K.2.2.2.2.2.1, K.2.2.2.2.2.2.1, K.2.2.2.2.2.2.2.1, nI f0) A0 e np B)), ((g 30), .inl (cA 3, 2000, .inl yb))]) (wr := [((g 34), .inl (cA 3, 2000, .inl kd)), ((g 35), .inl (cA 3, 2000, .inl fr)), ((g 36), .inl (cA 3, 2000, .inl to)), ((g 37), .inl (cA 3, 2000, .inl re)), ((g 38), .inl (cA 3, 2000, .inl ow)), ((g 39), .inl (cA 3, 2000, .inl fi)), ((g 40), .inl (cA 3, 2000, .inl be))]) ⟨hx, hb, hml, hown, hts⟩ hno hlocks hl.1 (c_Md_passName l hl9 D cA ad H.size m0 g (K.1, K.2.1, K.2.2.1, nI T.length, nI X.length, K.2.2.2.2.2.1, K.2.2.2.2.2.2.1, K.2.2.2.2.2.2.2.1, nI f0) A0 e np B yb b lm hlm hyb hb9 f0 a1 nm (by omega) hn1) iw4_144 iw4_146 sel_Md_passName iw1_7 iw4_147 (by decide +kernel) rfl ⟨Nat.le_of_ble_eq_true rfl, Nat.le_of_ble_eq_true rfl⟩ ⟨Nat.le_of_ble_eq_true rfl, Nat.le_of_ble_eq_true rfl⟩ rfl (Nat.le_of_ble_eq_true rfl) d_Md_look_290 hE hP hD hS hA [0, 1] [2, 3, 4, 5, 6, 7, 8] rfl rfl rfl rfl (by decide) (ci := 6) rfl rfl 0 rfl (fun _ h => h.elim) (fun v_290 u_290 H locs hp_290 hP hD hS => ?_)
              obtain rfl := hp_290
              have hP : va_P D cls [(m0, .inr (6, mF g (K.1, K.2.1, K.2.2.1, nI T.length, nI X.length, K.2.2.2.2.2.1, K.2.2.2.2.2.2.1, K.2.2.2.2.2.2.2.1, nI a1) A0 e np B)), ((g 30), .inl (cA 3, 2000, .inl yb)), ((g 34), .inl (cA 3, 2000, .inl kd)), ((g 35), .inl (cA 3, 2000, .inl fr)), ((g 36), .inl (cA 3, 2000, .inl to)), ((g 37), .inl (cA 3, 2000, .inl re)), ((g 38), .inl (cA 3, 2000, .inl ow)), ((g 39), .inl (cA 3, 2000, .inl fi)), ((g 40), .inl (cA 3, 2000, .inl be))] H := hP.sub [7, 8, 0, 1, 2, 3, 4, 5, 6] rfl
              have hD : va_D A [(m0, .inr (6, mF g (K.1, K.2.1, K.2.2.1, nI T.length, nI X.length, K.2.2.2.2.2.1, K.2.2.2.2.2.2.1, K.2.2.2.2.2.2.2.1, nI a1) A0 e np B)), ((g 30), .inl (cA 3, 2000, .inl yb)), ((g 34), .inl (cA 3, 2000, .inl kd)), ((g 35), .inl (cA 3, 2000, .inl fr)), ((g 36), .inl (cA 3, 2000, .inl to)), ((g 37), .inl (cA 3, 2000, .inl re)), ((g 38), .inl (cA 3, 2000, .inl ow)), ((g 39), .inl (cA 3, 2000, .inl fi)), ((g 40), .inl (cA 3, 2000, .inl be))] := hD.sub [7, 8, 0, 1, 2, 3, 4, 5, 6] (by decide) rfl
              refine W.cs (cells' := 0) (slots' := 0) rfl rfl ?_
              refine W.eq (g2 := F0 m 293 ls []) rfl ?_
              refine lv_iload_n hx hb d_Md_look_293 rfl (lv_at hl 4 rfl) ?_
              refine lv_if_ne (tgt := 310) hx hb d_Md_look_294 (by decide) (fun c_294 => ?_) (fun c_294 => absurd c_294 (by decide))
              refine lv_iload_n hx hb d_Md_look_310 rfl (lv_at hl 4 rfl) ?_
              refine lv_iconst (v := 1) hx hb d_Md_look_311 (by decide) ?_
              refine lv_icmp_ne (tgt := 322) hx hb d_Md_look_312 (by decide) (fun c_312 => absurd (by decide) c_312) (fun c_312 => ?_)
              refine lv_aload_n hx hb d_Md_look_315 rfl (lv_at hl 1 rfl) ?_
              refine cV (As := []) (rest := []) (n := 0) (wc := [(m0, .inr (6, mF g (K.1, K.2.1, K.2.2.1, nI T.length, nI X.length, K.2.2.2.2.2.1, K.2.2.2.2.2.2.1, K.2.2.2.2.2.2.2.1, nI a1) A0 e np B)), ((g 30), .inl (cA 3, 2000, .inl yb))]) (wr := [((g 34), .inl (cA 3, 2000, .inl kd)), ((g 35), .inl (cA 3, 2000, .inl fr)), ((g 36), .inl (cA 3, 2000, .inl to)), ((g 37), .inl (cA 3, 2000, .inl re)), ((g 38), .inl (cA 3, 2000, .inl ow)), ((g 39), .inl (cA 3, 2000, .inl fi)), ((g 40), .inl (cA 3, 2000, .inl be))]) ⟨hx, hb, hml, hown, hts⟩ hno hlocks hl.1 (c_Md_exportNumber l hl9 D cA ad H.size m0 g (K.1, K.2.1, K.2.2.1, nI T.length, nI X.length, K.2.2.2.2.2.1, K.2.2.2.2.2.2.1, K.2.2.2.2.2.2.2.1, nI a1) A0 e np B yb b lm hlm hyb hb9 a1 v a' (by omega) hv) iw4_160 iw4_162 sel_Md_exportNumber iw1_7 iw4_163 (by decide +kernel) rfl ⟨Nat.le_of_ble_eq_true rfl, Nat.le_of_ble_eq_true rfl⟩ ⟨Nat.le_of_ble_eq_true rfl, Nat.le_of_ble_eq_true rfl⟩ rfl (Nat.le_of_ble_eq_true rfl) d_Md_look_316 hE hP hD hS hA [0, 1] [2, 3, 4, 5, 6, 7, 8] rfl rfl rfl rfl (by decide) (ci := 6) rfl rfl 0 rfl (fun _ h => h.elim) (fun v_316 u_316 H locs hp_316 hP hD hS => ?_)
              obtain rfl := hp_316
              have hP : va_P D cls [(m0, .inr (6, mF g (K.1, K.2.1, K.2.2.1, nI T.length, nI X.length, K.2.2.2.2.2.1, K.2.2.2.2.2.2.1, K.2.2.2.2.2.2.2.1, nI a') A0 e np B)), ((g 30), .inl (cA 3, 2000, .inl yb)), ((g 34), .inl (cA 3, 2000, .inl kd)), ((g 35), .inl (cA 3, 2000, .inl fr)), ((g 36), .inl (cA 3, 2000, .inl to)), ((g 37), .inl (cA 3, 2000, .inl re)), ((g 38), .inl (cA 3, 2000, .inl ow)), ((g 39), .inl (cA 3, 2000, .inl fi)), ((g 40), .inl (cA 3, 2000, .inl be))] H := hP.sub [7, 8, 0, 1, 2, 3, 4, 5, 6] rfl
              have hD : va_D A [(m0, .inr (6, mF g (K.1, K.2.1, K.2.2.1, nI T.length, nI X.length, K.2.2.2.2.2.1, K.2.2.2.2.2.2.1, K.2.2.2.2.2.2.2.1, nI a') A0 e np B)), ((g 30), .inl (cA 3, 2000, .inl yb)), ((g 34), .inl (cA 3, 2000, .inl kd)), ((g 35), .inl (cA 3, 2000, .inl fr)), ((g 36), .inl (cA 3, 2000, .inl to)), ((g 37), .inl (cA 3, 2000, .inl re)), ((g 38), .inl (cA 3, 2000, .inl ow)), ((g 39), .inl (cA 3, 2000, .inl fi)), ((g 40), .inl (cA 3, 2000, .inl be))] := hD.sub [7, 8, 0, 1, 2, 3, 4, 5, 6] (by decide) rfl
              refine W.cs (cells' := 0) (slots' := 0) rfl rfl ?_
              refine W.eq (g2 := F0 m 319 ls [.long (lN v)]) rfl ?_
              refine lv_goto (tgt := 325) hx hb d_Md_look_319 (by decide) ?_
              exact cRl (nI a') hx hb hr hlocks d_Md_look_325 hS hP hD (by rw [hS9]; exact rfl) (Nat.le_refl _) (Nat.le_refl _)
            · have hl : lv_has ls 6 [(4, .int (nI t2)), (0, .ref m0), (1, .int 6), (2, .int (nI j)), (3, .int 2)] := hl
              refine lv_iload_n hx hb d_Md_look_47 rfl (lv_at hl 2 rfl) ?_
              refine lv_tableIn (off := 241) (tgt := 289) hx hb d_Md_look_48 (by decide) (by decide) (by decide) (by decide) ?_
              refine lv_aload_n hx hb d_Md_look_289 rfl (lv_at hl 1 rfl) ?_
              refine cV (As := []) (rest := []) (n := 0) (wc := [(m0, .inr (6, mF g (K.1, K.2.1, K.2.2.1, nI T.length, nI X.length, K.2.2.2.2.2.1, K.2.2.2.2.2.2.1, K.2.2.2.2.2.2.2.1, nI f0) A0 e np B)), ((g 30), .inl (cA 3, 2000, .inl yb))]) (wr := [((g 34), .inl (cA 3, 2000, .inl kd)), ((g 35), .inl (cA 3, 2000, .inl fr)), ((g 36), .inl (cA 3, 2000, .inl to)), ((g 37), .inl (cA 3, 2000, .inl re)), ((g 38), .inl (cA 3, 2000, .inl ow)), ((g 39), .inl (cA 3, 2000, .inl fi)), ((g 40), .inl (cA 3, 2000, .inl be))]) ⟨hx, hb, hml, hown, hts⟩ hno hlocks hl.1 (c_Md_passName l hl9 D cA ad H.size m0 g (K.1, K.2.1, K.2.2.1, nI T.length, nI X.length, K.2.2.2.2.2.1, K.2.2.2.2.2.2.1, K.2.2.2.2.2.2.2.1, nI f0) A0 e np B yb b lm hlm hyb hb9 f0 a1 nm (by omega) hn1) iw4_144 iw4_146 sel_Md_passName iw1_7 iw4_147 (by decide +kernel) rfl ⟨Nat.le_of_ble_eq_true rfl, Nat.le_of_ble_eq_true rfl⟩ ⟨Nat.le_of_ble_eq_true rfl, Nat.le_of_ble_eq_true rfl⟩ rfl (Nat.le_of_ble_eq_true rfl) d_Md_look_290 hE hP hD hS hA [0, 1] [2, 3, 4, 5, 6, 7, 8] rfl rfl rfl rfl (by decide) (ci := 6) rfl rfl 0 rfl (fun _ h => h.elim) (fun v_290 u_290 H locs hp_290 hP hD hS => ?_)
              obtain rfl := hp_290
              have hP : va_P D cls [(m0, .inr (6, mF g (K.1, K.2.1, K.2.2.1, nI T.length, nI X.length, K.2.2.2.2.2.1, K.2.2.2.2.2.2.1, K.2.2.2.2.2.2.2.1, nI a1) A0 e np B)), ((g 30), .inl (cA 3, 2000, .inl yb)), ((g 34), .inl (cA 3, 2000, .inl kd)), ((g 35), .inl (cA 3, 2000, .inl fr)), ((g 36), .inl (cA 3, 2000, .inl to)), ((g 37), .inl (cA 3, 2000, .inl re)), ((g 38), .inl (cA 3, 2000, .inl ow)), ((g 39), .inl (cA 3, 2000, .inl fi)), ((g 40), .inl (cA 3, 2000, .inl be))] H := hP.sub [7, 8, 0, 1, 2, 3, 4, 5, 6] rfl
              have hD : va_D A [(m0, .inr (6, mF g (K.1, K.2.1, K.2.2.1, nI T.length, nI X.length, K.2.2.2.2.2.1, K.2.2.2.2.2.2.1, K.2.2.2.2.2.2.2.1, nI a1) A0 e np B)), ((g 30), .inl (cA 3, 2000, .inl yb)), ((g 34), .inl (cA 3, 2000, .inl kd)), ((g 35), .inl (cA 3, 2000, .inl fr)), ((g 36), .inl (cA 3, 2000, .inl to)), ((g 37), .inl (cA 3, 2000, .inl re)), ((g 38), .inl (cA 3, 2000, .inl ow)), ((g 39), .inl (cA 3, 2000, .inl fi)), ((g 40), .inl (cA 3, 2000, .inl be))] := hD.sub [7, 8, 0, 1, 2, 3, 4, 5, 6] (by decide) rfl
              refine W.cs (cells' := 0) (slots' := 0) rfl rfl ?_
              refine W.eq (g2 := F0 m 293 ls []) rfl ?_
              refine lv_iload_n hx hb d_Md_look_293 rfl (lv_at hl 4 rfl) ?_
              refine lv_if_ne (tgt := 310) hx hb d_Md_look_294 (by decide) (fun c_294 => ?_) (fun c_294 => absurd c_294 (by decide))
              refine lv_iload_n hx hb d_Md_look_310 rfl (lv_at hl 4 rfl) ?_
              refine lv_iconst (v := 1) hx hb d_Md_look_311 (by decide) ?_
              refine lv_icmp_ne (tgt := 322) hx hb d_Md_look_312 (by decide) (fun c_312 => ?_) (fun c_312 => absurd c_312 (by decide))
              refine lv_ldc2 hx hb hown (hts _ (List.mem_cons_of_mem _ iw3_204)) d_Md_look_322 ?_
              exact cRl (nI a1) hx hb hr hlocks d_Md_look_325 hS hP hD (by rw [hS9]; exact rfl) (Nat.le_refl _) (Nat.le_refl _)
            · have hl : lv_has ls 6 [(4, .int (nI t2)), (0, .ref m0), (1, .int 6), (2, .int (nI j)), (3, .int 3)] := hl
              refine lv_iload_n hx hb d_Md_look_47 rfl (lv_at hl 2 rfl) ?_
              refine lv_tableIn (off := 241) (tgt := 289) hx hb d_Md_look_48 (by decide) (by decide) (by decide) (by decide) ?_
              refine lv_aload_n hx hb d_Md_look_289 rfl (lv_at hl 1 rfl) ?_
              refine cV (As := []) (rest := []) (n := 0) (wc := [(m0, .inr (6, mF g (K.1, K.2.1, K.2.2.1, nI T.length, nI X.length, K.2.2.2.2.2.1, K.2.2.2.2.2.2.1, K.2.2.2.2.2.2.2.1, nI f0) A0 e np B)), ((g 30), .inl (cA 3, 2000, .inl yb))]) (wr := [((g 34), .inl (cA 3, 2000, .inl kd)), ((g 35), .inl (cA 3, 2000, .inl fr)), ((g 36), .inl (cA 3, 2000, .inl to)), ((g 37), .inl (cA 3, 2000, .inl re)), ((g 38), .inl (cA 3, 2000, .inl ow)), ((g 39), .inl (cA 3, 2000, .inl fi)), ((g 40), .inl (cA 3, 2000, .inl be))]) ⟨hx, hb, hml, hown, hts⟩ hno hlocks hl.1 (c_Md_passName l hl9 D cA ad H.size m0 g (K.1, K.2.1, K.2.2.1, nI T.length, nI X.length, K.2.2.2.2.2.1, K.2.2.2.2.2.2.1, K.2.2.2.2.2.2.2.1, nI f0) A0 e np B yb b lm hlm hyb hb9 f0 a1 nm (by omega) hn1) iw4_144 iw4_146 sel_Md_passName iw1_7 iw4_147 (by decide +kernel) rfl ⟨Nat.le_of_ble_eq_true rfl, Nat.le_of_ble_eq_true rfl⟩ ⟨Nat.le_of_ble_eq_true rfl, Nat.le_of_ble_eq_true rfl⟩ rfl (Nat.le_of_ble_eq_true rfl) d_Md_look_290 hE hP hD hS hA [0, 1] [2, 3, 4, 5, 6, 7, 8] rfl rfl rfl rfl (by decide) (ci := 6) rfl rfl 0 rfl (fun _ h => h.elim) (fun v_290 u_290 H locs hp_290 hP hD hS => ?_)
              obtain rfl := hp_290
              have hP : va_P D cls [(m0, .inr (6, mF g (K.1, K.2.1, K.2.2.1, nI T.length, nI X.length, K.2.2.2.2.2.1, K.2.2.2.2.2.2.1, K.2.2.2.2.2.2.2.1, nI a1) A0 e np B)), ((g 30), .inl (cA 3, 2000, .inl yb)), ((g 34), .inl (cA 3, 2000, .inl kd)), ((g 35), .inl (cA 3, 2000, .inl fr)), ((g 36), .inl (cA 3, 2000, .inl to)), ((g 37), .inl (cA 3, 2000, .inl re)), ((g 38), .inl (cA 3, 2000, .inl ow)), ((g 39), .inl (cA 3, 2000, .inl fi)), ((g 40), .inl (cA 3, 2000, .inl be))] H := hP.sub [7, 8, 0, 1, 2, 3, 4, 5, 6] rfl
              have hD : va_D A [(m0, .inr (6, mF g (K.1, K.2.1, K.2.2.1, nI T.length, nI X.length, K.2.2.2.2.2.1, K.2.2.2.2.2.2.1, K.2.2.2.2.2.2.2.1, nI a1) A0 e np B)), ((g 30), .inl (cA 3, 2000, .inl yb)), ((g 34), .inl (cA 3, 2000, .inl kd)), ((g 35), .inl (cA 3, 2000, .inl fr)), ((g 36), .inl (cA 3, 2000, .inl to)), ((g 37), .inl (cA 3, 2000, .inl re)), ((g 38), .inl (cA 3, 2000, .inl ow)), ((g 39), .inl (cA 3, 2000, .inl fi)), ((g 40), .inl (cA 3, 2000, .inl be))] := hD.sub [7, 8, 0, 1, 2, 3, 4, 5, 6] (by decide) rfl
              refine W.cs (cells' := 0) (slots' := 0) rfl rfl ?_
              refine W.eq (g2 := F0 m 293 ls []) rfl ?_
              refine lv_iload_n hx hb d_Md_look_293 rfl (lv_at hl 4 rfl) ?_
              refine lv_if_ne (tgt := 310) hx hb d_Md_look_294 (by decide) (fun c_294 => ?_) (fun c_294 => absurd c_294 (by decide))
              refine lv_iload_n hx hb d_Md_look_310 rfl (lv_at hl 4 rfl) ?_
              refine lv_iconst (v := 1) hx hb d_Md_look_311 (by decide) ?_
              refine lv_icmp_ne (tgt := 322) hx hb d_Md_look_312 (by decide) (fun c_312 => ?_) (fun c_312 => absurd c_312 (by decide))
              refine lv_ldc2 hx hb hown (hts _ (List.mem_cons_of_mem _ iw3_204)) d_Md_look_322 ?_
              exact cRl (nI a1) hx hb hr hlocks d_Md_look_325 hS hP hD (by rw [hS9]; exact rfl) (Nat.le_refl _) (Nat.le_refl _)
            · have hl : lv_has ls 6 [(4, .int (nI t2)), (0, .ref m0), (1, .int 6), (2, .int (nI j)), (3, .int 4)] := hl
              refine lv_iload_n hx hb d_Md_look_47 rfl (lv_at hl 2 rfl) ?_
              refine lv_tableIn (off := 241) (tgt := 289) hx hb d_Md_look_48 (by decide) (by decide) (by decide) (by decide) ?_
              refine lv_aload_n hx hb d_Md_look_289 rfl (lv_at hl 1 rfl) ?_
              refine cV (As := []) (rest := []) (n := 0) (wc := [(m0, .inr (6, mF g (K.1, K.2.1, K.2.2.1, nI T.length, nI X.length, K.2.2.2.2.2.1, K.2.2.2.2.2.2.1, K.2.2.2.2.2.2.2.1, nI f0) A0 e np B)), ((g 30), .inl (cA 3, 2000, .inl yb))]) (wr := [((g 34), .inl (cA 3, 2000, .inl kd)), ((g 35), .inl (cA 3, 2000, .inl fr)), ((g 36), .inl (cA 3, 2000, .inl to)), ((g 37), .inl (cA 3, 2000, .inl re)), ((g 38), .inl (cA 3, 2000, .inl ow)), ((g 39), .inl (cA 3, 2000, .inl fi)), ((g 40), .inl (cA 3, 2000, .inl be))]) ⟨hx, hb, hml, hown, hts⟩ hno hlocks hl.1 (c_Md_passName l hl9 D cA ad H.size m0 g (K.1, K.2.1, K.2.2.1, nI T.length, nI X.length, K.2.2.2.2.2.1, K.2.2.2.2.2.2.1, K.2.2.2.2.2.2.2.1, nI f0) A0 e np B yb b lm hlm hyb hb9 f0 a1 nm (by omega) hn1) iw4_144 iw4_146 sel_Md_passName iw1_7 iw4_147 (by decide +kernel) rfl ⟨Nat.le_of_ble_eq_true rfl, Nat.le_of_ble_eq_true rfl⟩ ⟨Nat.le_of_ble_eq_true rfl, Nat.le_of_ble_eq_true rfl⟩ rfl (Nat.le_of_ble_eq_true rfl) d_Md_look_290 hE hP hD hS hA [0, 1] [2, 3, 4, 5, 6, 7, 8] rfl rfl rfl rfl (by decide) (ci := 6) rfl rfl 0 rfl (fun _ h => h.elim) (fun v_290 u_290 H locs hp_290 hP hD hS => ?_)
              obtain rfl := hp_290
              have hP : va_P D cls [(m0, .inr (6, mF g (K.1, K.2.1, K.2.2.1, nI T.length, nI X.length, K.2.2.2.2.2.1, K.2.2.2.2.2.2.1, K.2.2.2.2.2.2.2.1, nI a1) A0 e np B)), ((g 30), .inl (cA 3, 2000, .inl yb)), ((g 34), .inl (cA 3, 2000, .inl kd)), ((g 35), .inl (cA 3, 2000, .inl fr)), ((g 36), .inl (cA 3, 2000, .inl to)), ((g 37), .inl (cA 3, 2000, .inl re)), ((g 38), .inl (cA 3, 2000, .inl ow)), ((g 39), .inl (cA 3, 2000, .inl fi)), ((g 40), .inl (cA 3, 2000, .inl be))] H := hP.sub [7, 8, 0, 1, 2, 3, 4, 5, 6] rfl
              have hD : va_D A [(m0, .inr (6, mF g (K.1, K.2.1, K.2.2.1, nI T.length, nI X.length, K.2.2.2.2.2.1, K.2.2.2.2.2.2.1, K.2.2.2.2.2.2.2.1, nI a1) A0 e np B)), ((g 30), .inl (cA 3, 2000, .inl yb)), ((g 34), .inl (cA 3, 2000, .inl kd)), ((g 35), .inl (cA 3, 2000, .inl fr)), ((g 36), .inl (cA 3, 2000, .inl to)), ((g 37), .inl (cA 3, 2000, .inl re)), ((g 38), .inl (cA 3, 2000, .inl ow)), ((g 39), .inl (cA 3, 2000, .inl fi)), ((g 40), .inl (cA 3, 2000, .inl be))] := hD.sub [7, 8, 0, 1, 2, 3, 4, 5, 6] (by decide) rfl
              refine W.cs (cells' := 0) (slots' := 0) rfl rfl ?_
              refine W.eq (g2 := F0 m 293 ls []) rfl ?_
              refine lv_iload_n hx hb d_Md_look_293 rfl (lv_at hl 4 rfl) ?_
              refine lv_if_ne (tgt := 310) hx hb d_Md_look_294 (by decide) (fun c_294 => ?_) (fun c_294 => absurd c_294 (by decide))
              refine lv_iload_n hx hb d_Md_look_310 rfl (lv_at hl 4 rfl) ?_
              refine lv_iconst (v := 1) hx hb d_Md_look_311 (by decide) ?_
              refine lv_icmp_ne (tgt := 322) hx hb d_Md_look_312 (by decide) (fun c_312 => ?_) (fun c_312 => absurd c_312 (by decide))
              refine lv_ldc2 hx hb hown (hts _ (List.mem_cons_of_mem _ iw3_204)) d_Md_look_322 ?_
              exact cRl (nI a1) hx hb hr hlocks d_Md_look_325 hS hP hD (by rw [hS9]; exact rfl) (Nat.le_refl _) (Nat.le_refl _)
            · have hl : lv_has ls 6 [(4, .int (nI t2)), (0, .ref m0), (1, .int 6), (2, .int (nI j)), (3, .int 5)] := hl
              refine lv_iload_n hx hb d_Md_look_47 rfl (lv_at hl 2 rfl) ?_
              refine lv_tableIn (off := 241) (tgt := 289) hx hb d_Md_look_48 (by decide) (by decide) (by decide) (by decide) ?_
              refine lv_aload_n hx hb d_Md_look_289 rfl (lv_at hl 1 rfl) ?_
              refine cV (As := []) (rest := []) (n := 0) (wc := [(m0, .inr (6, mF g (K.1, K.2.1, K.2.2.1, nI T.length, nI X.length, K.2.2.2.2.2.1, K.2.2.2.2.2.2.1, K.2.2.2.2.2.2.2.1, nI f0) A0 e np B)), ((g 30), .inl (cA 3, 2000, .inl yb))]) (wr := [((g 34), .inl (cA 3, 2000, .inl kd)), ((g 35), .inl (cA 3, 2000, .inl fr)), ((g 36), .inl (cA 3, 2000, .inl to)), ((g 37), .inl (cA 3, 2000, .inl re)), ((g 38), .inl (cA 3, 2000, .inl ow)), ((g 39), .inl (cA 3, 2000, .inl fi)), ((g 40), .inl (cA 3, 2000, .inl be))]) ⟨hx, hb, hml, hown, hts⟩ hno hlocks hl.1 (c_Md_passName l hl9 D cA ad H.size m0 g (K.1, K.2.1, K.2.2.1, nI T.length, nI X.length, K.2.2.2.2.2.1, K.2.2.2.2.2.2.1, K.2.2.2.2.2.2.2.1, nI f0) A0 e np B yb b lm hlm hyb hb9 f0 a1 nm (by omega) hn1) iw4_144 iw4_146 sel_Md_passName iw1_7 iw4_147 (by decide +kernel) rfl ⟨Nat.le_of_ble_eq_true rfl, Nat.le_of_ble_eq_true rfl⟩ ⟨Nat.le_of_ble_eq_true rfl, Nat.le_of_ble_eq_true rfl⟩ rfl (Nat.le_of_ble_eq_true rfl) d_Md_look_290 hE hP hD hS hA [0, 1] [2, 3, 4, 5, 6, 7, 8] rfl rfl rfl rfl (by decide) (ci := 6) rfl rfl 0 rfl (fun _ h => h.elim) (fun v_290 u_290 H locs hp_290 hP hD hS => ?_)
              obtain rfl := hp_290
              have hP : va_P D cls [(m0, .inr (6, mF g (K.1, K.2.1, K.2.2.1, nI T.length, nI X.length, K.2.2.2.2.2.1, K.2.2.2.2.2.2.1, K.2.2.2.2.2.2.2.1, nI a1) A0 e np B)), ((g 30), .inl (cA 3, 2000, .inl yb)), ((g 34), .inl (cA 3, 2000, .inl kd)), ((g 35), .inl (cA 3, 2000, .inl fr)), ((g 36), .inl (cA 3, 2000, .inl to)), ((g 37), .inl (cA 3, 2000, .inl re)), ((g 38), .inl (cA 3, 2000, .inl ow)), ((g 39), .inl (cA 3, 2000, .inl fi)), ((g 40), .inl (cA 3, 2000, .inl be))] H := hP.sub [7, 8, 0, 1, 2, 3, 4, 5, 6] rfl
              have hD : va_D A [(m0, .inr (6, mF g (K.1, K.2.1, K.2.2.1, nI T.length, nI X.length, K.2.2.2.2.2.1, K.2.2.2.2.2.2.1, K.2.2.2.2.2.2.2.1, nI a1) A0 e np B)), ((g 30), .inl (cA 3, 2000, .inl yb)), ((g 34), .inl (cA 3, 2000, .inl kd)), ((g 35), .inl (cA 3, 2000, .inl fr)), ((g 36), .inl (cA 3, 2000, .inl to)), ((g 37), .inl (cA 3, 2000, .inl re)), ((g 38), .inl (cA 3, 2000, .inl ow)), ((g 39), .inl (cA 3, 2000, .inl fi)), ((g 40), .inl (cA 3, 2000, .inl be))] := hD.sub [7, 8, 0, 1, 2, 3, 4, 5, 6] (by decide) rfl
              refine W.cs (cells' := 0) (slots' := 0) rfl rfl ?_
              refine W.eq (g2 := F0 m 293 ls []) rfl ?_
              refine lv_iload_n hx hb d_Md_look_293 rfl (lv_at hl 4 rfl) ?_
              refine lv_if_ne (tgt := 310) hx hb d_Md_look_294 (by decide) (fun c_294 => ?_) (fun c_294 => absurd c_294 (by decide))
              refine lv_iload_n hx hb d_Md_look_310 rfl (lv_at hl 4 rfl) ?_
              refine lv_iconst (v := 1) hx hb d_Md_look_311 (by decide) ?_
              refine lv_icmp_ne (tgt := 322) hx hb d_Md_look_312 (by decide) (fun c_312 => ?_) (fun c_312 => absurd c_312 (by decide))
              refine lv_ldc2 hx hb hown (hts _ (List.mem_cons_of_mem _ iw3_204)) d_Md_look_322 ?_
              exact cRl (nI a1) hx hb hr hlocks d_Md_look_325 hS hP hD (by rw [hS9]; exact rfl) (Nat.le_refl _) (Nat.le_refl _)
            · have hl : lv_has ls 6 [(4, .int (nI t2)), (0, .ref m0), (1, .int 6), (2, .int (nI j)), (3, .int 6)] := hl
              refine lv_iload_n hx hb d_Md_look_47 rfl (lv_at hl 2 rfl) ?_
              refine lv_tableIn (off := 241) (tgt := 289) hx hb d_Md_look_48 (by decide) (by decide) (by decide) (by decide) ?_
              refine lv_aload_n hx hb d_Md_look_289 rfl (lv_at hl 1 rfl) ?_
              refine cV (As := []) (rest := []) (n := 0) (wc := [(m0, .inr (6, mF g (K.1, K.2.1, K.2.2.1, nI T.length, nI X.length, K.2.2.2.2.2.1, K.2.2.2.2.2.2.1, K.2.2.2.2.2.2.2.1, nI f0) A0 e np B)), ((g 30), .inl (cA 3, 2000, .inl yb))]) (wr := [((g 34), .inl (cA 3, 2000, .inl kd)), ((g 35), .inl (cA 3, 2000, .inl fr)), ((g 36), .inl (cA 3, 2000, .inl to)), ((g 37), .inl (cA 3, 2000, .inl re)), ((g 38), .inl (cA 3, 2000, .inl ow)), ((g 39), .inl (cA 3, 2000, .inl fi)), ((g 40), .inl (cA 3, 2000, .inl be))]) ⟨hx, hb, hml, hown, hts⟩ hno hlocks hl.1 (c_Md_passName l hl9 D cA ad H.size m0 g (K.1, K.2.1, K.2.2.1, nI T.length, nI X.length, K.2.2.2.2.2.1, K.2.2.2.2.2.2.1, K.2.2.2.2.2.2.2.1, nI f0) A0 e np B yb b lm hlm hyb hb9 f0 a1 nm (by omega) hn1) iw4_144 iw4_146 sel_Md_passName iw1_7 iw4_147 (by decide +kernel) rfl ⟨Nat.le_of_ble_eq_true rfl, Nat.le_of_ble_eq_true rfl⟩ ⟨Nat.le_of_ble_eq_true rfl, Nat.le_of_ble_eq_true rfl⟩ rfl (Nat.le_of_ble_eq_true rfl) d_Md_look_290 hE hP hD hS hA [0, 1] [2, 3, 4, 5, 6, 7, 8] rfl rfl rfl rfl (by decide) (ci := 6) rfl rfl 0 rfl (fun _ h => h.elim) (fun v_290 u_290 H locs hp_290 hP hD hS => ?_)
              obtain rfl := hp_290
              have hP : va_P D cls [(m0, .inr (6, mF g (K.1, K.2.1, K.2.2.1, nI T.length, nI X.length, K.2.2.2.2.2.1, K.2.2.2.2.2.2.1, K.2.2.2.2.2.2.2.1, nI a1) A0 e np B)), ((g 30), .inl (cA 3, 2000, .inl yb)), ((g 34), .inl (cA 3, 2000, .inl kd)), ((g 35), .inl (cA 3, 2000, .inl fr)), ((g 36), .inl (cA 3, 2000, .inl to)), ((g 37), .inl (cA 3, 2000, .inl re)), ((g 38), .inl (cA 3, 2000, .inl ow)), ((g 39), .inl (cA 3, 2000, .inl fi)), ((g 40), .inl (cA 3, 2000, .inl be))] H := hP.sub [7, 8, 0, 1, 2, 3, 4, 5, 6] rfl
              have hD : va_D A [(m0, .inr (6, mF g (K.1, K.2.1, K.2.2.1, nI T.length, nI X.length, K.2.2.2.2.2.1, K.2.2.2.2.2.2.1, K.2.2.2.2.2.2.2.1, nI a1) A0 e np B)), ((g 30), .inl (cA 3, 2000, .inl yb)), ((g 34), .inl (cA 3, 2000, .inl kd)), ((g 35), .inl (cA 3, 2000, .inl fr)), ((g 36), .inl (cA 3, 2000, .inl to)), ((g 37), .inl (cA 3, 2000, .inl re)), ((g 38), .inl (cA 3, 2000, .inl ow)), ((g 39), .inl (cA 3, 2000, .inl fi)), ((g 40), .inl (cA 3, 2000, .inl be))] := hD.sub [7, 8, 0, 1, 2, 3, 4, 5, 6] (by decide) rfl
              refine W.cs (cells' := 0) (slots' := 0) rfl rfl ?_
              refine W.eq (g2 := F0 m 293 ls []) rfl ?_
              refine lv_iload_n hx hb d_Md_look_293 rfl (lv_at hl 4 rfl) ?_
              refine lv_if_ne (tgt := 310) hx hb d_Md_look_294 (by decide) (fun c_294 => ?_) (fun c_294 => absurd c_294 (by decide))
              refine lv_iload_n hx hb d_Md_look_310 rfl (lv_at hl 4 rfl) ?_
              refine lv_iconst (v := 1) hx hb d_Md_look_311 (by decide) ?_
              refine lv_icmp_ne (tgt := 322) hx hb d_Md_look_312 (by decide) (fun c_312 => ?_) (fun c_312 => absurd c_312 (by decide))
              refine lv_ldc2 hx hb hown (hts _ (List.mem_cons_of_mem _ iw3_204)) d_Md_look_322 ?_
              exact cRl (nI a1) hx hb hr hlocks d_Md_look_325 hS hP hD (by rw [hS9]; exact rfl) (Nat.le_refl _) (Nat.le_refl _)
            · have hl : lv_has ls 6 [(4, .int (nI t2)), (0, .ref m0), (1, .int 6), (2, .int (nI j)), (3, .int 7)] := hl
              refine lv_iload_n hx hb d_Md_look_47 rfl (lv_at hl 2 rfl) ?_
              refine lv_tableIn (off := 241) (tgt := 289) hx hb d_Md_look_48 (by decide) (by decide) (by decide) (by decide) ?_
              refine lv_aload_n hx hb d_Md_look_289 rfl (lv_at hl 1 rfl) ?_
              refine cV (As := []) (rest := []) (n := 0) (wc := [(m0, .inr (6, mF g (K.1, K.2.1, K.2.2.1, nI T.length, nI X.length, K.2.2.2.2.2.1, K.2.2.2.2.2.2.1, K.2.2.2.2.2.2.2.1, nI f0) A0 e np B)), ((g 30), .inl (cA 3, 2000, .inl yb))]) (wr := [((g 34), .inl (cA 3, 2000, .inl kd)), ((g 35), .inl (cA 3, 2000, .inl fr)), ((g 36), .inl (cA 3, 2000, .inl to)), ((g 37), .inl (cA 3, 2000, .inl re)), ((g 38), .inl (cA 3, 2000, .inl ow)), ((g 39), .inl (cA 3, 2000, .inl fi)), ((g 40), .inl (cA 3, 2000, .inl be))]) ⟨hx, hb, hml, hown, hts⟩ hno hlocks hl.1 (c_Md_passName l hl9 D cA ad H.size m0 g (K.1, K.2.1, K.2.2.1, nI T.length, nI X.length, K.2.2.2.2.2.1, K.2.2.2.2.2.2.1, K.2.2.2.2.2.2.2.1, nI f0) A0 e np B yb b lm hlm hyb hb9 f0 a1 nm (by omega) hn1) iw4_144 iw4_146 sel_Md_passName iw1_7 iw4_147 (by decide +kernel) rfl ⟨Nat.le_of_ble_eq_true rfl, Nat.le_of_ble_eq_true rfl⟩ ⟨Nat.le_of_ble_eq_true rfl, Nat.le_of_ble_eq_true rfl⟩ rfl (Nat.le_of_ble_eq_true rfl) d_Md_look_290 hE hP hD hS hA [0, 1] [2, 3, 4, 5, 6, 7, 8] rfl rfl rfl rfl (by decide) (ci := 6) rfl rfl 0 rfl (fun _ h => h.elim) (fun v_290 u_290 H locs hp_290 hP hD hS => ?_)
              obtain rfl := hp_290
              have hP : va_P D cls [(m0, .inr (6, mF g (K.1, K.2.1, K.2.2.1, nI T.length, nI X.length, K.2.2.2.2.2.1, K.2.2.2.2.2.2.1, K.2.2.2.2.2.2.2.1, nI a1) A0 e np B)), ((g 30), .inl (cA 3, 2000, .inl yb)), ((g 34), .inl (cA 3, 2000, .inl kd)), ((g 35), .inl (cA 3, 2000, .inl fr)), ((g 36), .inl (cA 3, 2000, .inl to)), ((g 37), .inl (cA 3, 2000, .inl re)), ((g 38), .inl (cA 3, 2000, .inl ow)), ((g 39), .inl (cA 3, 2000, .inl fi)), ((g 40), .inl (cA 3, 2000, .inl be))] H := hP.sub [7, 8, 0, 1, 2, 3, 4, 5, 6] rfl
              have hD : va_D A [(m0, .inr (6, mF g (K.1, K.2.1, K.2.2.1, nI T.length, nI X.length, K.2.2.2.2.2.1, K.2.2.2.2.2.2.1, K.2.2.2.2.2.2.2.1, nI a1) A0 e np B)), ((g 30), .inl (cA 3, 2000, .inl yb)), ((g 34), .inl (cA 3, 2000, .inl kd)), ((g 35), .inl (cA 3, 2000, .inl fr)), ((g 36), .inl (cA 3, 2000, .inl to)), ((g 37), .inl (cA 3, 2000, .inl re)), ((g 38), .inl (cA 3, 2000, .inl ow)), ((g 39), .inl (cA 3, 2000, .inl fi)), ((g 40), .inl (cA 3, 2000, .inl be))] := hD.sub [7, 8, 0, 1, 2, 3, 4, 5, 6] (by decide) rfl
              refine W.cs (cells' := 0) (slots' := 0) rfl rfl ?_
              refine W.eq (g2 := F0 m 293 ls []) rfl ?_
              refine lv_iload_n hx hb d_Md_look_293 rfl (lv_at hl 4 rfl) ?_
              refine lv_if_ne (tgt := 310) hx hb d_Md_look_294 (by decide) (fun c_294 => ?_) (fun c_294 => absurd c_294 (by decide))
              refine lv_iload_n hx hb d_Md_look_310 rfl (lv_at hl 4 rfl) ?_
              refine lv_iconst (v := 1) hx hb d_Md_look_311 (by decide) ?_
              refine lv_icmp_ne (tgt := 322) hx hb d_Md_look_312 (by decide) (fun c_312 => ?_) (fun c_312 => absurd c_312 (by decide))
              refine lv_ldc2 hx hb hown (hts _ (List.mem_cons_of_mem _ iw3_204)) d_Md_look_322 ?_
              exact cRl (nI a1) hx hb hr hlocks d_Md_look_325 hS hP hD (by rw [hS9]; exact rfl) (Nat.le_refl _) (Nat.le_refl _)
            · have hl := hl
              refine lv_iload_n hx hb d_Md_look_47 rfl (lv_at hl 2 rfl) ?_
              refine lv_tableIn (off := 241) (tgt := 289) hx hb d_Md_look_48 (by decide) (by decide) (by decide) (by decide) ?_
              refine lv_aload_n hx hb d_Md_look_289 rfl (lv_at hl 1 rfl) ?_
              refine cV (As := []) (rest := []) (n := 0) (wc := [(m0, .inr (6, mF g (K.1, K.2.1, K.2.2.1, nI T.length, nI X.length, K.2.2.2.2.2.1, K.2.2.2.2.2.2.1, K.2.2.2.2.2.2.2.1, nI f0) A0 e np B)), ((g 30), .inl (cA 3, 2000, .inl yb))]) (wr := [((g 34), .inl (cA 3, 2000, .inl kd)), ((g 35), .inl (cA 3, 2000, .inl fr)), ((g 36), .inl (cA 3, 2000, .inl to)), ((g 37), .inl (cA 3, 2000, .inl re)), ((g 38), .inl (cA 3, 2000, .inl ow)), ((g 39), .inl (cA 3, 2000, .inl fi)), ((g 40), .inl (cA 3, 2000, .inl be))]) ⟨hx, hb, hml, hown, hts⟩ hno hlocks hl.1 (c_Md_passName l hl9 D cA ad H.size m0 g (K.1, K.2.1, K.2.2.1, nI T.length, nI X.length, K.2.2.2.2.2.1, K.2.2.2.2.2.2.1, K.2.2.2.2.2.2.2.1, nI f0) A0 e np B yb b lm hlm hyb hb9 f0 a1 nm (by omega) hn1) iw4_144 iw4_146 sel_Md_passName iw1_7 iw4_147 (by decide +kernel) rfl ⟨Nat.le_of_ble_eq_true rfl, Nat.le_of_ble_eq_true rfl⟩ ⟨Nat.le_of_ble_eq_true rfl, Nat.le_of_ble_eq_true rfl⟩ rfl (Nat.le_of_ble_eq_true rfl) d_Md_look_290 hE hP hD hS hA [0, 1] [2, 3, 4, 5, 6, 7, 8] rfl rfl rfl rfl (by decide) (ci := 6) rfl rfl 0 rfl (fun _ h => h.elim) (fun v_290 u_290 H locs hp_290 hP hD hS => ?_)
              obtain rfl := hp_290
              have hP : va_P D cls [(m0, .inr (6, mF g (K.1, K.2.1, K.2.2.1, nI T.length, nI X.length, K.2.2.2.2.2.1, K.2.2.2.2.2.2.1, K.2.2.2.2.2.2.2.1, nI a1) A0 e np B)), ((g 30), .inl (cA 3, 2000, .inl yb)), ((g 34), .inl (cA 3, 2000, .inl kd)), ((g 35), .inl (cA 3, 2000, .inl fr)), ((g 36), .inl (cA 3, 2000, .inl to)), ((g 37), .inl (cA 3, 2000, .inl re)), ((g 38), .inl (cA 3, 2000, .inl ow)), ((g 39), .inl (cA 3, 2000, .inl fi)), ((g 40), .inl (cA 3, 2000, .inl be))] H := hP.sub [7, 8, 0, 1, 2, 3, 4, 5, 6] rfl
              have hD : va_D A [(m0, .inr (6, mF g (K.1, K.2.1, K.2.2.1, nI T.length, nI X.length, K.2.2.2.2.2.1, K.2.2.2.2.2.2.1, K.2.2.2.2.2.2.2.1, nI a1) A0 e np B)), ((g 30), .inl (cA 3, 2000, .inl yb)), ((g 34), .inl (cA 3, 2000, .inl kd)), ((g 35), .inl (cA 3, 2000, .inl fr)), ((g 36), .inl (cA 3, 2000, .inl to)), ((g 37), .inl (cA 3, 2000, .inl re)), ((g 38), .inl (cA 3, 2000, .inl ow)), ((g 39), .inl (cA 3, 2000, .inl fi)), ((g 40), .inl (cA 3, 2000, .inl be))] := hD.sub [7, 8, 0, 1, 2, 3, 4, 5, 6] (by decide) rfl
              refine W.cs (cells' := 0) (slots' := 0) rfl rfl ?_
              refine W.eq (g2 := F0 m 293 ls []) rfl ?_
              refine lv_iload_n hx hb d_Md_look_293 rfl (lv_at hl 4 rfl) ?_
              refine lv_if_ne (tgt := 310) hx hb d_Md_look_294 (by decide) (fun c_294 => ?_) (fun c_294 => absurd c_294 (fun q => absurd ((nI_eq (a := wh) (b := 0) (by omega) (by decide)).mp q) (by omega)))
              refine lv_iload_n hx hb d_Md_look_310 rfl (lv_at hl 4 rfl) ?_
              refine lv_iconst (v := 1) hx hb d_Md_look_311 (by decide) ?_
              refine lv_icmp_ne (tgt := 322) hx hb d_Md_look_312 (by decide) (fun c_312 => ?_) (fun c_312 => absurd c_312 (fun q => absurd ((nI_eq (a := wh) (b := 1) (by omega) (by decide)).mp q) (by omega)))
              refine lv_ldc2 hx hb hown (hts _ (List.mem_cons_of_mem _ iw3_204)) d_Md_look_322 ?_
              exact cRl (nI a1) hx hb hr hlocks d_Md_look_325 hS hP hD (by rw [hS9]; exact by rw [lkS, if_pos hw8]; rfl) (Nat.le_refl _) (Nat.le_refl _)
          · refine lv_ldc2 hx hb hown (hts _ (List.mem_cons_of_mem _ iw3_204)) d_Md_look_32 ?_
            exact cRl (K.2.2.2.2.2.2.2.2) hx hb hr hlocks d_Md_look_35 hS hP hD (congrArg (fun z : Int64 => some (Value.long z)) (sLook_bc (LS := LS) (LL := LL) (x := nI 6) (k := nI j) (c := c) (Int32.not_le.mp c_29)).symm) (Nat.le_refl _) (Nat.le_refl _)
      · have hl : lv_has ls 6 [(0, .ref m0), (1, .int 7), (2, .int k), (3, .int c)] := hl
        refine lv_aload_n hx hb d_Md_look_15 rfl (lv_at hl 0 rfl) ?_
        refine lv_iload_n hx hb d_Md_look_16 rfl (lv_at hl 1 rfl) ?_
        refine lv_iload_n hx hb d_Md_look_17 rfl (lv_at hl 2 rfl) ?_
        refine cV (As := [.int 7, .int k]) (rest := []) (n := 2) (wc := [(m0, .inr (6, mF g (K.1, K.2.1, K.2.2.1, nI T.length, nI X.length, K.2.2.2.2.2.1, K.2.2.2.2.2.2.1, K.2.2.2.2.2.2.2.1, K.2.2.2.2.2.2.2.2) A0 e np B)), ((g 34), .inl (cA 3, 2000, .inl kd))]) (wr := [((g 30), .inl (cA 3, 2000, .inl yb)), ((g 35), .inl (cA 3, 2000, .inl fr)), ((g 36), .inl (cA 3, 2000, .inl to)), ((g 37), .inl (cA 3, 2000, .inl re)), ((g 38), .inl (cA 3, 2000, .inl ow)), ((g 39), .inl (cA 3, 2000, .inl fi)), ((g 40), .inl (cA 3, 2000, .inl be))]) ⟨hx, hb, hml, hown, hts⟩ hno hlocks hl.1 (c_Md_thingOf l hl9 D cA ad s.heap.size m0 g (K.1, K.2.1, K.2.2.1, nI T.length, nI X.length, K.2.2.2.2.2.1, K.2.2.2.2.2.2.1, K.2.2.2.2.2.2.2.1, K.2.2.2.2.2.2.2.2) A0 e np B kd fr to re T hTH h11 hT 7 (by decide) k) iw4_128 iw4_130 sel_Md_thingOf iw1_7 iw4_131 (by decide +kernel) rfl ⟨Nat.le_of_ble_eq_true rfl, Nat.le_of_ble_eq_true rfl⟩ ⟨Nat.le_of_ble_eq_true rfl, Nat.le_of_ble_eq_true rfl⟩ rfl (Nat.le_of_ble_eq_true rfl) d_Md_look_18 hE hP hD hS hA [0, 2] [1, 3, 4, 5, 6, 7, 8] rfl rfl rfl rfl (by decide) (ci := 6) rfl rfl 0 rfl (fun _ h => h.elim) (fun v_18 u_18 H locs hp_18 hP hD hS => ?_)
        rcases hp_18 with ⟨rfl, hbad⟩ | ⟨j, t, hj31, ej, hjt, htl, rfl⟩
        · have hbad : k < 0 ∨ nI (LS 7).length ≤ k := hbad.elim Or.inl (fun q => by obtain ⟨j, hj, rfl, q⟩ := q; exact Or.inr (nI_le (by rw [← (hrel.2.2 7 (by decide)).1]; exact q) hj))
          have hP : va_P D cls [(m0, .inr (6, mF g (K.1, K.2.1, K.2.2.1, nI T.length, nI X.length, K.2.2.2.2.2.1, K.2.2.2.2.2.2.1, K.2.2.2.2.2.2.2.1, K.2.2.2.2.2.2.2.2) A0 e np B)), ((g 30), .inl (cA 3, 2000, .inl yb)), ((g 34), .inl (cA 3, 2000, .inl kd)), ((g 35), .inl (cA 3, 2000, .inl fr)), ((g 36), .inl (cA 3, 2000, .inl to)), ((g 37), .inl (cA 3, 2000, .inl re)), ((g 38), .inl (cA 3, 2000, .inl ow)), ((g 39), .inl (cA 3, 2000, .inl fi)), ((g 40), .inl (cA 3, 2000, .inl be))] H := hP.sub [7, 0, 8, 1, 2, 3, 4, 5, 6] rfl
          have hD : va_D A [(m0, .inr (6, mF g (K.1, K.2.1, K.2.2.1, nI T.length, nI X.length, K.2.2.2.2.2.1, K.2.2.2.2.2.2.1, K.2.2.2.2.2.2.2.1, K.2.2.2.2.2.2.2.2) A0 e np B)), ((g 30), .inl (cA 3, 2000, .inl yb)), ((g 34), .inl (cA 3, 2000, .inl kd)), ((g 35), .inl (cA 3, 2000, .inl fr)), ((g 36), .inl (cA 3, 2000, .inl to)), ((g 37), .inl (cA 3, 2000, .inl re)), ((g 38), .inl (cA 3, 2000, .inl ow)), ((g 39), .inl (cA 3, 2000, .inl fi)), ((g 40), .inl (cA 3, 2000, .inl be))] := hD.sub [7, 0, 8, 1, 2, 3, 4, 5, 6] (by decide) rfl
          refine W.cs (cells' := 0) (slots' := 0) rfl rfl ?_
          refine W.eq (g2 := F0 m 21 ls [.int (-1)]) rfl ?_
          refine lv_istore (lv' := [(4, .int (-1)), (0, .ref m0), (1, .int 7), (2, .int k), (3, .int c)]) hx hb d_Md_look_21 hl (by decide) rfl (fun ls hl => ?_)
          refine lv_iload hx hb d_Md_look_23 (lv_at hl 0 rfl) ?_
          refine lv_if_lt (tgt := 32) hx hb d_Md_look_25 (by decide) (fun c_25 => ?_) (fun c_25 => absurd (by decide) c_25)
          refine lv_ldc2 hx hb hown (hts _ (List.mem_cons_of_mem _ iw3_204)) d_Md_look_32 ?_
          exact cRl (K.2.2.2.2.2.2.2.2) hx hb hr hlocks d_Md_look_35 hS hP hD (congrArg (fun z : Int64 => some (Value.long z)) (sLook_bk (LS := LS) (LL := LL) (kk := 7) (k := k) (c := c) (by decide) hbad).symm) (Nat.le_refl _) (Nat.le_refl _)
        · subst ej
          have hP : va_P D cls [(m0, .inr (6, mF g (K.1, K.2.1, K.2.2.1, nI T.length, nI X.length, K.2.2.2.2.2.1, K.2.2.2.2.2.2.1, K.2.2.2.2.2.2.2.1, K.2.2.2.2.2.2.2.2) A0 e np B)), ((g 30), .inl (cA 3, 2000, .inl yb)), ((g 34), .inl (cA 3, 2000, .inl kd)), ((g 35), .inl (cA 3, 2000, .inl fr)), ((g 36), .inl (cA 3, 2000, .inl to)), ((g 37), .inl (cA 3, 2000, .inl re)), ((g 38), .inl (cA 3, 2000, .inl ow)), ((g 39), .inl (cA 3, 2000, .inl fi)), ((g 40), .inl (cA 3, 2000, .inl be))] H := hP.sub [7, 0, 8, 1, 2, 3, 4, 5, 6] rfl
          have hD : va_D A [(m0, .inr (6, mF g (K.1, K.2.1, K.2.2.1, nI T.length, nI X.length, K.2.2.2.2.2.1, K.2.2.2.2.2.2.1, K.2.2.2.2.2.2.2.1, K.2.2.2.2.2.2.2.2) A0 e np B)), ((g 30), .inl (cA 3, 2000, .inl yb)), ((g 34), .inl (cA 3, 2000, .inl kd)), ((g 35), .inl (cA 3, 2000, .inl fr)), ((g 36), .inl (cA 3, 2000, .inl to)), ((g 37), .inl (cA 3, 2000, .inl re)), ((g 38), .inl (cA 3, 2000, .inl ow)), ((g 39), .inl (cA 3, 2000, .inl fi)), ((g 40), .inl (cA 3, 2000, .inl be))] := hD.sub [7, 0, 8, 1, 2, 3, 4, 5, 6] (by decide) rfl
          refine W.cs (cells' := 0) (slots' := 0) rfl rfl ?_
          refine W.eq (g2 := F0 m 21 ls [.int (nI t)]) rfl ?_
          have hl : lv_has ls 6 [(0, .ref m0), (1, .int 7), (2, .int (nI j)), (3, .int c)] := hl
          have hjl : j < (LS 7).length := by rw [← (hrel.2.2 7 (by decide)).1]; exact (List.getElem?_eq_some_iff.mp hjt).1
          obtain ⟨t2, f0, o, e1, e2, e3, e4⟩ := (hrel.2.2 7 (by decide)).2 j hjl
          have et : t2 = t := Option.some.inj (e1.symm.trans hjt)
          subst et
          obtain ⟨-, hfr, hto⟩ := TH_at hTH e2
          rw [e3] at hfr hto
          have hfr : fr t2 = nI f0 := hfr
          obtain ⟨z, hz⟩ : ∃ z, z = ((LS 7).getD j (0, c_1)).2 := ⟨_, rfl⟩
          rw [← hz] at e4
          obtain ⟨lm, dc, a', hlmN, hfl, p0, p1, p2, p3, p4, p5, p6, p7, p8, p9, p10⟩ := e4
          have hlm : lm ≤ 2000 := by omega
          have hyb : ∀ i, i < lm → yb i = nI (b i) := fun i hi => hybN i (by omega)
          refine lv_istore (lv' := [(4, .int (nI t2)), (0, .ref m0), (1, .int 7), (2, .int (nI j)), (3, .int c)]) hx hb d_Md_look_21 hl (by decide) rfl (fun ls hl => ?_)
          refine lv_iload hx hb d_Md_look_23 (lv_at hl 0 rfl) ?_
          refine lv_if_lt (tgt := 32) hx hb d_Md_look_25 (by decide) (fun c_25 => absurd c_25 (nI_pos (by omega))) (fun c_25 => ?_)
          refine lv_iload_n hx hb d_Md_look_28 rfl (lv_at hl 4 rfl) ?_
          refine lv_if_ge (tgt := 36) hx hb d_Md_look_29 (by decide) (fun c_29 => ?_) (fun c_29 => ?_)
          · obtain ⟨wh, hwh, ewh⟩ := i32_nn (Int32.not_lt.mpr c_29)
            subst ewh
            have hl : lv_has ls 6 [(4, .int (nI t2)), (0, .ref m0), (1, .int 7), (2, .int (nI j)), (3, .int (nI wh))] := hl
            have hS9 : sLook LS LL (nI 7) (nI j) (nI wh) = lkS 7 z LL wh := by rw [hz]; exact sLook_ok (by decide) hjl (by have := hLk 7 (by decide); omega) hwh
            refine lv_aload_n hx hb d_Md_look_36 rfl (lv_at hl 1 rfl) ?_
            refine lv_aload_n hx hb d_Md_look_37 rfl (lv_at hl 1 rfl) ?_
            refine va_get (D := D) (ci := 6) (v := .ref (g 35)) (C := R_Md) (T := F_Md) (N := 44) hx hb hts (fun w h => List.mem_cons_of_mem _ (i_Md w h)) hown hE.1 hP 0 rfl rfl 35 (by decide) (hts _ (List.mem_cons_of_mem _ iw3_89)) (fun _ h9 => h9) rfl d_Md_look_38 ?_
            refine lv_iload hx hb d_Md_look_41 (lv_at hl 0 rfl) ?_
            refine va_iald hx hb hE.1 hP 3 3 rfl rfl (vp_in_nI (by omega) (by omega)) d_Md_look_43 ?_
            rw [nI_clamp (n := t2) (by omega), hfr]
            refine va_put (D := D) (ci := 6) (v := .int (nI f0)) (ty := .int) (C := R_Md) (T := F_Md) (N := 44) hx hb hts (fun w h => List.mem_cons_of_mem _ (i_Md w h)) t_Md tk_Md n_Md hown hE.1 hP hD hS 0 rfl rfl 43 (by decide) (hts _ (List.mem_cons_of_mem _ iw3_97)) (fun _ h9 => h9) rfl (by decide +kernel) rfl rfl (Nat.le_of_ble_eq_true rfl) d_Md_look_44 (fun H locs hP hD hS => ?_)
            have hP : va_P D cls [(m0, .inr (6, mF g (K.1, K.2.1, K.2.2.1, nI T.length, nI X.length, K.2.2.2.2.2.1, K.2.2.2.2.2.2.1, K.2.2.2.2.2.2.2.1, nI f0) A0 e np B)), ((g 30), .inl (cA 3, 2000, .inl yb)), ((g 34), .inl (cA 3, 2000, .inl kd)), ((g 35), .inl (cA 3, 2000, .inl fr)), ((g 36), .inl (cA 3, 2000, .inl to)), ((g 37), .inl (cA 3, 2000, .inl re)), ((g 38), .inl (cA 3, 2000, .inl ow)), ((g 39), .inl (cA 3, 2000, .inl fi)), ((g 40), .inl (cA 3, 2000, .inl be))] H := hP
            have hD : va_D A [(m0, .inr (6, mF g (K.1, K.2.1, K.2.2.1, nI T.length, nI X.length, K.2.2.2.2.2.1, K.2.2.2.2.2.2.1, K.2.2.2.2.2.2.2.1, nI f0) A0 e np B)), ((g 30), .inl (cA 3, 2000, .inl yb)), ((g 34), .inl (cA 3, 2000, .inl kd)), ((g 35), .inl (cA 3, 2000, .inl fr)), ((g 36), .inl (cA 3, 2000, .inl to)), ((g 37), .inl (cA 3, 2000, .inl re)), ((g 38), .inl (cA 3, 2000, .inl ow)), ((g 39), .inl (cA 3, 2000, .inl fi)), ((g 40), .inl (cA 3, 2000, .inl be))] := hD
            refine lv_iload_n hx hb d_Md_look_47 rfl (lv_at hl 2 rfl) ?_
            refine lv_tableIn (off := 278) (tgt := 326) hx hb d_Md_look_48 (by decide) (by decide) (by decide) (by decide) ?_
            refine lv_aload_n hx hb d_Md_look_326 rfl (lv_at hl 1 rfl) ?_
            refine lv_iload hx hb d_Md_look_327 (lv_at hl 0 rfl) ?_
            refine lv_iload_n hx hb d_Md_look_329 rfl (lv_at hl 4 rfl) ?_
            obtain ⟨m_, a1, c2, a2, tt, a3, n, a4, it, nl, x1, exs, h1, h2, h3, h4, h5, hzz, h7, h8, h9, h10⟩ := p7 rfl
            subst hzz
            have hx1b : ∃ y, y ≤ 2000 ∧ exO t2 X = (if m_ % 2 = 0 then [(y, a2)] else []) ++ exs ∧ (m_ % 2 = 0 → c2 4 = lN y ∧ c2 5 = lN a2) := by
              by_cases q : m_ % 2 = 0
              · exact ⟨x1, (exO_bd hXf (x1, a2) (by rw [h8, if_pos q]; simp)).1, h8, h9⟩
              · exact ⟨0, by decide, by rw [h8, if_neg q, if_neg q], fun r => absurd r q⟩
            obtain ⟨y1, hy1, hy2, hy3⟩ := hx1b
            refine cV (As := [.int (nI t2), .int (nI wh)]) (rest := []) (n := 2) (wc := [(m0, .inr (6, mF g (K.1, K.2.1, K.2.2.1, nI T.length, nI X.length, K.2.2.2.2.2.1, K.2.2.2.2.2.2.1, K.2.2.2.2.2.2.2.1, nI f0) A0 e np B)), ((g 30), .inl (cA 3, 2000, .inl yb)), ((g 38), .inl (cA 3, 2000, .inl ow)), ((g 39), .inl (cA 3, 2000, .inl fi)), ((g 40), .inl (cA 3, 2000, .inl be))]) (wr := [((g 34), .inl (cA 3, 2000, .inl kd)), ((g 35), .inl (cA 3, 2000, .inl fr)), ((g 36), .inl (cA 3, 2000, .inl to)), ((g 37), .inl (cA 3, 2000, .inl re))]) ⟨hx, hb, hml, hown, hts⟩ hno hlocks hl.1 (c_Md_lookElement l hl9 D cA ad H.size m0 g (K.1, K.2.1, K.2.2.1, nI T.length, nI X.length, K.2.2.2.2.2.1, K.2.2.2.2.2.2.1, K.2.2.2.2.2.2.2.1, nI f0) A0 e np B yb b lm hlm hyb hb9 ow fi be X hXH hXf hX f0 a' hfl LL t2 (by omega) dc m_ a1 c2 a2 tt a3 n a4 it nl y1 exs h1 h2 h3 h4 h5 h7 hy2 hy3 h10 (by have := h7.1; omega) hy1 wh hwh) iw4_164 iw4_166 sel_Md_lookElement iw1_7 iw4_167 (by decide +kernel) rfl ⟨Nat.le_of_ble_eq_true rfl, Nat.le_of_ble_eq_true rfl⟩ ⟨Nat.le_of_ble_eq_true rfl, Nat.le_of_ble_eq_true rfl⟩ rfl (Nat.le_of_ble_eq_true rfl) d_Md_look_330 hE hP hD hS hA [0, 1, 6, 7, 8] [2, 3, 4, 5] rfl rfl rfl rfl (by decide) (ci := 6) rfl rfl 0 rfl (fun _ h => h.elim) (fun v_330 u_330 H locs hp_330 hP hD hS => ?_)
            obtain rfl := hp_330
            obtain ⟨qq281, hqq281⟩ : ∃ z : Int32, z = u_330 := ⟨_, rfl⟩
            rw [← hqq281] at hP hD
            have hP : va_P D cls [(m0, .inr (6, mF g (K.1, K.2.1, K.2.2.1, nI T.length, nI X.length, K.2.2.2.2.2.1, K.2.2.2.2.2.2.1, K.2.2.2.2.2.2.2.1, qq281) A0 e np B)), ((g 30), .inl (cA 3, 2000, .inl yb)), ((g 34), .inl (cA 3, 2000, .inl kd)), ((g 35), .inl (cA 3, 2000, .inl fr)), ((g 36), .inl (cA 3, 2000, .inl to)), ((g 37), .inl (cA 3, 2000, .inl re)), ((g 38), .inl (cA 3, 2000, .inl ow)), ((g 39), .inl (cA 3, 2000, .inl fi)), ((g 40), .inl (cA 3, 2000, .inl be))] H := hP.sub [4, 5, 0, 1, 2, 3, 6, 7, 8] rfl
            have hD : va_D A [(m0, .inr (6, mF g (K.1, K.2.1, K.2.2.1, nI T.length, nI X.length, K.2.2.2.2.2.1, K.2.2.2.2.2.2.1, K.2.2.2.2.2.2.2.1, qq281) A0 e np B)), ((g 30), .inl (cA 3, 2000, .inl yb)), ((g 34), .inl (cA 3, 2000, .inl kd)), ((g 35), .inl (cA 3, 2000, .inl fr)), ((g 36), .inl (cA 3, 2000, .inl to)), ((g 37), .inl (cA 3, 2000, .inl re)), ((g 38), .inl (cA 3, 2000, .inl ow)), ((g 39), .inl (cA 3, 2000, .inl fi)), ((g 40), .inl (cA 3, 2000, .inl be))] := hD.sub [4, 5, 0, 1, 2, 3, 6, 7, 8] (by decide) rfl
            refine W.cs (cells' := 0) (slots' := 0) rfl rfl ?_
            refine W.eq (g2 := F0 m 333 ls [.long (lkS 7 (vp_updL (vp_updL (vp_updL (vp_updL (vp_updL c2 1 (lN tt)) 6 (elS m_)) 3 (lN n)) 7 (lN nl)) 8 (lN n)) LL wh)]) rfl ?_
            exact cRl (qq281) hx hb hr hlocks d_Md_look_333 hS hP hD (by rw [hS9]) (Nat.le_refl _) (Nat.le_refl _)
          · refine lv_ldc2 hx hb hown (hts _ (List.mem_cons_of_mem _ iw3_204)) d_Md_look_32 ?_
            exact cRl (K.2.2.2.2.2.2.2.2) hx hb hr hlocks d_Md_look_35 hS hP hD (congrArg (fun z : Int64 => some (Value.long z)) (sLook_bc (LS := LS) (LL := LL) (x := nI 7) (k := nI j) (c := c) (Int32.not_le.mp c_29)).symm) (Nat.le_refl _) (Nat.le_refl _)
      · have hl : lv_has ls 6 [(0, .ref m0), (1, .int 8), (2, .int k), (3, .int c)] := hl
        refine lv_aload_n hx hb d_Md_look_15 rfl (lv_at hl 0 rfl) ?_
        refine lv_iload_n hx hb d_Md_look_16 rfl (lv_at hl 1 rfl) ?_
        refine lv_iload_n hx hb d_Md_look_17 rfl (lv_at hl 2 rfl) ?_
        refine cV (As := [.int 8, .int k]) (rest := []) (n := 2) (wc := [(m0, .inr (6, mF g (K.1, K.2.1, K.2.2.1, nI T.length, nI X.length, K.2.2.2.2.2.1, K.2.2.2.2.2.2.1, K.2.2.2.2.2.2.2.1, K.2.2.2.2.2.2.2.2) A0 e np B)), ((g 34), .inl (cA 3, 2000, .inl kd))]) (wr := [((g 30), .inl (cA 3, 2000, .inl yb)), ((g 35), .inl (cA 3, 2000, .inl fr)), ((g 36), .inl (cA 3, 2000, .inl to)), ((g 37), .inl (cA 3, 2000, .inl re)), ((g 38), .inl (cA 3, 2000, .inl ow)), ((g 39), .inl (cA 3, 2000, .inl fi)), ((g 40), .inl (cA 3, 2000, .inl be))]) ⟨hx, hb, hml, hown, hts⟩ hno hlocks hl.1 (c_Md_thingOf l hl9 D cA ad s.heap.size m0 g (K.1, K.2.1, K.2.2.1, nI T.length, nI X.length, K.2.2.2.2.2.1, K.2.2.2.2.2.2.1, K.2.2.2.2.2.2.2.1, K.2.2.2.2.2.2.2.2) A0 e np B kd fr to re T hTH h11 hT 8 (by decide) k) iw4_128 iw4_130 sel_Md_thingOf iw1_7 iw4_131 (by decide +kernel) rfl ⟨Nat.le_of_ble_eq_true rfl, Nat.le_of_ble_eq_true rfl⟩ ⟨Nat.le_of_ble_eq_true rfl, Nat.le_of_ble_eq_true rfl⟩ rfl (Nat.le_of_ble_eq_true rfl) d_Md_look_18 hE hP hD hS hA [0, 2] [1, 3, 4, 5, 6, 7, 8] rfl rfl rfl rfl (by decide) (ci := 6) rfl rfl 0 rfl (fun _ h => h.elim) (fun v_18 u_18 H locs hp_18 hP hD hS => ?_)
        rcases hp_18 with ⟨rfl, hbad⟩ | ⟨j, t, hj31, ej, hjt, htl, rfl⟩
        · have hbad : k < 0 ∨ nI (LS 8).length ≤ k := hbad.elim Or.inl (fun q => by obtain ⟨j, hj, rfl, q⟩ := q; exact Or.inr (nI_le (by rw [← (hrel.2.2 8 (by decide)).1]; exact q) hj))
          have hP : va_P D cls [(m0, .inr (6, mF g (K.1, K.2.1, K.2.2.1, nI T.length, nI X.length, K.2.2.2.2.2.1, K.2.2.2.2.2.2.1, K.2.2.2.2.2.2.2.1, K.2.2.2.2.2.2.2.2) A0 e np B)), ((g 30), .inl (cA 3, 2000, .inl yb)), ((g 34), .inl (cA 3, 2000, .inl kd)), ((g 35), .inl (cA 3, 2000, .inl fr)), ((g 36), .inl (cA 3, 2000, .inl to)), ((g 37), .inl (cA 3, 2000, .inl re)), ((g 38), .inl (cA 3, 2000, .inl ow)), ((g 39), .inl (cA 3, 2000, .inl fi)), ((g 40), .inl (cA 3, 2000, .inl be))] H := hP.sub [7, 0, 8, 1, 2, 3, 4, 5, 6] rfl
          have hD : va_D A [(m0, .inr (6, mF g (K.1, K.2.1, K.2.2.1, nI T.length, nI X.length, K.2.2.2.2.2.1, K.2.2.2.2.2.2.1, K.2.2.2.2.2.2.2.1, K.2.2.2.2.2.2.2.2) A0 e np B)), ((g 30), .inl (cA 3, 2000, .inl yb)), ((g 34), .inl (cA 3, 2000, .inl kd)), ((g 35), .inl (cA 3, 2000, .inl fr)), ((g 36), .inl (cA 3, 2000, .inl to)), ((g 37), .inl (cA 3, 2000, .inl re)), ((g 38), .inl (cA 3, 2000, .inl ow)), ((g 39), .inl (cA 3, 2000, .inl fi)), ((g 40), .inl (cA 3, 2000, .inl be))] := hD.sub [7, 0, 8, 1, 2, 3, 4, 5, 6] (by decide) rfl
          refine W.cs (cells' := 0) (slots' := 0) rfl rfl ?_
          refine W.eq (g2 := F0 m 21 ls [.int (-1)]) rfl ?_
          refine lv_istore (lv' := [(4, .int (-1)), (0, .ref m0), (1, .int 8), (2, .int k), (3, .int c)]) hx hb d_Md_look_21 hl (by decide) rfl (fun ls hl => ?_)
          refine lv_iload hx hb d_Md_look_23 (lv_at hl 0 rfl) ?_
          refine lv_if_lt (tgt := 32) hx hb d_Md_look_25 (by decide) (fun c_25 => ?_) (fun c_25 => absurd (by decide) c_25)
          refine lv_ldc2 hx hb hown (hts _ (List.mem_cons_of_mem _ iw3_204)) d_Md_look_32 ?_
          exact cRl (K.2.2.2.2.2.2.2.2) hx hb hr hlocks d_Md_look_35 hS hP hD (congrArg (fun z : Int64 => some (Value.long z)) (sLook_bk (LS := LS) (LL := LL) (kk := 8) (k := k) (c := c) (by decide) hbad).symm) (Nat.le_refl _) (Nat.le_refl _)
        · subst ej
          have hP : va_P D cls [(m0, .inr (6, mF g (K.1, K.2.1, K.2.2.1, nI T.length, nI X.length, K.2.2.2.2.2.1, K.2.2.2.2.2.2.1, K.2.2.2.2.2.2.2.1, K.2.2.2.2.2.2.2.2) A0 e np B)), ((g 30), .inl (cA 3, 2000, .inl yb)), ((g 34), .inl (cA 3, 2000, .inl kd)), ((g 35), .inl (cA 3, 2000, .inl fr)), ((g 36), .inl (cA 3, 2000, .inl to)), ((g 37), .inl (cA 3, 2000, .inl re)), ((g 38), .inl (cA 3, 2000, .inl ow)), ((g 39), .inl (cA 3, 2000, .inl fi)), ((g 40), .inl (cA 3, 2000, .inl be))] H := hP.sub [7, 0, 8, 1, 2, 3, 4, 5, 6] rfl
          have hD : va_D A [(m0, .inr (6, mF g (K.1, K.2.1, K.2.2.1, nI T.length, nI X.length, K.2.2.2.2.2.1, K.2.2.2.2.2.2.1, K.2.2.2.2.2.2.2.1, K.2.2.2.2.2.2.2.2) A0 e np B)), ((g 30), .inl (cA 3, 2000, .inl yb)), ((g 34), .inl (cA 3, 2000, .inl kd)), ((g 35), .inl (cA 3, 2000, .inl fr)), ((g 36), .inl (cA 3, 2000, .inl to)), ((g 37), .inl (cA 3, 2000, .inl re)), ((g 38), .inl (cA 3, 2000, .inl ow)), ((g 39), .inl (cA 3, 2000, .inl fi)), ((g 40), .inl (cA 3, 2000, .inl be))] := hD.sub [7, 0, 8, 1, 2, 3, 4, 5, 6] (by decide) rfl
          refine W.cs (cells' := 0) (slots' := 0) rfl rfl ?_
          refine W.eq (g2 := F0 m 21 ls [.int (nI t)]) rfl ?_
          have hl : lv_has ls 6 [(0, .ref m0), (1, .int 8), (2, .int (nI j)), (3, .int c)] := hl
          have hjl : j < (LS 8).length := by rw [← (hrel.2.2 8 (by decide)).1]; exact (List.getElem?_eq_some_iff.mp hjt).1
          obtain ⟨t2, f0, o, e1, e2, e3, e4⟩ := (hrel.2.2 8 (by decide)).2 j hjl
          have et : t2 = t := Option.some.inj (e1.symm.trans hjt)
          subst et
          obtain ⟨-, hfr, hto⟩ := TH_at hTH e2
          rw [e3] at hfr hto
          have hfr : fr t2 = nI f0 := hfr
          obtain ⟨z, hz⟩ : ∃ z, z = ((LS 8).getD j (0, c_1)).2 := ⟨_, rfl⟩
          rw [← hz] at e4
          obtain ⟨lm, dc, a', hlmN, hfl, p0, p1, p2, p3, p4, p5, p6, p7, p8, p9, p10⟩ := e4
          have hlm : lm ≤ 2000 := by omega
          have hyb : ∀ i, i < lm → yb i = nI (b i) := fun i hi => hybN i (by omega)
          refine lv_istore (lv' := [(4, .int (nI t2)), (0, .ref m0), (1, .int 8), (2, .int (nI j)), (3, .int c)]) hx hb d_Md_look_21 hl (by decide) rfl (fun ls hl => ?_)
          refine lv_iload hx hb d_Md_look_23 (lv_at hl 0 rfl) ?_
          refine lv_if_lt (tgt := 32) hx hb d_Md_look_25 (by decide) (fun c_25 => absurd c_25 (nI_pos (by omega))) (fun c_25 => ?_)
          refine lv_iload_n hx hb d_Md_look_28 rfl (lv_at hl 4 rfl) ?_
          refine lv_if_ge (tgt := 36) hx hb d_Md_look_29 (by decide) (fun c_29 => ?_) (fun c_29 => ?_)
          · obtain ⟨wh, hwh, ewh⟩ := i32_nn (Int32.not_lt.mpr c_29)
            subst ewh
            have hl : lv_has ls 6 [(4, .int (nI t2)), (0, .ref m0), (1, .int 8), (2, .int (nI j)), (3, .int (nI wh))] := hl
            have hS9 : sLook LS LL (nI 8) (nI j) (nI wh) = lkS 8 z LL wh := by rw [hz]; exact sLook_ok (by decide) hjl (by have := hLk 8 (by decide); omega) hwh
            refine lv_aload_n hx hb d_Md_look_36 rfl (lv_at hl 1 rfl) ?_
            refine lv_aload_n hx hb d_Md_look_37 rfl (lv_at hl 1 rfl) ?_
            refine va_get (D := D) (ci := 6) (v := .ref (g 35)) (C := R_Md) (T := F_Md) (N := 44) hx hb hts (fun w h => List.mem_cons_of_mem _ (i_Md w h)) hown hE.1 hP 0 rfl rfl 35 (by decide) (hts _ (List.mem_cons_of_mem _ iw3_89)) (fun _ h9 => h9) rfl d_Md_look_38 ?_
            refine lv_iload hx hb d_Md_look_41 (lv_at hl 0 rfl) ?_
            refine va_iald hx hb hE.1 hP 3 3 rfl rfl (vp_in_nI (by omega) (by omega)) d_Md_look_43 ?_
            rw [nI_clamp (n := t2) (by omega), hfr]
            refine va_put (D := D) (ci := 6) (v := .int (nI f0)) (ty := .int) (C := R_Md) (T := F_Md) (N := 44) hx hb hts (fun w h => List.mem_cons_of_mem _ (i_Md w h)) t_Md tk_Md n_Md hown hE.1 hP hD hS 0 rfl rfl 43 (by decide) (hts _ (List.mem_cons_of_mem _ iw3_97)) (fun _ h9 => h9) rfl (by decide +kernel) rfl rfl (Nat.le_of_ble_eq_true rfl) d_Md_look_44 (fun H locs hP hD hS => ?_)
            have hP : va_P D cls [(m0, .inr (6, mF g (K.1, K.2.1, K.2.2.1, nI T.length, nI X.length, K.2.2.2.2.2.1, K.2.2.2.2.2.2.1, K.2.2.2.2.2.2.2.1, nI f0) A0 e np B)), ((g 30), .inl (cA 3, 2000, .inl yb)), ((g 34), .inl (cA 3, 2000, .inl kd)), ((g 35), .inl (cA 3, 2000, .inl fr)), ((g 36), .inl (cA 3, 2000, .inl to)), ((g 37), .inl (cA 3, 2000, .inl re)), ((g 38), .inl (cA 3, 2000, .inl ow)), ((g 39), .inl (cA 3, 2000, .inl fi)), ((g 40), .inl (cA 3, 2000, .inl be))] H := hP
            have hD : va_D A [(m0, .inr (6, mF g (K.1, K.2.1, K.2.2.1, nI T.length, nI X.length, K.2.2.2.2.2.1, K.2.2.2.2.2.2.1, K.2.2.2.2.2.2.2.1, nI f0) A0 e np B)), ((g 30), .inl (cA 3, 2000, .inl yb)), ((g 34), .inl (cA 3, 2000, .inl kd)), ((g 35), .inl (cA 3, 2000, .inl fr)), ((g 36), .inl (cA 3, 2000, .inl to)), ((g 37), .inl (cA 3, 2000, .inl re)), ((g 38), .inl (cA 3, 2000, .inl ow)), ((g 39), .inl (cA 3, 2000, .inl fi)), ((g 40), .inl (cA 3, 2000, .inl be))] := hD
            refine lv_iload_n hx hb d_Md_look_47 rfl (lv_at hl 2 rfl) ?_
            refine lv_tableIn (off := 286) (tgt := 334) hx hb d_Md_look_48 (by decide) (by decide) (by decide) (by decide) ?_
            refine lv_aload_n hx hb d_Md_look_334 rfl (lv_at hl 1 rfl) ?_
            refine lv_iload hx hb d_Md_look_335 (lv_at hl 0 rfl) ?_
            refine lv_iload_n hx hb d_Md_look_337 rfl (lv_at hl 4 rfl) ?_
            obtain ⟨l2, a1, n, a2, it, s_, a3, a4, nl, h1, h2, h3, hzz, h5, h6⟩ := p8 rfl
            subst hzz
            refine cV (As := [.int (nI t2), .int (nI wh)]) (rest := []) (n := 2) (wc := [(m0, .inr (6, mF g (K.1, K.2.1, K.2.2.1, nI T.length, nI X.length, K.2.2.2.2.2.1, K.2.2.2.2.2.2.1, K.2.2.2.2.2.2.2.1, nI f0) A0 e np B)), ((g 30), .inl (cA 3, 2000, .inl yb)), ((g 38), .inl (cA 3, 2000, .inl ow)), ((g 39), .inl (cA 3, 2000, .inl fi)), ((g 40), .inl (cA 3, 2000, .inl be))]) (wr := [((g 34), .inl (cA 3, 2000, .inl kd)), ((g 35), .inl (cA 3, 2000, .inl fr)), ((g 36), .inl (cA 3, 2000, .inl to)), ((g 37), .inl (cA 3, 2000, .inl re))]) ⟨hx, hb, hml, hown, hts⟩ hno hlocks hl.1 (c_Md_lookBody l hl9 D cA ad H.size m0 g (K.1, K.2.1, K.2.2.1, nI T.length, nI X.length, K.2.2.2.2.2.1, K.2.2.2.2.2.2.1, K.2.2.2.2.2.2.2.1, nI f0) A0 e np B yb b lm hlm hyb hb9 ow fi be X hXH hXf hX f0 hfl LL t2 (by omega) l2 a1 n a2 it s_ a3 a4 nl h1 h2 h3 h5 h6 (by have := h5.1; omega) ((exO_bd hXf (a3, a4) (by rw [h6]; simp)).2) wh hwh) iw4_169 iw4_171 sel_Md_lookBody iw1_7 iw4_172 (by decide +kernel) rfl ⟨Nat.le_of_ble_eq_true rfl, Nat.le_of_ble_eq_true rfl⟩ ⟨Nat.le_of_ble_eq_true rfl, Nat.le_of_ble_eq_true rfl⟩ rfl (Nat.le_of_ble_eq_true rfl) d_Md_look_338 hE hP hD hS hA [0, 1, 6, 7, 8] [2, 3, 4, 5] rfl rfl rfl rfl (by decide) (ci := 6) rfl rfl 0 rfl (fun _ h => h.elim) (fun v_338 u_338 H locs hp_338 hP hD hS => ?_)
            obtain rfl := hp_338
            obtain ⟨qq283, hqq283⟩ : ∃ z : Int32, z = u_338 := ⟨_, rfl⟩
            rw [← hqq283] at hP hD
            have hP : va_P D cls [(m0, .inr (6, mF g (K.1, K.2.1, K.2.2.1, nI T.length, nI X.length, K.2.2.2.2.2.1, K.2.2.2.2.2.2.1, K.2.2.2.2.2.2.2.1, qq283) A0 e np B)), ((g 30), .inl (cA 3, 2000, .inl yb)), ((g 34), .inl (cA 3, 2000, .inl kd)), ((g 35), .inl (cA 3, 2000, .inl fr)), ((g 36), .inl (cA 3, 2000, .inl to)), ((g 37), .inl (cA 3, 2000, .inl re)), ((g 38), .inl (cA 3, 2000, .inl ow)), ((g 39), .inl (cA 3, 2000, .inl fi)), ((g 40), .inl (cA 3, 2000, .inl be))] H := hP.sub [4, 5, 0, 1, 2, 3, 6, 7, 8] rfl
            have hD : va_D A [(m0, .inr (6, mF g (K.1, K.2.1, K.2.2.1, nI T.length, nI X.length, K.2.2.2.2.2.1, K.2.2.2.2.2.2.1, K.2.2.2.2.2.2.2.1, qq283) A0 e np B)), ((g 30), .inl (cA 3, 2000, .inl yb)), ((g 34), .inl (cA 3, 2000, .inl kd)), ((g 35), .inl (cA 3, 2000, .inl fr)), ((g 36), .inl (cA 3, 2000, .inl to)), ((g 37), .inl (cA 3, 2000, .inl re)), ((g 38), .inl (cA 3, 2000, .inl ow)), ((g 39), .inl (cA 3, 2000, .inl fi)), ((g 40), .inl (cA 3, 2000, .inl be))] := hD.sub [4, 5, 0, 1, 2, 3, 6, 7, 8] (by decide) rfl
            refine W.cs (cells' := 0) (slots' := 0) rfl rfl ?_
            refine W.eq (g2 := F0 m 341 ls [.long (lkS 8 (vp_updL (vp_updL (vp_updL (vp_updL (vp_updL (vp_updL c_1 0 (lN n)) 6 (lN nl)) 7 (lN (2 * n))) 1 (lN s_)) 4 (lN a3)) 5 (lN a4)) LL wh)]) rfl ?_
            exact cRl (qq283) hx hb hr hlocks d_Md_look_341 hS hP hD (by rw [hS9]) (Nat.le_refl _) (Nat.le_refl _)
          · refine lv_ldc2 hx hb hown (hts _ (List.mem_cons_of_mem _ iw3_204)) d_Md_look_32 ?_
            exact cRl (K.2.2.2.2.2.2.2.2) hx hb hr hlocks d_Md_look_35 hS hP hD (congrArg (fun z : Int64 => some (Value.long z)) (sLook_bc (LS := LS) (LL := LL) (x := nI 8) (k := nI j) (c := c) (Int32.not_le.mp c_29)).symm) (Nat.le_refl _) (Nat.le_refl _)
      · have hl : lv_has ls 6 [(0, .ref m0), (1, .int 9), (2, .int k), (3, .int c)] := hl
        refine lv_aload_n hx hb d_Md_look_15 rfl (lv_at hl 0 rfl) ?_
        refine lv_iload_n hx hb d_Md_look_16 rfl (lv_at hl 1 rfl) ?_
        refine lv_iload_n hx hb d_Md_look_17 rfl (lv_at hl 2 rfl) ?_
        refine cV (As := [.int 9, .int k]) (rest := []) (n := 2) (wc := [(m0, .inr (6, mF g (K.1, K.2.1, K.2.2.1, nI T.length, nI X.length, K.2.2.2.2.2.1, K.2.2.2.2.2.2.1, K.2.2.2.2.2.2.2.1, K.2.2.2.2.2.2.2.2) A0 e np B)), ((g 34), .inl (cA 3, 2000, .inl kd))]) (wr := [((g 30), .inl (cA 3, 2000, .inl yb)), ((g 35), .inl (cA 3, 2000, .inl fr)), ((g 36), .inl (cA 3, 2000, .inl to)), ((g 37), .inl (cA 3, 2000, .inl re)), ((g 38), .inl (cA 3, 2000, .inl ow)), ((g 39), .inl (cA 3, 2000, .inl fi)), ((g 40), .inl (cA 3, 2000, .inl be))]) ⟨hx, hb, hml, hown, hts⟩ hno hlocks hl.1 (c_Md_thingOf l hl9 D cA ad s.heap.size m0 g (K.1, K.2.1, K.2.2.1, nI T.length, nI X.length, K.2.2.2.2.2.1, K.2.2.2.2.2.2.1, K.2.2.2.2.2.2.2.1, K.2.2.2.2.2.2.2.2) A0 e np B kd fr to re T hTH h11 hT 9 (by decide) k) iw4_128 iw4_130 sel_Md_thingOf iw1_7 iw4_131 (by decide +kernel) rfl ⟨Nat.le_of_ble_eq_true rfl, Nat.le_of_ble_eq_true rfl⟩ ⟨Nat.le_of_ble_eq_true rfl, Nat.le_of_ble_eq_true rfl⟩ rfl (Nat.le_of_ble_eq_true rfl) d_Md_look_18 hE hP hD hS hA [0, 2] [1, 3, 4, 5, 6, 7, 8] rfl rfl rfl rfl (by decide) (ci := 6) rfl rfl 0 rfl (fun _ h => h.elim) (fun v_18 u_18 H locs hp_18 hP hD hS => ?_)
        rcases hp_18 with ⟨rfl, hbad⟩ | ⟨j, t, hj31, ej, hjt, htl, rfl⟩
        · have hbad : k < 0 ∨ nI (LS 9).length ≤ k := hbad.elim Or.inl (fun q => by obtain ⟨j, hj, rfl, q⟩ := q; exact Or.inr (nI_le (by rw [← (hrel.2.2 9 (by decide)).1]; exact q) hj))
          have hP : va_P D cls [(m0, .inr (6, mF g (K.1, K.2.1, K.2.2.1, nI T.length, nI X.length, K.2.2.2.2.2.1, K.2.2.2.2.2.2.1, K.2.2.2.2.2.2.2.1, K.2.2.2.2.2.2.2.2) A0 e np B)), ((g 30), .inl (cA 3, 2000, .inl yb)), ((g 34), .inl (cA 3, 2000, .inl kd)), ((g 35), .inl (cA 3, 2000, .inl fr)), ((g 36), .inl (cA 3, 2000, .inl to)), ((g 37), .inl (cA 3, 2000, .inl re)), ((g 38), .inl (cA 3, 2000, .inl ow)), ((g 39), .inl (cA 3, 2000, .inl fi)), ((g 40), .inl (cA 3, 2000, .inl be))] H := hP.sub [7, 0, 8, 1, 2, 3, 4, 5, 6] rfl
          have hD : va_D A [(m0, .inr (6, mF g (K.1, K.2.1, K.2.2.1, nI T.length, nI X.length, K.2.2.2.2.2.1, K.2.2.2.2.2.2.1, K.2.2.2.2.2.2.2.1, K.2.2.2.2.2.2.2.2) A0 e np B)), ((g 30), .inl (cA 3, 2000, .inl yb)), ((g 34), .inl (cA 3, 2000, .inl kd)), ((g 35), .inl (cA 3, 2000, .inl fr)), ((g 36), .inl (cA 3, 2000, .inl to)), ((g 37), .inl (cA 3, 2000, .inl re)), ((g 38), .inl (cA 3, 2000, .inl ow)), ((g 39), .inl (cA 3, 2000, .inl fi)), ((g 40), .inl (cA 3, 2000, .inl be))] := hD.sub [7, 0, 8, 1, 2, 3, 4, 5, 6] (by decide) rfl
          refine W.cs (cells' := 0) (slots' := 0) rfl rfl ?_
          refine W.eq (g2 := F0 m 21 ls [.int (-1)]) rfl ?_
          refine lv_istore (lv' := [(4, .int (-1)), (0, .ref m0), (1, .int 9), (2, .int k), (3, .int c)]) hx hb d_Md_look_21 hl (by decide) rfl (fun ls hl => ?_)
          refine lv_iload hx hb d_Md_look_23 (lv_at hl 0 rfl) ?_
          refine lv_if_lt (tgt := 32) hx hb d_Md_look_25 (by decide) (fun c_25 => ?_) (fun c_25 => absurd (by decide) c_25)
          refine lv_ldc2 hx hb hown (hts _ (List.mem_cons_of_mem _ iw3_204)) d_Md_look_32 ?_
          exact cRl (K.2.2.2.2.2.2.2.2) hx hb hr hlocks d_Md_look_35 hS hP hD (congrArg (fun z : Int64 => some (Value.long z)) (sLook_bk (LS := LS) (LL := LL) (kk := 9) (k := k) (c := c) (by decide) hbad).symm) (Nat.le_refl _) (Nat.le_refl _)
        · subst ej
          have hP : va_P D cls [(m0, .inr (6, mF g (K.1, K.2.1, K.2.2.1, nI T.length, nI X.length, K.2.2.2.2.2.1, K.2.2.2.2.2.2.1, K.2.2.2.2.2.2.2.1, K.2.2.2.2.2.2.2.2) A0 e np B)), ((g 30), .inl (cA 3, 2000, .inl yb)), ((g 34), .inl (cA 3, 2000, .inl kd)), ((g 35), .inl (cA 3, 2000, .inl fr)), ((g 36), .inl (cA 3, 2000, .inl to)), ((g 37), .inl (cA 3, 2000, .inl re)), ((g 38), .inl (cA 3, 2000, .inl ow)), ((g 39), .inl (cA 3, 2000, .inl fi)), ((g 40), .inl (cA 3, 2000, .inl be))] H := hP.sub [7, 0, 8, 1, 2, 3, 4, 5, 6] rfl
          have hD : va_D A [(m0, .inr (6, mF g (K.1, K.2.1, K.2.2.1, nI T.length, nI X.length, K.2.2.2.2.2.1, K.2.2.2.2.2.2.1, K.2.2.2.2.2.2.2.1, K.2.2.2.2.2.2.2.2) A0 e np B)), ((g 30), .inl (cA 3, 2000, .inl yb)), ((g 34), .inl (cA 3, 2000, .inl kd)), ((g 35), .inl (cA 3, 2000, .inl fr)), ((g 36), .inl (cA 3, 2000, .inl to)), ((g 37), .inl (cA 3, 2000, .inl re)), ((g 38), .inl (cA 3, 2000, .inl ow)), ((g 39), .inl (cA 3, 2000, .inl fi)), ((g 40), .inl (cA 3, 2000, .inl be))] := hD.sub [7, 0, 8, 1, 2, 3, 4, 5, 6] (by decide) rfl
          refine W.cs (cells' := 0) (slots' := 0) rfl rfl ?_
          refine W.eq (g2 := F0 m 21 ls [.int (nI t)]) rfl ?_
          have hl : lv_has ls 6 [(0, .ref m0), (1, .int 9), (2, .int (nI j)), (3, .int c)] := hl
          have hjl : j < (LS 9).length := by rw [← (hrel.2.2 9 (by decide)).1]; exact (List.getElem?_eq_some_iff.mp hjt).1
          obtain ⟨t2, f0, o, e1, e2, e3, e4⟩ := (hrel.2.2 9 (by decide)).2 j hjl
          have et : t2 = t := Option.some.inj (e1.symm.trans hjt)
          subst et
          obtain ⟨-, hfr, hto⟩ := TH_at hTH e2
          rw [e3] at hfr hto
          have hfr : fr t2 = nI f0 := hfr
          obtain ⟨z, hz⟩ : ∃ z, z = ((LS 9).getD j (0, c_1)).2 := ⟨_, rfl⟩
          rw [← hz] at e4
          obtain ⟨lm, dc, a', hlmN, hfl, p0, p1, p2, p3, p4, p5, p6, p7, p8, p9, p10⟩ := e4
          have hlm : lm ≤ 2000 := by omega
          have hyb : ∀ i, i < lm → yb i = nI (b i) := fun i hi => hybN i (by omega)
          refine lv_istore (lv' := [(4, .int (nI t2)), (0, .ref m0), (1, .int 9), (2, .int (nI j)), (3, .int c)]) hx hb d_Md_look_21 hl (by decide) rfl (fun ls hl => ?_)
          refine lv_iload hx hb d_Md_look_23 (lv_at hl 0 rfl) ?_
          refine lv_if_lt (tgt := 32) hx hb d_Md_look_25 (by decide) (fun c_25 => absurd c_25 (nI_pos (by omega))) (fun c_25 => ?_)
          refine lv_iload_n hx hb d_Md_look_28 rfl (lv_at hl 4 rfl) ?_
          refine lv_if_ge (tgt := 36) hx hb d_Md_look_29 (by decide) (fun c_29 => ?_) (fun c_29 => ?_)
          · obtain ⟨wh, hwh, ewh⟩ := i32_nn (Int32.not_lt.mpr c_29)
            subst ewh
            have hl : lv_has ls 6 [(4, .int (nI t2)), (0, .ref m0), (1, .int 9), (2, .int (nI j)), (3, .int (nI wh))] := hl
            have hS9 : sLook LS LL (nI 9) (nI j) (nI wh) = lkS 9 z LL wh := by rw [hz]; exact sLook_ok (by decide) hjl (by have := hLk 9 (by decide); omega) hwh
            refine lv_aload_n hx hb d_Md_look_36 rfl (lv_at hl 1 rfl) ?_
            refine lv_aload_n hx hb d_Md_look_37 rfl (lv_at hl 1 rfl) ?_
            refine va_get (D := D) (ci := 6) (v := .ref (g 35)) (C := R_Md) (T := F_Md) (N := 44) hx hb hts (fun w h => List.mem_cons_of_mem _ (i_Md w h)) hown hE.1 hP 0 rfl rfl 35 (by decide) (hts _ (List.mem_cons_of_mem _ iw3_89)) (fun _ h9 => h9) rfl d_Md_look_38 ?_
            refine lv_iload hx hb d_Md_look_41 (lv_at hl 0 rfl) ?_
            refine va_iald hx hb hE.1 hP 3 3 rfl rfl (vp_in_nI (by omega) (by omega)) d_Md_look_43 ?_
            rw [nI_clamp (n := t2) (by omega), hfr]
            refine va_put (D := D) (ci := 6) (v := .int (nI f0)) (ty := .int) (C := R_Md) (T := F_Md) (N := 44) hx hb hts (fun w h => List.mem_cons_of_mem _ (i_Md w h)) t_Md tk_Md n_Md hown hE.1 hP hD hS 0 rfl rfl 43 (by decide) (hts _ (List.mem_cons_of_mem _ iw3_97)) (fun _ h9 => h9) rfl (by decide +kernel) rfl rfl (Nat.le_of_ble_eq_true rfl) d_Md_look_44 (fun H locs hP hD hS => ?_)
            have hP : va_P D cls [(m0, .inr (6, mF g (K.1, K.2.1, K.2.2.1, nI T.length, nI X.length, K.2.2.2.2.2.1, K.2.2.2.2.2.2.1, K.2.2.2.2.2.2.2.1, nI f0) A0 e np B)), ((g 30), .inl (cA 3, 2000, .inl yb)), ((g 34), .inl (cA 3, 2000, .inl kd)), ((g 35), .inl (cA 3, 2000, .inl fr)), ((g 36), .inl (cA 3, 2000, .inl to)), ((g 37), .inl (cA 3, 2000, .inl re)), ((g 38), .inl (cA 3, 2000, .inl ow)), ((g 39), .inl (cA 3, 2000, .inl fi)), ((g 40), .inl (cA 3, 2000, .inl be))] H := hP
            have hD : va_D A [(m0, .inr (6, mF g (K.1, K.2.1, K.2.2.1, nI T.length, nI X.length, K.2.2.2.2.2.1, K.2.2.2.2.2.2.1, K.2.2.2.2.2.2.2.1, nI f0) A0 e np B)), ((g 30), .inl (cA 3, 2000, .inl yb)), ((g 34), .inl (cA 3, 2000, .inl kd)), ((g 35), .inl (cA 3, 2000, .inl fr)), ((g 36), .inl (cA 3, 2000, .inl to)), ((g 37), .inl (cA 3, 2000, .inl re)), ((g 38), .inl (cA 3, 2000, .inl ow)), ((g 39), .inl (cA 3, 2000, .inl fi)), ((g 40), .inl (cA 3, 2000, .inl be))] := hD
            refine lv_iload_n hx hb d_Md_look_47 rfl (lv_at hl 2 rfl) ?_
            refine lv_tableIn (off := 294) (tgt := 342) hx hb d_Md_look_48 (by decide) (by decide) (by decide) (by decide) ?_
            refine lv_aload_n hx hb d_Md_look_342 rfl (lv_at hl 1 rfl) ?_
            refine lv_iload hx hb d_Md_look_343 (lv_at hl 0 rfl) ?_
            refine lv_iload_n hx hb d_Md_look_345 rfl (lv_at hl 4 rfl) ?_
            refine cV (As := [.int (nI t2), .int (nI wh)]) (rest := []) (n := 2) (wc := [(m0, .inr (6, mF g (K.1, K.2.1, K.2.2.1, nI T.length, nI X.length, K.2.2.2.2.2.1, K.2.2.2.2.2.2.1, K.2.2.2.2.2.2.2.1, nI f0) A0 e np B)), ((g 30), .inl (cA 3, 2000, .inl yb)), ((g 38), .inl (cA 3, 2000, .inl ow)), ((g 39), .inl (cA 3, 2000, .inl fi)), ((g 40), .inl (cA 3, 2000, .inl be))]) (wr := [((g 34), .inl (cA 3, 2000, .inl kd)), ((g 35), .inl (cA 3, 2000, .inl fr)), ((g 36), .inl (cA 3, 2000, .inl to)), ((g 37), .inl (cA 3, 2000, .inl re))]) ⟨hx, hb, hml, hown, hts⟩ hno hlocks hl.1 (c_Md_lookData l hl9 D cA ad H.size m0 g (K.1, K.2.1, K.2.2.1, nI T.length, nI X.length, K.2.2.2.2.2.1, K.2.2.2.2.2.2.1, K.2.2.2.2.2.2.2.1, nI f0) A0 e np B yb b lm hlm hyb hb9 ow fi be X hXH hXf hX f0 a' z hfl LL t2 (by omega) (p9 rfl) wh hwh) iw4_173 iw4_175 sel_Md_lookData iw1_7 iw4_176 (by decide +kernel) rfl ⟨Nat.le_of_ble_eq_true rfl, Nat.le_of_ble_eq_true rfl⟩ ⟨Nat.le_of_ble_eq_true rfl, Nat.le_of_ble_eq_true rfl⟩ rfl (Nat.le_of_ble_eq_true rfl) d_Md_look_346 hE hP hD hS hA [0, 1, 6, 7, 8] [2, 3, 4, 5] rfl rfl rfl rfl (by decide) (ci := 6) rfl rfl 0 rfl (fun _ h => h.elim) (fun v_346 u_346 H locs hp_346 hP hD hS => ?_)
            obtain rfl := hp_346
            obtain ⟨qq285, hqq285⟩ : ∃ z : Int32, z = u_346 := ⟨_, rfl⟩
            rw [← hqq285] at hP hD
            have hP : va_P D cls [(m0, .inr (6, mF g (K.1, K.2.1, K.2.2.1, nI T.length, nI X.length, K.2.2.2.2.2.1, K.2.2.2.2.2.2.1, K.2.2.2.2.2.2.2.1, qq285) A0 e np B)), ((g 30), .inl (cA 3, 2000, .inl yb)), ((g 34), .inl (cA 3, 2000, .inl kd)), ((g 35), .inl (cA 3, 2000, .inl fr)), ((g 36), .inl (cA 3, 2000, .inl to)), ((g 37), .inl (cA 3, 2000, .inl re)), ((g 38), .inl (cA 3, 2000, .inl ow)), ((g 39), .inl (cA 3, 2000, .inl fi)), ((g 40), .inl (cA 3, 2000, .inl be))] H := hP.sub [4, 5, 0, 1, 2, 3, 6, 7, 8] rfl
            have hD : va_D A [(m0, .inr (6, mF g (K.1, K.2.1, K.2.2.1, nI T.length, nI X.length, K.2.2.2.2.2.1, K.2.2.2.2.2.2.1, K.2.2.2.2.2.2.2.1, qq285) A0 e np B)), ((g 30), .inl (cA 3, 2000, .inl yb)), ((g 34), .inl (cA 3, 2000, .inl kd)), ((g 35), .inl (cA 3, 2000, .inl fr)), ((g 36), .inl (cA 3, 2000, .inl to)), ((g 37), .inl (cA 3, 2000, .inl re)), ((g 38), .inl (cA 3, 2000, .inl ow)), ((g 39), .inl (cA 3, 2000, .inl fi)), ((g 40), .inl (cA 3, 2000, .inl be))] := hD.sub [4, 5, 0, 1, 2, 3, 6, 7, 8] (by decide) rfl
            refine W.cs (cells' := 0) (slots' := 0) rfl rfl ?_
            refine W.eq (g2 := F0 m 349 ls [.long (lkS 9 z LL wh)]) rfl ?_
            exact cRl (qq285) hx hb hr hlocks d_Md_look_349 hS hP hD (by rw [hS9]) (Nat.le_refl _) (Nat.le_refl _)
          · refine lv_ldc2 hx hb hown (hts _ (List.mem_cons_of_mem _ iw3_204)) d_Md_look_32 ?_
            exact cRl (K.2.2.2.2.2.2.2.2) hx hb hr hlocks d_Md_look_35 hS hP hD (congrArg (fun z : Int64 => some (Value.long z)) (sLook_bc (LS := LS) (LL := LL) (x := nI 9) (k := nI j) (c := c) (Int32.not_le.mp c_29)).symm) (Nat.le_refl _) (Nat.le_refl _)
      · have hl : lv_has ls 6 [(0, .ref m0), (1, .int 10), (2, .int k), (3, .int c)] := hl
        refine lv_aload_n hx hb d_Md_look_15 rfl (lv_at hl 0 rfl) ?_
        refine lv_iload_n hx hb d_Md_look_16 rfl (lv_at hl 1 rfl) ?_
        refine lv_iload_n hx hb d_Md_look_17 rfl (lv_at hl 2 rfl) ?_
        refine cV (As := [.int 10, .int k]) (rest := []) (n := 2) (wc := [(m0, .inr (6, mF g (K.1, K.2.1, K.2.2.1, nI T.length, nI X.length, K.2.2.2.2.2.1, K.2.2.2.2.2.2.1, K.2.2.2.2.2.2.2.1, K.2.2.2.2.2.2.2.2) A0 e np B)), ((g 34), .inl (cA 3, 2000, .inl kd))]) (wr := [((g 30), .inl (cA 3, 2000, .inl yb)), ((g 35), .inl (cA 3, 2000, .inl fr)), ((g 36), .inl (cA 3, 2000, .inl to)), ((g 37), .inl (cA 3, 2000, .inl re)), ((g 38), .inl (cA 3, 2000, .inl ow)), ((g 39), .inl (cA 3, 2000, .inl fi)), ((g 40), .inl (cA 3, 2000, .inl be))]) ⟨hx, hb, hml, hown, hts⟩ hno hlocks hl.1 (c_Md_thingOf l hl9 D cA ad s.heap.size m0 g (K.1, K.2.1, K.2.2.1, nI T.length, nI X.length, K.2.2.2.2.2.1, K.2.2.2.2.2.2.1, K.2.2.2.2.2.2.2.1, K.2.2.2.2.2.2.2.2) A0 e np B kd fr to re T hTH h11 hT 10 (by decide) k) iw4_128 iw4_130 sel_Md_thingOf iw1_7 iw4_131 (by decide +kernel) rfl ⟨Nat.le_of_ble_eq_true rfl, Nat.le_of_ble_eq_true rfl⟩ ⟨Nat.le_of_ble_eq_true rfl, Nat.le_of_ble_eq_true rfl⟩ rfl (Nat.le_of_ble_eq_true rfl) d_Md_look_18 hE hP hD hS hA [0, 2] [1, 3, 4, 5, 6, 7, 8] rfl rfl rfl rfl (by decide) (ci := 6) rfl rfl 0 rfl (fun _ h => h.elim) (fun v_18 u_18 H locs hp_18 hP hD hS => ?_)
        rcases hp_18 with ⟨rfl, hbad⟩ | ⟨j, t, hj31, ej, hjt, htl, rfl⟩
        · have hbad : k < 0 ∨ nI (LS 10).length ≤ k := hbad.elim Or.inl (fun q => by obtain ⟨j, hj, rfl, q⟩ := q; exact Or.inr (nI_le (by rw [← (hrel.2.2 10 (by decide)).1]; exact q) hj))
          have hP : va_P D cls [(m0, .inr (6, mF g (K.1, K.2.1, K.2.2.1, nI T.length, nI X.length, K.2.2.2.2.2.1, K.2.2.2.2.2.2.1, K.2.2.2.2.2.2.2.1, K.2.2.2.2.2.2.2.2) A0 e np B)), ((g 30), .inl (cA 3, 2000, .inl yb)), ((g 34), .inl (cA 3, 2000, .inl kd)), ((g 35), .inl (cA 3, 2000, .inl fr)), ((g 36), .inl (cA 3, 2000, .inl to)), ((g 37), .inl (cA 3, 2000, .inl re)), ((g 38), .inl (cA 3, 2000, .inl ow)), ((g 39), .inl (cA 3, 2000, .inl fi)), ((g 40), .inl (cA 3, 2000, .inl be))] H := hP.sub [7, 0, 8, 1, 2, 3, 4, 5, 6] rfl
          have hD : va_D A [(m0, .inr (6, mF g (K.1, K.2.1, K.2.2.1, nI T.length, nI X.length, K.2.2.2.2.2.1, K.2.2.2.2.2.2.1, K.2.2.2.2.2.2.2.1, K.2.2.2.2.2.2.2.2) A0 e np B)), ((g 30), .inl (cA 3, 2000, .inl yb)), ((g 34), .inl (cA 3, 2000, .inl kd)), ((g 35), .inl (cA 3, 2000, .inl fr)), ((g 36), .inl (cA 3, 2000, .inl to)), ((g 37), .inl (cA 3, 2000, .inl re)), ((g 38), .inl (cA 3, 2000, .inl ow)), ((g 39), .inl (cA 3, 2000, .inl fi)), ((g 40), .inl (cA 3, 2000, .inl be))] := hD.sub [7, 0, 8, 1, 2, 3, 4, 5, 6] (by decide) rfl
          refine W.cs (cells' := 0) (slots' := 0) rfl rfl ?_
          refine W.eq (g2 := F0 m 21 ls [.int (-1)]) rfl ?_
          refine lv_istore (lv' := [(4, .int (-1)), (0, .ref m0), (1, .int 10), (2, .int k), (3, .int c)]) hx hb d_Md_look_21 hl (by decide) rfl (fun ls hl => ?_)
          refine lv_iload hx hb d_Md_look_23 (lv_at hl 0 rfl) ?_
          refine lv_if_lt (tgt := 32) hx hb d_Md_look_25 (by decide) (fun c_25 => ?_) (fun c_25 => absurd (by decide) c_25)
          refine lv_ldc2 hx hb hown (hts _ (List.mem_cons_of_mem _ iw3_204)) d_Md_look_32 ?_
          exact cRl (K.2.2.2.2.2.2.2.2) hx hb hr hlocks d_Md_look_35 hS hP hD (congrArg (fun z : Int64 => some (Value.long z)) (sLook_bk (LS := LS) (LL := LL) (kk := 10) (k := k) (c := c) (by decide) hbad).symm) (Nat.le_refl _) (Nat.le_refl _)
        · subst ej
          have hP : va_P D cls [(m0, .inr (6, mF g (K.1, K.2.1, K.2.2.1, nI T.length, nI X.length, K.2.2.2.2.2.1, K.2.2.2.2.2.2.1, K.2.2.2.2.2.2.2.1, K.2.2.2.2.2.2.2.2) A0 e np B)), ((g 30), .inl (cA 3, 2000, .inl yb)), ((g 34), .inl (cA 3, 2000, .inl kd)), ((g 35), .inl (cA 3, 2000, .inl fr)), ((g 36), .inl (cA 3, 2000, .inl to)), ((g 37), .inl (cA 3, 2000, .inl re)), ((g 38), .inl (cA 3, 2000, .inl ow)), ((g 39), .inl (cA 3, 2000, .inl fi)), ((g 40), .inl (cA 3, 2000, .inl be))] H := hP.sub [7, 0, 8, 1, 2, 3, 4, 5, 6] rfl
          have hD : va_D A [(m0, .inr (6, mF g (K.1, K.2.1, K.2.2.1, nI T.length, nI X.length, K.2.2.2.2.2.1, K.2.2.2.2.2.2.1, K.2.2.2.2.2.2.2.1, K.2.2.2.2.2.2.2.2) A0 e np B)), ((g 30), .inl (cA 3, 2000, .inl yb)), ((g 34), .inl (cA 3, 2000, .inl kd)), ((g 35), .inl (cA 3, 2000, .inl fr)), ((g 36), .inl (cA 3, 2000, .inl to)), ((g 37), .inl (cA 3, 2000, .inl re)), ((g 38), .inl (cA 3, 2000, .inl ow)), ((g 39), .inl (cA 3, 2000, .inl fi)), ((g 40), .inl (cA 3, 2000, .inl be))] := hD.sub [7, 0, 8, 1, 2, 3, 4, 5, 6] (by decide) rfl
          refine W.cs (cells' := 0) (slots' := 0) rfl rfl ?_
          refine W.eq (g2 := F0 m 21 ls [.int (nI t)]) rfl ?_
          have hl : lv_has ls 6 [(0, .ref m0), (1, .int 10), (2, .int (nI j)), (3, .int c)] := hl
          have hjl : j < (LS 10).length := by rw [← (hrel.2.2 10 (by decide)).1]; exact (List.getElem?_eq_some_iff.mp hjt).1
          obtain ⟨t2, f0, o, e1, e2, e3, e4⟩ := (hrel.2.2 10 (by decide)).2 j hjl
          have et : t2 = t := Option.some.inj (e1.symm.trans hjt)
          subst et
          obtain ⟨-, hfr, hto⟩ := TH_at hTH e2
          rw [e3] at hfr hto
          have hfr : fr t2 = nI f0 := hfr
          obtain ⟨z, hz⟩ : ∃ z, z = ((LS 10).getD j (0, c_1)).2 := ⟨_, rfl⟩
          rw [← hz] at e4
          obtain ⟨lm, dc, a', hlmN, hfl, p0, p1, p2, p3, p4, p5, p6, p7, p8, p9, p10⟩ := e4
          have hlm : lm ≤ 2000 := by omega
          have hyb : ∀ i, i < lm → yb i = nI (b i) := fun i hi => hybN i (by omega)
          refine lv_istore (lv' := [(4, .int (nI t2)), (0, .ref m0), (1, .int 10), (2, .int (nI j)), (3, .int c)]) hx hb d_Md_look_21 hl (by decide) rfl (fun ls hl => ?_)
          refine lv_iload hx hb d_Md_look_23 (lv_at hl 0 rfl) ?_
          refine lv_if_lt (tgt := 32) hx hb d_Md_look_25 (by decide) (fun c_25 => absurd c_25 (nI_pos (by omega))) (fun c_25 => ?_)
          refine lv_iload_n hx hb d_Md_look_28 rfl (lv_at hl 4 rfl) ?_
          refine lv_if_ge (tgt := 36) hx hb d_Md_look_29 (by decide) (fun c_29 => ?_) (fun c_29 => ?_)
          · obtain ⟨wh, hwh, ewh⟩ := i32_nn (Int32.not_lt.mpr c_29)
            subst ewh
            have hl : lv_has ls 6 [(4, .int (nI t2)), (0, .ref m0), (1, .int 10), (2, .int (nI j)), (3, .int (nI wh))] := hl
            have hS9 : sLook LS LL (nI 10) (nI j) (nI wh) = lkS 10 z LL wh := by rw [hz]; exact sLook_ok (by decide) hjl (by have := hLk 10 (by decide); omega) hwh
            refine lv_aload_n hx hb d_Md_look_36 rfl (lv_at hl 1 rfl) ?_
            refine lv_aload_n hx hb d_Md_look_37 rfl (lv_at hl 1 rfl) ?_
            refine va_get (D := D) (ci := 6) (v := .ref (g 35)) (C := R_Md) (T := F_Md) (N := 44) hx hb hts (fun w h => List.mem_cons_of_mem _ (i_Md w h)) hown hE.1 hP 0 rfl rfl 35 (by decide) (hts _ (List.mem_cons_of_mem _ iw3_89)) (fun _ h9 => h9) rfl d_Md_look_38 ?_
            refine lv_iload hx hb d_Md_look_41 (lv_at hl 0 rfl) ?_
            refine va_iald hx hb hE.1 hP 3 3 rfl rfl (vp_in_nI (by omega) (by omega)) d_Md_look_43 ?_
            rw [nI_clamp (n := t2) (by omega), hfr]
            refine va_put (D := D) (ci := 6) (v := .int (nI f0)) (ty := .int) (C := R_Md) (T := F_Md) (N := 44) hx hb hts (fun w h => List.mem_cons_of_mem _ (i_Md w h)) t_Md tk_Md n_Md hown hE.1 hP hD hS 0 rfl rfl 43 (by decide) (hts _ (List.mem_cons_of_mem _ iw3_97)) (fun _ h9 => h9) rfl (by decide +kernel) rfl rfl (Nat.le_of_ble_eq_true rfl) d_Md_look_44 (fun H locs hP hD hS => ?_)
            have hP : va_P D cls [(m0, .inr (6, mF g (K.1, K.2.1, K.2.2.1, nI T.length, nI X.length, K.2.2.2.2.2.1, K.2.2.2.2.2.2.1, K.2.2.2.2.2.2.2.1, nI f0) A0 e np B)), ((g 30), .inl (cA 3, 2000, .inl yb)), ((g 34), .inl (cA 3, 2000, .inl kd)), ((g 35), .inl (cA 3, 2000, .inl fr)), ((g 36), .inl (cA 3, 2000, .inl to)), ((g 37), .inl (cA 3, 2000, .inl re)), ((g 38), .inl (cA 3, 2000, .inl ow)), ((g 39), .inl (cA 3, 2000, .inl fi)), ((g 40), .inl (cA 3, 2000, .inl be))] H := hP
            have hD : va_D A [(m0, .inr (6, mF g (K.1, K.2.1, K.2.2.1, nI T.length, nI X.length, K.2.2.2.2.2.1, K.2.2.2.2.2.2.1, K.2.2.2.2.2.2.2.1, nI f0) A0 e np B)), ((g 30), .inl (cA 3, 2000, .inl yb)), ((g 34), .inl (cA 3, 2000, .inl kd)), ((g 35), .inl (cA 3, 2000, .inl fr)), ((g 36), .inl (cA 3, 2000, .inl to)), ((g 37), .inl (cA 3, 2000, .inl re)), ((g 38), .inl (cA 3, 2000, .inl ow)), ((g 39), .inl (cA 3, 2000, .inl fi)), ((g 40), .inl (cA 3, 2000, .inl be))] := hD
            refine lv_iload_n hx hb d_Md_look_47 rfl (lv_at hl 2 rfl) ?_
            refine lv_tableOut (tgt := 350) hx hb d_Md_look_48 (by decide) (by decide) ?_
            refine lv_aload_n hx hb d_Md_look_350 rfl (lv_at hl 1 rfl) ?_
            refine lv_iload hx hb d_Md_look_351 (lv_at hl 0 rfl) ?_
            refine lv_iload_n hx hb d_Md_look_353 rfl (lv_at hl 4 rfl) ?_
            obtain ⟨nm, a1, hn1, hzz, ho⟩ := p10 rfl
            subst hzz
            have hq1 := pName_ok hfl hn1
            obtain ⟨hto1, hto2⟩ := hto (a1, lm - a1) ho
            refine cV (As := [.int (nI t2), .int (nI wh)]) (rest := []) (n := 2) (wc := [(m0, .inr (6, mF g (K.1, K.2.1, K.2.2.1, nI T.length, nI X.length, K.2.2.2.2.2.1, K.2.2.2.2.2.2.1, K.2.2.2.2.2.2.2.1, nI f0) A0 e np B)), ((g 36), .inl (cA 3, 2000, .inl to)), ((g 37), .inl (cA 3, 2000, .inl re))]) (wr := [((g 30), .inl (cA 3, 2000, .inl yb)), ((g 34), .inl (cA 3, 2000, .inl kd)), ((g 35), .inl (cA 3, 2000, .inl fr)), ((g 38), .inl (cA 3, 2000, .inl ow)), ((g 39), .inl (cA 3, 2000, .inl fi)), ((g 40), .inl (cA 3, 2000, .inl be))]) ⟨hx, hb, hml, hown, hts⟩ hno hlocks hl.1 (c_Md_lookRest l hl9 D cA ad H.size m0 g (K.1, K.2.1, K.2.2.1, nI T.length, nI X.length, K.2.2.2.2.2.1, K.2.2.2.2.2.2.1, K.2.2.2.2.2.2.2.1, nI f0) A0 e np B to re t2 a1 (lm - a1) (by omega) hto1 hto2 (by omega) (by omega) (vp_updL (vp_updL (up2 c_1 7 nm.1 nm.2) 3 (lN (lm - a1))) 6 (lN a1)) ⟨rfl, rfl, rfl, rfl, rfl⟩ ⟨rfl, rfl⟩ LL wh hwh) iw4_177 iw4_179 sel_Md_lookRest iw1_7 iw4_180 (by decide +kernel) rfl ⟨Nat.le_of_ble_eq_true rfl, Nat.le_of_ble_eq_true rfl⟩ ⟨Nat.le_of_ble_eq_true rfl, Nat.le_of_ble_eq_true rfl⟩ rfl (Nat.le_of_ble_eq_true rfl) d_Md_look_354 hE hP hD hS hA [0, 4, 5] [1, 2, 3, 6, 7, 8] rfl rfl rfl rfl (by decide) (ci := 6) rfl rfl 0 rfl (fun _ h => h.elim) (fun v_354 u_354 H locs hp_354 hP hD hS => ?_)
            obtain rfl := hp_354
            have hP : va_P D cls [(m0, .inr (6, mF g (K.1, K.2.1, K.2.2.1, nI T.length, nI X.length, K.2.2.2.2.2.1, K.2.2.2.2.2.2.1, K.2.2.2.2.2.2.2.1, nI f0) A0 e np B)), ((g 30), .inl (cA 3, 2000, .inl yb)), ((g 34), .inl (cA 3, 2000, .inl kd)), ((g 35), .inl (cA 3, 2000, .inl fr)), ((g 36), .inl (cA 3, 2000, .inl to)), ((g 37), .inl (cA 3, 2000, .inl re)), ((g 38), .inl (cA 3, 2000, .inl ow)), ((g 39), .inl (cA 3, 2000, .inl fi)), ((g 40), .inl (cA 3, 2000, .inl be))] H := hP.sub [6, 0, 1, 2, 7, 8, 3, 4, 5] rfl
            have hD : va_D A [(m0, .inr (6, mF g (K.1, K.2.1, K.2.2.1, nI T.length, nI X.length, K.2.2.2.2.2.1, K.2.2.2.2.2.2.1, K.2.2.2.2.2.2.2.1, nI f0) A0 e np B)), ((g 30), .inl (cA 3, 2000, .inl yb)), ((g 34), .inl (cA 3, 2000, .inl kd)), ((g 35), .inl (cA 3, 2000, .inl fr)), ((g 36), .inl (cA 3, 2000, .inl to)), ((g 37), .inl (cA 3, 2000, .inl re)), ((g 38), .inl (cA 3, 2000, .inl ow)), ((g 39), .inl (cA 3, 2000, .inl fi)), ((g 40), .inl (cA 3, 2000, .inl be))] := hD.sub [6, 0, 1, 2, 7, 8, 3, 4, 5] (by decide) rfl
            refine W.cs (cells' := 0) (slots' := 0) rfl rfl ?_
            refine W.eq (g2 := F0 m 357 ls [.long (lkS 10 (vp_updL (vp_updL (up2 c_1 7 nm.1 nm.2) 3 (lN (lm - a1))) 6 (lN a1)) LL wh)]) rfl ?_
            exact cRl (nI f0) hx hb hr hlocks d_Md_look_357 hS hP hD (by rw [hS9]) (Nat.le_refl _) (Nat.le_refl _)
          · refine lv_ldc2 hx hb hown (hts _ (List.mem_cons_of_mem _ iw3_204)) d_Md_look_32 ?_
            exact cRl (K.2.2.2.2.2.2.2.2) hx hb hr hlocks d_Md_look_35 hS hP hD (congrArg (fun z : Int64 => some (Value.long z)) (sLook_bc (LS := LS) (LL := LL) (x := nI 10) (k := nI j) (c := c) (Int32.not_le.mp c_29)).symm) (Nat.le_refl _) (Nat.le_refl _)
    · refine lv_iconst (v := (-1)) hx hb d_Md_look_11 (by decide) ?_
      refine lv_goto (tgt := 21) hx hb d_Md_look_12 (by decide) ?_
      refine lv_istore (lv' := [(4, .int (-1)), (0, .ref m0), (1, .int x), (2, .int k), (3, .int c)]) hx hb d_Md_look_21 hl (by decide) rfl (fun ls hl => ?_)
      refine lv_iload hx hb d_Md_look_23 (lv_at hl 0 rfl) ?_
      refine lv_if_lt (tgt := 32) hx hb d_Md_look_25 (by decide) (fun c_25 => ?_) (fun c_25 => absurd (by decide) c_25)
      refine lv_ldc2 hx hb hown (hts _ (List.mem_cons_of_mem _ iw3_204)) d_Md_look_32 ?_
      exact cRl (K.2.2.2.2.2.2.2.2) hx hb hr hlocks d_Md_look_35 hS hP hD (congrArg (fun z : Int64 => some (Value.long z)) (sLook_bx (LS := LS) (LL := LL) (x := x) (k := k) (c := c) (by first | exact Or.inl c_2 | exact Or.inr (Int32.not_le.mp c_8))).symm) (Nat.le_refl _) (Nat.le_refl _)
