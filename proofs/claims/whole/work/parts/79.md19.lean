theorem exO_bd {X : XL} {t : Nat} (h : ∀ x ∈ X, x.1 < 2000 ∧ x.2.1 ≤ 2000 ∧ ∃ z : Nat, x.2.2 = some z ∧ z ≤ 2000) : ∀ p ∈ exO t X, p.1 ≤ 2000 ∧ p.2 ≤ 2000 := by
  induction X with
  | nil => intro p hp; exact absurd hp (by simp [exO])
  | cons x r ih =>
    intro p hp
    have ihr := ih (fun y hy => h y (List.mem_cons_of_mem _ hy))
    simp only [exO] at hp
    by_cases c : x.1 = t
    · rw [if_pos c] at hp
      rcases List.mem_append.mp hp with q | q
      · exact ihr p q
      · obtain ⟨h1, h2, z, h3, h4⟩ := h x (List.mem_cons_self ..)
        rw [List.mem_singleton.mp q, h3]
        exact ⟨h2, h4⟩
    · rw [if_neg c] at hp
      exact ihr p hp
theorem TH_at {kd fr to re : Nat → Int32} {t : Nat} : ∀ {T : TL}, TH kd fr to re T → t < T.length → kd t = nI (thA T t).1 ∧ fr t = nI (thA T t).2.1 ∧ ∀ z, (thA T t).2.2 = some z → to t = nI z.1 ∧ re t = nI z.2
  | [], _, h => absurd h (Nat.not_lt_zero _)
  | x :: r, h, ht => by
    by_cases c : t = r.length
    · subst c
      rw [show thA (x :: r) r.length = x from if_pos rfl]
      exact h.1
    · rw [show thA (x :: r) t = thA r t from if_neg c]
      exact TH_at h.2 (by simp at ht; omega)
/-- the answer to look(x, k, c) -/
def sLook (LS : Nat → RL) (LL : List Int64) (x k c : Int32) : Int64 := if x < 1 ∨ 10 < x ∨ k < 0 ∨ nI (LS x.toNatClampNeg).length ≤ k ∨ c < 0 then -1 else lkS x.toNatClampNeg ((LS x.toNatClampNeg).getD k.toNatClampNeg (0, c_1)).2 LL c.toNatClampNeg
theorem sLook_bad {LS : Nat → RL} {LL : List Int64} {x k c : Int32} (h : x < 1 ∨ 10 < x ∨ k < 0 ∨ nI (LS x.toNatClampNeg).length ≤ k ∨ c < 0) : sLook LS LL x k c = -1 := if_pos h
theorem sLook_ok {LS : Nat → RL} {LL : List Int64} {kk j w : Nat} (hk : 1 ≤ kk ∧ kk ≤ 10) (hj : j < (LS kk).length) (hL : (LS kk).length < 2 ^ 31) (hw : w < 2 ^ 31) : sLook LS LL (nI kk) (nI j) (nI w) = lkS kk ((LS kk).getD j (0, c_1)).2 LL w := by
  have e1 : (nI kk).toNatClampNeg = kk := nI_clamp (by omega)
  rw [sLook, e1, nI_clamp (by omega), nI_clamp hw, if_neg]
  rintro (q | q | q | q | q)
  · exact absurd ((nI_ltI (b := 1) (by omega) (by decide)).mp q) (by omega)
  · exact absurd ((nI_ltI (a := 10) (by decide) (by omega)).mp q) (by omega)
  · exact nI_pos (by omega) q
  · exact absurd ((nI_leI (by omega) (by omega)).mp q) (by omega)
  · exact nI_pos hw q
set_option maxHeartbeats 4000000 in
set_option maxRecDepth 100000 in
/-- lookRest(t, what) -/
theorem c_Md_lookRest (l : Launch) (hl9 : l.stackTraces = false) (D : va_G) (cA : Nat → ClassId) (ad : Nat → Nat) (sz : Nat) (m0 : Nat) (g : Nat → Nat) (K : MK) (A0 : A3) (e np : Int32) (B : MB) (to re : Nat → Int32) (t x1 x2 : Nat) (ht : t < 2000) (h1 : to t = nI x1) (h2 : re t = nI x2) (hx1 : x1 ≤ 2000) (hx2 : x2 ≤ 2000) (z : Nat → Int64) (hz0 : z 0 = -1 ∧ z 1 = -1 ∧ z 2 = -1 ∧ z 4 = -1 ∧ z 5 = -1) (hz : z 6 = lN x1 ∧ z 3 = lN x2) (LL : List Int64) (wh : Nat) (hwh : wh < 2 ^ 31) :
    cM l y_Md_lookRest (.code y_Md_lookRest b_Md_lookRest 3 (some .long) :: wAll) ({ frames := 0, cells := 0, slots := 0, locals := 0 }) D cA ad [.ref m0, .int (nI t), .int (nI wh)] [(m0, .inr (6, mF g K A0 e np B)), ((g 36), .inl (cA 3, 2000, .inl to)), ((g 37), .inl (cA 3, 2000, .inl re))] sz (fun v (_ : Unit) => v = some (.long (lkS 10 z LL wh))) (fun _ => False) (fun _ => [(m0, .inr (6, mF g K A0 e np B)), ((g 36), .inl (cA 3, 2000, .inl to)), ((g 37), .inl (cA 3, 2000, .inl re))]) (fun _ => (0, 0)) := by
  refine cM.ofW (cc := b_Md_lookRest) (maxL := 3) (ret := (some .long)) (by decide) (Nat.le_of_ble_eq_true rfl) ?_
  intro pg ev s m bw meth cdx A ls hF hsz hA hE hP hD hl
  obtain ⟨⟨hx, hb, hml, hown, hts⟩, hr, hno, hlocks, hin⟩ := hF
  subst hsz
  have hown : s.vm.findClass "ModuleBytesModel" = some m.cls := hown
  have hS : va_S A s.heap s.heap [] := va_S.rf
  have hl : lv_has ls 3 [(0, .ref m0), (1, .int (nI t)), (2, .int (nI wh))] := hl
  have hP : va_P D cls [(m0, .inr (6, mF g K A0 e np B)), ((g 36), .inl (cA 3, 2000, .inl to)), ((g 37), .inl (cA 3, 2000, .inl re))] s.heap := hP
  have hD : va_D A [(m0, .inr (6, mF g K A0 e np B)), ((g 36), .inl (cA 3, 2000, .inl to)), ((g 37), .inl (cA 3, 2000, .inl re))] := hD
  rcases (show wh = 0 ∨ wh = 1 ∨ wh = 2 ∨ wh = 3 ∨ wh = 4 ∨ wh = 5 ∨ wh = 6 ∨ wh = 7 ∨ 8 ≤ wh by omega) with rfl | rfl | rfl | rfl | rfl | rfl | rfl | rfl | hw8
  · have hl : lv_has ls 3 [(0, .ref m0), (1, .int (nI t)), (2, .int 0)] := hl
    refine lv_iload_n hx hb d_Md_lookRest_0 rfl (lv_at hl 2 rfl) ?_
    refine lv_bipush (v := 6) hx hb d_Md_lookRest_1 (by decide) ?_
    refine lv_icmp_ne (tgt := 16) hx hb d_Md_lookRest_3 (by decide) (fun c_3 => ?_) (fun c_3 => absurd c_3 (by decide))
    refine lv_iload_n hx hb d_Md_lookRest_16 rfl (lv_at hl 2 rfl) ?_
    refine lv_iconst (v := 3) hx hb d_Md_lookRest_17 (by decide) ?_
    refine lv_icmp_ne (tgt := 31) hx hb d_Md_lookRest_18 (by decide) (fun c_18 => ?_) (fun c_18 => absurd c_18 (by decide))
    refine lv_ldc2 hx hb hown (hts _ (List.mem_cons_of_mem _ iw3_204)) d_Md_lookRest_31 ?_
    exact cRl () hx hb hr hlocks d_Md_lookRest_34 hS hP hD (congrArg (fun z : Int64 => some (Value.long z)) hz0.1.symm) (Nat.le_refl _) (Nat.le_refl _)
  · have hl : lv_has ls 3 [(0, .ref m0), (1, .int (nI t)), (2, .int 1)] := hl
    refine lv_iload_n hx hb d_Md_lookRest_0 rfl (lv_at hl 2 rfl) ?_
    refine lv_bipush (v := 6) hx hb d_Md_lookRest_1 (by decide) ?_
    refine lv_icmp_ne (tgt := 16) hx hb d_Md_lookRest_3 (by decide) (fun c_3 => ?_) (fun c_3 => absurd c_3 (by decide))
    refine lv_iload_n hx hb d_Md_lookRest_16 rfl (lv_at hl 2 rfl) ?_
    refine lv_iconst (v := 3) hx hb d_Md_lookRest_17 (by decide) ?_
    refine lv_icmp_ne (tgt := 31) hx hb d_Md_lookRest_18 (by decide) (fun c_18 => ?_) (fun c_18 => absurd c_18 (by decide))
    refine lv_ldc2 hx hb hown (hts _ (List.mem_cons_of_mem _ iw3_204)) d_Md_lookRest_31 ?_
    exact cRl () hx hb hr hlocks d_Md_lookRest_34 hS hP hD (congrArg (fun z : Int64 => some (Value.long z)) hz0.2.1.symm) (Nat.le_refl _) (Nat.le_refl _)
  · have hl : lv_has ls 3 [(0, .ref m0), (1, .int (nI t)), (2, .int 2)] := hl
    refine lv_iload_n hx hb d_Md_lookRest_0 rfl (lv_at hl 2 rfl) ?_
    refine lv_bipush (v := 6) hx hb d_Md_lookRest_1 (by decide) ?_
    refine lv_icmp_ne (tgt := 16) hx hb d_Md_lookRest_3 (by decide) (fun c_3 => ?_) (fun c_3 => absurd c_3 (by decide))
    refine lv_iload_n hx hb d_Md_lookRest_16 rfl (lv_at hl 2 rfl) ?_
    refine lv_iconst (v := 3) hx hb d_Md_lookRest_17 (by decide) ?_
    refine lv_icmp_ne (tgt := 31) hx hb d_Md_lookRest_18 (by decide) (fun c_18 => ?_) (fun c_18 => absurd c_18 (by decide))
    refine lv_ldc2 hx hb hown (hts _ (List.mem_cons_of_mem _ iw3_204)) d_Md_lookRest_31 ?_
    exact cRl () hx hb hr hlocks d_Md_lookRest_34 hS hP hD (congrArg (fun z : Int64 => some (Value.long z)) hz0.2.2.1.symm) (Nat.le_refl _) (Nat.le_refl _)
  · have hl : lv_has ls 3 [(0, .ref m0), (1, .int (nI t)), (2, .int 3)] := hl
    refine lv_iload_n hx hb d_Md_lookRest_0 rfl (lv_at hl 2 rfl) ?_
    refine lv_bipush (v := 6) hx hb d_Md_lookRest_1 (by decide) ?_
    refine lv_icmp_ne (tgt := 16) hx hb d_Md_lookRest_3 (by decide) (fun c_3 => ?_) (fun c_3 => absurd c_3 (by decide))
    refine lv_iload_n hx hb d_Md_lookRest_16 rfl (lv_at hl 2 rfl) ?_
    refine lv_iconst (v := 3) hx hb d_Md_lookRest_17 (by decide) ?_
    refine lv_icmp_ne (tgt := 31) hx hb d_Md_lookRest_18 (by decide) (fun c_18 => absurd (by decide) c_18) (fun c_18 => ?_)
    refine lv_aload_n hx hb d_Md_lookRest_21 rfl (lv_at hl 0 rfl) ?_
    refine va_get (D := D) (ci := 6) (v := .ref (g 37)) (C := R_Md) (T := F_Md) (N := 44) hx hb hts (fun w h => List.mem_cons_of_mem _ (i_Md w h)) hown hE.1 hP 0 rfl rfl 37 (by decide) (hts _ (List.mem_cons_of_mem _ iw3_91)) (fun _ h9 => h9) rfl d_Md_lookRest_22 ?_
    refine lv_iload_n hx hb d_Md_lookRest_25 rfl (lv_at hl 1 rfl) ?_
    refine va_iald hx hb hE.1 hP 2 3 rfl rfl (vp_in_nI (by omega) (by omega)) d_Md_lookRest_26 ?_
    rw [nI_clamp (n := t) (by omega), h2]
    refine lv_i2l hx hb d_Md_lookRest_27 rfl ?_
    rw [nI_l (n := x2) (by omega)]
    refine lv_goto (tgt := 34) hx hb d_Md_lookRest_28 (by decide) ?_
    exact cRl () hx hb hr hlocks d_Md_lookRest_34 hS hP hD (congrArg (fun z : Int64 => some (Value.long z)) hz.2.symm) (Nat.le_refl _) (Nat.le_refl _)
  · have hl : lv_has ls 3 [(0, .ref m0), (1, .int (nI t)), (2, .int 4)] := hl
    refine lv_iload_n hx hb d_Md_lookRest_0 rfl (lv_at hl 2 rfl) ?_
    refine lv_bipush (v := 6) hx hb d_Md_lookRest_1 (by decide) ?_
    refine lv_icmp_ne (tgt := 16) hx hb d_Md_lookRest_3 (by decide) (fun c_3 => ?_) (fun c_3 => absurd c_3 (by decide))
    refine lv_iload_n hx hb d_Md_lookRest_16 rfl (lv_at hl 2 rfl) ?_
    refine lv_iconst (v := 3) hx hb d_Md_lookRest_17 (by decide) ?_
    refine lv_icmp_ne (tgt := 31) hx hb d_Md_lookRest_18 (by decide) (fun c_18 => ?_) (fun c_18 => absurd c_18 (by decide))
    refine lv_ldc2 hx hb hown (hts _ (List.mem_cons_of_mem _ iw3_204)) d_Md_lookRest_31 ?_
    exact cRl () hx hb hr hlocks d_Md_lookRest_34 hS hP hD (congrArg (fun z : Int64 => some (Value.long z)) hz0.2.2.2.1.symm) (Nat.le_refl _) (Nat.le_refl _)
  · have hl : lv_has ls 3 [(0, .ref m0), (1, .int (nI t)), (2, .int 5)] := hl
    refine lv_iload_n hx hb d_Md_lookRest_0 rfl (lv_at hl 2 rfl) ?_
    refine lv_bipush (v := 6) hx hb d_Md_lookRest_1 (by decide) ?_
    refine lv_icmp_ne (tgt := 16) hx hb d_Md_lookRest_3 (by decide) (fun c_3 => ?_) (fun c_3 => absurd c_3 (by decide))
    refine lv_iload_n hx hb d_Md_lookRest_16 rfl (lv_at hl 2 rfl) ?_
    refine lv_iconst (v := 3) hx hb d_Md_lookRest_17 (by decide) ?_
    refine lv_icmp_ne (tgt := 31) hx hb d_Md_lookRest_18 (by decide) (fun c_18 => ?_) (fun c_18 => absurd c_18 (by decide))
    refine lv_ldc2 hx hb hown (hts _ (List.mem_cons_of_mem _ iw3_204)) d_Md_lookRest_31 ?_
    exact cRl () hx hb hr hlocks d_Md_lookRest_34 hS hP hD (congrArg (fun z : Int64 => some (Value.long z)) hz0.2.2.2.2.symm) (Nat.le_refl _) (Nat.le_refl _)
  · have hl : lv_has ls 3 [(0, .ref m0), (1, .int (nI t)), (2, .int 6)] := hl
    refine lv_iload_n hx hb d_Md_lookRest_0 rfl (lv_at hl 2 rfl) ?_
    refine lv_bipush (v := 6) hx hb d_Md_lookRest_1 (by decide) ?_
    refine lv_icmp_ne (tgt := 16) hx hb d_Md_lookRest_3 (by decide) (fun c_3 => absurd (by decide) c_3) (fun c_3 => ?_)
    refine lv_aload_n hx hb d_Md_lookRest_6 rfl (lv_at hl 0 rfl) ?_
    refine va_get (D := D) (ci := 6) (v := .ref (g 36)) (C := R_Md) (T := F_Md) (N := 44) hx hb hts (fun w h => List.mem_cons_of_mem _ (i_Md w h)) hown hE.1 hP 0 rfl rfl 36 (by decide) (hts _ (List.mem_cons_of_mem _ iw3_90)) (fun _ h9 => h9) rfl d_Md_lookRest_7 ?_
    refine lv_iload_n hx hb d_Md_lookRest_10 rfl (lv_at hl 1 rfl) ?_
    refine va_iald hx hb hE.1 hP 1 3 rfl rfl (vp_in_nI (by omega) (by omega)) d_Md_lookRest_11 ?_
    rw [nI_clamp (n := t) (by omega), h1]
    refine lv_i2l hx hb d_Md_lookRest_12 rfl ?_
    rw [nI_l (n := x1) (by omega)]
    refine lv_goto (tgt := 34) hx hb d_Md_lookRest_13 (by decide) ?_
    exact cRl () hx hb hr hlocks d_Md_lookRest_34 hS hP hD (congrArg (fun z : Int64 => some (Value.long z)) hz.1.symm) (Nat.le_refl _) (Nat.le_refl _)
  · have hl : lv_has ls 3 [(0, .ref m0), (1, .int (nI t)), (2, .int 7)] := hl
    refine lv_iload_n hx hb d_Md_lookRest_0 rfl (lv_at hl 2 rfl) ?_
    refine lv_bipush (v := 6) hx hb d_Md_lookRest_1 (by decide) ?_
    refine lv_icmp_ne (tgt := 16) hx hb d_Md_lookRest_3 (by decide) (fun c_3 => ?_) (fun c_3 => absurd c_3 (by decide))
    refine lv_iload_n hx hb d_Md_lookRest_16 rfl (lv_at hl 2 rfl) ?_
    refine lv_iconst (v := 3) hx hb d_Md_lookRest_17 (by decide) ?_
    refine lv_icmp_ne (tgt := 31) hx hb d_Md_lookRest_18 (by decide) (fun c_18 => ?_) (fun c_18 => absurd c_18 (by decide))
    refine lv_ldc2 hx hb hown (hts _ (List.mem_cons_of_mem _ iw3_204)) d_Md_lookRest_31 ?_
    exact cRl () hx hb hr hlocks d_Md_lookRest_34 hS hP hD (rfl) (Nat.le_refl _) (Nat.le_refl _)
  · have hl := hl
    refine lv_iload_n hx hb d_Md_lookRest_0 rfl (lv_at hl 2 rfl) ?_
    refine lv_bipush (v := 6) hx hb d_Md_lookRest_1 (by decide) ?_
    refine lv_icmp_ne (tgt := 16) hx hb d_Md_lookRest_3 (by decide) (fun c_3 => ?_) (fun c_3 => absurd c_3 (fun q => absurd ((nI_eq (a := wh) (b := 6) (by omega) (by decide)).mp q) (by omega)))
    refine lv_iload_n hx hb d_Md_lookRest_16 rfl (lv_at hl 2 rfl) ?_
    refine lv_iconst (v := 3) hx hb d_Md_lookRest_17 (by decide) ?_
    refine lv_icmp_ne (tgt := 31) hx hb d_Md_lookRest_18 (by decide) (fun c_18 => ?_) (fun c_18 => absurd c_18 (fun q => absurd ((nI_eq (a := wh) (b := 3) (by omega) (by decide)).mp q) (by omega)))
    refine lv_ldc2 hx hb hown (hts _ (List.mem_cons_of_mem _ iw3_204)) d_Md_lookRest_31 ?_
    exact cRl () hx hb hr hlocks d_Md_lookRest_34 hS hP hD (by rw [lkS, if_pos hw8]; rfl) (Nat.le_refl _) (Nat.le_refl _)
