set_option maxHeartbeats 4000000 in
set_option maxRecDepth 100000 in
/-- countOf(k) -/
theorem c_Md_countOf (l : Launch) (hl9 : l.stackTraces = false) (D : va_G) (cA : Nat → ClassId) (ad : Nat → Nat) (sz : Nat) (m0 : Nat) (g : Nat → Nat) (K : MK) (A0 : A3) (e np : Int32) (B : MB) (kd : Nat → Int32) (t : Nat) (ht : t ≤ 2000) (x : Int32) :
    cM l y_Md_countOf (.code y_Md_countOf b_Md_countOf 4 (some .int) :: wAll) ({ frames := 0, cells := 0, slots := 0, locals := 0 }) D cA ad [.ref m0, .int x] [(m0, .inr (6, mF g (K.1, K.2.1, K.2.2.1, nI t, K.2.2.2.2.1, K.2.2.2.2.2.1, K.2.2.2.2.2.2.1, K.2.2.2.2.2.2.2.1, K.2.2.2.2.2.2.2.2) A0 e np B)), ((g 34), .inl (cA 3, 2000, .inl kd))] sz (fun v (_ : Unit) => v = some (.int (nI (cK kd x t)))) (fun _ => False) (fun _ => [(m0, .inr (6, mF g (K.1, K.2.1, K.2.2.1, nI t, K.2.2.2.2.1, K.2.2.2.2.2.1, K.2.2.2.2.2.2.1, K.2.2.2.2.2.2.2.1, K.2.2.2.2.2.2.2.2) A0 e np B)), ((g 34), .inl (cA 3, 2000, .inl kd))]) (fun _ => (0, 0)) := by
  refine cM.ofW (cc := b_Md_countOf) (maxL := 4) (ret := (some .int)) (by decide) (Nat.le_of_ble_eq_true rfl) ?_
  intro pg ev s m bw meth cdx A ls hF hsz hA hE hP hD hl
  obtain ⟨⟨hx, hb, hml, hown, hts⟩, hr, hno, hlocks, hin⟩ := hF
  subst hsz
  have hown : s.vm.findClass "ModuleBytesModel" = some m.cls := hown
  have hS : va_S A s.heap s.heap [] := va_S.rf
  have hl : lv_has ls 4 [(0, .ref m0), (1, .int x)] := hl
  have hP : va_P D cls [(m0, .inr (6, mF g (K.1, K.2.1, K.2.2.1, nI t, K.2.2.2.2.1, K.2.2.2.2.2.1, K.2.2.2.2.2.2.1, K.2.2.2.2.2.2.2.1, K.2.2.2.2.2.2.2.2) A0 e np B)), ((g 34), .inl (cA 3, 2000, .inl kd))] s.heap := hP
  have hD : va_D A [(m0, .inr (6, mF g (K.1, K.2.1, K.2.2.1, nI t, K.2.2.2.2.1, K.2.2.2.2.2.1, K.2.2.2.2.2.2.1, K.2.2.2.2.2.2.2.1, K.2.2.2.2.2.2.2.2) A0 e np B)), ((g 34), .inl (cA 3, 2000, .inl kd))] := hD
  refine lv_iconst (v := 0) hx hb d_Md_countOf_0 (by decide) ?_
  refine lv_istore_n (lv' := [(2, .int 0), (0, .ref m0), (1, .int x)]) hx hb d_Md_countOf_1 rfl hl (by decide) rfl (fun ls hl => ?_)
  refine lv_iconst (v := 0) hx hb d_Md_countOf_2 (by decide) ?_
  refine lv_istore_n (lv' := [(3, .int 0), (2, .int 0), (0, .ref m0), (1, .int x)]) hx hb d_Md_countOf_3 rfl hl (by decide) rfl (fun ls hl => ?_)
  have key : ∀ (k i : Nat) (H : Heap) (locs : List Loc) (ls : Array Slot), i + k = t → va_P D cls [(m0, .inr (6, mF g (K.1, K.2.1, K.2.2.1, nI t, K.2.2.2.2.1, K.2.2.2.2.2.1, K.2.2.2.2.2.2.1, K.2.2.2.2.2.2.2.1, K.2.2.2.2.2.2.2.2) A0 e np B)), ((g 34), .inl (cA 3, 2000, .inl kd))] H → va_D A [(m0, .inr (6, mF g (K.1, K.2.1, K.2.2.1, nI t, K.2.2.2.2.1, K.2.2.2.2.2.1, K.2.2.2.2.2.2.1, K.2.2.2.2.2.2.2.1, K.2.2.2.2.2.2.2.2) A0 e np B)), ((g 34), .inl (cA 3, 2000, .inl kd))] → va_S A s.heap H locs → lv_has ls 4 [(0, .ref m0), (1, .int x), (2, .int (nI (cK kd x i))), (3, .int (nI i))] → W pg l ev ({ frames := 0, cells := 0, slots := 0, locals := 0 }) s m ([.ref m0, .int x] : List Value).toArray bw meth cdx H locs 0 0 (tx_Q bw (cQ D (fun v (_ : Unit) => v = some (.int (nI (cK kd x t)))) (fun _ => False) (fun _ => [(m0, .inr (6, mF g (K.1, K.2.1, K.2.2.1, nI t, K.2.2.2.2.1, K.2.2.2.2.2.1, K.2.2.2.2.2.2.1, K.2.2.2.2.2.2.2.1, K.2.2.2.2.2.2.2.2) A0 e np B)), ((g 34), .inl (cA 3, 2000, .inl kd))]) (fun _ => (0, 0)) A) ([.ref m0, .int x] : List Value).toArray s A) (F0 m 4 ls []) := by
    intro k
    induction k with
    | zero =>
      intro i H locs ls hik hP hD hS hl
      refine lv_iload_n hx hb d_Md_countOf_4 rfl (lv_at hl 3 rfl) ?_
      refine lv_aload_n hx hb d_Md_countOf_5 rfl (lv_at hl 0 rfl) ?_
      refine va_get (D := D) (ci := 6) (v := .int (nI t)) (C := R_Md) (T := F_Md) (N := 44) hx hb hts (fun w h => List.mem_cons_of_mem _ (i_Md w h)) hown hE.1 hP 0 rfl rfl 31 (by decide) (hts _ (List.mem_cons_of_mem _ iw3_85)) (fun _ h9 => h9) rfl d_Md_countOf_6 ?_
      refine lv_icmp_ge (tgt := 36) hx hb d_Md_countOf_9 (by decide) (fun c_9 => ?_) (fun c_9 => absurd (nI_le (by omega) (by omega)) c_9)
      refine lv_iload_n hx hb d_Md_countOf_36 rfl (lv_at hl 2 rfl) ?_
      exact cRi () hx hb hr hlocks d_Md_countOf_37 hS hP hD (by rw [show i = t by omega]) (Nat.le_refl _) (Nat.le_refl _)
    | succ k ih =>
      intro i H locs ls hik hP hD hS hl
      refine lv_iload_n hx hb d_Md_countOf_4 rfl (lv_at hl 3 rfl) ?_
      refine lv_aload_n hx hb d_Md_countOf_5 rfl (lv_at hl 0 rfl) ?_
      refine va_get (D := D) (ci := 6) (v := .int (nI t)) (C := R_Md) (T := F_Md) (N := 44) hx hb hts (fun w h => List.mem_cons_of_mem _ (i_Md w h)) hown hE.1 hP 0 rfl rfl 31 (by decide) (hts _ (List.mem_cons_of_mem _ iw3_85)) (fun _ h9 => h9) rfl d_Md_countOf_6 ?_
      refine lv_icmp_ge (tgt := 36) hx hb d_Md_countOf_9 (by decide) (fun c_9 => absurd c_9 (nI_ge (by omega) (by omega))) (fun c_9 => ?_)
      refine lv_iload_n hx hb d_Md_countOf_12 rfl (lv_at hl 2 rfl) ?_
      refine lv_aload_n hx hb d_Md_countOf_13 rfl (lv_at hl 0 rfl) ?_
      refine va_get (D := D) (ci := 6) (v := .ref (g 34)) (C := R_Md) (T := F_Md) (N := 44) hx hb hts (fun w h => List.mem_cons_of_mem _ (i_Md w h)) hown hE.1 hP 0 rfl rfl 34 (by decide) (hts _ (List.mem_cons_of_mem _ iw3_88)) (fun _ h9 => h9) rfl d_Md_countOf_14 ?_
      refine lv_iload_n hx hb d_Md_countOf_17 rfl (lv_at hl 3 rfl) ?_
      refine va_iald hx hb hE.1 hP 1 3 rfl rfl (vp_in_nI (by omega) (by omega)) d_Md_countOf_18 ?_
      rw [nI_clamp (n := i) (by omega)]
      refine lv_iload_n hx hb d_Md_countOf_19 rfl (lv_at hl 1 rfl) ?_
      refine lv_icmp_ne (tgt := 27) hx hb d_Md_countOf_20 (by decide) (fun c_20 => ?_) (fun c_20 => ?_)
      · refine lv_iconst (v := 0) hx hb d_Md_countOf_27 (by decide) ?_
        refine lv_iadd hx hb d_Md_countOf_28 ?_
        refine lv_istore_n (lv' := [(2, .int ((nI (cK kd x i)) + 0)), (0, .ref m0), (1, .int x), (3, .int (nI i))]) hx hb d_Md_countOf_29 rfl hl (by decide) rfl (fun ls hl => ?_)
        obtain ⟨x3_1, ex3_1⟩ : ∃ y : Int32, y = (nI i) + 1 := ⟨_, rfl⟩
        refine lv_iinc (v := x3_1) (lv' := [(3, .int x3_1), (2, .int ((nI (cK kd x i)) + 0)), (0, .ref m0), (1, .int x)]) hx hb d_Md_countOf_30 hl (k := 3) rfl (by rw [ex3_1]; rfl) (by decide) rfl (fun ls hl => ?_)
        refine lv_goto (tgt := 4) hx hb d_Md_countOf_33 (by decide) ?_
        have e9 : x3_1 = nI (i + 1) := by rw [ex3_1]; exact nI_1 i
        subst e9
        have e8 : (nI (cK kd x i)) + 0 = nI (cK kd x (i + 1)) := by show _ = nI (cK kd x i + (if kd i = x then 1 else 0)); rw [if_neg c_20, Int32.add_zero, Nat.add_zero]
        rw [e8] at hl
        exact ih (i + 1) H locs ls (by omega) hP hD hS (lv_sub hl [2, 3, 1, 0] rfl)
      · refine lv_iconst (v := 1) hx hb d_Md_countOf_23 (by decide) ?_
        refine lv_goto (tgt := 28) hx hb d_Md_countOf_24 (by decide) ?_
        refine lv_iadd hx hb d_Md_countOf_28 ?_
        refine lv_istore_n (lv' := [(2, .int ((nI (cK kd x i)) + 1)), (0, .ref m0), (1, .int x), (3, .int (nI i))]) hx hb d_Md_countOf_29 rfl hl (by decide) rfl (fun ls hl => ?_)
        obtain ⟨x3_2, ex3_2⟩ : ∃ y : Int32, y = (nI i) + 1 := ⟨_, rfl⟩
        refine lv_iinc (v := x3_2) (lv' := [(3, .int x3_2), (2, .int ((nI (cK kd x i)) + 1)), (0, .ref m0), (1, .int x)]) hx hb d_Md_countOf_30 hl (k := 3) rfl (by rw [ex3_2]; rfl) (by decide) rfl (fun ls hl => ?_)
        refine lv_goto (tgt := 4) hx hb d_Md_countOf_33 (by decide) ?_
        have e9 : x3_2 = nI (i + 1) := by rw [ex3_2]; exact nI_1 i
        subst e9
        have e8 : (nI (cK kd x i)) + 1 = nI (cK kd x (i + 1)) := by show _ = nI (cK kd x i + (if kd i = x then 1 else 0)); rw [if_pos c_20, nI_1]
        rw [e8] at hl
        exact ih (i + 1) H locs ls (by omega) hP hD hS (lv_sub hl [2, 3, 1, 0] rfl)
  exact key t 0 s.heap _ ls (by omega) hP hD hS (lv_sub hl [2, 3, 1, 0] rfl)
theorem ofK_get {kd fr to re : Nat → Int32} {k t : Nat} (hk : k < 11) : ∀ {T : TL}, TH kd fr to re T → (∀ x ∈ T, x.1 < 11) → t < T.length → kd t = nI k → (ofK k T)[cK kd (nI k) t]? = some t
  | [], _, _, h, _ => absurd h (Nat.not_lt_zero _)
  | x :: r, h, h11, ht, hkd => by
    have h11r : ∀ y ∈ r, y.1 < 11 := fun y hy => h11 y (List.mem_cons_of_mem _ hy)
    have hx := h11 x (List.mem_cons_self ..)
    simp only [ofK]
    by_cases c : t = r.length
    · subst c
      have e : x.1 = k := (nI_eq (by omega) (by omega)).mp (h.1.1.symm.trans hkd)
      rw [if_pos e, cK_of hk h.2 h11r, List.getElem?_append_right (Nat.le_refl _)]
      simp
    · have ih := ofK_get hk h.2 h11r (by simp at ht; omega) hkd
      by_cases e : x.1 = k
      · rw [if_pos e, List.getElem?_append_left]
        · exact ih
        · exact (List.getElem?_eq_some_iff.mp ih).1
      · rw [if_neg e]; exact ih
theorem XH_at {ow fi be : Nat → Int32} {e : Nat} : ∀ {X : XL}, XH ow fi be X → e < X.length → ∃ x, X.drop (X.length - (e + 1)) = x :: X.drop (X.length - e) ∧ ow e = nI x.1 ∧ fi e = nI x.2.1 ∧ (∀ z, x.2.2 = some z → be e = nI z) ∧ x ∈ X
  | [], _, h => absurd h (Nat.not_lt_zero _)
  | y :: r, h, he => by
    by_cases c : e = r.length
    · subst c
      refine ⟨y, ?_, h.1.1, h.1.2.1, h.1.2.2, List.mem_cons_self ..⟩
      simp
    · have he : e < r.length := by simp at he; omega
      obtain ⟨x, e1, e2, e3, e4, e5⟩ := XH_at h.2 he
      refine ⟨x, ?_, e2, e3, e4, List.mem_cons_of_mem _ e5⟩
      rw [show (y :: r).length - (e + 1) = (r.length - (e + 1)) + 1 by simp; omega, show (y :: r).length - e = (r.length - e) + 1 by simp; omega, List.drop_succ_cons, List.drop_succ_cons]
      exact e1
set_option maxHeartbeats 4000000 in
set_option maxRecDepth 100000 in
/-- thingOf(k, i) -/
theorem c_Md_thingOf (l : Launch) (hl9 : l.stackTraces = false) (D : va_G) (cA : Nat → ClassId) (ad : Nat → Nat) (sz : Nat) (m0 : Nat) (g : Nat → Nat) (K : MK) (A0 : A3) (e np : Int32) (B : MB) (kd fr to re : Nat → Int32) (T : TL) (hTH : TH kd fr to re T) (h11 : ∀ x ∈ T, x.1 < 11) (hT : T.length ≤ 2000) (k : Nat) (hk : k < 11) (i : Int32) :
    cM l y_Md_thingOf (.code y_Md_thingOf b_Md_thingOf 5 (some .int) :: wAll) ({ frames := 0, cells := 0, slots := 0, locals := 0 }) D cA ad [.ref m0, .int (nI k), .int i] [(m0, .inr (6, mF g (K.1, K.2.1, K.2.2.1, nI T.length, K.2.2.2.2.1, K.2.2.2.2.2.1, K.2.2.2.2.2.2.1, K.2.2.2.2.2.2.2.1, K.2.2.2.2.2.2.2.2) A0 e np B)), ((g 34), .inl (cA 3, 2000, .inl kd))] sz (fun v (_ : Unit) => (v = some (.int (-1)) ∧ (i < 0 ∨ ∃ j : Nat, j < 2 ^ 31 ∧ i = nI j ∧ (ofK k T).length ≤ j)) ∨ ∃ j t : Nat, j < 2 ^ 31 ∧ i = nI j ∧ (ofK k T)[j]? = some t ∧ t < T.length ∧ v = some (.int (nI t))) (fun _ => False) (fun _ => [(m0, .inr (6, mF g (K.1, K.2.1, K.2.2.1, nI T.length, K.2.2.2.2.1, K.2.2.2.2.2.1, K.2.2.2.2.2.2.1, K.2.2.2.2.2.2.2.1, K.2.2.2.2.2.2.2.2) A0 e np B)), ((g 34), .inl (cA 3, 2000, .inl kd))]) (fun _ => (0, 0)) := by
  refine cM.ofW (cc := b_Md_thingOf) (maxL := 5) (ret := (some .int)) (by decide) (Nat.le_of_ble_eq_true rfl) ?_
  intro pg ev s m bw meth cdx A ls hF hsz hA hE hP hD hl
  obtain ⟨⟨hx, hb, hml, hown, hts⟩, hr, hno, hlocks, hin⟩ := hF
  subst hsz
  have hown : s.vm.findClass "ModuleBytesModel" = some m.cls := hown
  have hS : va_S A s.heap s.heap [] := va_S.rf
  have hl : lv_has ls 5 [(0, .ref m0), (1, .int (nI k)), (2, .int i)] := hl
  have hP : va_P D cls [(m0, .inr (6, mF g (K.1, K.2.1, K.2.2.1, nI T.length, K.2.2.2.2.1, K.2.2.2.2.2.1, K.2.2.2.2.2.2.1, K.2.2.2.2.2.2.2.1, K.2.2.2.2.2.2.2.2) A0 e np B)), ((g 34), .inl (cA 3, 2000, .inl kd))] s.heap := hP
  have hD : va_D A [(m0, .inr (6, mF g (K.1, K.2.1, K.2.2.1, nI T.length, K.2.2.2.2.1, K.2.2.2.2.2.1, K.2.2.2.2.2.2.1, K.2.2.2.2.2.2.2.1, K.2.2.2.2.2.2.2.2) A0 e np B)), ((g 34), .inl (cA 3, 2000, .inl kd))] := hD
  by_cases hi : i < 0
  · refine lv_iload_n hx hb d_Md_thingOf_0 rfl (lv_at hl 2 rfl) ?_
    refine lv_istore_n (lv' := [(3, .int i), (0, .ref m0), (1, .int (nI k)), (2, .int i)]) hx hb d_Md_thingOf_1 rfl hl (by decide) rfl (fun ls hl => ?_)
    refine lv_iconst (v := 0) hx hb d_Md_thingOf_2 (by decide) ?_
    refine lv_istore (lv' := [(4, .int 0), (3, .int i), (0, .ref m0), (1, .int (nI k)), (2, .int i)]) hx hb d_Md_thingOf_3 hl (by decide) rfl (fun ls hl => ?_)
    refine lv_iload hx hb d_Md_thingOf_5 (lv_at hl 0 rfl) ?_
    refine lv_aload_n hx hb d_Md_thingOf_7 rfl (lv_at hl 2 rfl) ?_
    refine va_get (D := D) (ci := 6) (v := .int (nI T.length)) (C := R_Md) (T := F_Md) (N := 44) hx hb hts (fun w h => List.mem_cons_of_mem _ (i_Md w h)) hown hE.1 hP 0 rfl rfl 31 (by decide) (hts _ (List.mem_cons_of_mem _ iw3_85)) (fun _ h9 => h9) rfl d_Md_thingOf_8 ?_
    refine lv_icmp_ge (tgt := 58) hx hb d_Md_thingOf_11 (by decide) (fun c_11 => ?_) (fun c_11 => ?_)
    · refine lv_iload hx hb d_Md_thingOf_58 (lv_at hl 0 rfl) ?_
      refine lv_aload_n hx hb d_Md_thingOf_60 rfl (lv_at hl 2 rfl) ?_
      refine va_get (D := D) (ci := 6) (v := .int (nI T.length)) (C := R_Md) (T := F_Md) (N := 44) hx hb hts (fun w h => List.mem_cons_of_mem _ (i_Md w h)) hown hE.1 hP 0 rfl rfl 31 (by decide) (hts _ (List.mem_cons_of_mem _ iw3_85)) (fun _ h9 => h9) rfl d_Md_thingOf_61 ?_
      refine lv_icmp_ge (tgt := 76) hx hb d_Md_thingOf_64 (by decide) (fun c_64 => ?_) (fun c_64 => ?_)
      · refine lv_iconst (v := (-1)) hx hb d_Md_thingOf_76 (by decide) ?_
        exact cRi () hx hb hr hlocks d_Md_thingOf_77 hS hP hD (Or.inl ⟨rfl, Or.inl hi⟩) (Nat.le_refl _) (Nat.le_refl _)
      · refine lv_iload_n hx hb d_Md_thingOf_67 rfl (lv_at hl 4 rfl) ?_
        refine lv_if_lt (tgt := 76) hx hb d_Md_thingOf_68 (by decide) (fun c_68 => ?_) (fun c_68 => absurd (hi) c_68)
        refine lv_iconst (v := (-1)) hx hb d_Md_thingOf_76 (by decide) ?_
        exact cRi () hx hb hr hlocks d_Md_thingOf_77 hS hP hD (Or.inl ⟨rfl, Or.inl hi⟩) (Nat.le_refl _) (Nat.le_refl _)
    · refine lv_iload_n hx hb d_Md_thingOf_14 rfl (lv_at hl 4 rfl) ?_
      refine lv_if_lt (tgt := 58) hx hb d_Md_thingOf_15 (by decide) (fun c_15 => ?_) (fun c_15 => absurd (hi) c_15)
      refine lv_iload hx hb d_Md_thingOf_58 (lv_at hl 0 rfl) ?_
      refine lv_aload_n hx hb d_Md_thingOf_60 rfl (lv_at hl 2 rfl) ?_
      refine va_get (D := D) (ci := 6) (v := .int (nI T.length)) (C := R_Md) (T := F_Md) (N := 44) hx hb hts (fun w h => List.mem_cons_of_mem _ (i_Md w h)) hown hE.1 hP 0 rfl rfl 31 (by decide) (hts _ (List.mem_cons_of_mem _ iw3_85)) (fun _ h9 => h9) rfl d_Md_thingOf_61 ?_
      refine lv_icmp_ge (tgt := 76) hx hb d_Md_thingOf_64 (by decide) (fun c_64 => ?_) (fun c_64 => ?_)
      · refine lv_iconst (v := (-1)) hx hb d_Md_thingOf_76 (by decide) ?_
        exact cRi () hx hb hr hlocks d_Md_thingOf_77 hS hP hD (Or.inl ⟨rfl, Or.inl hi⟩) (Nat.le_refl _) (Nat.le_refl _)
      · refine lv_iload_n hx hb d_Md_thingOf_67 rfl (lv_at hl 4 rfl) ?_
        refine lv_if_lt (tgt := 76) hx hb d_Md_thingOf_68 (by decide) (fun c_68 => ?_) (fun c_68 => absurd (hi) c_68)
        refine lv_iconst (v := (-1)) hx hb d_Md_thingOf_76 (by decide) ?_
        exact cRi () hx hb hr hlocks d_Md_thingOf_77 hS hP hD (Or.inl ⟨rfl, Or.inl hi⟩) (Nat.le_refl _) (Nat.le_refl _)
  obtain ⟨j, hj, rfl⟩ := i32_nn hi
  have key : ∀ (d t : Nat) (H : Heap) (locs : List Loc) (ls : Array Slot), t + d = T.length → cK kd (nI k) t ≤ j → va_P D cls [(m0, .inr (6, mF g (K.1, K.2.1, K.2.2.1, nI T.length, K.2.2.2.2.1, K.2.2.2.2.2.1, K.2.2.2.2.2.2.1, K.2.2.2.2.2.2.2.1, K.2.2.2.2.2.2.2.2) A0 e np B)), ((g 34), .inl (cA 3, 2000, .inl kd))] H → va_D A [(m0, .inr (6, mF g (K.1, K.2.1, K.2.2.1, nI T.length, K.2.2.2.2.1, K.2.2.2.2.2.1, K.2.2.2.2.2.2.1, K.2.2.2.2.2.2.2.1, K.2.2.2.2.2.2.2.2) A0 e np B)), ((g 34), .inl (cA 3, 2000, .inl kd))] → va_S A s.heap H locs → lv_has ls 5 [(0, .ref m0), (1, .int (nI k)), (2, .int (nI j)), (3, .int (nI (j - cK kd (nI k) t))), (4, .int (nI t))] → W pg l ev ({ frames := 0, cells := 0, slots := 0, locals := 0 }) s m ([.ref m0, .int (nI k), .int (nI j)] : List Value).toArray bw meth cdx H locs 0 0 (tx_Q bw (cQ D (fun v (_ : Unit) => (v = some (.int (-1)) ∧ ((nI j) < 0 ∨ ∃ jq : Nat, jq < 2 ^ 31 ∧ (nI j) = nI jq ∧ (ofK k T).length ≤ jq)) ∨ ∃ jq t : Nat, jq < 2 ^ 31 ∧ (nI j) = nI jq ∧ (ofK k T)[jq]? = some t ∧ t < T.length ∧ v = some (.int (nI t))) (fun _ => False) (fun _ => [(m0, .inr (6, mF g (K.1, K.2.1, K.2.2.1, nI T.length, K.2.2.2.2.1, K.2.2.2.2.2.1, K.2.2.2.2.2.2.1, K.2.2.2.2.2.2.2.1, K.2.2.2.2.2.2.2.2) A0 e np B)), ((g 34), .inl (cA 3, 2000, .inl kd))]) (fun _ => (0, 0)) A) ([.ref m0, .int (nI k), .int (nI j)] : List Value).toArray s A) (F0 m 5 ls []) := by
    intro d
    induction d with
    | zero =>
      intro t H locs ls htd hck hP hD hS hl
      refine lv_iload hx hb d_Md_thingOf_5 (lv_at hl 4 rfl) ?_
      refine lv_aload_n hx hb d_Md_thingOf_7 rfl (lv_at hl 0 rfl) ?_
      refine va_get (D := D) (ci := 6) (v := .int (nI T.length)) (C := R_Md) (T := F_Md) (N := 44) hx hb hts (fun w h => List.mem_cons_of_mem _ (i_Md w h)) hown hE.1 hP 0 rfl rfl 31 (by decide) (hts _ (List.mem_cons_of_mem _ iw3_85)) (fun _ h9 => h9) rfl d_Md_thingOf_8 ?_
      refine lv_icmp_ge (tgt := 58) hx hb d_Md_thingOf_11 (by decide) (fun c_11 => ?_) (fun c_11 => absurd (nI_le (by omega) (by omega)) c_11)
      refine lv_iload hx hb d_Md_thingOf_58 (lv_at hl 4 rfl) ?_
      refine lv_aload_n hx hb d_Md_thingOf_60 rfl (lv_at hl 0 rfl) ?_
      refine va_get (D := D) (ci := 6) (v := .int (nI T.length)) (C := R_Md) (T := F_Md) (N := 44) hx hb hts (fun w h => List.mem_cons_of_mem _ (i_Md w h)) hown hE.1 hP 0 rfl rfl 31 (by decide) (hts _ (List.mem_cons_of_mem _ iw3_85)) (fun _ h9 => h9) rfl d_Md_thingOf_61 ?_
      refine lv_icmp_ge (tgt := 76) hx hb d_Md_thingOf_64 (by decide) (fun c_64 => ?_) (fun c_64 => absurd (nI_le (by omega) (by omega)) c_64)
      refine lv_iconst (v := (-1)) hx hb d_Md_thingOf_76 (by decide) ?_
      exact cRi () hx hb hr hlocks d_Md_thingOf_77 hS hP hD (Or.inl ⟨rfl, Or.inr ⟨j, hj, rfl, by rw [← cK_of hk hTH h11, ← show t = T.length by omega]; exact hck⟩⟩) (Nat.le_refl _) (Nat.le_refl _)
    | succ d ih =>
      intro t H locs ls htd hck hP hD hS hl
      refine lv_iload hx hb d_Md_thingOf_5 (lv_at hl 4 rfl) ?_
      refine lv_aload_n hx hb d_Md_thingOf_7 rfl (lv_at hl 0 rfl) ?_
      refine va_get (D := D) (ci := 6) (v := .int (nI T.length)) (C := R_Md) (T := F_Md) (N := 44) hx hb hts (fun w h => List.mem_cons_of_mem _ (i_Md w h)) hown hE.1 hP 0 rfl rfl 31 (by decide) (hts _ (List.mem_cons_of_mem _ iw3_85)) (fun _ h9 => h9) rfl d_Md_thingOf_8 ?_
      refine lv_icmp_ge (tgt := 58) hx hb d_Md_thingOf_11 (by decide) (fun c_11 => absurd c_11 (nI_ge (by omega) (by omega))) (fun c_11 => ?_)
      refine lv_iload_n hx hb d_Md_thingOf_14 rfl (lv_at hl 2 rfl) ?_
      refine lv_if_lt (tgt := 58) hx hb d_Md_thingOf_15 (by decide) (fun c_15 => absurd c_15 (nI_pos hj)) (fun c_15 => ?_)
      refine lv_aload_n hx hb d_Md_thingOf_18 rfl (lv_at hl 0 rfl) ?_
      refine va_get (D := D) (ci := 6) (v := .ref (g 34)) (C := R_Md) (T := F_Md) (N := 44) hx hb hts (fun w h => List.mem_cons_of_mem _ (i_Md w h)) hown hE.1 hP 0 rfl rfl 34 (by decide) (hts _ (List.mem_cons_of_mem _ iw3_88)) (fun _ h9 => h9) rfl d_Md_thingOf_19 ?_
      refine lv_iload hx hb d_Md_thingOf_22 (lv_at hl 4 rfl) ?_
      refine va_iald hx hb hE.1 hP 1 3 rfl rfl (vp_in_nI (by omega) (by omega)) d_Md_thingOf_24 ?_
      rw [nI_clamp (n := t) (by omega)]
      refine lv_iload_n hx hb d_Md_thingOf_25 rfl (lv_at hl 1 rfl) ?_
      refine lv_icmp_ne (tgt := 33) hx hb d_Md_thingOf_26 (by decide) (fun c_26 => ?_) (fun c_26 => ?_)
      · refine lv_iload_n hx hb d_Md_thingOf_33 rfl (lv_at hl 3 rfl) ?_
        refine lv_aload_n hx hb d_Md_thingOf_34 rfl (lv_at hl 0 rfl) ?_
        refine va_get (D := D) (ci := 6) (v := .ref (g 34)) (C := R_Md) (T := F_Md) (N := 44) hx hb hts (fun w h => List.mem_cons_of_mem _ (i_Md w h)) hown hE.1 hP 0 rfl rfl 34 (by decide) (hts _ (List.mem_cons_of_mem _ iw3_88)) (fun _ h9 => h9) rfl d_Md_thingOf_35 ?_
        refine lv_iload hx hb d_Md_thingOf_38 (lv_at hl 4 rfl) ?_
        refine va_iald hx hb hE.1 hP 1 3 rfl rfl (vp_in_nI (by omega) (by omega)) d_Md_thingOf_40 ?_
        rw [nI_clamp (n := t) (by omega)]
        refine lv_iload_n hx hb d_Md_thingOf_41 rfl (lv_at hl 1 rfl) ?_
        refine lv_icmp_ne (tgt := 49) hx hb d_Md_thingOf_42 (by decide) (fun c_42 => ?_) (fun c_42 => absurd c_42 (c_26))
        refine lv_iconst (v := 0) hx hb d_Md_thingOf_49 (by decide) ?_
        refine lv_isub hx hb d_Md_thingOf_50 ?_
        have hc1 : cK kd (nI k) (t + 1) = cK kd (nI k) t := by show cK kd (nI k) t + (if kd t = nI k then 1 else 0) = _; rw [if_neg c_26]; rfl
        rw [show nI (j - cK kd (nI k) t) - 0 = nI (j - cK kd (nI k) (t + 1)) from by rw [hc1, Int32.sub_zero]]
        refine lv_istore_n (lv' := [(3, .int (nI (j - cK kd (nI k) (t + 1)))), (0, .ref m0), (1, .int (nI k)), (2, .int (nI j)), (4, .int (nI t))]) hx hb d_Md_thingOf_51 rfl hl (by decide) rfl (fun ls hl => ?_)
        obtain ⟨x4_1, ex4_1⟩ : ∃ y : Int32, y = (nI t) + 1 := ⟨_, rfl⟩
        refine lv_iinc (v := x4_1) (lv' := [(4, .int x4_1), (3, .int (nI (j - cK kd (nI k) (t + 1)))), (0, .ref m0), (1, .int (nI k)), (2, .int (nI j))]) hx hb d_Md_thingOf_52 hl (k := 4) rfl (by rw [ex4_1]; rfl) (by decide) rfl (fun ls hl => ?_)
        refine lv_goto (tgt := 5) hx hb d_Md_thingOf_55 (by decide) ?_
        have e9 : x4_1 = nI (t + 1) := by rw [ex4_1]; exact nI_1 t
        subst e9
        exact ih (t + 1) H locs ls (by omega) (by omega) hP hD hS (lv_sub hl [2, 3, 4, 1, 0] rfl)
      · refine lv_iload_n hx hb d_Md_thingOf_29 rfl (lv_at hl 3 rfl) ?_
        refine lv_if_le (tgt := 58) hx hb d_Md_thingOf_30 (by decide) (fun c_30 => ?_) (fun c_30 => ?_)
        · refine lv_iload hx hb d_Md_thingOf_58 (lv_at hl 4 rfl) ?_
          refine lv_aload_n hx hb d_Md_thingOf_60 rfl (lv_at hl 0 rfl) ?_
          refine va_get (D := D) (ci := 6) (v := .int (nI T.length)) (C := R_Md) (T := F_Md) (N := 44) hx hb hts (fun w h => List.mem_cons_of_mem _ (i_Md w h)) hown hE.1 hP 0 rfl rfl 31 (by decide) (hts _ (List.mem_cons_of_mem _ iw3_85)) (fun _ h9 => h9) rfl d_Md_thingOf_61 ?_
          refine lv_icmp_ge (tgt := 76) hx hb d_Md_thingOf_64 (by decide) (fun c_64 => absurd c_64 (nI_ge (by omega) (by omega))) (fun c_64 => ?_)
          refine lv_iload_n hx hb d_Md_thingOf_67 rfl (lv_at hl 2 rfl) ?_
          refine lv_if_lt (tgt := 76) hx hb d_Md_thingOf_68 (by decide) (fun c_68 => absurd c_68 (nI_pos hj)) (fun c_68 => ?_)
          refine lv_iload hx hb d_Md_thingOf_71 (lv_at hl 4 rfl) ?_
          refine lv_goto (tgt := 77) hx hb d_Md_thingOf_73 (by decide) ?_
          have hjc : cK kd (nI k) t = j := by have := (nI_leI (a := j - cK kd (nI k) t) (b := 0) (by omega) (by decide)).mp c_30; omega
          exact cRi () hx hb hr hlocks d_Md_thingOf_77 hS hP hD (Or.inr ⟨j, t, hj, rfl, by rw [← hjc]; exact ofK_get hk hTH h11 (by omega) c_26, by omega, rfl⟩) (Nat.le_refl _) (Nat.le_refl _)
        · refine lv_iload_n hx hb d_Md_thingOf_33 rfl (lv_at hl 3 rfl) ?_
          refine lv_aload_n hx hb d_Md_thingOf_34 rfl (lv_at hl 0 rfl) ?_
          refine va_get (D := D) (ci := 6) (v := .ref (g 34)) (C := R_Md) (T := F_Md) (N := 44) hx hb hts (fun w h => List.mem_cons_of_mem _ (i_Md w h)) hown hE.1 hP 0 rfl rfl 34 (by decide) (hts _ (List.mem_cons_of_mem _ iw3_88)) (fun _ h9 => h9) rfl d_Md_thingOf_35 ?_
          refine lv_iload hx hb d_Md_thingOf_38 (lv_at hl 4 rfl) ?_
          refine va_iald hx hb hE.1 hP 1 3 rfl rfl (vp_in_nI (by omega) (by omega)) d_Md_thingOf_40 ?_
          rw [nI_clamp (n := t) (by omega)]
          refine lv_iload_n hx hb d_Md_thingOf_41 rfl (lv_at hl 1 rfl) ?_
          refine lv_icmp_ne (tgt := 49) hx hb d_Md_thingOf_42 (by decide) (fun c_42 => absurd (c_26) c_42) (fun c_42 => ?_)
          refine lv_iconst (v := 1) hx hb d_Md_thingOf_45 (by decide) ?_
          refine lv_goto (tgt := 50) hx hb d_Md_thingOf_46 (by decide) ?_
          refine lv_isub hx hb d_Md_thingOf_50 ?_
          have hlt : cK kd (nI k) t < j := by have := Nat.lt_of_not_le (fun q : j - cK kd (nI k) t ≤ 0 => c_30 (nI_le (a := j - cK kd (nI k) t) (b := 0) q (by decide))); omega
          have hc1 : cK kd (nI k) (t + 1) = cK kd (nI k) t + 1 := by show cK kd (nI k) t + (if kd t = nI k then 1 else 0) = _; rw [if_pos c_26]
          rw [show nI (j - cK kd (nI k) t) - 1 = nI (j - cK kd (nI k) (t + 1)) from by rw [hc1, show (1 : Int32) = nI 1 from rfl, pk_sub (by omega)]; congr 1]
          refine lv_istore_n (lv' := [(3, .int (nI (j - cK kd (nI k) (t + 1)))), (0, .ref m0), (1, .int (nI k)), (2, .int (nI j)), (4, .int (nI t))]) hx hb d_Md_thingOf_51 rfl hl (by decide) rfl (fun ls hl => ?_)
          obtain ⟨x4_2, ex4_2⟩ : ∃ y : Int32, y = (nI t) + 1 := ⟨_, rfl⟩
          refine lv_iinc (v := x4_2) (lv' := [(4, .int x4_2), (3, .int (nI (j - cK kd (nI k) (t + 1)))), (0, .ref m0), (1, .int (nI k)), (2, .int (nI j))]) hx hb d_Md_thingOf_52 hl (k := 4) rfl (by rw [ex4_2]; rfl) (by decide) rfl (fun ls hl => ?_)
          refine lv_goto (tgt := 5) hx hb d_Md_thingOf_55 (by decide) ?_
          have e9 : x4_2 = nI (t + 1) := by rw [ex4_2]; exact nI_1 t
          subst e9
          exact ih (t + 1) H locs ls (by omega) (by omega) hP hD hS (lv_sub hl [2, 3, 4, 1, 0] rfl)
  have hl : lv_has ls 5 [(0, .ref m0), (1, .int (nI k)), (2, .int (nI j))] := hl
  refine lv_iload_n hx hb d_Md_thingOf_0 rfl (lv_at hl 2 rfl) ?_
  refine lv_istore_n (lv' := [(3, .int (nI j)), (0, .ref m0), (1, .int (nI k)), (2, .int (nI j))]) hx hb d_Md_thingOf_1 rfl hl (by decide) rfl (fun ls hl => ?_)
  refine lv_iconst (v := 0) hx hb d_Md_thingOf_2 (by decide) ?_
  refine lv_istore (lv' := [(4, .int 0), (3, .int (nI j)), (0, .ref m0), (1, .int (nI k)), (2, .int (nI j))]) hx hb d_Md_thingOf_3 hl (by decide) rfl (fun ls hl => ?_)
  exact key T.length 0 s.heap _ ls (by omega) (Nat.zero_le _) hP hD hS (lv_sub hl [2, 3, 4, 1, 0] rfl)
set_option maxHeartbeats 4000000 in
set_option maxRecDepth 100000 in
/-- expressionOf(t, i) -/
theorem c_Md_expressionOf (l : Launch) (hl9 : l.stackTraces = false) (D : va_G) (cA : Nat → ClassId) (ad : Nat → Nat) (sz : Nat) (m0 : Nat) (g : Nat → Nat) (K : MK) (A0 : A3) (e np : Int32) (B : MB) (ow fi be : Nat → Int32) (X : XL) (hXH : XH ow fi be X) (hXf : ∀ x ∈ X, x.1 < 2000 ∧ x.2.1 ≤ 2000 ∧ ∃ z : Nat, x.2.2 = some z ∧ z ≤ 2000) (hX : X.length ≤ 2000) (t : Nat) (ht : t < 2000) (j : Nat) (hj : j < 2 ^ 31) :
    cM l y_Md_expressionOf (.code y_Md_expressionOf b_Md_expressionOf 6 (some .int) :: wAll) ({ frames := 0, cells := 0, slots := 0, locals := 0 }) D cA ad [.ref m0, .int (nI t), .int (nI j)] [(m0, .inr (6, mF g (K.1, K.2.1, K.2.2.1, K.2.2.2.1, nI X.length, K.2.2.2.2.2.1, K.2.2.2.2.2.2.1, K.2.2.2.2.2.2.2.1, K.2.2.2.2.2.2.2.2) A0 e np B)), ((g 38), .inl (cA 3, 2000, .inl ow))] sz (fun v (_ : Unit) => (v = some (.int (-1)) ∧ (exO t X).length ≤ j) ∨ ∃ e0 f z : Nat, e0 < X.length ∧ v = some (.int (nI e0)) ∧ (exO t X)[j]? = some (f, z) ∧ fi e0 = nI f ∧ be e0 = nI z ∧ f ≤ 2000 ∧ z ≤ 2000) (fun _ => False) (fun _ => [(m0, .inr (6, mF g (K.1, K.2.1, K.2.2.1, K.2.2.2.1, nI X.length, K.2.2.2.2.2.1, K.2.2.2.2.2.2.1, K.2.2.2.2.2.2.2.1, K.2.2.2.2.2.2.2.2) A0 e np B)), ((g 38), .inl (cA 3, 2000, .inl ow))]) (fun _ => (0, 0)) := by
  refine cM.ofW (cc := b_Md_expressionOf) (maxL := 6) (ret := (some .int)) (by decide) (Nat.le_of_ble_eq_true rfl) ?_
  intro pg ev s m bw meth cdx A ls hF hsz hA hE hP hD hl
  obtain ⟨⟨hx, hb, hml, hown, hts⟩, hr, hno, hlocks, hin⟩ := hF
  subst hsz
  have hown : s.vm.findClass "ModuleBytesModel" = some m.cls := hown
  have hS : va_S A s.heap s.heap [] := va_S.rf
  have hl : lv_has ls 6 [(0, .ref m0), (1, .int (nI t)), (2, .int (nI j))] := hl
  have hP : va_P D cls [(m0, .inr (6, mF g (K.1, K.2.1, K.2.2.1, K.2.2.2.1, nI X.length, K.2.2.2.2.2.1, K.2.2.2.2.2.2.1, K.2.2.2.2.2.2.2.1, K.2.2.2.2.2.2.2.2) A0 e np B)), ((g 38), .inl (cA 3, 2000, .inl ow))] s.heap := hP
  have hD : va_D A [(m0, .inr (6, mF g (K.1, K.2.1, K.2.2.1, K.2.2.2.1, nI X.length, K.2.2.2.2.2.1, K.2.2.2.2.2.2.1, K.2.2.2.2.2.2.2.1, K.2.2.2.2.2.2.2.2) A0 e np B)), ((g 38), .inl (cA 3, 2000, .inl ow))] := hD
  refine lv_iconst (v := 0) hx hb d_Md_expressionOf_0 (by decide) ?_
  refine lv_istore_n (lv' := [(3, .int 0), (0, .ref m0), (1, .int (nI t)), (2, .int (nI j))]) hx hb d_Md_expressionOf_1 rfl hl (by decide) rfl (fun ls hl => ?_)
  refine lv_iconst (v := (-1)) hx hb d_Md_expressionOf_2 (by decide) ?_
  refine lv_istore (lv' := [(4, .int (-1)), (3, .int 0), (0, .ref m0), (1, .int (nI t)), (2, .int (nI j))]) hx hb d_Md_expressionOf_3 hl (by decide) rfl (fun ls hl => ?_)
  refine lv_iconst (v := 0) hx hb d_Md_expressionOf_5 (by decide) ?_
  refine lv_istore (lv' := [(5, .int 0), (4, .int (-1)), (3, .int 0), (0, .ref m0), (1, .int (nI t)), (2, .int (nI j))]) hx hb d_Md_expressionOf_6 hl (by decide) rfl (fun ls hl => ?_)
  have key : ∀ (d ee nn : Nat) (fo : Int32) (H : Heap) (locs : List Loc) (ls : Array Slot), ee + d = X.length → nn ≤ ee → (exO t (X.drop (X.length - ee))).length = nn → ((nn ≤ j ∧ fo = -1) ∨ (j < nn ∧ ∃ e0 f z : Nat, e0 < X.length ∧ fo = nI e0 ∧ (exO t (X.drop (X.length - ee)))[j]? = some (f, z) ∧ fi e0 = nI f ∧ be e0 = nI z ∧ f ≤ 2000 ∧ z ≤ 2000)) → va_P D cls [(m0, .inr (6, mF g (K.1, K.2.1, K.2.2.1, K.2.2.2.1, nI X.length, K.2.2.2.2.2.1, K.2.2.2.2.2.2.1, K.2.2.2.2.2.2.2.1, K.2.2.2.2.2.2.2.2) A0 e np B)), ((g 38), .inl (cA 3, 2000, .inl ow))] H → va_D A [(m0, .inr (6, mF g (K.1, K.2.1, K.2.2.1, K.2.2.2.1, nI X.length, K.2.2.2.2.2.1, K.2.2.2.2.2.2.1, K.2.2.2.2.2.2.2.1, K.2.2.2.2.2.2.2.2) A0 e np B)), ((g 38), .inl (cA 3, 2000, .inl ow))] → va_S A s.heap H locs → lv_has ls 6 [(0, .ref m0), (1, .int (nI t)), (2, .int (nI j)), (3, .int (nI nn)), (4, .int fo), (5, .int (nI ee))] → W pg l ev ({ frames := 0, cells := 0, slots := 0, locals := 0 }) s m ([.ref m0, .int (nI t), .int (nI j)] : List Value).toArray bw meth cdx H locs 0 0 (tx_Q bw (cQ D (fun v (_ : Unit) => (v = some (.int (-1)) ∧ (exO t X).length ≤ j) ∨ ∃ e0 f z : Nat, e0 < X.length ∧ v = some (.int (nI e0)) ∧ (exO t X)[j]? = some (f, z) ∧ fi e0 = nI f ∧ be e0 = nI z ∧ f ≤ 2000 ∧ z ≤ 2000) (fun _ => False) (fun _ => [(m0, .inr (6, mF g (K.1, K.2.1, K.2.2.1, K.2.2.2.1, nI X.length, K.2.2.2.2.2.1, K.2.2.2.2.2.2.1, K.2.2.2.2.2.2.2.1, K.2.2.2.2.2.2.2.2) A0 e np B)), ((g 38), .inl (cA 3, 2000, .inl ow))]) (fun _ => (0, 0)) A) ([.ref m0, .int (nI t), .int (nI j)] : List Value).toArray s A) (F0 m 8 ls []) := by
    intro d
    induction d with
    | zero =>
      intro ee nn fo H locs ls hed hne hlen hinv hP hD hS hl
      refine lv_iload hx hb d_Md_expressionOf_8 (lv_at hl 5 rfl) ?_
      refine lv_aload_n hx hb d_Md_expressionOf_10 rfl (lv_at hl 0 rfl) ?_
      refine va_get (D := D) (ci := 6) (v := .int (nI X.length)) (C := R_Md) (T := F_Md) (N := 44) hx hb hts (fun w h => List.mem_cons_of_mem _ (i_Md w h)) hown hE.1 hP 0 rfl rfl 32 (by decide) (hts _ (List.mem_cons_of_mem _ iw3_86)) (fun _ h9 => h9) rfl d_Md_expressionOf_11 ?_
      refine lv_icmp_ge (tgt := 51) hx hb d_Md_expressionOf_14 (by decide) (fun c_14 => ?_) (fun c_14 => absurd (nI_le (by omega) (by omega)) c_14)
      refine lv_iload hx hb d_Md_expressionOf_51 (lv_at hl 4 rfl) ?_
      have hee : ee = X.length := by omega
      rw [hee, Nat.sub_self, List.drop_zero] at hlen hinv
      rcases hinv with ⟨q1, rfl⟩ | ⟨q1, e0, f, z, q0, rfl, q3⟩
      · exact cRi () hx hb hr hlocks d_Md_expressionOf_53 hS hP hD (Or.inl ⟨rfl, by omega⟩) (Nat.le_refl _) (Nat.le_refl _)
      · exact cRi () hx hb hr hlocks d_Md_expressionOf_53 hS hP hD (Or.inr ⟨e0, f, z, q0, rfl, q3⟩) (Nat.le_refl _) (Nat.le_refl _)
    | succ d ih =>
      intro ee nn fo H locs ls hed hne hlen hinv hP hD hS hl
      obtain ⟨x, hx1, hx2, hx3, hx4, hx5⟩ := XH_at hXH (show ee < X.length by omega)
      obtain ⟨hxt, hxf, zx, hzx, hzb⟩ := hXf x hx5
      refine lv_iload hx hb d_Md_expressionOf_8 (lv_at hl 5 rfl) ?_
      refine lv_aload_n hx hb d_Md_expressionOf_10 rfl (lv_at hl 0 rfl) ?_
      refine va_get (D := D) (ci := 6) (v := .int (nI X.length)) (C := R_Md) (T := F_Md) (N := 44) hx hb hts (fun w h => List.mem_cons_of_mem _ (i_Md w h)) hown hE.1 hP 0 rfl rfl 32 (by decide) (hts _ (List.mem_cons_of_mem _ iw3_86)) (fun _ h9 => h9) rfl d_Md_expressionOf_11 ?_
      refine lv_icmp_ge (tgt := 51) hx hb d_Md_expressionOf_14 (by decide) (fun c_14 => absurd c_14 (nI_ge (by omega) (by omega))) (fun c_14 => ?_)
      refine lv_aload_n hx hb d_Md_expressionOf_17 rfl (lv_at hl 0 rfl) ?_
      refine va_get (D := D) (ci := 6) (v := .ref (g 38)) (C := R_Md) (T := F_Md) (N := 44) hx hb hts (fun w h => List.mem_cons_of_mem _ (i_Md w h)) hown hE.1 hP 0 rfl rfl 38 (by decide) (hts _ (List.mem_cons_of_mem _ iw3_92)) (fun _ h9 => h9) rfl d_Md_expressionOf_18 ?_
      refine lv_iload hx hb d_Md_expressionOf_21 (lv_at hl 5 rfl) ?_
      refine va_iald hx hb hE.1 hP 1 3 rfl rfl (vp_in_nI (by omega) (by omega)) d_Md_expressionOf_23 ?_
      rw [nI_clamp (n := ee) (by omega)]
      refine lv_iload_n hx hb d_Md_expressionOf_24 rfl (lv_at hl 1 rfl) ?_
      refine lv_icmp_ne (tgt := 45) hx hb d_Md_expressionOf_25 (by decide) (fun c_25 => ?_) (fun c_25 => ?_)
      · obtain ⟨x5_1, ex5_1⟩ : ∃ y : Int32, y = (nI ee) + 1 := ⟨_, rfl⟩
        refine lv_iinc (v := x5_1) (lv' := [(5, .int x5_1), (0, .ref m0), (1, .int (nI t)), (2, .int (nI j)), (3, .int (nI nn)), (4, .int fo)]) hx hb d_Md_expressionOf_45 hl (k := 5) rfl (by rw [ex5_1]; rfl) (by decide) rfl (fun ls hl => ?_)
        refine lv_goto (tgt := 8) hx hb d_Md_expressionOf_48 (by decide) ?_
        have e9 : x5_1 = nI (ee + 1) := by rw [ex5_1]; exact nI_1 ee
        subst e9
        have hxo : exO t (X.drop (X.length - (ee + 1))) = exO t (X.drop (X.length - ee)) := by rw [hx1]; exact if_neg (fun q => c_25 (by rw [hx2, q]))
        exact ih (ee + 1) nn fo H locs ls (by omega) (by omega) (by rw [hxo]; exact hlen) (by rw [hxo]; exact hinv) hP hD hS (lv_sub hl [1, 2, 3, 4, 5, 0] rfl)
      · refine lv_iload_n hx hb d_Md_expressionOf_28 rfl (lv_at hl 3 rfl) ?_
        refine lv_iload_n hx hb d_Md_expressionOf_29 rfl (lv_at hl 2 rfl) ?_
        refine lv_icmp_ne (tgt := 38) hx hb d_Md_expressionOf_30 (by decide) (fun c_30 => ?_) (fun c_30 => ?_)
        · refine lv_iload hx hb d_Md_expressionOf_38 (lv_at hl 4 rfl) ?_
          refine lv_istore (lv' := [(4, .int fo), (0, .ref m0), (1, .int (nI t)), (2, .int (nI j)), (3, .int (nI nn)), (5, .int (nI ee))]) hx hb d_Md_expressionOf_40 hl (by decide) rfl (fun ls hl => ?_)
          obtain ⟨x3_2, ex3_2⟩ : ∃ y : Int32, y = (nI nn) + 1 := ⟨_, rfl⟩
          refine lv_iinc (v := x3_2) (lv' := [(3, .int x3_2), (4, .int fo), (0, .ref m0), (1, .int (nI t)), (2, .int (nI j)), (5, .int (nI ee))]) hx hb d_Md_expressionOf_42 hl (k := 4) rfl (by rw [ex3_2]; rfl) (by decide) rfl (fun ls hl => ?_)
          obtain ⟨x5_3, ex5_3⟩ : ∃ y : Int32, y = (nI ee) + 1 := ⟨_, rfl⟩
          refine lv_iinc (v := x5_3) (lv' := [(5, .int x5_3), (3, .int x3_2), (4, .int fo), (0, .ref m0), (1, .int (nI t)), (2, .int (nI j))]) hx hb d_Md_expressionOf_45 hl (k := 5) rfl (by rw [ex5_3]; rfl) (by decide) rfl (fun ls hl => ?_)
          refine lv_goto (tgt := 8) hx hb d_Md_expressionOf_48 (by decide) ?_
          have e9 : x5_3 = nI (ee + 1) := by rw [ex5_3]; exact nI_1 ee
          subst e9
          have e8 : x3_2 = nI (nn + 1) := by rw [ex3_2]; exact nI_1 nn
          subst e8
          have hxq : x.1 = t := (nI_eq (by omega) (by omega)).mp (hx2.symm.trans c_25)
          have hxo : exO t (X.drop (X.length - (ee + 1))) = exO t (X.drop (X.length - ee)) ++ [(x.2.1, zx)] := by rw [hx1]; show (if x.1 = t then _ else _) = _; rw [if_pos hxq, hzx]; rfl
          have hnj : ¬ nn = j := fun q => c_30 (by rw [q])
          exact ih (ee + 1) (nn + 1) _ H locs ls (by omega) (by omega) (by rw [hxo, List.length_append, hlen]; rfl) (by rw [hxo]; exact hinv.elim (fun q => Or.inl ⟨by omega, q.2⟩) (fun q => Or.inr ⟨by omega, by obtain ⟨e0, f, z, q0, q1, q2, q3⟩ := q.2; exact ⟨e0, f, z, q0, q1, by rw [List.getElem?_append_left (by omega)]; exact q2, q3⟩⟩)) hP hD hS (lv_sub hl [3, 4, 5, 1, 2, 0] rfl)
        · refine lv_iload hx hb d_Md_expressionOf_33 (lv_at hl 5 rfl) ?_
          refine lv_goto (tgt := 40) hx hb d_Md_expressionOf_35 (by decide) ?_
          refine lv_istore (lv' := [(4, .int (nI ee)), (0, .ref m0), (1, .int (nI t)), (2, .int (nI j)), (3, .int (nI nn)), (5, .int (nI ee))]) hx hb d_Md_expressionOf_40 hl (by decide) rfl (fun ls hl => ?_)
          obtain ⟨x3_4, ex3_4⟩ : ∃ y : Int32, y = (nI nn) + 1 := ⟨_, rfl⟩
          refine lv_iinc (v := x3_4) (lv' := [(3, .int x3_4), (4, .int (nI ee)), (0, .ref m0), (1, .int (nI t)), (2, .int (nI j)), (5, .int (nI ee))]) hx hb d_Md_expressionOf_42 hl (k := 4) rfl (by rw [ex3_4]; rfl) (by decide) rfl (fun ls hl => ?_)
          obtain ⟨x5_5, ex5_5⟩ : ∃ y : Int32, y = (nI ee) + 1 := ⟨_, rfl⟩
          refine lv_iinc (v := x5_5) (lv' := [(5, .int x5_5), (3, .int x3_4), (4, .int (nI ee)), (0, .ref m0), (1, .int (nI t)), (2, .int (nI j))]) hx hb d_Md_expressionOf_45 hl (k := 5) rfl (by rw [ex5_5]; rfl) (by decide) rfl (fun ls hl => ?_)
          refine lv_goto (tgt := 8) hx hb d_Md_expressionOf_48 (by decide) ?_
          have e9 : x5_5 = nI (ee + 1) := by rw [ex5_5]; exact nI_1 ee
          subst e9
          have e8 : x3_4 = nI (nn + 1) := by rw [ex3_4]; exact nI_1 nn
          subst e8
          have hxq : x.1 = t := (nI_eq (by omega) (by omega)).mp (hx2.symm.trans c_25)
          have hxo : exO t (X.drop (X.length - (ee + 1))) = exO t (X.drop (X.length - ee)) ++ [(x.2.1, zx)] := by rw [hx1]; show (if x.1 = t then _ else _) = _; rw [if_pos hxq, hzx]; rfl
          have hnj : nn = j := (nI_eq (by omega) hj).mp c_30
          exact ih (ee + 1) (nn + 1) _ H locs ls (by omega) (by omega) (by rw [hxo, List.length_append, hlen]; rfl) (by rw [hxo]; exact Or.inr ⟨by omega, ee, x.2.1, zx, by omega, rfl, by rw [List.getElem?_append_right (by omega), hlen, hnj]; simp, hx3, hx4 zx hzx, hxf, hzb⟩) hP hD hS (lv_sub hl [3, 4, 5, 1, 2, 0] rfl)
  exact key X.length 0 0 (-1) s.heap _ ls (by omega) (Nat.le_refl _) (by rw [Nat.sub_zero, List.drop_length]; rfl) (Or.inl ⟨Nat.zero_le _, rfl⟩) hP hD hS (lv_sub hl [3, 4, 5, 2, 1, 0] rfl)
