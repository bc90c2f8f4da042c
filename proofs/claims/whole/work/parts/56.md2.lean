set_option maxHeartbeats 4000000 in
set_option maxRecDepth 100000 in
theorem c_Md_isReference (l : Launch) (hl9 : l.stackTraces = false) (D : va_G) (cA : Nat → ClassId) (ad : Nat → Nat) (sz : Nat) (x : Nat) (hx9 : x < 256) :
    cM l y_Md_isReference (.code y_Md_isReference b_Md_isReference 1 (some .boolean) :: wAll) ({ frames := 0, cells := 0, slots := 0, locals := 0 }) D cA ad [.int (nI x)] [] sz (fun v (_ : Unit) => v = some (.int (zI (tRef x)))) (fun _ => False) (fun _ => []) (fun _ => (0, 0)) := by
  refine cM.ofW (cc := b_Md_isReference) (maxL := 1) (ret := (some .boolean)) (by decide) (Nat.le_of_ble_eq_true rfl) ?_
  intro pg ev s m bw meth cdx A ls hF hsz hA hE hP hD hl
  obtain ⟨⟨hx, hb, hml, hown, hts⟩, hr, hno, hlocks, hin⟩ := hF
  subst hsz
  have hown : s.vm.findClass "ModuleBytesModel" = some m.cls := hown
  have hS : va_S A s.heap s.heap [] := va_S.rf
  have hl : lv_has ls 1 [(0, .int (nI x))] := hl
  refine lv_iload_n hx hb d_Md_isReference_0 rfl (lv_at hl 0 rfl) ?_
  refine lv_bipush (v := 112) hx hb d_Md_isReference_1 (by decide) ?_
  refine lv_icmp_eq (tgt := 12) hx hb d_Md_isReference_3 (by decide) (fun c_3 => ?_) (fun c_3 => ?_)
  · refine lv_iconst (v := 1) hx hb d_Md_isReference_12 (by decide) ?_
    refine lv_goto (tgt := 17) hx hb d_Md_isReference_13 (by decide) ?_
    try (have e_3 := (nI_eq (a := x) (b := 112) (by omega) (by omega)); rw [show nI 112 = (112 : Int32) from rfl] at e_3; simp only [e_3] at c_3)
    try (have e_9 := (nI_eq (a := x) (b := 111) (by omega) (by omega)); rw [show nI 111 = (111 : Int32) from rfl] at e_9; simp only [e_9] at c_9)
    exact cRz () hx hb hr (by decide) hlocks d_Md_isReference_17 hS hP hD (by rw [show tRef x = true from by unfold tRef; simp; omega]; rfl) (Nat.le_refl _) (Nat.le_refl _)
  · refine lv_iload_n hx hb d_Md_isReference_6 rfl (lv_at hl 0 rfl) ?_
    refine lv_bipush (v := 111) hx hb d_Md_isReference_7 (by decide) ?_
    refine lv_icmp_ne (tgt := 16) hx hb d_Md_isReference_9 (by decide) (fun c_9 => ?_) (fun c_9 => ?_)
    · refine lv_iconst (v := 0) hx hb d_Md_isReference_16 (by decide) ?_
      try (have e_3 := (nI_eq (a := x) (b := 112) (by omega) (by omega)); rw [show nI 112 = (112 : Int32) from rfl] at e_3; simp only [e_3] at c_3)
      try (have e_9 := (nI_eq (a := x) (b := 111) (by omega) (by omega)); rw [show nI 111 = (111 : Int32) from rfl] at e_9; simp only [e_9] at c_9)
      exact cRz () hx hb hr (by decide) hlocks d_Md_isReference_17 hS hP hD (by rw [show tRef x = false from by unfold tRef; simp; omega]; rfl) (Nat.le_refl _) (Nat.le_refl _)
    · refine lv_iconst (v := 1) hx hb d_Md_isReference_12 (by decide) ?_
      refine lv_goto (tgt := 17) hx hb d_Md_isReference_13 (by decide) ?_
      try (have e_3 := (nI_eq (a := x) (b := 112) (by omega) (by omega)); rw [show nI 112 = (112 : Int32) from rfl] at e_3; simp only [e_3] at c_3)
      try (have e_9 := (nI_eq (a := x) (b := 111) (by omega) (by omega)); rw [show nI 111 = (111 : Int32) from rfl] at e_9; simp only [e_9] at c_9)
      exact cRz () hx hb hr (by decide) hlocks d_Md_isReference_17 hS hP hD (by rw [show tRef x = true from by unfold tRef; simp; omega]; rfl) (Nat.le_refl _) (Nat.le_refl _)
set_option maxHeartbeats 4000000 in
set_option maxRecDepth 100000 in
theorem c_Md_isValue (l : Launch) (hl9 : l.stackTraces = false) (D : va_G) (cA : Nat → ClassId) (ad : Nat → Nat) (sz : Nat) (x : Nat) (hx9 : x < 256) :
    cM l y_Md_isValue (.code y_Md_isValue b_Md_isValue 1 (some .boolean) :: wAll) ({ frames := 1, cells := 0, slots := 0, locals := 20 }) D cA ad [.int (nI x)] [] sz (fun v (_ : Unit) => v = some (.int (zI (tVal x)))) (fun _ => False) (fun _ => []) (fun _ => (0, 0)) := by
  refine cM.ofW (cc := b_Md_isValue) (maxL := 1) (ret := (some .boolean)) (by decide) (Nat.le_of_ble_eq_true rfl) ?_
  intro pg ev s m bw meth cdx A ls hF hsz hA hE hP hD hl
  obtain ⟨⟨hx, hb, hml, hown, hts⟩, hr, hno, hlocks, hin⟩ := hF
  subst hsz
  have hown : s.vm.findClass "ModuleBytesModel" = some m.cls := hown
  have hS : va_S A s.heap s.heap [] := va_S.rf
  have hl : lv_has ls 1 [(0, .int (nI x))] := hl
  refine lv_iload_n hx hb d_Md_isValue_0 rfl (lv_at hl 0 rfl) ?_
  refine lv_bipush (v := 124) hx hb d_Md_isValue_1 (by decide) ?_
  refine lv_icmp_lt (tgt := 12) hx hb d_Md_isValue_3 (by decide) (fun c_3 => ?_) (fun c_3 => ?_)
  · refine lv_iload_n hx hb d_Md_isValue_12 rfl (lv_at hl 0 rfl) ?_
    refine cS0 (As := [.int (nI x)]) (rest := []) (n := 1) (r := (zI (tRef x))) ⟨hx, hb, hml, hown, hts⟩ hno hlocks hl.1 (c_Md_isReference l hl9 D cA ad s.heap.size x hx9) iw4_12 iw4_13 iw1_7 iw4_14 (by decide +kernel) rfl ⟨Nat.le_of_ble_eq_true rfl, Nat.le_of_ble_eq_true rfl⟩ ⟨Nat.le_of_ble_eq_true rfl, Nat.le_of_ble_eq_true rfl⟩ rfl (Nat.le_of_ble_eq_true rfl) d_Md_isValue_13 hE hP hD hS hA [] rfl rfl (fun H locs hP hD hS => ?_)
    refine lv_if_eq (tgt := 23) hx hb d_Md_isValue_16 (by decide) (fun c_16 => ?_) (fun c_16 => ?_)
    · refine lv_iconst (v := 0) hx hb d_Md_isValue_23 (by decide) ?_
      try (have c_16 := zI_0.mp c_16)
      try (have c_16 : tRef x = true := by cases hq : tRef x <;> simp_all [zI])
      try (simp only [tRef, Bool.or_eq_true, Bool.or_eq_false_iff, beq_iff_eq, beq_eq_false_iff_ne] at c_16)
      try (have e_3 := (nI_ltI (a := x) (b := 124) (by omega) (by omega)); rw [show nI 124 = (124 : Int32) from rfl] at e_3; simp only [e_3] at c_3)
      try (have e_9 := (nI_leI (a := x) (b := 127) (by omega) (by omega)); rw [show nI 127 = (127 : Int32) from rfl] at e_9; simp only [e_9] at c_9)
      exact cRz () hx hb hr (by decide) hlocks d_Md_isValue_24 hS hP hD (by rw [show tVal x = false from by unfold tVal; simp; omega]; rfl) (Nat.le_refl _) (Nat.le_refl _)
    · refine lv_iconst (v := 1) hx hb d_Md_isValue_19 (by decide) ?_
      refine lv_goto (tgt := 24) hx hb d_Md_isValue_20 (by decide) ?_
      try (have c_16 := zI_0.mp c_16)
      try (have c_16 : tRef x = true := by cases hq : tRef x <;> simp_all [zI])
      try (simp only [tRef, Bool.or_eq_true, Bool.or_eq_false_iff, beq_iff_eq, beq_eq_false_iff_ne] at c_16)
      try (have e_3 := (nI_ltI (a := x) (b := 124) (by omega) (by omega)); rw [show nI 124 = (124 : Int32) from rfl] at e_3; simp only [e_3] at c_3)
      try (have e_9 := (nI_leI (a := x) (b := 127) (by omega) (by omega)); rw [show nI 127 = (127 : Int32) from rfl] at e_9; simp only [e_9] at c_9)
      exact cRz () hx hb hr (by decide) hlocks d_Md_isValue_24 hS hP hD (by rw [show tVal x = true from by unfold tVal; simp; omega]; rfl) (Nat.le_refl _) (Nat.le_refl _)
  · refine lv_iload_n hx hb d_Md_isValue_6 rfl (lv_at hl 0 rfl) ?_
    refine lv_bipush (v := 127) hx hb d_Md_isValue_7 (by decide) ?_
    refine lv_icmp_le (tgt := 19) hx hb d_Md_isValue_9 (by decide) (fun c_9 => ?_) (fun c_9 => ?_)
    · refine lv_iconst (v := 1) hx hb d_Md_isValue_19 (by decide) ?_
      refine lv_goto (tgt := 24) hx hb d_Md_isValue_20 (by decide) ?_
      try (have c_16 := zI_0.mp c_16)
      try (have c_16 : tRef x = true := by cases hq : tRef x <;> simp_all [zI])
      try (simp only [tRef, Bool.or_eq_true, Bool.or_eq_false_iff, beq_iff_eq, beq_eq_false_iff_ne] at c_16)
      try (have e_3 := (nI_ltI (a := x) (b := 124) (by omega) (by omega)); rw [show nI 124 = (124 : Int32) from rfl] at e_3; simp only [e_3] at c_3)
      try (have e_9 := (nI_leI (a := x) (b := 127) (by omega) (by omega)); rw [show nI 127 = (127 : Int32) from rfl] at e_9; simp only [e_9] at c_9)
      exact cRz () hx hb hr (by decide) hlocks d_Md_isValue_24 hS hP hD (by rw [show tVal x = true from by unfold tVal; simp; omega]; rfl) (Nat.le_refl _) (Nat.le_refl _)
    · refine lv_iload_n hx hb d_Md_isValue_12 rfl (lv_at hl 0 rfl) ?_
      refine cS0 (As := [.int (nI x)]) (rest := []) (n := 1) (r := (zI (tRef x))) ⟨hx, hb, hml, hown, hts⟩ hno hlocks hl.1 (c_Md_isReference l hl9 D cA ad s.heap.size x hx9) iw4_12 iw4_13 iw1_7 iw4_14 (by decide +kernel) rfl ⟨Nat.le_of_ble_eq_true rfl, Nat.le_of_ble_eq_true rfl⟩ ⟨Nat.le_of_ble_eq_true rfl, Nat.le_of_ble_eq_true rfl⟩ rfl (Nat.le_of_ble_eq_true rfl) d_Md_isValue_13 hE hP hD hS hA [] rfl rfl (fun H locs hP hD hS => ?_)
      refine lv_if_eq (tgt := 23) hx hb d_Md_isValue_16 (by decide) (fun c_16 => ?_) (fun c_16 => ?_)
      · refine lv_iconst (v := 0) hx hb d_Md_isValue_23 (by decide) ?_
        try (have c_16 := zI_0.mp c_16)
        try (have c_16 : tRef x = true := by cases hq : tRef x <;> simp_all [zI])
        try (simp only [tRef, Bool.or_eq_true, Bool.or_eq_false_iff, beq_iff_eq, beq_eq_false_iff_ne] at c_16)
        try (have e_3 := (nI_ltI (a := x) (b := 124) (by omega) (by omega)); rw [show nI 124 = (124 : Int32) from rfl] at e_3; simp only [e_3] at c_3)
        try (have e_9 := (nI_leI (a := x) (b := 127) (by omega) (by omega)); rw [show nI 127 = (127 : Int32) from rfl] at e_9; simp only [e_9] at c_9)
        exact cRz () hx hb hr (by decide) hlocks d_Md_isValue_24 hS hP hD (by rw [show tVal x = false from by unfold tVal; simp; omega]; rfl) (Nat.le_refl _) (Nat.le_refl _)
      · refine lv_iconst (v := 1) hx hb d_Md_isValue_19 (by decide) ?_
        refine lv_goto (tgt := 24) hx hb d_Md_isValue_20 (by decide) ?_
        try (have c_16 := zI_0.mp c_16)
        try (have c_16 : tRef x = true := by cases hq : tRef x <;> simp_all [zI])
        try (simp only [tRef, Bool.or_eq_true, Bool.or_eq_false_iff, beq_iff_eq, beq_eq_false_iff_ne] at c_16)
        try (have e_3 := (nI_ltI (a := x) (b := 124) (by omega) (by omega)); rw [show nI 124 = (124 : Int32) from rfl] at e_3; simp only [e_3] at c_3)
        try (have e_9 := (nI_leI (a := x) (b := 127) (by omega) (by omega)); rw [show nI 127 = (127 : Int32) from rfl] at e_9; simp only [e_9] at c_9)
        exact cRz () hx hb hr (by decide) hlocks d_Md_isValue_24 hS hP hD (by rw [show tVal x = true from by unfold tVal; simp; omega]; rfl) (Nat.le_refl _) (Nat.le_refl _)
set_option maxHeartbeats 4000000 in
set_option maxRecDepth 100000 in
/-- takeBetween(lo, hi, why) -/
theorem c_Md_takeBetween (l : Launch) (hl9 : l.stackTraces = false) (D : va_G) (cA : Nat → ClassId) (ad : Nat → Nat) (sz : Nat) (m0 : Nat) (g : Nat → Nat) (K : MK) (e : Int32) (np : Nat) (B : MB) (fd pe : Nat → Int32) (b : Nat → Nat) (N lm : Nat) (hnp : 1 ≤ np ∧ np ≤ 4) (hpe : pe (np - 1) = nI lm) (hlm : lm ≤ N) (hN : N ≤ 2000) (hfd : ∀ i, i < N → fd i = nI (b i)) (hb9 : ∀ i, b i < 256) (a : Nat) (p : Int32) (ha : a ≤ lm) (lo hi wy : Nat) (hlo : lo < 256) (hhi : hi < 256) (hwy : FL wy) :
    cM l y_Md_takeBetween (.code y_Md_takeBetween b_Md_takeBetween 5 (some .int) :: wAll) ({ frames := 2, cells := 0, slots := 0, locals := 42 }) D cA ad [.ref m0, .int (nI lo), .int (nI hi), .int (nI wy)] [(m0, .inr (6, mF g K (nI a, 0, p) e (nI np) B)), ((g 0), .inl (cA 3, 2000, .inl fd)), ((g 10), .inl (cA 3, 4, .inl pe))] sz (oP (pBt b lm lo hi wy a) p fI vI) (fun _ => False) (fun (u : A3) => [(m0, .inr (6, mF g K u e (nI np) B)), ((g 0), .inl (cA 3, 2000, .inl fd)), ((g 10), .inl (cA 3, 4, .inl pe))]) (fun _ => (0, 0)) := by
  refine cM.ofW (cc := b_Md_takeBetween) (maxL := 5) (ret := (some .int)) (by decide) (Nat.le_of_ble_eq_true rfl) ?_
  intro pg ev s m bw meth cdx A ls hF hsz hA hE hP hD hl
  obtain ⟨⟨hx, hb, hml, hown, hts⟩, hr, hno, hlocks, hin⟩ := hF
  subst hsz
  have hown : s.vm.findClass "ModuleBytesModel" = some m.cls := hown
  have hS : va_S A s.heap s.heap [] := va_S.rf
  have hl : lv_has ls 5 [(0, .ref m0), (1, .int (nI lo)), (2, .int (nI hi)), (3, .int (nI wy))] := hl
  have hP : va_P D cls [(m0, .inr (6, mF g K (nI a, 0, p) e (nI np) B)), ((g 0), .inl (cA 3, 2000, .inl fd)), ((g 10), .inl (cA 3, 4, .inl pe))] s.heap := hP
  have hD : va_D A [(m0, .inr (6, mF g K (nI a, 0, p) e (nI np) B)), ((g 0), .inl (cA 3, 2000, .inl fd)), ((g 10), .inl (cA 3, 4, .inl pe))] := hD
  refine lv_aload_n hx hb d_Md_takeBetween_0 rfl (lv_at hl 0 rfl) ?_
  refine cV (As := []) (rest := []) (n := 0) (wc := [(m0, .inr (6, mF g K (nI a, 0, p) e (nI np) B)), ((g 0), .inl (cA 3, 2000, .inl fd)), ((g 10), .inl (cA 3, 4, .inl pe))]) (wr := []) ⟨hx, hb, hml, hown, hts⟩ hno hlocks hl.1 (c_Md_take l hl9 D cA ad s.heap.size m0 g K e np B fd pe b N lm hnp hpe hlm hN hfd hb9 a p (by omega) ) iw3_212 iw3_214 sel_Md_take iw1_7 iw3_215 (by decide +kernel) rfl ⟨Nat.le_of_ble_eq_true rfl, Nat.le_of_ble_eq_true rfl⟩ ⟨Nat.le_of_ble_eq_true rfl, Nat.le_of_ble_eq_true rfl⟩ rfl (Nat.le_of_ble_eq_true rfl) d_Md_takeBetween_1 hE hP hD hS hA [0, 1, 2] [] rfl rfl rfl rfl (by decide) (ci := 6) rfl rfl 0 rfl (fun _ h => h.elim) (fun v_1 u_1 H locs hp_1 hP hD hS => ?_)
  rcases hp_1 with ⟨f6, q6, hr6, hf6, hB6, rfl, zz6, hzz6, hzx6⟩ | ⟨v6, a6, hr6, rfl, rfl⟩
  · obtain ⟨x6, y6, z6⟩ := u_1
    cases hB6
    have hzx6 : x6 = nI zz6 := hzx6
    subst hzx6
    have hP : va_P D cls [(m0, .inr (6, mF g K (nI zz6, nI f6, nI q6) e (nI np) B)), ((g 0), .inl (cA 3, 2000, .inl fd)), ((g 10), .inl (cA 3, 4, .inl pe))] H := hP
    have hD : va_D A [(m0, .inr (6, mF g K (nI zz6, nI f6, nI q6) e (nI np) B)), ((g 0), .inl (cA 3, 2000, .inl fd)), ((g 10), .inl (cA 3, 4, .inl pe))] := hD
    refine W.cs (cells' := 0) (slots' := 0) rfl rfl ?_
    refine W.eq (g2 := F0 m 4 ls [.int 0]) rfl ?_
    refine lv_istore (lv' := [(4, .int 0), (0, .ref m0), (1, .int (nI lo)), (2, .int (nI hi)), (3, .int (nI wy))]) hx hb d_Md_takeBetween_4 hl (by decide) rfl (fun ls hl => ?_)
    refine lv_aload_n hx hb d_Md_takeBetween_6 rfl (lv_at hl 1 rfl) ?_
    refine va_get (D := D) (ci := 6) (v := .int (nI f6)) (C := R_Md) (T := F_Md) (N := 44) hx hb hts (fun w h => List.mem_cons_of_mem _ (i_Md w h)) hown hE.1 hP 0 rfl rfl 3 (by decide) (hts _ (List.mem_cons_of_mem _ iw3_57)) (fun _ h9 => h9) rfl d_Md_takeBetween_7 ?_
    refine lv_if_ne (tgt := 36) hx hb d_Md_takeBetween_10 (by decide) (fun c_10 => ?_) (fun c_10 => absurd c_10 (hf6.n0))
    refine lv_iload hx hb d_Md_takeBetween_36 (lv_at hl 0 rfl) ?_
    exact cRi ((nI zz6, nI f6, nI q6) : A3) hx hb hr hlocks d_Md_takeBetween_38 hS hP hD (Or.inl ⟨f6, q6, pBt_T hr6, hf6, rfl, ⟨_, rfl⟩, zz6, by omega, rfl⟩) (Nat.le_refl _) (Nat.le_refl _)
  · obtain ⟨hla6, hgt6, hv6, hbd6⟩ := (pNext_ok2 hr6 hb9)
    have hP : va_P D cls [(m0, .inr (6, mF g K (nI a6, 0, p) e (nI np) B)), ((g 0), .inl (cA 3, 2000, .inl fd)), ((g 10), .inl (cA 3, 4, .inl pe))] H := hP
    have hD : va_D A [(m0, .inr (6, mF g K (nI a6, 0, p) e (nI np) B)), ((g 0), .inl (cA 3, 2000, .inl fd)), ((g 10), .inl (cA 3, 4, .inl pe))] := hD
    refine W.cs (cells' := 0) (slots' := 0) rfl rfl ?_
    refine W.eq (g2 := F0 m 4 ls [.int (nI v6)]) rfl ?_
    refine lv_istore (lv' := [(4, .int (nI v6)), (0, .ref m0), (1, .int (nI lo)), (2, .int (nI hi)), (3, .int (nI wy))]) hx hb d_Md_takeBetween_4 hl (by decide) rfl (fun ls hl => ?_)
    refine lv_aload_n hx hb d_Md_takeBetween_6 rfl (lv_at hl 1 rfl) ?_
    refine va_get (D := D) (ci := 6) (v := .int 0) (C := R_Md) (T := F_Md) (N := 44) hx hb hts (fun w h => List.mem_cons_of_mem _ (i_Md w h)) hown hE.1 hP 0 rfl rfl 3 (by decide) (hts _ (List.mem_cons_of_mem _ iw3_57)) (fun _ h9 => h9) rfl d_Md_takeBetween_7 ?_
    refine lv_if_ne (tgt := 36) hx hb d_Md_takeBetween_10 (by decide) (fun c_10 => absurd (by decide) c_10) (fun c_10 => ?_)
    refine lv_iload hx hb d_Md_takeBetween_13 (lv_at hl 0 rfl) ?_
    refine lv_iload_n hx hb d_Md_takeBetween_15 rfl (lv_at hl 2 rfl) ?_
    refine lv_icmp_lt (tgt := 25) hx hb d_Md_takeBetween_16 (by decide) (fun c_16 => ?_) (fun c_16 => ?_)
    · refine lv_aload_n hx hb d_Md_takeBetween_25 rfl (lv_at hl 1 rfl) ?_
      refine lv_iload_n hx hb d_Md_takeBetween_26 rfl (lv_at hl 4 rfl) ?_
      refine lv_aload_n hx hb d_Md_takeBetween_27 rfl (lv_at hl 1 rfl) ?_
      refine va_get (D := D) (ci := 6) (v := .int (nI a6)) (C := R_Md) (T := F_Md) (N := 44) hx hb hts (fun w h => List.mem_cons_of_mem _ (i_Md w h)) hown hE.1 hP 0 rfl rfl 2 (by decide) (hts _ (List.mem_cons_of_mem _ iw3_56)) (fun _ h9 => h9) rfl d_Md_takeBetween_28 ?_
      refine lv_iconst (v := 1) hx hb d_Md_takeBetween_31 (by decide) ?_
      refine lv_isub hx hb d_Md_takeBetween_32 ?_
      rw [show nI a6 - 1 = nI a from by rw [hbd6.2]; exact nI_pred a]
      have hbad : v6 < lo ∨ hi < v6 := by
        first
        | exact Or.inl ((nI_ltI (by omega) (by omega)).mp c_16)
        | exact Or.inr (Nat.lt_of_not_le (fun q => c_22 (nI_le q (by omega))))
      refine cV (As := [.int (nI wy), .int (nI a)]) (rest := []) (n := 2) (wc := [(m0, .inr (6, mF g K (nI a6, 0, p) e (nI np) B))]) (wr := [((g 0), .inl (cA 3, 2000, .inl fd)), ((g 10), .inl (cA 3, 4, .inl pe))]) ⟨hx, hb, hml, hown, hts⟩ hno hlocks hl.1 (c_Md_stop l hl9 D cA ad H.size m0 g K e (nI np) B (nI a6) p (nI wy) (nI a)) iw3_216 iw3_218 sel_Md_stop iw1_7 iw3_219 (by decide +kernel) rfl ⟨Nat.le_of_ble_eq_true rfl, Nat.le_of_ble_eq_true rfl⟩ ⟨Nat.le_of_ble_eq_true rfl, Nat.le_of_ble_eq_true rfl⟩ rfl (Nat.le_of_ble_eq_true rfl) d_Md_takeBetween_33 hE hP hD hS hA [0] [1, 2] rfl rfl rfl rfl (by decide) (ci := 6) rfl rfl 0 rfl (fun _ h => h.elim) (fun v_33 u_33 H locs hp_33 hP hD hS => ?_)
      obtain rfl := hp_33
      have hP : va_P D cls [(m0, .inr (6, mF g K (nI a6, nI wy, nI a) e (nI np) B)), ((g 0), .inl (cA 3, 2000, .inl fd)), ((g 10), .inl (cA 3, 4, .inl pe))] H := hP.sub [2, 0, 1] rfl
      have hD : va_D A [(m0, .inr (6, mF g K (nI a6, nI wy, nI a) e (nI np) B)), ((g 0), .inl (cA 3, 2000, .inl fd)), ((g 10), .inl (cA 3, 4, .inl pe))] := hD.sub [2, 0, 1] (by decide) rfl
      refine W.cs (cells' := 0) (slots' := 0) rfl rfl ?_
      refine W.eq (g2 := F0 m 36 ls []) rfl ?_
      refine lv_iload hx hb d_Md_takeBetween_36 (lv_at hl 0 rfl) ?_
      exact cRi ((nI a6, nI wy, nI a) : A3) hx hb hr hlocks d_Md_takeBetween_38 hS hP hD (Or.inl ⟨wy, a, pBt_F hr6 hbad, hwy, rfl, ⟨_, rfl⟩, a6, by omega, rfl⟩) (Nat.le_refl _) (Nat.le_refl _)
    · refine lv_iload hx hb d_Md_takeBetween_19 (lv_at hl 0 rfl) ?_
      refine lv_iload_n hx hb d_Md_takeBetween_21 rfl (lv_at hl 3 rfl) ?_
      refine lv_icmp_le (tgt := 36) hx hb d_Md_takeBetween_22 (by decide) (fun c_22 => ?_) (fun c_22 => ?_)
      · refine lv_iload hx hb d_Md_takeBetween_36 (lv_at hl 0 rfl) ?_
        have hok : ¬ (v6 < lo ∨ hi < v6) := fun q => q.elim (fun q => c_16 (nI_lt q (by omega))) (fun q => absurd ((nI_leI (by omega) (by omega)).mp c_22) (by omega))
        exact cRi ((nI a6, 0, p) : A3) hx hb hr hlocks d_Md_takeBetween_38 hS hP hD (Or.inr ⟨v6, a6, pBt_E hr6 hok, rfl, rfl⟩) (Nat.le_refl _) (Nat.le_refl _)
      · refine lv_aload_n hx hb d_Md_takeBetween_25 rfl (lv_at hl 1 rfl) ?_
        refine lv_iload_n hx hb d_Md_takeBetween_26 rfl (lv_at hl 4 rfl) ?_
        refine lv_aload_n hx hb d_Md_takeBetween_27 rfl (lv_at hl 1 rfl) ?_
        refine va_get (D := D) (ci := 6) (v := .int (nI a6)) (C := R_Md) (T := F_Md) (N := 44) hx hb hts (fun w h => List.mem_cons_of_mem _ (i_Md w h)) hown hE.1 hP 0 rfl rfl 2 (by decide) (hts _ (List.mem_cons_of_mem _ iw3_56)) (fun _ h9 => h9) rfl d_Md_takeBetween_28 ?_
        refine lv_iconst (v := 1) hx hb d_Md_takeBetween_31 (by decide) ?_
        refine lv_isub hx hb d_Md_takeBetween_32 ?_
        rw [show nI a6 - 1 = nI a from by rw [hbd6.2]; exact nI_pred a]
        have hbad : v6 < lo ∨ hi < v6 := by
          first
          | exact Or.inl ((nI_ltI (by omega) (by omega)).mp c_16)
          | exact Or.inr (Nat.lt_of_not_le (fun q => c_22 (nI_le q (by omega))))
        refine cV (As := [.int (nI wy), .int (nI a)]) (rest := []) (n := 2) (wc := [(m0, .inr (6, mF g K (nI a6, 0, p) e (nI np) B))]) (wr := [((g 0), .inl (cA 3, 2000, .inl fd)), ((g 10), .inl (cA 3, 4, .inl pe))]) ⟨hx, hb, hml, hown, hts⟩ hno hlocks hl.1 (c_Md_stop l hl9 D cA ad H.size m0 g K e (nI np) B (nI a6) p (nI wy) (nI a)) iw3_216 iw3_218 sel_Md_stop iw1_7 iw3_219 (by decide +kernel) rfl ⟨Nat.le_of_ble_eq_true rfl, Nat.le_of_ble_eq_true rfl⟩ ⟨Nat.le_of_ble_eq_true rfl, Nat.le_of_ble_eq_true rfl⟩ rfl (Nat.le_of_ble_eq_true rfl) d_Md_takeBetween_33 hE hP hD hS hA [0] [1, 2] rfl rfl rfl rfl (by decide) (ci := 6) rfl rfl 0 rfl (fun _ h => h.elim) (fun v_33 u_33 H locs hp_33 hP hD hS => ?_)
        obtain rfl := hp_33
        have hP : va_P D cls [(m0, .inr (6, mF g K (nI a6, nI wy, nI a) e (nI np) B)), ((g 0), .inl (cA 3, 2000, .inl fd)), ((g 10), .inl (cA 3, 4, .inl pe))] H := hP.sub [2, 0, 1] rfl
        have hD : va_D A [(m0, .inr (6, mF g K (nI a6, nI wy, nI a) e (nI np) B)), ((g 0), .inl (cA 3, 2000, .inl fd)), ((g 10), .inl (cA 3, 4, .inl pe))] := hD.sub [2, 0, 1] (by decide) rfl
        refine W.cs (cells' := 0) (slots' := 0) rfl rfl ?_
        refine W.eq (g2 := F0 m 36 ls []) rfl ?_
        refine lv_iload hx hb d_Md_takeBetween_36 (lv_at hl 0 rfl) ?_
        exact cRi ((nI a6, nI wy, nI a) : A3) hx hb hr hlocks d_Md_takeBetween_38 hS hP hD (Or.inl ⟨wy, a, pBt_F hr6 hbad, hwy, rfl, ⟨_, rfl⟩, a6, by omega, rfl⟩) (Nat.le_refl _) (Nat.le_refl _)
set_option maxHeartbeats 4000000 in
set_option maxRecDepth 100000 in
/-- takeBetween after a fault -/
theorem c_Md_takeBetweenF (l : Launch) (hl9 : l.stackTraces = false) (D : va_G) (cA : Nat → ClassId) (ad : Nat → Nat) (sz : Nat) (m0 : Nat) (g : Nat → Nat) (K : MK) (e : Int32) (np : Nat) (B : MB) (fd pe : Nat → Int32) (hnp : 1 ≤ np ∧ np ≤ 4) (x ff p : Int32) (hf : ¬ ff = 0 ∧ ¬ ff ≤ 0) (lo hi wy : Int32) :
    cM l y_Md_takeBetween (.code y_Md_takeBetween b_Md_takeBetween 5 (some .int) :: wAll) ({ frames := 2, cells := 0, slots := 0, locals := 42 }) D cA ad [.ref m0, .int lo, .int hi, .int wy] [(m0, .inr (6, mF g K (x, ff, p) e (nI np) B)), ((g 0), .inl (cA 3, 2000, .inl fd)), ((g 10), .inl (cA 3, 4, .inl pe))] sz (fun v (_ : Unit) => ∃ w : Int32, v = some (.int w)) (fun _ => False) (fun _ => [(m0, .inr (6, mF g K (x, ff, p) e (nI np) B)), ((g 0), .inl (cA 3, 2000, .inl fd)), ((g 10), .inl (cA 3, 4, .inl pe))]) (fun _ => (0, 0)) := by
  refine cM.ofW (cc := b_Md_takeBetween) (maxL := 5) (ret := (some .int)) (by decide) (Nat.le_of_ble_eq_true rfl) ?_
  intro pg ev s m bw meth cdx A ls hF hsz hA hE hP hD hl
  obtain ⟨⟨hx, hb, hml, hown, hts⟩, hr, hno, hlocks, hin⟩ := hF
  subst hsz
  have hown : s.vm.findClass "ModuleBytesModel" = some m.cls := hown
  have hS : va_S A s.heap s.heap [] := va_S.rf
  have hl : lv_has ls 5 [(0, .ref m0), (1, .int lo), (2, .int hi), (3, .int wy)] := hl
  have hP : va_P D cls [(m0, .inr (6, mF g K (x, ff, p) e (nI np) B)), ((g 0), .inl (cA 3, 2000, .inl fd)), ((g 10), .inl (cA 3, 4, .inl pe))] s.heap := hP
  have hD : va_D A [(m0, .inr (6, mF g K (x, ff, p) e (nI np) B)), ((g 0), .inl (cA 3, 2000, .inl fd)), ((g 10), .inl (cA 3, 4, .inl pe))] := hD
  refine lv_aload_n hx hb d_Md_takeBetween_0 rfl (lv_at hl 0 rfl) ?_
  refine cV (As := []) (rest := []) (n := 0) (wc := [(m0, .inr (6, mF g K (x, ff, p) e (nI np) B)), ((g 0), .inl (cA 3, 2000, .inl fd)), ((g 10), .inl (cA 3, 4, .inl pe))]) (wr := []) ⟨hx, hb, hml, hown, hts⟩ hno hlocks hl.1 (c_Md_takeF l hl9 D cA ad s.heap.size m0 g K e np B fd pe hnp x ff p hf ) iw3_212 iw3_214 sel_Md_take iw1_7 iw3_215 (by decide +kernel) rfl ⟨Nat.le_of_ble_eq_true rfl, Nat.le_of_ble_eq_true rfl⟩ ⟨Nat.le_of_ble_eq_true rfl, Nat.le_of_ble_eq_true rfl⟩ rfl (Nat.le_of_ble_eq_true rfl) d_Md_takeBetween_1 hE hP hD hS hA [0, 1, 2] [] rfl rfl rfl rfl (by decide) (ci := 6) rfl rfl 0 rfl (fun _ h => h.elim) (fun v_1 u_1 H locs hp_1 hP hD hS => ?_)
  obtain rfl := hp_1
  have hP : va_P D cls [(m0, .inr (6, mF g K (x, ff, p) e (nI np) B)), ((g 0), .inl (cA 3, 2000, .inl fd)), ((g 10), .inl (cA 3, 4, .inl pe))] H := hP
  have hD : va_D A [(m0, .inr (6, mF g K (x, ff, p) e (nI np) B)), ((g 0), .inl (cA 3, 2000, .inl fd)), ((g 10), .inl (cA 3, 4, .inl pe))] := hD
  refine W.cs (cells' := 0) (slots' := 0) rfl rfl ?_
  refine W.eq (g2 := F0 m 4 ls [.int 0]) rfl ?_
  refine lv_istore (lv' := [(4, .int 0), (0, .ref m0), (1, .int lo), (2, .int hi), (3, .int wy)]) hx hb d_Md_takeBetween_4 hl (by decide) rfl (fun ls hl => ?_)
  refine lv_aload_n hx hb d_Md_takeBetween_6 rfl (lv_at hl 1 rfl) ?_
  refine va_get (D := D) (ci := 6) (v := .int ff) (C := R_Md) (T := F_Md) (N := 44) hx hb hts (fun w h => List.mem_cons_of_mem _ (i_Md w h)) hown hE.1 hP 0 rfl rfl 3 (by decide) (hts _ (List.mem_cons_of_mem _ iw3_57)) (fun _ h9 => h9) rfl d_Md_takeBetween_7 ?_
  refine lv_if_ne (tgt := 36) hx hb d_Md_takeBetween_10 (by decide) (fun c_10 => ?_) (fun c_10 => absurd c_10 (hf.1))
  refine lv_iload hx hb d_Md_takeBetween_36 (lv_at hl 0 rfl) ?_
  exact cRi () hx hb hr hlocks d_Md_takeBetween_38 hS hP hD (⟨_, rfl⟩) (Nat.le_refl _) (Nat.le_refl _)
set_option maxHeartbeats 4000000 in
set_option maxRecDepth 100000 in
/-- takeType(0) -/
theorem c_Md_takeTypeV (l : Launch) (hl9 : l.stackTraces = false) (D : va_G) (cA : Nat → ClassId) (ad : Nat → Nat) (sz : Nat) (m0 : Nat) (g : Nat → Nat) (K : MK) (e : Int32) (np : Nat) (B : MB) (fd pe : Nat → Int32) (b : Nat → Nat) (N lm : Nat) (hnp : 1 ≤ np ∧ np ≤ 4) (hpe : pe (np - 1) = nI lm) (hlm : lm ≤ N) (hN : N ≤ 2000) (hfd : ∀ i, i < N → fd i = nI (b i)) (hb9 : ∀ i, b i < 256) (a : Nat) (p : Int32) (ha : a ≤ lm)  :
    cM l y_Md_takeType (.code y_Md_takeType b_Md_takeType 3 none :: wAll) ({ frames := 2, cells := 0, slots := 0, locals := 42 }) D cA ad [.ref m0, .int 0] [(m0, .inr (6, mF g K (nI a, 0, p) e (nI np) B)), ((g 0), .inl (cA 3, 2000, .inl fd)), ((g 10), .inl (cA 3, 4, .inl pe))] sz (oP (pType tVal b lm a) p fN vN) (fun _ => False) (fun (u : A3) => [(m0, .inr (6, mF g K u e (nI np) B)), ((g 0), .inl (cA 3, 2000, .inl fd)), ((g 10), .inl (cA 3, 4, .inl pe))]) (fun _ => (0, 0)) := by
  refine cM.ofW (cc := b_Md_takeType) (maxL := 3) (ret := none) (by decide) (Nat.le_of_ble_eq_true rfl) ?_
  intro pg ev s m bw meth cdx A ls hF hsz hA hE hP hD hl
  obtain ⟨⟨hx, hb, hml, hown, hts⟩, hr, hno, hlocks, hin⟩ := hF
  subst hsz
  have hown : s.vm.findClass "ModuleBytesModel" = some m.cls := hown
  have hS : va_S A s.heap s.heap [] := va_S.rf
  have hl : lv_has ls 3 [(0, .ref m0), (1, .int 0)] := hl
  have hP : va_P D cls [(m0, .inr (6, mF g K (nI a, 0, p) e (nI np) B)), ((g 0), .inl (cA 3, 2000, .inl fd)), ((g 10), .inl (cA 3, 4, .inl pe))] s.heap := hP
  have hD : va_D A [(m0, .inr (6, mF g K (nI a, 0, p) e (nI np) B)), ((g 0), .inl (cA 3, 2000, .inl fd)), ((g 10), .inl (cA 3, 4, .inl pe))] := hD
  refine lv_aload_n hx hb d_Md_takeType_0 rfl (lv_at hl 0 rfl) ?_
  refine cV (As := []) (rest := []) (n := 0) (wc := [(m0, .inr (6, mF g K (nI a, 0, p) e (nI np) B)), ((g 0), .inl (cA 3, 2000, .inl fd)), ((g 10), .inl (cA 3, 4, .inl pe))]) (wr := []) ⟨hx, hb, hml, hown, hts⟩ hno hlocks hl.1 (c_Md_take l hl9 D cA ad s.heap.size m0 g K e np B fd pe b N lm hnp hpe hlm hN hfd hb9 a p (by omega) ) iw3_212 iw3_214 sel_Md_take iw1_7 iw3_215 (by decide +kernel) rfl ⟨Nat.le_of_ble_eq_true rfl, Nat.le_of_ble_eq_true rfl⟩ ⟨Nat.le_of_ble_eq_true rfl, Nat.le_of_ble_eq_true rfl⟩ rfl (Nat.le_of_ble_eq_true rfl) d_Md_takeType_1 hE hP hD hS hA [0, 1, 2] [] rfl rfl rfl rfl (by decide) (ci := 6) rfl rfl 0 rfl (fun _ h => h.elim) (fun v_1 u_1 H locs hp_1 hP hD hS => ?_)
  rcases hp_1 with ⟨f8, q8, hr8, hf8, hB8, rfl, zz8, hzz8, hzx8⟩ | ⟨v8, a8, hr8, rfl, rfl⟩
  · obtain ⟨x8, y8, z8⟩ := u_1
    cases hB8
    have hzx8 : x8 = nI zz8 := hzx8
    subst hzx8
    have hP : va_P D cls [(m0, .inr (6, mF g K (nI zz8, nI f8, nI q8) e (nI np) B)), ((g 0), .inl (cA 3, 2000, .inl fd)), ((g 10), .inl (cA 3, 4, .inl pe))] H := hP
    have hD : va_D A [(m0, .inr (6, mF g K (nI zz8, nI f8, nI q8) e (nI np) B)), ((g 0), .inl (cA 3, 2000, .inl fd)), ((g 10), .inl (cA 3, 4, .inl pe))] := hD
    refine W.cs (cells' := 0) (slots' := 0) rfl rfl ?_
    refine W.eq (g2 := F0 m 4 ls [.int 0]) rfl ?_
    refine lv_istore_n (lv' := [(2, .int 0), (0, .ref m0), (1, .int 0)]) hx hb d_Md_takeType_4 rfl hl (by decide) rfl (fun ls hl => ?_)
    refine lv_aload_n hx hb d_Md_takeType_5 rfl (lv_at hl 1 rfl) ?_
    refine va_get (D := D) (ci := 6) (v := .int (nI f8)) (C := R_Md) (T := F_Md) (N := 44) hx hb hts (fun w h => List.mem_cons_of_mem _ (i_Md w h)) hown hE.1 hP 0 rfl rfl 3 (by decide) (hts _ (List.mem_cons_of_mem _ iw3_57)) (fun _ h9 => h9) rfl d_Md_takeType_6 ?_
    refine lv_if_ne (tgt := 45) hx hb d_Md_takeType_9 (by decide) (fun c_9 => ?_) (fun c_9 => absurd c_9 (hf8.n0))
    exact cRv ((nI zz8, nI f8, nI q8) : A3) hx hb hr hlocks d_Md_takeType_45 hS hP hD (Or.inl ⟨f8, q8, pType_T hr8, hf8, rfl, rfl, zz8, by omega, rfl⟩) (Nat.le_refl _) (Nat.le_refl _)
  · obtain ⟨hla8, hgt8, hv8, hbd8⟩ := (pNext_ok2 hr8 hb9)
    have hP : va_P D cls [(m0, .inr (6, mF g K (nI a8, 0, p) e (nI np) B)), ((g 0), .inl (cA 3, 2000, .inl fd)), ((g 10), .inl (cA 3, 4, .inl pe))] H := hP
    have hD : va_D A [(m0, .inr (6, mF g K (nI a8, 0, p) e (nI np) B)), ((g 0), .inl (cA 3, 2000, .inl fd)), ((g 10), .inl (cA 3, 4, .inl pe))] := hD
    refine W.cs (cells' := 0) (slots' := 0) rfl rfl ?_
    refine W.eq (g2 := F0 m 4 ls [.int (nI v8)]) rfl ?_
    refine lv_istore_n (lv' := [(2, .int (nI v8)), (0, .ref m0), (1, .int 0)]) hx hb d_Md_takeType_4 rfl hl (by decide) rfl (fun ls hl => ?_)
    refine lv_aload_n hx hb d_Md_takeType_5 rfl (lv_at hl 1 rfl) ?_
    refine va_get (D := D) (ci := 6) (v := .int 0) (C := R_Md) (T := F_Md) (N := 44) hx hb hts (fun w h => List.mem_cons_of_mem _ (i_Md w h)) hown hE.1 hP 0 rfl rfl 3 (by decide) (hts _ (List.mem_cons_of_mem _ iw3_57)) (fun _ h9 => h9) rfl d_Md_takeType_6 ?_
    refine lv_if_ne (tgt := 45) hx hb d_Md_takeType_9 (by decide) (fun c_9 => absurd (by decide) c_9) (fun c_9 => ?_)
    refine lv_iload_n hx hb d_Md_takeType_12 rfl (lv_at hl 2 rfl) ?_
    refine lv_if_eq (tgt := 26) hx hb d_Md_takeType_13 (by decide) (fun c_13 => ?_) (fun c_13 => absurd (by decide) c_13)
    refine lv_iload_n hx hb d_Md_takeType_26 rfl (lv_at hl 0 rfl) ?_
    refine cS0 (As := [.int (nI v8)]) (rest := []) (n := 1) (r := (zI (tVal v8))) ⟨hx, hb, hml, hown, hts⟩ hno hlocks hl.1 (c_Md_isValue l hl9 D cA ad H.size v8 hbd8.1) iw4_15 iw4_16 iw1_7 iw4_17 (by decide +kernel) rfl ⟨Nat.le_of_ble_eq_true rfl, Nat.le_of_ble_eq_true rfl⟩ ⟨Nat.le_of_ble_eq_true rfl, Nat.le_of_ble_eq_true rfl⟩ rfl (Nat.le_of_ble_eq_true rfl) d_Md_takeType_27 hE hP hD hS hA [0, 1, 2] rfl rfl (fun H locs hP hD hS => ?_)
    refine lv_if_ne (tgt := 45) hx hb d_Md_takeType_30 (by decide) (fun c_30 => ?_) (fun c_30 => ?_)
    · have hok : tVal v8 = true := zI_n0 c_30
      exact cRv ((nI a8, 0, p) : A3) hx hb hr hlocks d_Md_takeType_45 hS hP hD (Or.inr ⟨v8, a8, pType_E hr8 hok, rfl, rfl⟩) (Nat.le_refl _) (Nat.le_refl _)
    · refine lv_aload_n hx hb d_Md_takeType_33 rfl (lv_at hl 1 rfl) ?_
      refine lv_bipush (v := 8) hx hb d_Md_takeType_34 (by decide) ?_
      refine lv_aload_n hx hb d_Md_takeType_36 rfl (lv_at hl 1 rfl) ?_
      refine va_get (D := D) (ci := 6) (v := .int (nI a8)) (C := R_Md) (T := F_Md) (N := 44) hx hb hts (fun w h => List.mem_cons_of_mem _ (i_Md w h)) hown hE.1 hP 0 rfl rfl 2 (by decide) (hts _ (List.mem_cons_of_mem _ iw3_56)) (fun _ h9 => h9) rfl d_Md_takeType_37 ?_
      refine lv_iconst (v := 1) hx hb d_Md_takeType_40 (by decide) ?_
      refine lv_isub hx hb d_Md_takeType_41 ?_
      rw [show nI a8 - 1 = nI a from by rw [hbd8.2]; exact nI_pred a]
      refine cV (As := [.int 8, .int (nI a)]) (rest := []) (n := 2) (wc := [(m0, .inr (6, mF g K (nI a8, 0, p) e (nI np) B))]) (wr := [((g 0), .inl (cA 3, 2000, .inl fd)), ((g 10), .inl (cA 3, 4, .inl pe))]) ⟨hx, hb, hml, hown, hts⟩ hno hlocks hl.1 (c_Md_stop l hl9 D cA ad H.size m0 g K e (nI np) B (nI a8) p (8 : Int32) (nI a)) iw3_216 iw3_218 sel_Md_stop iw1_7 iw3_219 (by decide +kernel) rfl ⟨Nat.le_of_ble_eq_true rfl, Nat.le_of_ble_eq_true rfl⟩ ⟨Nat.le_of_ble_eq_true rfl, Nat.le_of_ble_eq_true rfl⟩ rfl (Nat.le_of_ble_eq_true rfl) d_Md_takeType_42 hE hP hD hS hA [0] [1, 2] rfl rfl rfl rfl (by decide) (ci := 6) rfl rfl 0 rfl (fun _ h => h.elim) (fun v_42 u_42 H locs hp_42 hP hD hS => ?_)
      obtain rfl := hp_42
      have hP : va_P D cls [(m0, .inr (6, mF g K (nI a8, 8, nI a) e (nI np) B)), ((g 0), .inl (cA 3, 2000, .inl fd)), ((g 10), .inl (cA 3, 4, .inl pe))] H := hP.sub [2, 0, 1] rfl
      have hD : va_D A [(m0, .inr (6, mF g K (nI a8, 8, nI a) e (nI np) B)), ((g 0), .inl (cA 3, 2000, .inl fd)), ((g 10), .inl (cA 3, 4, .inl pe))] := hD.sub [2, 0, 1] (by decide) rfl
      refine W.cs (cells' := 0) (slots' := 0) rfl rfl ?_
      refine W.eq (g2 := F0 m 45 ls []) rfl ?_
      have hbad : ¬ tVal v8 = true := fun q => by rw [q] at c_30; exact absurd c_30 (by decide)
      exact cRv ((nI a8, 8, nI a) : A3) hx hb hr hlocks d_Md_takeType_45 hS hP hD (Or.inl ⟨8, a, pType_F hr8 hbad, ⟨by decide, by decide⟩, rfl, rfl, a8, by omega, rfl⟩) (Nat.le_refl _) (Nat.le_refl _)
set_option maxHeartbeats 4000000 in
set_option maxRecDepth 100000 in
/-- takeType after a fault -/
theorem c_Md_takeTypeVF (l : Launch) (hl9 : l.stackTraces = false) (D : va_G) (cA : Nat → ClassId) (ad : Nat → Nat) (sz : Nat) (m0 : Nat) (g : Nat → Nat) (K : MK) (e : Int32) (np : Nat) (B : MB) (fd pe : Nat → Int32) (hnp : 1 ≤ np ∧ np ≤ 4) (x ff p : Int32) (hf : ¬ ff = 0 ∧ ¬ ff ≤ 0)  :
    cM l y_Md_takeType (.code y_Md_takeType b_Md_takeType 3 none :: wAll) ({ frames := 2, cells := 0, slots := 0, locals := 42 }) D cA ad [.ref m0, .int 0] [(m0, .inr (6, mF g K (x, ff, p) e (nI np) B)), ((g 0), .inl (cA 3, 2000, .inl fd)), ((g 10), .inl (cA 3, 4, .inl pe))] sz (fun v (_ : Unit) => v = none) (fun _ => False) (fun _ => [(m0, .inr (6, mF g K (x, ff, p) e (nI np) B)), ((g 0), .inl (cA 3, 2000, .inl fd)), ((g 10), .inl (cA 3, 4, .inl pe))]) (fun _ => (0, 0)) := by
  refine cM.ofW (cc := b_Md_takeType) (maxL := 3) (ret := none) (by decide) (Nat.le_of_ble_eq_true rfl) ?_
  intro pg ev s m bw meth cdx A ls hF hsz hA hE hP hD hl
  obtain ⟨⟨hx, hb, hml, hown, hts⟩, hr, hno, hlocks, hin⟩ := hF
  subst hsz
  have hown : s.vm.findClass "ModuleBytesModel" = some m.cls := hown
  have hS : va_S A s.heap s.heap [] := va_S.rf
  have hl : lv_has ls 3 [(0, .ref m0), (1, .int 0)] := hl
  have hP : va_P D cls [(m0, .inr (6, mF g K (x, ff, p) e (nI np) B)), ((g 0), .inl (cA 3, 2000, .inl fd)), ((g 10), .inl (cA 3, 4, .inl pe))] s.heap := hP
  have hD : va_D A [(m0, .inr (6, mF g K (x, ff, p) e (nI np) B)), ((g 0), .inl (cA 3, 2000, .inl fd)), ((g 10), .inl (cA 3, 4, .inl pe))] := hD
  refine lv_aload_n hx hb d_Md_takeType_0 rfl (lv_at hl 0 rfl) ?_
  refine cV (As := []) (rest := []) (n := 0) (wc := [(m0, .inr (6, mF g K (x, ff, p) e (nI np) B)), ((g 0), .inl (cA 3, 2000, .inl fd)), ((g 10), .inl (cA 3, 4, .inl pe))]) (wr := []) ⟨hx, hb, hml, hown, hts⟩ hno hlocks hl.1 (c_Md_takeF l hl9 D cA ad s.heap.size m0 g K e np B fd pe hnp x ff p hf ) iw3_212 iw3_214 sel_Md_take iw1_7 iw3_215 (by decide +kernel) rfl ⟨Nat.le_of_ble_eq_true rfl, Nat.le_of_ble_eq_true rfl⟩ ⟨Nat.le_of_ble_eq_true rfl, Nat.le_of_ble_eq_true rfl⟩ rfl (Nat.le_of_ble_eq_true rfl) d_Md_takeType_1 hE hP hD hS hA [0, 1, 2] [] rfl rfl rfl rfl (by decide) (ci := 6) rfl rfl 0 rfl (fun _ h => h.elim) (fun v_1 u_1 H locs hp_1 hP hD hS => ?_)
  obtain rfl := hp_1
  have hP : va_P D cls [(m0, .inr (6, mF g K (x, ff, p) e (nI np) B)), ((g 0), .inl (cA 3, 2000, .inl fd)), ((g 10), .inl (cA 3, 4, .inl pe))] H := hP
  have hD : va_D A [(m0, .inr (6, mF g K (x, ff, p) e (nI np) B)), ((g 0), .inl (cA 3, 2000, .inl fd)), ((g 10), .inl (cA 3, 4, .inl pe))] := hD
  refine W.cs (cells' := 0) (slots' := 0) rfl rfl ?_
  refine W.eq (g2 := F0 m 4 ls [.int 0]) rfl ?_
  refine lv_istore_n (lv' := [(2, .int 0), (0, .ref m0), (1, .int 0)]) hx hb d_Md_takeType_4 rfl hl (by decide) rfl (fun ls hl => ?_)
  refine lv_aload_n hx hb d_Md_takeType_5 rfl (lv_at hl 1 rfl) ?_
  refine va_get (D := D) (ci := 6) (v := .int ff) (C := R_Md) (T := F_Md) (N := 44) hx hb hts (fun w h => List.mem_cons_of_mem _ (i_Md w h)) hown hE.1 hP 0 rfl rfl 3 (by decide) (hts _ (List.mem_cons_of_mem _ iw3_57)) (fun _ h9 => h9) rfl d_Md_takeType_6 ?_
  refine lv_if_ne (tgt := 45) hx hb d_Md_takeType_9 (by decide) (fun c_9 => ?_) (fun c_9 => absurd c_9 (hf.1))
  exact cRv () hx hb hr hlocks d_Md_takeType_45 hS hP hD (rfl) (Nat.le_refl _) (Nat.le_refl _)
set_option maxHeartbeats 4000000 in
set_option maxRecDepth 100000 in
/-- takeType(1) -/
theorem c_Md_takeTypeR (l : Launch) (hl9 : l.stackTraces = false) (D : va_G) (cA : Nat → ClassId) (ad : Nat → Nat) (sz : Nat) (m0 : Nat) (g : Nat → Nat) (K : MK) (e : Int32) (np : Nat) (B : MB) (fd pe : Nat → Int32) (b : Nat → Nat) (N lm : Nat) (hnp : 1 ≤ np ∧ np ≤ 4) (hpe : pe (np - 1) = nI lm) (hlm : lm ≤ N) (hN : N ≤ 2000) (hfd : ∀ i, i < N → fd i = nI (b i)) (hb9 : ∀ i, b i < 256) (a : Nat) (p : Int32) (ha : a ≤ lm)  :
    cM l y_Md_takeType (.code y_Md_takeType b_Md_takeType 3 none :: wAll) ({ frames := 2, cells := 0, slots := 0, locals := 42 }) D cA ad [.ref m0, .int 1] [(m0, .inr (6, mF g K (nI a, 0, p) e (nI np) B)), ((g 0), .inl (cA 3, 2000, .inl fd)), ((g 10), .inl (cA 3, 4, .inl pe))] sz (oP (pType tRef b lm a) p fN vN) (fun _ => False) (fun (u : A3) => [(m0, .inr (6, mF g K u e (nI np) B)), ((g 0), .inl (cA 3, 2000, .inl fd)), ((g 10), .inl (cA 3, 4, .inl pe))]) (fun _ => (0, 0)) := by
  refine cM.ofW (cc := b_Md_takeType) (maxL := 3) (ret := none) (by decide) (Nat.le_of_ble_eq_true rfl) ?_
  intro pg ev s m bw meth cdx A ls hF hsz hA hE hP hD hl
  obtain ⟨⟨hx, hb, hml, hown, hts⟩, hr, hno, hlocks, hin⟩ := hF
  subst hsz
  have hown : s.vm.findClass "ModuleBytesModel" = some m.cls := hown
  have hS : va_S A s.heap s.heap [] := va_S.rf
  have hl : lv_has ls 3 [(0, .ref m0), (1, .int 1)] := hl
  have hP : va_P D cls [(m0, .inr (6, mF g K (nI a, 0, p) e (nI np) B)), ((g 0), .inl (cA 3, 2000, .inl fd)), ((g 10), .inl (cA 3, 4, .inl pe))] s.heap := hP
  have hD : va_D A [(m0, .inr (6, mF g K (nI a, 0, p) e (nI np) B)), ((g 0), .inl (cA 3, 2000, .inl fd)), ((g 10), .inl (cA 3, 4, .inl pe))] := hD
  refine lv_aload_n hx hb d_Md_takeType_0 rfl (lv_at hl 0 rfl) ?_
  refine cV (As := []) (rest := []) (n := 0) (wc := [(m0, .inr (6, mF g K (nI a, 0, p) e (nI np) B)), ((g 0), .inl (cA 3, 2000, .inl fd)), ((g 10), .inl (cA 3, 4, .inl pe))]) (wr := []) ⟨hx, hb, hml, hown, hts⟩ hno hlocks hl.1 (c_Md_take l hl9 D cA ad s.heap.size m0 g K e np B fd pe b N lm hnp hpe hlm hN hfd hb9 a p (by omega) ) iw3_212 iw3_214 sel_Md_take iw1_7 iw3_215 (by decide +kernel) rfl ⟨Nat.le_of_ble_eq_true rfl, Nat.le_of_ble_eq_true rfl⟩ ⟨Nat.le_of_ble_eq_true rfl, Nat.le_of_ble_eq_true rfl⟩ rfl (Nat.le_of_ble_eq_true rfl) d_Md_takeType_1 hE hP hD hS hA [0, 1, 2] [] rfl rfl rfl rfl (by decide) (ci := 6) rfl rfl 0 rfl (fun _ h => h.elim) (fun v_1 u_1 H locs hp_1 hP hD hS => ?_)
  rcases hp_1 with ⟨f10, q10, hr10, hf10, hB10, rfl, zz10, hzz10, hzx10⟩ | ⟨v10, a10, hr10, rfl, rfl⟩
  · obtain ⟨x10, y10, z10⟩ := u_1
    cases hB10
    have hzx10 : x10 = nI zz10 := hzx10
    subst hzx10
    have hP : va_P D cls [(m0, .inr (6, mF g K (nI zz10, nI f10, nI q10) e (nI np) B)), ((g 0), .inl (cA 3, 2000, .inl fd)), ((g 10), .inl (cA 3, 4, .inl pe))] H := hP
    have hD : va_D A [(m0, .inr (6, mF g K (nI zz10, nI f10, nI q10) e (nI np) B)), ((g 0), .inl (cA 3, 2000, .inl fd)), ((g 10), .inl (cA 3, 4, .inl pe))] := hD
    refine W.cs (cells' := 0) (slots' := 0) rfl rfl ?_
    refine W.eq (g2 := F0 m 4 ls [.int 0]) rfl ?_
    refine lv_istore_n (lv' := [(2, .int 0), (0, .ref m0), (1, .int 1)]) hx hb d_Md_takeType_4 rfl hl (by decide) rfl (fun ls hl => ?_)
    refine lv_aload_n hx hb d_Md_takeType_5 rfl (lv_at hl 1 rfl) ?_
    refine va_get (D := D) (ci := 6) (v := .int (nI f10)) (C := R_Md) (T := F_Md) (N := 44) hx hb hts (fun w h => List.mem_cons_of_mem _ (i_Md w h)) hown hE.1 hP 0 rfl rfl 3 (by decide) (hts _ (List.mem_cons_of_mem _ iw3_57)) (fun _ h9 => h9) rfl d_Md_takeType_6 ?_
    refine lv_if_ne (tgt := 45) hx hb d_Md_takeType_9 (by decide) (fun c_9 => ?_) (fun c_9 => absurd c_9 (hf10.n0))
    exact cRv ((nI zz10, nI f10, nI q10) : A3) hx hb hr hlocks d_Md_takeType_45 hS hP hD (Or.inl ⟨f10, q10, pType_T hr10, hf10, rfl, rfl, zz10, by omega, rfl⟩) (Nat.le_refl _) (Nat.le_refl _)
  · obtain ⟨hla10, hgt10, hv10, hbd10⟩ := (pNext_ok2 hr10 hb9)
    have hP : va_P D cls [(m0, .inr (6, mF g K (nI a10, 0, p) e (nI np) B)), ((g 0), .inl (cA 3, 2000, .inl fd)), ((g 10), .inl (cA 3, 4, .inl pe))] H := hP
    have hD : va_D A [(m0, .inr (6, mF g K (nI a10, 0, p) e (nI np) B)), ((g 0), .inl (cA 3, 2000, .inl fd)), ((g 10), .inl (cA 3, 4, .inl pe))] := hD
    refine W.cs (cells' := 0) (slots' := 0) rfl rfl ?_
    refine W.eq (g2 := F0 m 4 ls [.int (nI v10)]) rfl ?_
    refine lv_istore_n (lv' := [(2, .int (nI v10)), (0, .ref m0), (1, .int 1)]) hx hb d_Md_takeType_4 rfl hl (by decide) rfl (fun ls hl => ?_)
    refine lv_aload_n hx hb d_Md_takeType_5 rfl (lv_at hl 1 rfl) ?_
    refine va_get (D := D) (ci := 6) (v := .int 0) (C := R_Md) (T := F_Md) (N := 44) hx hb hts (fun w h => List.mem_cons_of_mem _ (i_Md w h)) hown hE.1 hP 0 rfl rfl 3 (by decide) (hts _ (List.mem_cons_of_mem _ iw3_57)) (fun _ h9 => h9) rfl d_Md_takeType_6 ?_
    refine lv_if_ne (tgt := 45) hx hb d_Md_takeType_9 (by decide) (fun c_9 => absurd (by decide) c_9) (fun c_9 => ?_)
    refine lv_iload_n hx hb d_Md_takeType_12 rfl (lv_at hl 2 rfl) ?_
    refine lv_if_eq (tgt := 26) hx hb d_Md_takeType_13 (by decide) (fun c_13 => absurd c_13 (by decide)) (fun c_13 => ?_)
    refine lv_iload_n hx hb d_Md_takeType_16 rfl (lv_at hl 0 rfl) ?_
    refine cS0 (As := [.int (nI v10)]) (rest := []) (n := 1) (r := (zI (tRef v10))) ⟨hx, hb, hml, hown, hts⟩ hno hlocks hl.1 (c_Md_isReference l hl9 D cA ad H.size v10 hbd10.1) iw4_12 iw4_13 iw1_7 iw4_14 (by decide +kernel) rfl ⟨Nat.le_of_ble_eq_true rfl, Nat.le_of_ble_eq_true rfl⟩ ⟨Nat.le_of_ble_eq_true rfl, Nat.le_of_ble_eq_true rfl⟩ rfl (Nat.le_of_ble_eq_true rfl) d_Md_takeType_17 hE hP hD hS hA [0, 1, 2] rfl rfl (fun H locs hP hD hS => ?_)
    refine lv_if_eq (tgt := 33) hx hb d_Md_takeType_20 (by decide) (fun c_20 => ?_) (fun c_20 => ?_)
    · refine lv_aload_n hx hb d_Md_takeType_33 rfl (lv_at hl 1 rfl) ?_
      refine lv_bipush (v := 8) hx hb d_Md_takeType_34 (by decide) ?_
      refine lv_aload_n hx hb d_Md_takeType_36 rfl (lv_at hl 1 rfl) ?_
      refine va_get (D := D) (ci := 6) (v := .int (nI a10)) (C := R_Md) (T := F_Md) (N := 44) hx hb hts (fun w h => List.mem_cons_of_mem _ (i_Md w h)) hown hE.1 hP 0 rfl rfl 2 (by decide) (hts _ (List.mem_cons_of_mem _ iw3_56)) (fun _ h9 => h9) rfl d_Md_takeType_37 ?_
      refine lv_iconst (v := 1) hx hb d_Md_takeType_40 (by decide) ?_
      refine lv_isub hx hb d_Md_takeType_41 ?_
      rw [show nI a10 - 1 = nI a from by rw [hbd10.2]; exact nI_pred a]
      refine cV (As := [.int 8, .int (nI a)]) (rest := []) (n := 2) (wc := [(m0, .inr (6, mF g K (nI a10, 0, p) e (nI np) B))]) (wr := [((g 0), .inl (cA 3, 2000, .inl fd)), ((g 10), .inl (cA 3, 4, .inl pe))]) ⟨hx, hb, hml, hown, hts⟩ hno hlocks hl.1 (c_Md_stop l hl9 D cA ad H.size m0 g K e (nI np) B (nI a10) p (8 : Int32) (nI a)) iw3_216 iw3_218 sel_Md_stop iw1_7 iw3_219 (by decide +kernel) rfl ⟨Nat.le_of_ble_eq_true rfl, Nat.le_of_ble_eq_true rfl⟩ ⟨Nat.le_of_ble_eq_true rfl, Nat.le_of_ble_eq_true rfl⟩ rfl (Nat.le_of_ble_eq_true rfl) d_Md_takeType_42 hE hP hD hS hA [0] [1, 2] rfl rfl rfl rfl (by decide) (ci := 6) rfl rfl 0 rfl (fun _ h => h.elim) (fun v_42 u_42 H locs hp_42 hP hD hS => ?_)
      obtain rfl := hp_42
      have hP : va_P D cls [(m0, .inr (6, mF g K (nI a10, 8, nI a) e (nI np) B)), ((g 0), .inl (cA 3, 2000, .inl fd)), ((g 10), .inl (cA 3, 4, .inl pe))] H := hP.sub [2, 0, 1] rfl
      have hD : va_D A [(m0, .inr (6, mF g K (nI a10, 8, nI a) e (nI np) B)), ((g 0), .inl (cA 3, 2000, .inl fd)), ((g 10), .inl (cA 3, 4, .inl pe))] := hD.sub [2, 0, 1] (by decide) rfl
      refine W.cs (cells' := 0) (slots' := 0) rfl rfl ?_
      refine W.eq (g2 := F0 m 45 ls []) rfl ?_
      have hbad : ¬ tRef v10 = true := fun q => by rw [q] at c_20; exact absurd c_20 (by decide)
      exact cRv ((nI a10, 8, nI a) : A3) hx hb hr hlocks d_Md_takeType_45 hS hP hD (Or.inl ⟨8, a, pType_F hr10 hbad, ⟨by decide, by decide⟩, rfl, rfl, a10, by omega, rfl⟩) (Nat.le_refl _) (Nat.le_refl _)
    · refine lv_goto (tgt := 45) hx hb d_Md_takeType_23 (by decide) ?_
      have hok : tRef v10 = true := zI_n0 c_20
      exact cRv ((nI a10, 0, p) : A3) hx hb hr hlocks d_Md_takeType_45 hS hP hD (Or.inr ⟨v10, a10, pType_E hr10 hok, rfl, rfl⟩) (Nat.le_refl _) (Nat.le_refl _)
set_option maxHeartbeats 4000000 in
set_option maxRecDepth 100000 in
/-- takeType after a fault -/
theorem c_Md_takeTypeRF (l : Launch) (hl9 : l.stackTraces = false) (D : va_G) (cA : Nat → ClassId) (ad : Nat → Nat) (sz : Nat) (m0 : Nat) (g : Nat → Nat) (K : MK) (e : Int32) (np : Nat) (B : MB) (fd pe : Nat → Int32) (hnp : 1 ≤ np ∧ np ≤ 4) (x ff p : Int32) (hf : ¬ ff = 0 ∧ ¬ ff ≤ 0)  :
    cM l y_Md_takeType (.code y_Md_takeType b_Md_takeType 3 none :: wAll) ({ frames := 2, cells := 0, slots := 0, locals := 42 }) D cA ad [.ref m0, .int 1] [(m0, .inr (6, mF g K (x, ff, p) e (nI np) B)), ((g 0), .inl (cA 3, 2000, .inl fd)), ((g 10), .inl (cA 3, 4, .inl pe))] sz (fun v (_ : Unit) => v = none) (fun _ => False) (fun _ => [(m0, .inr (6, mF g K (x, ff, p) e (nI np) B)), ((g 0), .inl (cA 3, 2000, .inl fd)), ((g 10), .inl (cA 3, 4, .inl pe))]) (fun _ => (0, 0)) := by
  refine cM.ofW (cc := b_Md_takeType) (maxL := 3) (ret := none) (by decide) (Nat.le_of_ble_eq_true rfl) ?_
  intro pg ev s m bw meth cdx A ls hF hsz hA hE hP hD hl
  obtain ⟨⟨hx, hb, hml, hown, hts⟩, hr, hno, hlocks, hin⟩ := hF
  subst hsz
  have hown : s.vm.findClass "ModuleBytesModel" = some m.cls := hown
  have hS : va_S A s.heap s.heap [] := va_S.rf
  have hl : lv_has ls 3 [(0, .ref m0), (1, .int 1)] := hl
  have hP : va_P D cls [(m0, .inr (6, mF g K (x, ff, p) e (nI np) B)), ((g 0), .inl (cA 3, 2000, .inl fd)), ((g 10), .inl (cA 3, 4, .inl pe))] s.heap := hP
  have hD : va_D A [(m0, .inr (6, mF g K (x, ff, p) e (nI np) B)), ((g 0), .inl (cA 3, 2000, .inl fd)), ((g 10), .inl (cA 3, 4, .inl pe))] := hD
  refine lv_aload_n hx hb d_Md_takeType_0 rfl (lv_at hl 0 rfl) ?_
  refine cV (As := []) (rest := []) (n := 0) (wc := [(m0, .inr (6, mF g K (x, ff, p) e (nI np) B)), ((g 0), .inl (cA 3, 2000, .inl fd)), ((g 10), .inl (cA 3, 4, .inl pe))]) (wr := []) ⟨hx, hb, hml, hown, hts⟩ hno hlocks hl.1 (c_Md_takeF l hl9 D cA ad s.heap.size m0 g K e np B fd pe hnp x ff p hf ) iw3_212 iw3_214 sel_Md_take iw1_7 iw3_215 (by decide +kernel) rfl ⟨Nat.le_of_ble_eq_true rfl, Nat.le_of_ble_eq_true rfl⟩ ⟨Nat.le_of_ble_eq_true rfl, Nat.le_of_ble_eq_true rfl⟩ rfl (Nat.le_of_ble_eq_true rfl) d_Md_takeType_1 hE hP hD hS hA [0, 1, 2] [] rfl rfl rfl rfl (by decide) (ci := 6) rfl rfl 0 rfl (fun _ h => h.elim) (fun v_1 u_1 H locs hp_1 hP hD hS => ?_)
  obtain rfl := hp_1
  have hP : va_P D cls [(m0, .inr (6, mF g K (x, ff, p) e (nI np) B)), ((g 0), .inl (cA 3, 2000, .inl fd)), ((g 10), .inl (cA 3, 4, .inl pe))] H := hP
  have hD : va_D A [(m0, .inr (6, mF g K (x, ff, p) e (nI np) B)), ((g 0), .inl (cA 3, 2000, .inl fd)), ((g 10), .inl (cA 3, 4, .inl pe))] := hD
  refine W.cs (cells' := 0) (slots' := 0) rfl rfl ?_
  refine W.eq (g2 := F0 m 4 ls [.int 0]) rfl ?_
  refine lv_istore_n (lv' := [(2, .int 0), (0, .ref m0), (1, .int 1)]) hx hb d_Md_takeType_4 rfl hl (by decide) rfl (fun ls hl => ?_)
  refine lv_aload_n hx hb d_Md_takeType_5 rfl (lv_at hl 1 rfl) ?_
  refine va_get (D := D) (ci := 6) (v := .int ff) (C := R_Md) (T := F_Md) (N := 44) hx hb hts (fun w h => List.mem_cons_of_mem _ (i_Md w h)) hown hE.1 hP 0 rfl rfl 3 (by decide) (hts _ (List.mem_cons_of_mem _ iw3_57)) (fun _ h9 => h9) rfl d_Md_takeType_6 ?_
  refine lv_if_ne (tgt := 45) hx hb d_Md_takeType_9 (by decide) (fun c_9 => ?_) (fun c_9 => absurd c_9 (hf.1))
  exact cRv () hx hb hr hlocks d_Md_takeType_45 hS hP hD (rfl) (Nat.le_refl _) (Nat.le_refl _)
set_option maxHeartbeats 4000000 in
set_option maxRecDepth 100000 in
/-- skip(n) -/
theorem c_Md_skip (l : Launch) (hl9 : l.stackTraces = false) (D : va_G) (cA : Nat → ClassId) (ad : Nat → Nat) (sz : Nat) (m0 : Nat) (g : Nat → Nat) (K : MK) (e : Int32) (np : Nat) (B : MB) (fd pe : Nat → Int32) (b : Nat → Nat) (N lm : Nat) (hnp : 1 ≤ np ∧ np ≤ 4) (hpe : pe (np - 1) = nI lm) (hlm : lm ≤ N) (hN : N ≤ 2000) (hfd : ∀ i, i < N → fd i = nI (b i)) (hb9 : ∀ i, b i < 256) (a : Nat) (p : Int32) (ha : a ≤ lm) (n : Nat) (hn9 : n < 4294967296) :
    cM l y_Md_skip (.code y_Md_skip b_Md_skip 5 none :: wAll) ({ frames := 1, cells := 0, slots := 0, locals := 22 }) D cA ad [.ref m0, .long (lN n)] [(m0, .inr (6, mF g K (nI a, 0, p) e (nI np) B)), ((g 0), .inl (cA 3, 2000, .inl fd)), ((g 10), .inl (cA 3, 4, .inl pe))] sz (oP (pSkip lm n a) p fN vN) (fun _ => False) (fun (u : A3) => [(m0, .inr (6, mF g K u e (nI np) B)), ((g 0), .inl (cA 3, 2000, .inl fd)), ((g 10), .inl (cA 3, 4, .inl pe))]) (fun _ => (0, 0)) := by
  refine cM.ofW (cc := b_Md_skip) (maxL := 5) (ret := none) (by decide) (Nat.le_of_ble_eq_true rfl) ?_
  intro pg ev s m bw meth cdx A ls hF hsz hA hE hP hD hl
  obtain ⟨⟨hx, hb, hml, hown, hts⟩, hr, hno, hlocks, hin⟩ := hF
  subst hsz
  have hown : s.vm.findClass "ModuleBytesModel" = some m.cls := hown
  have hS : va_S A s.heap s.heap [] := va_S.rf
  have hl : lv_has ls 5 [(0, .ref m0), (1, .long (lN n))] := hl
  have hP : va_P D cls [(m0, .inr (6, mF g K (nI a, 0, p) e (nI np) B)), ((g 0), .inl (cA 3, 2000, .inl fd)), ((g 10), .inl (cA 3, 4, .inl pe))] s.heap := hP
  have hD : va_D A [(m0, .inr (6, mF g K (nI a, 0, p) e (nI np) B)), ((g 0), .inl (cA 3, 2000, .inl fd)), ((g 10), .inl (cA 3, 4, .inl pe))] := hD
  refine lv_aload_n hx hb d_Md_skip_0 rfl (lv_at hl 0 rfl) ?_
  refine va_get (D := D) (ci := 6) (v := .ref (g 10)) (C := R_Md) (T := F_Md) (N := 44) hx hb hts (fun w h => List.mem_cons_of_mem _ (i_Md w h)) hown hE.1 hP 0 rfl rfl 10 (by decide) (hts _ (List.mem_cons_of_mem _ iw3_64)) (fun _ h9 => h9) rfl d_Md_skip_1 ?_
  refine lv_aload_n hx hb d_Md_skip_4 rfl (lv_at hl 0 rfl) ?_
  refine va_get (D := D) (ci := 6) (v := .int (nI np)) (C := R_Md) (T := F_Md) (N := 44) hx hb hts (fun w h => List.mem_cons_of_mem _ (i_Md w h)) hown hE.1 hP 0 rfl rfl 9 (by decide) (hts _ (List.mem_cons_of_mem _ iw3_63)) (fun _ h9 => h9) rfl d_Md_skip_5 ?_
  refine lv_iconst (v := 1) hx hb d_Md_skip_8 (by decide) ?_
  refine lv_isub hx hb d_Md_skip_9 ?_
  rw [np1 hnp]
  refine va_iald hx hb hE.1 hP 2 3 rfl rfl (vp_in_nI (by omega) (by omega)) d_Md_skip_10 ?_
  rw [nI_clamp (n := np - 1) (by omega), hpe]
  refine lv_aload_n hx hb d_Md_skip_11 rfl (lv_at hl 0 rfl) ?_
  refine va_get (D := D) (ci := 6) (v := .int (nI a)) (C := R_Md) (T := F_Md) (N := 44) hx hb hts (fun w h => List.mem_cons_of_mem _ (i_Md w h)) hown hE.1 hP 0 rfl rfl 2 (by decide) (hts _ (List.mem_cons_of_mem _ iw3_56)) (fun _ h9 => h9) rfl d_Md_skip_12 ?_
  refine lv_isub hx hb d_Md_skip_15 ?_
  refine lv_i2l hx hb d_Md_skip_16 rfl ?_
  rw [pk_sub ha, nI_l (n := lm - a) (by omega)]
  refine lv_lstore_n (lv' := [(3, .long (lN (lm - a))), (0, .ref m0), (1, .long (lN n))]) hx hb d_Md_skip_17 rfl hl (by decide) rfl (fun ls hl => ?_)
  refine lv_lload_n hx hb d_Md_skip_18 rfl (lv_at hl 2 rfl) ?_
  refine lv_lload_n hx hb d_Md_skip_19 rfl (lv_at hl 0 rfl) ?_
  refine W.lcmp hx hb d_Md_skip_20 ?_
  refine lv_if_le (tgt := 40) hx hb d_Md_skip_21 (by decide) (fun c_21 => ?_) (fun c_21 => ?_)
  · have hok : ¬ lm - a < n := Nat.not_lt.mpr ((pk_lLE (by omega) (by omega)).mp ((lg_cmp_le _ _).mp c_21))
    refine lv_aload_n hx hb d_Md_skip_40 rfl (lv_at hl 1 rfl) ?_
    refine lv_dup hx hb d_Md_skip_41 rfl ?_
    refine va_get (D := D) (ci := 6) (v := .int (nI a)) (C := R_Md) (T := F_Md) (N := 44) hx hb hts (fun w h => List.mem_cons_of_mem _ (i_Md w h)) hown hE.1 hP 0 rfl rfl 2 (by decide) (hts _ (List.mem_cons_of_mem _ iw3_56)) (fun _ h9 => h9) rfl d_Md_skip_42 ?_
    refine lv_aload_n hx hb d_Md_skip_45 rfl (lv_at hl 1 rfl) ?_
    refine va_get (D := D) (ci := 6) (v := .int 0) (C := R_Md) (T := F_Md) (N := 44) hx hb hts (fun w h => List.mem_cons_of_mem _ (i_Md w h)) hown hE.1 hP 0 rfl rfl 3 (by decide) (hts _ (List.mem_cons_of_mem _ iw3_57)) (fun _ h9 => h9) rfl d_Md_skip_46 ?_
    refine lv_if_le (tgt := 56) hx hb d_Md_skip_49 (by decide) (fun c_49 => ?_) (fun c_49 => absurd (by decide) c_49)
    refine lv_lload_n hx hb d_Md_skip_56 rfl (lv_at hl 2 rfl) ?_
    refine lv_l2i hx hb d_Md_skip_57 rfl ?_
    refine lv_iadd hx hb d_Md_skip_58 ?_
    rw [lN_i, nI_add]
    refine va_put (D := D) (ci := 6) (v := .int (nI (a + n))) (ty := .int) (C := R_Md) (T := F_Md) (N := 44) hx hb hts (fun w h => List.mem_cons_of_mem _ (i_Md w h)) t_Md tk_Md n_Md hown hE.1 hP hD hS 0 rfl rfl 2 (by decide) (hts _ (List.mem_cons_of_mem _ iw3_56)) (fun _ h9 => h9) rfl (by decide +kernel) rfl rfl (Nat.le_of_ble_eq_true rfl) d_Md_skip_59 (fun H locs hP hD hS => ?_)
    have hP : va_P D cls [(m0, .inr (6, mF g K (nI (a + n), 0, p) e (nI np) B)), ((g 0), .inl (cA 3, 2000, .inl fd)), ((g 10), .inl (cA 3, 4, .inl pe))] H := hP
    have hD : va_D A [(m0, .inr (6, mF g K (nI (a + n), 0, p) e (nI np) B)), ((g 0), .inl (cA 3, 2000, .inl fd)), ((g 10), .inl (cA 3, 4, .inl pe))] := hD
    exact cRv ((nI (a + n), 0, p) : A3) hx hb hr hlocks d_Md_skip_62 hS hP hD (Or.inr ⟨(), a + n, by rw [pSkip, if_neg hok], rfl, rfl⟩) (Nat.le_refl _) (Nat.le_refl _)
  · have hbad : lm - a < n := (pk_lLT (by omega) (by omega)).mp (Int64.not_le.mp (fun q => c_21 ((lg_cmp_le _ _).mpr q)))
    refine lv_aload_n hx hb d_Md_skip_24 rfl (lv_at hl 1 rfl) ?_
    refine lv_iconst (v := 1) hx hb d_Md_skip_25 (by decide) ?_
    refine lv_aload_n hx hb d_Md_skip_26 rfl (lv_at hl 1 rfl) ?_
    refine va_get (D := D) (ci := 6) (v := .ref (g 10)) (C := R_Md) (T := F_Md) (N := 44) hx hb hts (fun w h => List.mem_cons_of_mem _ (i_Md w h)) hown hE.1 hP 0 rfl rfl 10 (by decide) (hts _ (List.mem_cons_of_mem _ iw3_64)) (fun _ h9 => h9) rfl d_Md_skip_27 ?_
    refine lv_aload_n hx hb d_Md_skip_30 rfl (lv_at hl 1 rfl) ?_
    refine va_get (D := D) (ci := 6) (v := .int (nI np)) (C := R_Md) (T := F_Md) (N := 44) hx hb hts (fun w h => List.mem_cons_of_mem _ (i_Md w h)) hown hE.1 hP 0 rfl rfl 9 (by decide) (hts _ (List.mem_cons_of_mem _ iw3_63)) (fun _ h9 => h9) rfl d_Md_skip_31 ?_
    refine lv_iconst (v := 1) hx hb d_Md_skip_34 (by decide) ?_
    refine lv_isub hx hb d_Md_skip_35 ?_
    rw [np1 hnp]
    refine va_iald hx hb hE.1 hP 2 3 rfl rfl (vp_in_nI (by omega) (by omega)) d_Md_skip_36 ?_
    rw [nI_clamp (n := np - 1) (by omega), hpe]
    refine cV (As := [.int 1, .int (nI lm)]) (rest := []) (n := 2) (wc := [(m0, .inr (6, mF g K (nI a, 0, p) e (nI np) B))]) (wr := [((g 0), .inl (cA 3, 2000, .inl fd)), ((g 10), .inl (cA 3, 4, .inl pe))]) ⟨hx, hb, hml, hown, hts⟩ hno hlocks hl.1 (c_Md_stop l hl9 D cA ad s.heap.size m0 g K e (nI np) B (nI a) p (1 : Int32) (nI lm)) iw3_216 iw3_218 sel_Md_stop iw1_7 iw3_219 (by decide +kernel) rfl ⟨Nat.le_of_ble_eq_true rfl, Nat.le_of_ble_eq_true rfl⟩ ⟨Nat.le_of_ble_eq_true rfl, Nat.le_of_ble_eq_true rfl⟩ rfl (Nat.le_of_ble_eq_true rfl) d_Md_skip_37 hE hP hD hS hA [0] [1, 2] rfl rfl rfl rfl (by decide) (ci := 6) rfl rfl 0 rfl (fun _ h => h.elim) (fun v_37 u_37 H locs hp_37 hP hD hS => ?_)
    obtain rfl := hp_37
    have hP : va_P D cls [(m0, .inr (6, mF g K (nI a, 1, nI lm) e (nI np) B)), ((g 0), .inl (cA 3, 2000, .inl fd)), ((g 10), .inl (cA 3, 4, .inl pe))] H := hP.sub [2, 0, 1] rfl
    have hD : va_D A [(m0, .inr (6, mF g K (nI a, 1, nI lm) e (nI np) B)), ((g 0), .inl (cA 3, 2000, .inl fd)), ((g 10), .inl (cA 3, 4, .inl pe))] := hD.sub [2, 0, 1] (by decide) rfl
    refine W.cs (cells' := 0) (slots' := 0) rfl rfl ?_
    refine W.eq (g2 := F0 m 40 ls []) rfl ?_
    refine lv_aload_n hx hb d_Md_skip_40 rfl (lv_at hl 1 rfl) ?_
    refine lv_dup hx hb d_Md_skip_41 rfl ?_
    refine va_get (D := D) (ci := 6) (v := .int (nI a)) (C := R_Md) (T := F_Md) (N := 44) hx hb hts (fun w h => List.mem_cons_of_mem _ (i_Md w h)) hown hE.1 hP 0 rfl rfl 2 (by decide) (hts _ (List.mem_cons_of_mem _ iw3_56)) (fun _ h9 => h9) rfl d_Md_skip_42 ?_
    refine lv_aload_n hx hb d_Md_skip_45 rfl (lv_at hl 1 rfl) ?_
    refine va_get (D := D) (ci := 6) (v := .int 1) (C := R_Md) (T := F_Md) (N := 44) hx hb hts (fun w h => List.mem_cons_of_mem _ (i_Md w h)) hown hE.1 hP 0 rfl rfl 3 (by decide) (hts _ (List.mem_cons_of_mem _ iw3_57)) (fun _ h9 => h9) rfl d_Md_skip_46 ?_
    refine lv_if_le (tgt := 56) hx hb d_Md_skip_49 (by decide) (fun c_49 => absurd c_49 (by decide)) (fun c_49 => ?_)
    refine lv_iconst (v := 0) hx hb d_Md_skip_52 (by decide) ?_
    refine lv_goto (tgt := 58) hx hb d_Md_skip_53 (by decide) ?_
    refine lv_iadd hx hb d_Md_skip_58 ?_
    rw [Int32.add_zero]
    refine va_put (D := D) (ci := 6) (v := .int (nI a)) (ty := .int) (C := R_Md) (T := F_Md) (N := 44) hx hb hts (fun w h => List.mem_cons_of_mem _ (i_Md w h)) t_Md tk_Md n_Md hown hE.1 hP hD hS 0 rfl rfl 2 (by decide) (hts _ (List.mem_cons_of_mem _ iw3_56)) (fun _ h9 => h9) rfl (by decide +kernel) rfl rfl (Nat.le_of_ble_eq_true rfl) d_Md_skip_59 (fun H locs hP hD hS => ?_)
    have hP : va_P D cls [(m0, .inr (6, mF g K (nI a, 1, nI lm) e (nI np) B)), ((g 0), .inl (cA 3, 2000, .inl fd)), ((g 10), .inl (cA 3, 4, .inl pe))] H := hP
    have hD : va_D A [(m0, .inr (6, mF g K (nI a, 1, nI lm) e (nI np) B)), ((g 0), .inl (cA 3, 2000, .inl fd)), ((g 10), .inl (cA 3, 4, .inl pe))] := hD
    exact cRv ((nI a, 1, nI lm) : A3) hx hb hr hlocks d_Md_skip_62 hS hP hD (Or.inl ⟨1, lm, by rw [pSkip, if_pos hbad], ⟨by decide, by decide⟩, rfl, rfl, a, by omega, rfl⟩) (Nat.le_refl _) (Nat.le_refl _)
set_option maxHeartbeats 4000000 in
set_option maxRecDepth 100000 in
/-- skip after a fault -/
theorem c_Md_skipF (l : Launch) (hl9 : l.stackTraces = false) (D : va_G) (cA : Nat → ClassId) (ad : Nat → Nat) (sz : Nat) (m0 : Nat) (g : Nat → Nat) (K : MK) (e : Int32) (np : Nat) (B : MB) (fd pe : Nat → Int32) (hnp : 1 ≤ np ∧ np ≤ 4) (x ff p : Int32) (hf : ¬ ff = 0 ∧ ¬ ff ≤ 0) (n : Int64) :
    cM l y_Md_skip (.code y_Md_skip b_Md_skip 5 none :: wAll) ({ frames := 1, cells := 0, slots := 0, locals := 22 }) D cA ad [.ref m0, .long n] [(m0, .inr (6, mF g K (x, ff, p) e (nI np) B)), ((g 0), .inl (cA 3, 2000, .inl fd)), ((g 10), .inl (cA 3, 4, .inl pe))] sz (fun v (_ : Unit) => v = none) (fun _ => False) (fun _ => [(m0, .inr (6, mF g K (x, ff, p) e (nI np) B)), ((g 0), .inl (cA 3, 2000, .inl fd)), ((g 10), .inl (cA 3, 4, .inl pe))]) (fun _ => (0, 0)) := by
  refine cM.ofW (cc := b_Md_skip) (maxL := 5) (ret := none) (by decide) (Nat.le_of_ble_eq_true rfl) ?_
  intro pg ev s m bw meth cdx A ls hF hsz hA hE hP hD hl
  obtain ⟨⟨hx, hb, hml, hown, hts⟩, hr, hno, hlocks, hin⟩ := hF
  subst hsz
  have hown : s.vm.findClass "ModuleBytesModel" = some m.cls := hown
  have hS : va_S A s.heap s.heap [] := va_S.rf
  have hl : lv_has ls 5 [(0, .ref m0), (1, .long n)] := hl
  have hP : va_P D cls [(m0, .inr (6, mF g K (x, ff, p) e (nI np) B)), ((g 0), .inl (cA 3, 2000, .inl fd)), ((g 10), .inl (cA 3, 4, .inl pe))] s.heap := hP
  have hD : va_D A [(m0, .inr (6, mF g K (x, ff, p) e (nI np) B)), ((g 0), .inl (cA 3, 2000, .inl fd)), ((g 10), .inl (cA 3, 4, .inl pe))] := hD
  refine lv_aload_n hx hb d_Md_skip_0 rfl (lv_at hl 0 rfl) ?_
  refine va_get (D := D) (ci := 6) (v := .ref (g 10)) (C := R_Md) (T := F_Md) (N := 44) hx hb hts (fun w h => List.mem_cons_of_mem _ (i_Md w h)) hown hE.1 hP 0 rfl rfl 10 (by decide) (hts _ (List.mem_cons_of_mem _ iw3_64)) (fun _ h9 => h9) rfl d_Md_skip_1 ?_
  refine lv_aload_n hx hb d_Md_skip_4 rfl (lv_at hl 0 rfl) ?_
  refine va_get (D := D) (ci := 6) (v := .int (nI np)) (C := R_Md) (T := F_Md) (N := 44) hx hb hts (fun w h => List.mem_cons_of_mem _ (i_Md w h)) hown hE.1 hP 0 rfl rfl 9 (by decide) (hts _ (List.mem_cons_of_mem _ iw3_63)) (fun _ h9 => h9) rfl d_Md_skip_5 ?_
  refine lv_iconst (v := 1) hx hb d_Md_skip_8 (by decide) ?_
  refine lv_isub hx hb d_Md_skip_9 ?_
  rw [np1 hnp]
  refine va_iald hx hb hE.1 hP 2 3 rfl rfl (vp_in_nI (by omega) (by omega)) d_Md_skip_10 ?_
  refine lv_topi (fun L10 eL10 => ?_)
  refine lv_aload_n hx hb d_Md_skip_11 rfl (lv_at hl 0 rfl) ?_
  refine va_get (D := D) (ci := 6) (v := .int x) (C := R_Md) (T := F_Md) (N := 44) hx hb hts (fun w h => List.mem_cons_of_mem _ (i_Md w h)) hown hE.1 hP 0 rfl rfl 2 (by decide) (hts _ (List.mem_cons_of_mem _ iw3_56)) (fun _ h9 => h9) rfl d_Md_skip_12 ?_
  refine lv_isub hx hb d_Md_skip_15 ?_
  refine lv_i2l hx hb d_Md_skip_16 rfl ?_
  refine lv_topl (fun D16 eD16 => ?_)
  refine lv_lstore_n (lv' := [(3, .long D16), (0, .ref m0), (1, .long n)]) hx hb d_Md_skip_17 rfl hl (by decide) rfl (fun ls hl => ?_)
  refine lv_lload_n hx hb d_Md_skip_18 rfl (lv_at hl 2 rfl) ?_
  refine lv_lload_n hx hb d_Md_skip_19 rfl (lv_at hl 0 rfl) ?_
  refine W.lcmp hx hb d_Md_skip_20 ?_
  refine lv_if_le (tgt := 40) hx hb d_Md_skip_21 (by decide) (fun c_21 => ?_) (fun c_21 => ?_)
  · refine lv_aload_n hx hb d_Md_skip_40 rfl (lv_at hl 1 rfl) ?_
    refine lv_dup hx hb d_Md_skip_41 rfl ?_
    refine va_get (D := D) (ci := 6) (v := .int x) (C := R_Md) (T := F_Md) (N := 44) hx hb hts (fun w h => List.mem_cons_of_mem _ (i_Md w h)) hown hE.1 hP 0 rfl rfl 2 (by decide) (hts _ (List.mem_cons_of_mem _ iw3_56)) (fun _ h9 => h9) rfl d_Md_skip_42 ?_
    refine lv_aload_n hx hb d_Md_skip_45 rfl (lv_at hl 1 rfl) ?_
    refine va_get (D := D) (ci := 6) (v := .int ff) (C := R_Md) (T := F_Md) (N := 44) hx hb hts (fun w h => List.mem_cons_of_mem _ (i_Md w h)) hown hE.1 hP 0 rfl rfl 3 (by decide) (hts _ (List.mem_cons_of_mem _ iw3_57)) (fun _ h9 => h9) rfl d_Md_skip_46 ?_
    refine lv_if_le (tgt := 56) hx hb d_Md_skip_49 (by decide) (fun c_49 => absurd c_49 (hf.2)) (fun c_49 => ?_)
    refine lv_iconst (v := 0) hx hb d_Md_skip_52 (by decide) ?_
    refine lv_goto (tgt := 58) hx hb d_Md_skip_53 (by decide) ?_
    refine lv_iadd hx hb d_Md_skip_58 ?_
    rw [Int32.add_zero]
    refine va_put (D := D) (ci := 6) (v := .int x) (ty := .int) (C := R_Md) (T := F_Md) (N := 44) hx hb hts (fun w h => List.mem_cons_of_mem _ (i_Md w h)) t_Md tk_Md n_Md hown hE.1 hP hD hS 0 rfl rfl 2 (by decide) (hts _ (List.mem_cons_of_mem _ iw3_56)) (fun _ h9 => h9) rfl (by decide +kernel) rfl rfl (Nat.le_of_ble_eq_true rfl) d_Md_skip_59 (fun H locs hP hD hS => ?_)
    have hP : va_P D cls [(m0, .inr (6, mF g K (x, ff, p) e (nI np) B)), ((g 0), .inl (cA 3, 2000, .inl fd)), ((g 10), .inl (cA 3, 4, .inl pe))] H := hP
    have hD : va_D A [(m0, .inr (6, mF g K (x, ff, p) e (nI np) B)), ((g 0), .inl (cA 3, 2000, .inl fd)), ((g 10), .inl (cA 3, 4, .inl pe))] := hD
    exact cRv () hx hb hr hlocks d_Md_skip_62 hS hP hD (rfl) (Nat.le_refl _) (Nat.le_refl _)
  · refine lv_aload_n hx hb d_Md_skip_24 rfl (lv_at hl 1 rfl) ?_
    refine lv_iconst (v := 1) hx hb d_Md_skip_25 (by decide) ?_
    refine lv_aload_n hx hb d_Md_skip_26 rfl (lv_at hl 1 rfl) ?_
    refine va_get (D := D) (ci := 6) (v := .ref (g 10)) (C := R_Md) (T := F_Md) (N := 44) hx hb hts (fun w h => List.mem_cons_of_mem _ (i_Md w h)) hown hE.1 hP 0 rfl rfl 10 (by decide) (hts _ (List.mem_cons_of_mem _ iw3_64)) (fun _ h9 => h9) rfl d_Md_skip_27 ?_
    refine lv_aload_n hx hb d_Md_skip_30 rfl (lv_at hl 1 rfl) ?_
    refine va_get (D := D) (ci := 6) (v := .int (nI np)) (C := R_Md) (T := F_Md) (N := 44) hx hb hts (fun w h => List.mem_cons_of_mem _ (i_Md w h)) hown hE.1 hP 0 rfl rfl 9 (by decide) (hts _ (List.mem_cons_of_mem _ iw3_63)) (fun _ h9 => h9) rfl d_Md_skip_31 ?_
    refine lv_iconst (v := 1) hx hb d_Md_skip_34 (by decide) ?_
    refine lv_isub hx hb d_Md_skip_35 ?_
    rw [np1 hnp]
    refine va_iald hx hb hE.1 hP 2 3 rfl rfl (vp_in_nI (by omega) (by omega)) d_Md_skip_36 ?_
    refine lv_topi (fun L36 eL36 => ?_)
    refine cV (As := [.int 1, .int L36]) (rest := []) (n := 2) (wc := [(m0, .inr (6, mF g K (x, ff, p) e (nI np) B))]) (wr := [((g 0), .inl (cA 3, 2000, .inl fd)), ((g 10), .inl (cA 3, 4, .inl pe))]) ⟨hx, hb, hml, hown, hts⟩ hno hlocks hl.1 (c_Md_stopF l hl9 D cA ad s.heap.size m0 g K e (nI np) B x ff p (1 : Int32) L36 hf) iw3_216 iw3_218 sel_Md_stop iw1_7 iw3_219 (by decide +kernel) rfl ⟨Nat.le_of_ble_eq_true rfl, Nat.le_of_ble_eq_true rfl⟩ ⟨Nat.le_of_ble_eq_true rfl, Nat.le_of_ble_eq_true rfl⟩ rfl (Nat.le_of_ble_eq_true rfl) d_Md_skip_37 hE hP hD hS hA [0] [1, 2] rfl rfl rfl rfl (by decide) (ci := 6) rfl rfl 0 rfl (fun _ h => h.elim) (fun v_37 u_37 H locs hp_37 hP hD hS => ?_)
    obtain rfl := hp_37
    have hP : va_P D cls [(m0, .inr (6, mF g K (x, ff, p) e (nI np) B)), ((g 0), .inl (cA 3, 2000, .inl fd)), ((g 10), .inl (cA 3, 4, .inl pe))] H := hP.sub [2, 0, 1] rfl
    have hD : va_D A [(m0, .inr (6, mF g K (x, ff, p) e (nI np) B)), ((g 0), .inl (cA 3, 2000, .inl fd)), ((g 10), .inl (cA 3, 4, .inl pe))] := hD.sub [2, 0, 1] (by decide) rfl
    refine W.cs (cells' := 0) (slots' := 0) rfl rfl ?_
    refine W.eq (g2 := F0 m 40 ls []) rfl ?_
    refine lv_aload_n hx hb d_Md_skip_40 rfl (lv_at hl 1 rfl) ?_
    refine lv_dup hx hb d_Md_skip_41 rfl ?_
    refine va_get (D := D) (ci := 6) (v := .int x) (C := R_Md) (T := F_Md) (N := 44) hx hb hts (fun w h => List.mem_cons_of_mem _ (i_Md w h)) hown hE.1 hP 0 rfl rfl 2 (by decide) (hts _ (List.mem_cons_of_mem _ iw3_56)) (fun _ h9 => h9) rfl d_Md_skip_42 ?_
    refine lv_aload_n hx hb d_Md_skip_45 rfl (lv_at hl 1 rfl) ?_
    refine va_get (D := D) (ci := 6) (v := .int ff) (C := R_Md) (T := F_Md) (N := 44) hx hb hts (fun w h => List.mem_cons_of_mem _ (i_Md w h)) hown hE.1 hP 0 rfl rfl 3 (by decide) (hts _ (List.mem_cons_of_mem _ iw3_57)) (fun _ h9 => h9) rfl d_Md_skip_46 ?_
    refine lv_if_le (tgt := 56) hx hb d_Md_skip_49 (by decide) (fun c_49 => absurd c_49 (hf.2)) (fun c_49 => ?_)
    refine lv_iconst (v := 0) hx hb d_Md_skip_52 (by decide) ?_
    refine lv_goto (tgt := 58) hx hb d_Md_skip_53 (by decide) ?_
    refine lv_iadd hx hb d_Md_skip_58 ?_
    rw [Int32.add_zero]
    refine va_put (D := D) (ci := 6) (v := .int x) (ty := .int) (C := R_Md) (T := F_Md) (N := 44) hx hb hts (fun w h => List.mem_cons_of_mem _ (i_Md w h)) t_Md tk_Md n_Md hown hE.1 hP hD hS 0 rfl rfl 2 (by decide) (hts _ (List.mem_cons_of_mem _ iw3_56)) (fun _ h9 => h9) rfl (by decide +kernel) rfl rfl (Nat.le_of_ble_eq_true rfl) d_Md_skip_59 (fun H locs hP hD hS => ?_)
    have hP : va_P D cls [(m0, .inr (6, mF g K (x, ff, p) e (nI np) B)), ((g 0), .inl (cA 3, 2000, .inl fd)), ((g 10), .inl (cA 3, 4, .inl pe))] H := hP
    have hD : va_D A [(m0, .inr (6, mF g K (x, ff, p) e (nI np) B)), ((g 0), .inl (cA 3, 2000, .inl fd)), ((g 10), .inl (cA 3, 4, .inl pe))] := hD
    exact cRv () hx hb hr hlocks d_Md_skip_62 hS hP hD (rfl) (Nat.le_refl _) (Nat.le_refl _)
theorem ch_2 {b : Nat → Nat} {e p : Nat} (h1 : 192 ≤ b p) (h2 : b p < 224) (h3 : p + 2 ≤ e) : pChar b e p = match chT b p 1 1 (b p - 192) with | none => 0 | some v => if nSz 2 v = true then 2 else 0 := by
  have hs : chS (b p) = 2 := by unfold chS; rw [if_neg (by omega), if_neg (by omega)]
  have hm : b p % 2 ^ 5 = b p - 192 := by omega
  rw [pChar_go (by omega) (by rw [hs]; omega), hs, show 7 - 2 = 5 from rfl, hm]
  rfl
theorem ch_3 {b : Nat → Nat} {e p : Nat} (h1 : 224 ≤ b p) (h2 : b p < 240) (h3 : p + 3 ≤ e) : pChar b e p = match chT b p 2 1 (b p - 224) with | none => 0 | some v => if nSz 3 v = true then 3 else 0 := by
  have hs : chS (b p) = 3 := by unfold chS; rw [if_neg (by omega), if_pos (by omega)]
  have hm : b p % 2 ^ 4 = b p - 224 := by omega
  rw [pChar_go (by omega) (by rw [hs]; omega), hs, show 7 - 3 = 4 from rfl, hm]
  rfl
theorem ch_4 {b : Nat → Nat} {e p : Nat} (h1 : 240 ≤ b p) (h2 : b p < 248) (h3 : p + 4 ≤ e) : pChar b e p = match chT b p 3 1 (b p - 240) with | none => 0 | some v => if nSz 4 v = true then 4 else 0 := by
  have hs : chS (b p) = 4 := by unfold chS; rw [if_pos (by omega)]
  have hm : b p % 2 ^ 3 = b p - 240 := by omega
  rw [pChar_go (by omega) (by rw [hs]; omega), hs, show 7 - 4 = 3 from rfl, hm]
  rfl
theorem chT_n {b : Nat → Nat} {p n i v : Nat} (h : b (p + i) < 128 ∨ 191 < b (p + i)) : chT b p (n + 1) i v = none := by rw [chT, if_pos h]
theorem chT_s {b : Nat → Nat} {p n i v : Nat} (h : ¬ (b (p + i) < 128 ∨ 191 < b (p + i))) : chT b p (n + 1) i v = chT b p n (i + 1) (v * 64 + (b (p + i) - 128)) := by rw [chT, if_neg h]
set_option maxHeartbeats 4000000 in
set_option maxRecDepth 100000 in
/-- character(place, end) -/
theorem c_Md_character (l : Launch) (hl9 : l.stackTraces = false) (D : va_G) (cA : Nat → ClassId) (ad : Nat → Nat) (sz : Nat) (m0 : Nat) (g : Nat → Nat) (K : MK) (A0 : A3) (e np : Int32) (B : MB) (fd : Nat → Int32) (b : Nat → Nat) (N : Nat) (hN : N ≤ 2000) (hfd : ∀ i, i < N → fd i = nI (b i)) (hb9 : ∀ i, b i < 256) (pl ee : Nat) (hpl : pl < ee) (hee : ee ≤ N) :
    cM l y_Md_character (.code y_Md_character b_Md_character 7 (some .int) :: wAll) ({ frames := 0, cells := 0, slots := 0, locals := 0 }) D cA ad [.ref m0, .int (nI pl), .int (nI ee)] [(m0, .inr (6, mF g K A0 e np B)), ((g 0), .inl (cA 3, 2000, .inl fd))] sz (fun v (_ : Unit) => v = some (.int (nI (pChar b ee pl)))) (fun _ => False) (fun _ => [(m0, .inr (6, mF g K A0 e np B)), ((g 0), .inl (cA 3, 2000, .inl fd))]) (fun _ => (0, 0)) := by
  refine cM.ofW (cc := b_Md_character) (maxL := 7) (ret := (some .int)) (by decide) (Nat.le_of_ble_eq_true rfl) ?_
  intro pg ev s m bw meth cdx A ls hF hsz hA hE hP hD hl
  obtain ⟨⟨hx, hb, hml, hown, hts⟩, hr, hno, hlocks, hin⟩ := hF
  subst hsz
  have hown : s.vm.findClass "ModuleBytesModel" = some m.cls := hown
  have hS : va_S A s.heap s.heap [] := va_S.rf
  have hl : lv_has ls 7 [(0, .ref m0), (1, .int (nI pl)), (2, .int (nI ee))] := hl
  have hP : va_P D cls [(m0, .inr (6, mF g K A0 e np B)), ((g 0), .inl (cA 3, 2000, .inl fd))] s.heap := hP
  have hD : va_D A [(m0, .inr (6, mF g K A0 e np B)), ((g 0), .inl (cA 3, 2000, .inl fd))] := hD
  refine lv_aload_n hx hb d_Md_character_0 rfl (lv_at hl 0 rfl) ?_
  refine va_get (D := D) (ci := 6) (v := .ref (g 0)) (C := R_Md) (T := F_Md) (N := 44) hx hb hts (fun w h => List.mem_cons_of_mem _ (i_Md w h)) hown hE.1 hP 0 rfl rfl 0 (by decide) (hts _ (List.mem_cons_of_mem _ iw3_54)) (fun _ h9 => h9) rfl d_Md_character_1 ?_
  refine lv_iload_n hx hb d_Md_character_4 rfl (lv_at hl 1 rfl) ?_
  refine va_iald hx hb hE.1 hP 1 3 rfl rfl (vp_in_nI (by omega) (by omega)) d_Md_character_5 ?_
  rw [nI_clamp (n := pl) (by omega), hfd pl (by omega)]
  refine lv_istore_n (lv' := [(3, .int (nI (b pl))), (0, .ref m0), (1, .int (nI pl)), (2, .int (nI ee))]) hx hb d_Md_character_6 rfl hl (by decide) rfl (fun ls hl => ?_)
  refine lv_iload_n hx hb d_Md_character_7 rfl (lv_at hl 0 rfl) ?_
  refine lv_sipush (v := 128) hx hb d_Md_character_8 (by decide) ?_
  refine lv_icmp_ge (tgt := 18) hx hb d_Md_character_11 (by decide) (fun c_11 => ?_) (fun c_11 => ?_)
  · refine lv_iload_n hx hb d_Md_character_18 rfl (lv_at hl 0 rfl) ?_
    refine lv_sipush (v := 192) hx hb d_Md_character_19 (by decide) ?_
    refine lv_icmp_ge (tgt := 29) hx hb d_Md_character_22 (by decide) (fun c_22 => ?_) (fun c_22 => ?_)
    · refine lv_iload_n hx hb d_Md_character_29 rfl (lv_at hl 0 rfl) ?_
      refine lv_sipush (v := 224) hx hb d_Md_character_30 (by decide) ?_
      refine lv_icmp_ge (tgt := 40) hx hb d_Md_character_33 (by decide) (fun c_33 => ?_) (fun c_33 => ?_)
      · refine lv_iload_n hx hb d_Md_character_40 rfl (lv_at hl 0 rfl) ?_
        refine lv_sipush (v := 240) hx hb d_Md_character_41 (by decide) ?_
        refine lv_icmp_ge (tgt := 51) hx hb d_Md_character_44 (by decide) (fun c_44 => ?_) (fun c_44 => ?_)
        · refine lv_iload_n hx hb d_Md_character_51 rfl (lv_at hl 0 rfl) ?_
          refine lv_sipush (v := 248) hx hb d_Md_character_52 (by decide) ?_
          refine lv_icmp_ge (tgt := 62) hx hb d_Md_character_55 (by decide) (fun c_55 => ?_) (fun c_55 => ?_)
          · refine lv_iconst (v := 0) hx hb d_Md_character_62 (by decide) ?_
            have hB0 := hb9 pl
            try (have c_11 : ¬ b pl < 128 := Nat.not_lt.mpr ((nI_leI (a := 128) (b := b pl) (by omega) (by omega)).mp c_11))
            try (have c_11 : b pl < 128 := Nat.lt_of_not_le (fun q => c_11 (nI_le (a := 128) (b := b pl) q (by omega))))
            try (have c_22 : ¬ b pl < 192 := Nat.not_lt.mpr ((nI_leI (a := 192) (b := b pl) (by omega) (by omega)).mp c_22))
            try (have c_22 : b pl < 192 := Nat.lt_of_not_le (fun q => c_22 (nI_le (a := 192) (b := b pl) q (by omega))))
            try (have c_33 : ¬ b pl < 224 := Nat.not_lt.mpr ((nI_leI (a := 224) (b := b pl) (by omega) (by omega)).mp c_33))
            try (have c_33 : b pl < 224 := Nat.lt_of_not_le (fun q => c_33 (nI_le (a := 224) (b := b pl) q (by omega))))
            try (have c_44 : ¬ b pl < 240 := Nat.not_lt.mpr ((nI_leI (a := 240) (b := b pl) (by omega) (by omega)).mp c_44))
            try (have c_44 : b pl < 240 := Nat.lt_of_not_le (fun q => c_44 (nI_le (a := 240) (b := b pl) q (by omega))))
            try (have c_55 : ¬ b pl < 248 := Nat.not_lt.mpr ((nI_leI (a := 248) (b := b pl) (by omega) (by omega)).mp c_55))
            try (have c_55 : b pl < 248 := Nat.lt_of_not_le (fun q => c_55 (nI_le (a := 248) (b := b pl) q (by omega))))
            refine lv_istore (lv' := [(4, .int 0), (3, .int (nI (b pl))), (0, .ref m0), (1, .int (nI pl)), (2, .int (nI ee))]) hx hb d_Md_character_63 hl (by decide) rfl (fun ls hl => ?_)
            refine lv_iload hx hb d_Md_character_65 (lv_at hl 0 rfl) ?_
            refine lv_iconst (v := 2) hx hb d_Md_character_67 (by decide) ?_
            refine lv_icmp_lt (tgt := 79) hx hb d_Md_character_68 (by decide) (fun c_68 => ?_) (fun c_68 => absurd (by decide) c_68)
            refine lv_iload hx hb d_Md_character_79 (lv_at hl 0 rfl) ?_
            refine lv_iconst (v := 2) hx hb d_Md_character_81 (by decide) ?_
            refine lv_icmp_ge (tgt := 90) hx hb d_Md_character_82 (by decide) (fun c_82 => absurd c_82 (by decide)) (fun c_82 => ?_)
            refine lv_iload hx hb d_Md_character_85 (lv_at hl 0 rfl) ?_
            refine lv_goto (tgt := 91) hx hb d_Md_character_87 (by decide) ?_
            exact cRi () hx hb hr hlocks d_Md_character_91 hS hP hD (by rw [show pChar b ee pl = 0 from pChar_0 (by omega) (by omega)]; rfl) (Nat.le_refl _) (Nat.le_refl _)
          · refine lv_iconst (v := 4) hx hb d_Md_character_58 (by decide) ?_
            refine lv_goto (tgt := 63) hx hb d_Md_character_59 (by decide) ?_
            have hB0 := hb9 pl
            try (have c_11 : ¬ b pl < 128 := Nat.not_lt.mpr ((nI_leI (a := 128) (b := b pl) (by omega) (by omega)).mp c_11))
            try (have c_11 : b pl < 128 := Nat.lt_of_not_le (fun q => c_11 (nI_le (a := 128) (b := b pl) q (by omega))))
            try (have c_22 : ¬ b pl < 192 := Nat.not_lt.mpr ((nI_leI (a := 192) (b := b pl) (by omega) (by omega)).mp c_22))
            try (have c_22 : b pl < 192 := Nat.lt_of_not_le (fun q => c_22 (nI_le (a := 192) (b := b pl) q (by omega))))
            try (have c_33 : ¬ b pl < 224 := Nat.not_lt.mpr ((nI_leI (a := 224) (b := b pl) (by omega) (by omega)).mp c_33))
            try (have c_33 : b pl < 224 := Nat.lt_of_not_le (fun q => c_33 (nI_le (a := 224) (b := b pl) q (by omega))))
            try (have c_44 : ¬ b pl < 240 := Nat.not_lt.mpr ((nI_leI (a := 240) (b := b pl) (by omega) (by omega)).mp c_44))
            try (have c_44 : b pl < 240 := Nat.lt_of_not_le (fun q => c_44 (nI_le (a := 240) (b := b pl) q (by omega))))
            try (have c_55 : ¬ b pl < 248 := Nat.not_lt.mpr ((nI_leI (a := 248) (b := b pl) (by omega) (by omega)).mp c_55))
            try (have c_55 : b pl < 248 := Nat.lt_of_not_le (fun q => c_55 (nI_le (a := 248) (b := b pl) q (by omega))))
            refine lv_istore (lv' := [(4, .int 4), (3, .int (nI (b pl))), (0, .ref m0), (1, .int (nI pl)), (2, .int (nI ee))]) hx hb d_Md_character_63 hl (by decide) rfl (fun ls hl => ?_)
            refine lv_iload hx hb d_Md_character_65 (lv_at hl 0 rfl) ?_
            refine lv_iconst (v := 2) hx hb d_Md_character_67 (by decide) ?_
            refine lv_icmp_lt (tgt := 79) hx hb d_Md_character_68 (by decide) (fun c_68 => absurd c_68 (by decide)) (fun c_68 => ?_)
            refine lv_iload_n hx hb d_Md_character_71 rfl (lv_at hl 3 rfl) ?_
            refine lv_iload hx hb d_Md_character_72 (lv_at hl 0 rfl) ?_
            refine lv_iadd hx hb d_Md_character_74 ?_
            rw [show nI pl + 4 = nI (pl + 4) from nI_add pl 4]
            refine lv_iload_n hx hb d_Md_character_75 rfl (lv_at hl 4 rfl) ?_
            refine lv_icmp_le (tgt := 92) hx hb d_Md_character_76 (by decide) (fun c_76 => ?_) (fun c_76 => ?_)
            · have hend : pl + 4 ≤ ee := (nI_leI (by omega) (by omega)).mp c_76
              refine lv_iload hx hb d_Md_character_92 (lv_at hl 0 rfl) ?_
              refine lv_iconst (v := 2) hx hb d_Md_character_94 (by decide) ?_
              refine lv_icmp_ne (tgt := 106) hx hb d_Md_character_95 (by decide) (fun c_95 => ?_) (fun c_95 => absurd c_95 (by decide))
              refine lv_iload hx hb d_Md_character_106 (lv_at hl 0 rfl) ?_
              refine lv_iconst (v := 3) hx hb d_Md_character_108 (by decide) ?_
              refine lv_icmp_ne (tgt := 120) hx hb d_Md_character_109 (by decide) (fun c_109 => ?_) (fun c_109 => absurd c_109 (by decide))
              refine lv_iload_n hx hb d_Md_character_120 rfl (lv_at hl 1 rfl) ?_
              refine lv_sipush (v := 240) hx hb d_Md_character_121 (by decide) ?_
              refine lv_isub hx hb d_Md_character_124 ?_
              rw [show nI (b pl) - 240 = nI (b pl - 240) from pk_sub (a := b pl) (b := 240) (by omega)]
              refine lv_istore (lv' := [(5, .int (nI (b pl - 240))), (4, .int 4), (3, .int (nI (b pl))), (0, .ref m0), (1, .int (nI pl)), (2, .int (nI ee))]) hx hb d_Md_character_125 hl (by decide) rfl (fun ls hl => ?_)
              refine lv_iconst (v := 1) hx hb d_Md_character_127 (by decide) ?_
              refine lv_istore (lv' := [(6, .int 1), (5, .int (nI (b pl - 240))), (4, .int 4), (3, .int (nI (b pl))), (0, .ref m0), (1, .int (nI pl)), (2, .int (nI ee))]) hx hb d_Md_character_128 hl (by decide) rfl (fun ls hl => ?_)
              refine lv_iload hx hb d_Md_character_130 (lv_at hl 0 rfl) ?_
              refine lv_iload hx hb d_Md_character_132 (lv_at hl 2 rfl) ?_
              refine lv_icmp_ge (tgt := 182) hx hb d_Md_character_134 (by decide) (fun c_134 => absurd c_134 (by decide)) (fun c_134 => ?_)
              refine lv_aload_n hx hb d_Md_character_137 rfl (lv_at hl 4 rfl) ?_
              refine va_get (D := D) (ci := 6) (v := .ref (g 0)) (C := R_Md) (T := F_Md) (N := 44) hx hb hts (fun w h => List.mem_cons_of_mem _ (i_Md w h)) hown hE.1 hP 0 rfl rfl 0 (by decide) (hts _ (List.mem_cons_of_mem _ iw3_54)) (fun _ h9 => h9) rfl d_Md_character_138 ?_
              refine lv_iload_n hx hb d_Md_character_141 rfl (lv_at hl 5 rfl) ?_
              refine lv_iload hx hb d_Md_character_142 (lv_at hl 0 rfl) ?_
              refine lv_iadd hx hb d_Md_character_144 ?_
              rw [show nI pl + 1 = nI (pl + 1) from nI_add pl 1]
              refine va_iald hx hb hE.1 hP 1 3 rfl rfl (vp_in_nI (by omega) (by omega)) d_Md_character_145 ?_
              rw [nI_clamp (n := pl + 1) (by omega), hfd (pl + 1) (by omega)]
              refine lv_bipush (v := 6) hx hb d_Md_character_146 (by decide) ?_
              refine lv_ishr hx hb d_Md_character_148 ?_
              have hB1 := hb9 (pl + 1)
              rw [pk_shrN (by omega) _ 6 (by decide +kernel)]
              refine lv_iconst (v := 2) hx hb d_Md_character_149 (by decide) ?_
              refine lv_icmp_eq (tgt := 155) hx hb d_Md_character_150 (by decide) (fun c_150 => ?_) (fun c_150 => ?_)
              · have hk1 : ¬ (b (pl + 1) < 128 ∨ 191 < b (pl + 1)) := by have := (nI_eq (a := b (pl + 1) / 2 ^ 6) (b := 2) (by omega) (by omega)).mp c_150; omega
                refine lv_bipush (v := 64) hx hb d_Md_character_155 (by decide) ?_
                refine lv_iload hx hb d_Md_character_157 (lv_at hl 1 rfl) ?_
                refine lv_imul hx hb d_Md_character_159 ?_
                refine lv_aload_n hx hb d_Md_character_160 rfl (lv_at hl 4 rfl) ?_
                refine va_get (D := D) (ci := 6) (v := .ref (g 0)) (C := R_Md) (T := F_Md) (N := 44) hx hb hts (fun w h => List.mem_cons_of_mem _ (i_Md w h)) hown hE.1 hP 0 rfl rfl 0 (by decide) (hts _ (List.mem_cons_of_mem _ iw3_54)) (fun _ h9 => h9) rfl d_Md_character_161 ?_
                refine lv_iload_n hx hb d_Md_character_164 rfl (lv_at hl 5 rfl) ?_
                refine lv_iload hx hb d_Md_character_165 (lv_at hl 0 rfl) ?_
                refine lv_iadd hx hb d_Md_character_167 ?_
                rw [show nI pl + 1 = nI (pl + 1) from nI_add pl 1]
                refine va_iald hx hb hE.1 hP 1 3 rfl rfl (vp_in_nI (by omega) (by omega)) d_Md_character_168 ?_
                rw [nI_clamp (n := pl + 1) (by omega), hfd (pl + 1) (by omega)]
                refine lv_iadd hx hb d_Md_character_169 ?_
                refine lv_sipush (v := 128) hx hb d_Md_character_170 (by decide) ?_
                refine lv_isub hx hb d_Md_character_173 ?_
                rw [show 64 * nI (b pl - 240) + nI (b (pl + 1)) - 128 = nI ((b pl - 240) * 64 + (b (pl + 1) - 128)) from by rw [show (64 : Int32) = nI 64 from rfl, pk_mul, nI_add, show (128 : Int32) = nI 128 from rfl, pk_sub (by omega)]; congr 1; omega]
                refine lv_istore (lv' := [(5, .int (nI ((b pl - 240) * 64 + (b (pl + 1) - 128)))), (6, .int 1), (4, .int 4), (3, .int (nI (b pl))), (0, .ref m0), (1, .int (nI pl)), (2, .int (nI ee))]) hx hb d_Md_character_174 hl (by decide) rfl (fun ls hl => ?_)
                refine lv_iinc (v := 2) (lv' := [(6, .int 2), (5, .int (nI ((b pl - 240) * 64 + (b (pl + 1) - 128)))), (4, .int 4), (3, .int (nI (b pl))), (0, .ref m0), (1, .int (nI pl)), (2, .int (nI ee))]) hx hb d_Md_character_176 hl (k := 1) rfl (by decide) (by decide) rfl (fun ls hl => ?_)
                refine lv_goto (tgt := 130) hx hb d_Md_character_179 (by decide) ?_
                refine lv_iload hx hb d_Md_character_130 (lv_at hl 0 rfl) ?_
                refine lv_iload hx hb d_Md_character_132 (lv_at hl 2 rfl) ?_
                refine lv_icmp_ge (tgt := 182) hx hb d_Md_character_134 (by decide) (fun c_134 => absurd c_134 (by decide)) (fun c_134 => ?_)
                refine lv_aload_n hx hb d_Md_character_137 rfl (lv_at hl 4 rfl) ?_
                refine va_get (D := D) (ci := 6) (v := .ref (g 0)) (C := R_Md) (T := F_Md) (N := 44) hx hb hts (fun w h => List.mem_cons_of_mem _ (i_Md w h)) hown hE.1 hP 0 rfl rfl 0 (by decide) (hts _ (List.mem_cons_of_mem _ iw3_54)) (fun _ h9 => h9) rfl d_Md_character_138 ?_
                refine lv_iload_n hx hb d_Md_character_141 rfl (lv_at hl 5 rfl) ?_
                refine lv_iload hx hb d_Md_character_142 (lv_at hl 0 rfl) ?_
                refine lv_iadd hx hb d_Md_character_144 ?_
                rw [show nI pl + 2 = nI (pl + 2) from nI_add pl 2]
                refine va_iald hx hb hE.1 hP 1 3 rfl rfl (vp_in_nI (by omega) (by omega)) d_Md_character_145 ?_
                rw [nI_clamp (n := pl + 2) (by omega), hfd (pl + 2) (by omega)]
                refine lv_bipush (v := 6) hx hb d_Md_character_146 (by decide) ?_
                refine lv_ishr hx hb d_Md_character_148 ?_
                have hB2 := hb9 (pl + 2)
                rw [pk_shrN (by omega) _ 6 (by decide +kernel)]
                refine lv_iconst (v := 2) hx hb d_Md_character_149 (by decide) ?_
                refine lv_icmp_eq (tgt := 155) hx hb d_Md_character_150 (by decide) (fun c_150 => ?_) (fun c_150 => ?_)
                · have hk2 : ¬ (b (pl + 2) < 128 ∨ 191 < b (pl + 2)) := by have := (nI_eq (a := b (pl + 2) / 2 ^ 6) (b := 2) (by omega) (by omega)).mp c_150; omega
                  refine lv_bipush (v := 64) hx hb d_Md_character_155 (by decide) ?_
                  refine lv_iload hx hb d_Md_character_157 (lv_at hl 1 rfl) ?_
                  refine lv_imul hx hb d_Md_character_159 ?_
                  refine lv_aload_n hx hb d_Md_character_160 rfl (lv_at hl 4 rfl) ?_
                  refine va_get (D := D) (ci := 6) (v := .ref (g 0)) (C := R_Md) (T := F_Md) (N := 44) hx hb hts (fun w h => List.mem_cons_of_mem _ (i_Md w h)) hown hE.1 hP 0 rfl rfl 0 (by decide) (hts _ (List.mem_cons_of_mem _ iw3_54)) (fun _ h9 => h9) rfl d_Md_character_161 ?_
                  refine lv_iload_n hx hb d_Md_character_164 rfl (lv_at hl 5 rfl) ?_
                  refine lv_iload hx hb d_Md_character_165 (lv_at hl 0 rfl) ?_
                  refine lv_iadd hx hb d_Md_character_167 ?_
                  rw [show nI pl + 2 = nI (pl + 2) from nI_add pl 2]
                  refine va_iald hx hb hE.1 hP 1 3 rfl rfl (vp_in_nI (by omega) (by omega)) d_Md_character_168 ?_
                  rw [nI_clamp (n := pl + 2) (by omega), hfd (pl + 2) (by omega)]
                  refine lv_iadd hx hb d_Md_character_169 ?_
                  refine lv_sipush (v := 128) hx hb d_Md_character_170 (by decide) ?_
                  refine lv_isub hx hb d_Md_character_173 ?_
                  rw [show 64 * nI ((b pl - 240) * 64 + (b (pl + 1) - 128)) + nI (b (pl + 2)) - 128 = nI (((b pl - 240) * 64 + (b (pl + 1) - 128)) * 64 + (b (pl + 2) - 128)) from by rw [show (64 : Int32) = nI 64 from rfl, pk_mul, nI_add, show (128 : Int32) = nI 128 from rfl, pk_sub (by omega)]; congr 1; omega]
                  refine lv_istore (lv' := [(5, .int (nI (((b pl - 240) * 64 + (b (pl + 1) - 128)) * 64 + (b (pl + 2) - 128)))), (6, .int 2), (4, .int 4), (3, .int (nI (b pl))), (0, .ref m0), (1, .int (nI pl)), (2, .int (nI ee))]) hx hb d_Md_character_174 hl (by decide) rfl (fun ls hl => ?_)
                  refine lv_iinc (v := 3) (lv' := [(6, .int 3), (5, .int (nI (((b pl - 240) * 64 + (b (pl + 1) - 128)) * 64 + (b (pl + 2) - 128)))), (4, .int 4), (3, .int (nI (b pl))), (0, .ref m0), (1, .int (nI pl)), (2, .int (nI ee))]) hx hb d_Md_character_176 hl (k := 1) rfl (by decide) (by decide) rfl (fun ls hl => ?_)
                  refine lv_goto (tgt := 130) hx hb d_Md_character_179 (by decide) ?_
                  refine lv_iload hx hb d_Md_character_130 (lv_at hl 0 rfl) ?_
                  refine lv_iload hx hb d_Md_character_132 (lv_at hl 2 rfl) ?_
                  refine lv_icmp_ge (tgt := 182) hx hb d_Md_character_134 (by decide) (fun c_134 => absurd c_134 (by decide)) (fun c_134 => ?_)
                  refine lv_aload_n hx hb d_Md_character_137 rfl (lv_at hl 4 rfl) ?_
                  refine va_get (D := D) (ci := 6) (v := .ref (g 0)) (C := R_Md) (T := F_Md) (N := 44) hx hb hts (fun w h => List.mem_cons_of_mem _ (i_Md w h)) hown hE.1 hP 0 rfl rfl 0 (by decide) (hts _ (List.mem_cons_of_mem _ iw3_54)) (fun _ h9 => h9) rfl d_Md_character_138 ?_
                  refine lv_iload_n hx hb d_Md_character_141 rfl (lv_at hl 5 rfl) ?_
                  refine lv_iload hx hb d_Md_character_142 (lv_at hl 0 rfl) ?_
                  refine lv_iadd hx hb d_Md_character_144 ?_
                  rw [show nI pl + 3 = nI (pl + 3) from nI_add pl 3]
                  refine va_iald hx hb hE.1 hP 1 3 rfl rfl (vp_in_nI (by omega) (by omega)) d_Md_character_145 ?_
                  rw [nI_clamp (n := pl + 3) (by omega), hfd (pl + 3) (by omega)]
                  refine lv_bipush (v := 6) hx hb d_Md_character_146 (by decide) ?_
                  refine lv_ishr hx hb d_Md_character_148 ?_
                  have hB3 := hb9 (pl + 3)
                  rw [pk_shrN (by omega) _ 6 (by decide +kernel)]
                  refine lv_iconst (v := 2) hx hb d_Md_character_149 (by decide) ?_
                  refine lv_icmp_eq (tgt := 155) hx hb d_Md_character_150 (by decide) (fun c_150 => ?_) (fun c_150 => ?_)
                  · have hk3 : ¬ (b (pl + 3) < 128 ∨ 191 < b (pl + 3)) := by have := (nI_eq (a := b (pl + 3) / 2 ^ 6) (b := 2) (by omega) (by omega)).mp c_150; omega
                    refine lv_bipush (v := 64) hx hb d_Md_character_155 (by decide) ?_
                    refine lv_iload hx hb d_Md_character_157 (lv_at hl 1 rfl) ?_
                    refine lv_imul hx hb d_Md_character_159 ?_
                    refine lv_aload_n hx hb d_Md_character_160 rfl (lv_at hl 4 rfl) ?_
                    refine va_get (D := D) (ci := 6) (v := .ref (g 0)) (C := R_Md) (T := F_Md) (N := 44) hx hb hts (fun w h => List.mem_cons_of_mem _ (i_Md w h)) hown hE.1 hP 0 rfl rfl 0 (by decide) (hts _ (List.mem_cons_of_mem _ iw3_54)) (fun _ h9 => h9) rfl d_Md_character_161 ?_
                    refine lv_iload_n hx hb d_Md_character_164 rfl (lv_at hl 5 rfl) ?_
                    refine lv_iload hx hb d_Md_character_165 (lv_at hl 0 rfl) ?_
                    refine lv_iadd hx hb d_Md_character_167 ?_
                    rw [show nI pl + 3 = nI (pl + 3) from nI_add pl 3]
                    refine va_iald hx hb hE.1 hP 1 3 rfl rfl (vp_in_nI (by omega) (by omega)) d_Md_character_168 ?_
                    rw [nI_clamp (n := pl + 3) (by omega), hfd (pl + 3) (by omega)]
                    refine lv_iadd hx hb d_Md_character_169 ?_
                    refine lv_sipush (v := 128) hx hb d_Md_character_170 (by decide) ?_
                    refine lv_isub hx hb d_Md_character_173 ?_
                    rw [show 64 * nI (((b pl - 240) * 64 + (b (pl + 1) - 128)) * 64 + (b (pl + 2) - 128)) + nI (b (pl + 3)) - 128 = nI ((((b pl - 240) * 64 + (b (pl + 1) - 128)) * 64 + (b (pl + 2) - 128)) * 64 + (b (pl + 3) - 128)) from by rw [show (64 : Int32) = nI 64 from rfl, pk_mul, nI_add, show (128 : Int32) = nI 128 from rfl, pk_sub (by omega)]; congr 1; omega]
                    refine lv_istore (lv' := [(5, .int (nI ((((b pl - 240) * 64 + (b (pl + 1) - 128)) * 64 + (b (pl + 2) - 128)) * 64 + (b (pl + 3) - 128)))), (6, .int 3), (4, .int 4), (3, .int (nI (b pl))), (0, .ref m0), (1, .int (nI pl)), (2, .int (nI ee))]) hx hb d_Md_character_174 hl (by decide) rfl (fun ls hl => ?_)
                    refine lv_iinc (v := 4) (lv' := [(6, .int 4), (5, .int (nI ((((b pl - 240) * 64 + (b (pl + 1) - 128)) * 64 + (b (pl + 2) - 128)) * 64 + (b (pl + 3) - 128)))), (4, .int 4), (3, .int (nI (b pl))), (0, .ref m0), (1, .int (nI pl)), (2, .int (nI ee))]) hx hb d_Md_character_176 hl (k := 1) rfl (by decide) (by decide) rfl (fun ls hl => ?_)
                    refine lv_goto (tgt := 130) hx hb d_Md_character_179 (by decide) ?_
                    refine lv_iload hx hb d_Md_character_130 (lv_at hl 0 rfl) ?_
                    refine lv_iload hx hb d_Md_character_132 (lv_at hl 2 rfl) ?_
                    refine lv_icmp_ge (tgt := 182) hx hb d_Md_character_134 (by decide) (fun c_134 => ?_) (fun c_134 => absurd (by decide) c_134)
                    refine lv_iload hx hb d_Md_character_182 (lv_at hl 2 rfl) ?_
                    refine lv_iconst (v := 2) hx hb d_Md_character_184 (by decide) ?_
                    refine lv_icmp_ne (tgt := 204) hx hb d_Md_character_185 (by decide) (fun c_185 => ?_) (fun c_185 => absurd c_185 (by decide))
                    refine lv_iload hx hb d_Md_character_204 (lv_at hl 2 rfl) ?_
                    refine lv_iconst (v := 3) hx hb d_Md_character_206 (by decide) ?_
                    refine lv_icmp_ne (tgt := 240) hx hb d_Md_character_207 (by decide) (fun c_207 => ?_) (fun c_207 => absurd c_207 (by decide))
                    refine lv_iload hx hb d_Md_character_240 (lv_at hl 1 rfl) ?_
                    refine lv_ldc hx hb hown (hts _ (List.mem_cons_of_mem _ iw4_6)) d_Md_character_242 ?_
                    refine lv_icmp_lt (tgt := 258) hx hb d_Md_character_244 (by decide) (fun c_244 => ?_) (fun c_244 => ?_)
                    · refine lv_iconst (v := 0) hx hb d_Md_character_258 (by decide) ?_
                      refine lv_istore (lv' := [(6, .int 0), (5, .int (nI ((((b pl - 240) * 64 + (b (pl + 1) - 128)) * 64 + (b (pl + 2) - 128)) * 64 + (b (pl + 3) - 128)))), (4, .int 4), (3, .int (nI (b pl))), (0, .ref m0), (1, .int (nI pl)), (2, .int (nI ee))]) hx hb d_Md_character_259 hl (by decide) rfl (fun ls hl => ?_)
                      refine lv_iload hx hb d_Md_character_261 (lv_at hl 0 rfl) ?_
                      refine lv_if_eq (tgt := 271) hx hb d_Md_character_263 (by decide) (fun c_263 => ?_) (fun c_263 => absurd (by decide) c_263)
                      refine lv_iconst (v := 0) hx hb d_Md_character_271 (by decide) ?_
                      try (have e_193 := (nI_ltI (a := ((((b pl - 240) * 64 + (b (pl + 1) - 128)) * 64 + (b (pl + 2) - 128)) * 64 + (b (pl + 3) - 128))) (b := 128) (by omega) (by omega)); rw [show nI 128 = (128 : Int32) from rfl] at e_193; simp only [e_193] at c_193)
                      try (have e_215 := (nI_ltI (a := ((((b pl - 240) * 64 + (b (pl + 1) - 128)) * 64 + (b (pl + 2) - 128)) * 64 + (b (pl + 3) - 128))) (b := 2048) (by omega) (by omega)); rw [show nI 2048 = (2048 : Int32) from rfl] at e_215; simp only [e_215] at c_215)
                      try (have e_222 := (nI_ltI (a := ((((b pl - 240) * 64 + (b (pl + 1) - 128)) * 64 + (b (pl + 2) - 128)) * 64 + (b (pl + 3) - 128))) (b := 55296) (by omega) (by omega)); rw [show nI 55296 = (55296 : Int32) from rfl] at e_222; simp only [e_222] at c_222)
                      try (have e_229 := (nI_leI (a := ((((b pl - 240) * 64 + (b (pl + 1) - 128)) * 64 + (b (pl + 2) - 128)) * 64 + (b (pl + 3) - 128))) (b := 57343) (by omega) (by omega)); rw [show nI 57343 = (57343 : Int32) from rfl] at e_229; simp only [e_229] at c_229)
                      try (have e_244 := (nI_ltI (a := ((((b pl - 240) * 64 + (b (pl + 1) - 128)) * 64 + (b (pl + 2) - 128)) * 64 + (b (pl + 3) - 128))) (b := 65536) (by omega) (by omega)); rw [show nI 65536 = (65536 : Int32) from rfl] at e_244; simp only [e_244] at c_244)
                      try (have e_251 := (nI_ltI (a := 1114111) (b := ((((b pl - 240) * 64 + (b (pl + 1) - 128)) * 64 + (b (pl + 2) - 128)) * 64 + (b (pl + 3) - 128))) (by omega) (by omega)); rw [show nI 1114111 = (1114111 : Int32) from rfl] at e_251; simp only [e_251] at c_251)
                      have hz : nSz 4 ((((b pl - 240) * 64 + (b (pl + 1) - 128)) * 64 + (b (pl + 2) - 128)) * 64 + (b (pl + 3) - 128)) = false := by unfold nSz; simp; omega
                      exact cRi () hx hb hr hlocks d_Md_character_272 hS hP hD (by rw [show pChar b ee pl = 0 from by rw [ch_4 (by omega) (by omega) hend, chT_s hk1, chT_s hk2, chT_s hk3]; exact if_neg (by rw [hz]; decide)]; rfl) (Nat.le_refl _) (Nat.le_refl _)
                    · refine lv_iload hx hb d_Md_character_247 (lv_at hl 1 rfl) ?_
                      refine lv_ldc hx hb hown (hts _ (List.mem_cons_of_mem _ iw4_7)) d_Md_character_249 ?_
                      refine lv_icmp_gt (tgt := 258) hx hb d_Md_character_251 (by decide) (fun c_251 => ?_) (fun c_251 => ?_)
                      · refine lv_iconst (v := 0) hx hb d_Md_character_258 (by decide) ?_
                        refine lv_istore (lv' := [(6, .int 0), (5, .int (nI ((((b pl - 240) * 64 + (b (pl + 1) - 128)) * 64 + (b (pl + 2) - 128)) * 64 + (b (pl + 3) - 128)))), (4, .int 4), (3, .int (nI (b pl))), (0, .ref m0), (1, .int (nI pl)), (2, .int (nI ee))]) hx hb d_Md_character_259 hl (by decide) rfl (fun ls hl => ?_)
                        refine lv_iload hx hb d_Md_character_261 (lv_at hl 0 rfl) ?_
                        refine lv_if_eq (tgt := 271) hx hb d_Md_character_263 (by decide) (fun c_263 => ?_) (fun c_263 => absurd (by decide) c_263)
                        refine lv_iconst (v := 0) hx hb d_Md_character_271 (by decide) ?_
                        try (have e_193 := (nI_ltI (a := ((((b pl - 240) * 64 + (b (pl + 1) - 128)) * 64 + (b (pl + 2) - 128)) * 64 + (b (pl + 3) - 128))) (b := 128) (by omega) (by omega)); rw [show nI 128 = (128 : Int32) from rfl] at e_193; simp only [e_193] at c_193)
                        try (have e_215 := (nI_ltI (a := ((((b pl - 240) * 64 + (b (pl + 1) - 128)) * 64 + (b (pl + 2) - 128)) * 64 + (b (pl + 3) - 128))) (b := 2048) (by omega) (by omega)); rw [show nI 2048 = (2048 : Int32) from rfl] at e_215; simp only [e_215] at c_215)
                        try (have e_222 := (nI_ltI (a := ((((b pl - 240) * 64 + (b (pl + 1) - 128)) * 64 + (b (pl + 2) - 128)) * 64 + (b (pl + 3) - 128))) (b := 55296) (by omega) (by omega)); rw [show nI 55296 = (55296 : Int32) from rfl] at e_222; simp only [e_222] at c_222)
                        try (have e_229 := (nI_leI (a := ((((b pl - 240) * 64 + (b (pl + 1) - 128)) * 64 + (b (pl + 2) - 128)) * 64 + (b (pl + 3) - 128))) (b := 57343) (by omega) (by omega)); rw [show nI 57343 = (57343 : Int32) from rfl] at e_229; simp only [e_229] at c_229)
                        try (have e_244 := (nI_ltI (a := ((((b pl - 240) * 64 + (b (pl + 1) - 128)) * 64 + (b (pl + 2) - 128)) * 64 + (b (pl + 3) - 128))) (b := 65536) (by omega) (by omega)); rw [show nI 65536 = (65536 : Int32) from rfl] at e_244; simp only [e_244] at c_244)
                        try (have e_251 := (nI_ltI (a := 1114111) (b := ((((b pl - 240) * 64 + (b (pl + 1) - 128)) * 64 + (b (pl + 2) - 128)) * 64 + (b (pl + 3) - 128))) (by omega) (by omega)); rw [show nI 1114111 = (1114111 : Int32) from rfl] at e_251; simp only [e_251] at c_251)
                        have hz : nSz 4 ((((b pl - 240) * 64 + (b (pl + 1) - 128)) * 64 + (b (pl + 2) - 128)) * 64 + (b (pl + 3) - 128)) = false := by unfold nSz; simp; omega
                        exact cRi () hx hb hr hlocks d_Md_character_272 hS hP hD (by rw [show pChar b ee pl = 0 from by rw [ch_4 (by omega) (by omega) hend, chT_s hk1, chT_s hk2, chT_s hk3]; exact if_neg (by rw [hz]; decide)]; rfl) (Nat.le_refl _) (Nat.le_refl _)
                      · refine lv_iconst (v := 1) hx hb d_Md_character_254 (by decide) ?_
                        refine lv_goto (tgt := 259) hx hb d_Md_character_255 (by decide) ?_
                        refine lv_istore (lv' := [(6, .int 1), (5, .int (nI ((((b pl - 240) * 64 + (b (pl + 1) - 128)) * 64 + (b (pl + 2) - 128)) * 64 + (b (pl + 3) - 128)))), (4, .int 4), (3, .int (nI (b pl))), (0, .ref m0), (1, .int (nI pl)), (2, .int (nI ee))]) hx hb d_Md_character_259 hl (by decide) rfl (fun ls hl => ?_)
                        refine lv_iload hx hb d_Md_character_261 (lv_at hl 0 rfl) ?_
                        refine lv_if_eq (tgt := 271) hx hb d_Md_character_263 (by decide) (fun c_263 => absurd c_263 (by decide)) (fun c_263 => ?_)
                        refine lv_iload hx hb d_Md_character_266 (lv_at hl 2 rfl) ?_
                        refine lv_goto (tgt := 272) hx hb d_Md_character_268 (by decide) ?_
                        try (have e_193 := (nI_ltI (a := ((((b pl - 240) * 64 + (b (pl + 1) - 128)) * 64 + (b (pl + 2) - 128)) * 64 + (b (pl + 3) - 128))) (b := 128) (by omega) (by omega)); rw [show nI 128 = (128 : Int32) from rfl] at e_193; simp only [e_193] at c_193)
                        try (have e_215 := (nI_ltI (a := ((((b pl - 240) * 64 + (b (pl + 1) - 128)) * 64 + (b (pl + 2) - 128)) * 64 + (b (pl + 3) - 128))) (b := 2048) (by omega) (by omega)); rw [show nI 2048 = (2048 : Int32) from rfl] at e_215; simp only [e_215] at c_215)
                        try (have e_222 := (nI_ltI (a := ((((b pl - 240) * 64 + (b (pl + 1) - 128)) * 64 + (b (pl + 2) - 128)) * 64 + (b (pl + 3) - 128))) (b := 55296) (by omega) (by omega)); rw [show nI 55296 = (55296 : Int32) from rfl] at e_222; simp only [e_222] at c_222)
                        try (have e_229 := (nI_leI (a := ((((b pl - 240) * 64 + (b (pl + 1) - 128)) * 64 + (b (pl + 2) - 128)) * 64 + (b (pl + 3) - 128))) (b := 57343) (by omega) (by omega)); rw [show nI 57343 = (57343 : Int32) from rfl] at e_229; simp only [e_229] at c_229)
                        try (have e_244 := (nI_ltI (a := ((((b pl - 240) * 64 + (b (pl + 1) - 128)) * 64 + (b (pl + 2) - 128)) * 64 + (b (pl + 3) - 128))) (b := 65536) (by omega) (by omega)); rw [show nI 65536 = (65536 : Int32) from rfl] at e_244; simp only [e_244] at c_244)
                        try (have e_251 := (nI_ltI (a := 1114111) (b := ((((b pl - 240) * 64 + (b (pl + 1) - 128)) * 64 + (b (pl + 2) - 128)) * 64 + (b (pl + 3) - 128))) (by omega) (by omega)); rw [show nI 1114111 = (1114111 : Int32) from rfl] at e_251; simp only [e_251] at c_251)
                        have hz : nSz 4 ((((b pl - 240) * 64 + (b (pl + 1) - 128)) * 64 + (b (pl + 2) - 128)) * 64 + (b (pl + 3) - 128)) = true := by unfold nSz; simp; omega
                        exact cRi () hx hb hr hlocks d_Md_character_272 hS hP hD (by rw [show pChar b ee pl = 4 from by rw [ch_4 (by omega) (by omega) hend, chT_s hk1, chT_s hk2, chT_s hk3]; exact if_pos hz]; rfl) (Nat.le_refl _) (Nat.le_refl _)
                  · have hk3 : b (pl + 3) < 128 ∨ 191 < b (pl + 3) := Decidable.byContradiction (fun q => c_150 (by rw [show b (pl + 3) / 2 ^ 6 = 2 by omega]; rfl))
                    refine lv_iconst (v := 0) hx hb d_Md_character_153 (by decide) ?_
                    exact cRi () hx hb hr hlocks d_Md_character_154 hS hP hD (by rw [show pChar b ee pl = 0 from by rw [ch_4 (by omega) (by omega) hend, chT_s hk1, chT_s hk2, chT_n hk3]]; rfl) (Nat.le_refl _) (Nat.le_refl _)
                · have hk2 : b (pl + 2) < 128 ∨ 191 < b (pl + 2) := Decidable.byContradiction (fun q => c_150 (by rw [show b (pl + 2) / 2 ^ 6 = 2 by omega]; rfl))
                  refine lv_iconst (v := 0) hx hb d_Md_character_153 (by decide) ?_
                  exact cRi () hx hb hr hlocks d_Md_character_154 hS hP hD (by rw [show pChar b ee pl = 0 from by rw [ch_4 (by omega) (by omega) hend, chT_s hk1, chT_n hk2]]; rfl) (Nat.le_refl _) (Nat.le_refl _)
              · have hk1 : b (pl + 1) < 128 ∨ 191 < b (pl + 1) := Decidable.byContradiction (fun q => c_150 (by rw [show b (pl + 1) / 2 ^ 6 = 2 by omega]; rfl))
                refine lv_iconst (v := 0) hx hb d_Md_character_153 (by decide) ?_
                exact cRi () hx hb hr hlocks d_Md_character_154 hS hP hD (by rw [show pChar b ee pl = 0 from by rw [ch_4 (by omega) (by omega) hend, chT_n hk1]]; rfl) (Nat.le_refl _) (Nat.le_refl _)
            · have hend : ¬ pl + 4 ≤ ee := fun q => c_76 (nI_le q (by omega))
              refine lv_iload hx hb d_Md_character_79 (lv_at hl 0 rfl) ?_
              refine lv_iconst (v := 2) hx hb d_Md_character_81 (by decide) ?_
              refine lv_icmp_ge (tgt := 90) hx hb d_Md_character_82 (by decide) (fun c_82 => ?_) (fun c_82 => absurd (by decide) c_82)
              refine lv_iconst (v := 0) hx hb d_Md_character_90 (by decide) ?_
              exact cRi () hx hb hr hlocks d_Md_character_91 hS hP hD (by rw [show pChar b ee pl = 0 from pChar_0 (by omega) (Or.inr (Or.inr (by rw [show chS (b pl) = 4 from by unfold chS; rw [if_pos (by omega)]]; omega)))]; rfl) (Nat.le_refl _) (Nat.le_refl _)
        · refine lv_iconst (v := 3) hx hb d_Md_character_47 (by decide) ?_
          refine lv_goto (tgt := 63) hx hb d_Md_character_48 (by decide) ?_
          have hB0 := hb9 pl
          try (have c_11 : ¬ b pl < 128 := Nat.not_lt.mpr ((nI_leI (a := 128) (b := b pl) (by omega) (by omega)).mp c_11))
          try (have c_11 : b pl < 128 := Nat.lt_of_not_le (fun q => c_11 (nI_le (a := 128) (b := b pl) q (by omega))))
          try (have c_22 : ¬ b pl < 192 := Nat.not_lt.mpr ((nI_leI (a := 192) (b := b pl) (by omega) (by omega)).mp c_22))
          try (have c_22 : b pl < 192 := Nat.lt_of_not_le (fun q => c_22 (nI_le (a := 192) (b := b pl) q (by omega))))
          try (have c_33 : ¬ b pl < 224 := Nat.not_lt.mpr ((nI_leI (a := 224) (b := b pl) (by omega) (by omega)).mp c_33))
          try (have c_33 : b pl < 224 := Nat.lt_of_not_le (fun q => c_33 (nI_le (a := 224) (b := b pl) q (by omega))))
          try (have c_44 : ¬ b pl < 240 := Nat.not_lt.mpr ((nI_leI (a := 240) (b := b pl) (by omega) (by omega)).mp c_44))
          try (have c_44 : b pl < 240 := Nat.lt_of_not_le (fun q => c_44 (nI_le (a := 240) (b := b pl) q (by omega))))
          try (have c_55 : ¬ b pl < 248 := Nat.not_lt.mpr ((nI_leI (a := 248) (b := b pl) (by omega) (by omega)).mp c_55))
          try (have c_55 : b pl < 248 := Nat.lt_of_not_le (fun q => c_55 (nI_le (a := 248) (b := b pl) q (by omega))))
          refine lv_istore (lv' := [(4, .int 3), (3, .int (nI (b pl))), (0, .ref m0), (1, .int (nI pl)), (2, .int (nI ee))]) hx hb d_Md_character_63 hl (by decide) rfl (fun ls hl => ?_)
          refine lv_iload hx hb d_Md_character_65 (lv_at hl 0 rfl) ?_
          refine lv_iconst (v := 2) hx hb d_Md_character_67 (by decide) ?_
          refine lv_icmp_lt (tgt := 79) hx hb d_Md_character_68 (by decide) (fun c_68 => absurd c_68 (by decide)) (fun c_68 => ?_)
          refine lv_iload_n hx hb d_Md_character_71 rfl (lv_at hl 3 rfl) ?_
          refine lv_iload hx hb d_Md_character_72 (lv_at hl 0 rfl) ?_
          refine lv_iadd hx hb d_Md_character_74 ?_
          rw [show nI pl + 3 = nI (pl + 3) from nI_add pl 3]
          refine lv_iload_n hx hb d_Md_character_75 rfl (lv_at hl 4 rfl) ?_
          refine lv_icmp_le (tgt := 92) hx hb d_Md_character_76 (by decide) (fun c_76 => ?_) (fun c_76 => ?_)
          · have hend : pl + 3 ≤ ee := (nI_leI (by omega) (by omega)).mp c_76
            refine lv_iload hx hb d_Md_character_92 (lv_at hl 0 rfl) ?_
            refine lv_iconst (v := 2) hx hb d_Md_character_94 (by decide) ?_
            refine lv_icmp_ne (tgt := 106) hx hb d_Md_character_95 (by decide) (fun c_95 => ?_) (fun c_95 => absurd c_95 (by decide))
            refine lv_iload hx hb d_Md_character_106 (lv_at hl 0 rfl) ?_
            refine lv_iconst (v := 3) hx hb d_Md_character_108 (by decide) ?_
            refine lv_icmp_ne (tgt := 120) hx hb d_Md_character_109 (by decide) (fun c_109 => absurd (by decide) c_109) (fun c_109 => ?_)
            refine lv_iload_n hx hb d_Md_character_112 rfl (lv_at hl 1 rfl) ?_
            refine lv_sipush (v := 224) hx hb d_Md_character_113 (by decide) ?_
            refine lv_isub hx hb d_Md_character_116 ?_
            refine lv_goto (tgt := 125) hx hb d_Md_character_117 (by decide) ?_
            rw [show nI (b pl) - 224 = nI (b pl - 224) from pk_sub (a := b pl) (b := 224) (by omega)]
            refine lv_istore (lv' := [(5, .int (nI (b pl - 224))), (4, .int 3), (3, .int (nI (b pl))), (0, .ref m0), (1, .int (nI pl)), (2, .int (nI ee))]) hx hb d_Md_character_125 hl (by decide) rfl (fun ls hl => ?_)
            refine lv_iconst (v := 1) hx hb d_Md_character_127 (by decide) ?_
            refine lv_istore (lv' := [(6, .int 1), (5, .int (nI (b pl - 224))), (4, .int 3), (3, .int (nI (b pl))), (0, .ref m0), (1, .int (nI pl)), (2, .int (nI ee))]) hx hb d_Md_character_128 hl (by decide) rfl (fun ls hl => ?_)
            refine lv_iload hx hb d_Md_character_130 (lv_at hl 0 rfl) ?_
            refine lv_iload hx hb d_Md_character_132 (lv_at hl 2 rfl) ?_
            refine lv_icmp_ge (tgt := 182) hx hb d_Md_character_134 (by decide) (fun c_134 => absurd c_134 (by decide)) (fun c_134 => ?_)
            refine lv_aload_n hx hb d_Md_character_137 rfl (lv_at hl 4 rfl) ?_
            refine va_get (D := D) (ci := 6) (v := .ref (g 0)) (C := R_Md) (T := F_Md) (N := 44) hx hb hts (fun w h => List.mem_cons_of_mem _ (i_Md w h)) hown hE.1 hP 0 rfl rfl 0 (by decide) (hts _ (List.mem_cons_of_mem _ iw3_54)) (fun _ h9 => h9) rfl d_Md_character_138 ?_
            refine lv_iload_n hx hb d_Md_character_141 rfl (lv_at hl 5 rfl) ?_
            refine lv_iload hx hb d_Md_character_142 (lv_at hl 0 rfl) ?_
            refine lv_iadd hx hb d_Md_character_144 ?_
            rw [show nI pl + 1 = nI (pl + 1) from nI_add pl 1]
            refine va_iald hx hb hE.1 hP 1 3 rfl rfl (vp_in_nI (by omega) (by omega)) d_Md_character_145 ?_
            rw [nI_clamp (n := pl + 1) (by omega), hfd (pl + 1) (by omega)]
            refine lv_bipush (v := 6) hx hb d_Md_character_146 (by decide) ?_
            refine lv_ishr hx hb d_Md_character_148 ?_
            have hB1 := hb9 (pl + 1)
            rw [pk_shrN (by omega) _ 6 (by decide +kernel)]
            refine lv_iconst (v := 2) hx hb d_Md_character_149 (by decide) ?_
            refine lv_icmp_eq (tgt := 155) hx hb d_Md_character_150 (by decide) (fun c_150 => ?_) (fun c_150 => ?_)
            · have hk1 : ¬ (b (pl + 1) < 128 ∨ 191 < b (pl + 1)) := by have := (nI_eq (a := b (pl + 1) / 2 ^ 6) (b := 2) (by omega) (by omega)).mp c_150; omega
              refine lv_bipush (v := 64) hx hb d_Md_character_155 (by decide) ?_
              refine lv_iload hx hb d_Md_character_157 (lv_at hl 1 rfl) ?_
              refine lv_imul hx hb d_Md_character_159 ?_
              refine lv_aload_n hx hb d_Md_character_160 rfl (lv_at hl 4 rfl) ?_
              refine va_get (D := D) (ci := 6) (v := .ref (g 0)) (C := R_Md) (T := F_Md) (N := 44) hx hb hts (fun w h => List.mem_cons_of_mem _ (i_Md w h)) hown hE.1 hP 0 rfl rfl 0 (by decide) (hts _ (List.mem_cons_of_mem _ iw3_54)) (fun _ h9 => h9) rfl d_Md_character_161 ?_
              refine lv_iload_n hx hb d_Md_character_164 rfl (lv_at hl 5 rfl) ?_
              refine lv_iload hx hb d_Md_character_165 (lv_at hl 0 rfl) ?_
              refine lv_iadd hx hb d_Md_character_167 ?_
              rw [show nI pl + 1 = nI (pl + 1) from nI_add pl 1]
              refine va_iald hx hb hE.1 hP 1 3 rfl rfl (vp_in_nI (by omega) (by omega)) d_Md_character_168 ?_
              rw [nI_clamp (n := pl + 1) (by omega), hfd (pl + 1) (by omega)]
              refine lv_iadd hx hb d_Md_character_169 ?_
              refine lv_sipush (v := 128) hx hb d_Md_character_170 (by decide) ?_
              refine lv_isub hx hb d_Md_character_173 ?_
              rw [show 64 * nI (b pl - 224) + nI (b (pl + 1)) - 128 = nI ((b pl - 224) * 64 + (b (pl + 1) - 128)) from by rw [show (64 : Int32) = nI 64 from rfl, pk_mul, nI_add, show (128 : Int32) = nI 128 from rfl, pk_sub (by omega)]; congr 1; omega]
              refine lv_istore (lv' := [(5, .int (nI ((b pl - 224) * 64 + (b (pl + 1) - 128)))), (6, .int 1), (4, .int 3), (3, .int (nI (b pl))), (0, .ref m0), (1, .int (nI pl)), (2, .int (nI ee))]) hx hb d_Md_character_174 hl (by decide) rfl (fun ls hl => ?_)
              refine lv_iinc (v := 2) (lv' := [(6, .int 2), (5, .int (nI ((b pl - 224) * 64 + (b (pl + 1) - 128)))), (4, .int 3), (3, .int (nI (b pl))), (0, .ref m0), (1, .int (nI pl)), (2, .int (nI ee))]) hx hb d_Md_character_176 hl (k := 1) rfl (by decide) (by decide) rfl (fun ls hl => ?_)
              refine lv_goto (tgt := 130) hx hb d_Md_character_179 (by decide) ?_
              refine lv_iload hx hb d_Md_character_130 (lv_at hl 0 rfl) ?_
              refine lv_iload hx hb d_Md_character_132 (lv_at hl 2 rfl) ?_
              refine lv_icmp_ge (tgt := 182) hx hb d_Md_character_134 (by decide) (fun c_134 => absurd c_134 (by decide)) (fun c_134 => ?_)
              refine lv_aload_n hx hb d_Md_character_137 rfl (lv_at hl 4 rfl) ?_
              refine va_get (D := D) (ci := 6) (v := .ref (g 0)) (C := R_Md) (T := F_Md) (N := 44) hx hb hts (fun w h => List.mem_cons_of_mem _ (i_Md w h)) hown hE.1 hP 0 rfl rfl 0 (by decide) (hts _ (List.mem_cons_of_mem _ iw3_54)) (fun _ h9 => h9) rfl d_Md_character_138 ?_
              refine lv_iload_n hx hb d_Md_character_141 rfl (lv_at hl 5 rfl) ?_
              refine lv_iload hx hb d_Md_character_142 (lv_at hl 0 rfl) ?_
              refine lv_iadd hx hb d_Md_character_144 ?_
              rw [show nI pl + 2 = nI (pl + 2) from nI_add pl 2]
              refine va_iald hx hb hE.1 hP 1 3 rfl rfl (vp_in_nI (by omega) (by omega)) d_Md_character_145 ?_
              rw [nI_clamp (n := pl + 2) (by omega), hfd (pl + 2) (by omega)]
              refine lv_bipush (v := 6) hx hb d_Md_character_146 (by decide) ?_
              refine lv_ishr hx hb d_Md_character_148 ?_
              have hB2 := hb9 (pl + 2)
              rw [pk_shrN (by omega) _ 6 (by decide +kernel)]
              refine lv_iconst (v := 2) hx hb d_Md_character_149 (by decide) ?_
              refine lv_icmp_eq (tgt := 155) hx hb d_Md_character_150 (by decide) (fun c_150 => ?_) (fun c_150 => ?_)
              · have hk2 : ¬ (b (pl + 2) < 128 ∨ 191 < b (pl + 2)) := by have := (nI_eq (a := b (pl + 2) / 2 ^ 6) (b := 2) (by omega) (by omega)).mp c_150; omega
                refine lv_bipush (v := 64) hx hb d_Md_character_155 (by decide) ?_
                refine lv_iload hx hb d_Md_character_157 (lv_at hl 1 rfl) ?_
                refine lv_imul hx hb d_Md_character_159 ?_
                refine lv_aload_n hx hb d_Md_character_160 rfl (lv_at hl 4 rfl) ?_
                refine va_get (D := D) (ci := 6) (v := .ref (g 0)) (C := R_Md) (T := F_Md) (N := 44) hx hb hts (fun w h => List.mem_cons_of_mem _ (i_Md w h)) hown hE.1 hP 0 rfl rfl 0 (by decide) (hts _ (List.mem_cons_of_mem _ iw3_54)) (fun _ h9 => h9) rfl d_Md_character_161 ?_
                refine lv_iload_n hx hb d_Md_character_164 rfl (lv_at hl 5 rfl) ?_
                refine lv_iload hx hb d_Md_character_165 (lv_at hl 0 rfl) ?_
                refine lv_iadd hx hb d_Md_character_167 ?_
                rw [show nI pl + 2 = nI (pl + 2) from nI_add pl 2]
                refine va_iald hx hb hE.1 hP 1 3 rfl rfl (vp_in_nI (by omega) (by omega)) d_Md_character_168 ?_
                rw [nI_clamp (n := pl + 2) (by omega), hfd (pl + 2) (by omega)]
                refine lv_iadd hx hb d_Md_character_169 ?_
                refine lv_sipush (v := 128) hx hb d_Md_character_170 (by decide) ?_
                refine lv_isub hx hb d_Md_character_173 ?_
                rw [show 64 * nI ((b pl - 224) * 64 + (b (pl + 1) - 128)) + nI (b (pl + 2)) - 128 = nI (((b pl - 224) * 64 + (b (pl + 1) - 128)) * 64 + (b (pl + 2) - 128)) from by rw [show (64 : Int32) = nI 64 from rfl, pk_mul, nI_add, show (128 : Int32) = nI 128 from rfl, pk_sub (by omega)]; congr 1; omega]
                refine lv_istore (lv' := [(5, .int (nI (((b pl - 224) * 64 + (b (pl + 1) - 128)) * 64 + (b (pl + 2) - 128)))), (6, .int 2), (4, .int 3), (3, .int (nI (b pl))), (0, .ref m0), (1, .int (nI pl)), (2, .int (nI ee))]) hx hb d_Md_character_174 hl (by decide) rfl (fun ls hl => ?_)
                refine lv_iinc (v := 3) (lv' := [(6, .int 3), (5, .int (nI (((b pl - 224) * 64 + (b (pl + 1) - 128)) * 64 + (b (pl + 2) - 128)))), (4, .int 3), (3, .int (nI (b pl))), (0, .ref m0), (1, .int (nI pl)), (2, .int (nI ee))]) hx hb d_Md_character_176 hl (k := 1) rfl (by decide) (by decide) rfl (fun ls hl => ?_)
                refine lv_goto (tgt := 130) hx hb d_Md_character_179 (by decide) ?_
                refine lv_iload hx hb d_Md_character_130 (lv_at hl 0 rfl) ?_
                refine lv_iload hx hb d_Md_character_132 (lv_at hl 2 rfl) ?_
                refine lv_icmp_ge (tgt := 182) hx hb d_Md_character_134 (by decide) (fun c_134 => ?_) (fun c_134 => absurd (by decide) c_134)
                refine lv_iload hx hb d_Md_character_182 (lv_at hl 2 rfl) ?_
                refine lv_iconst (v := 2) hx hb d_Md_character_184 (by decide) ?_
                refine lv_icmp_ne (tgt := 204) hx hb d_Md_character_185 (by decide) (fun c_185 => ?_) (fun c_185 => absurd c_185 (by decide))
                refine lv_iload hx hb d_Md_character_204 (lv_at hl 2 rfl) ?_
                refine lv_iconst (v := 3) hx hb d_Md_character_206 (by decide) ?_
                refine lv_icmp_ne (tgt := 240) hx hb d_Md_character_207 (by decide) (fun c_207 => absurd (by decide) c_207) (fun c_207 => ?_)
                refine lv_iload hx hb d_Md_character_210 (lv_at hl 1 rfl) ?_
                refine lv_sipush (v := 2048) hx hb d_Md_character_212 (by decide) ?_
                refine lv_icmp_lt (tgt := 236) hx hb d_Md_character_215 (by decide) (fun c_215 => ?_) (fun c_215 => ?_)
                · refine lv_iconst (v := 0) hx hb d_Md_character_236 (by decide) ?_
                  refine lv_goto (tgt := 259) hx hb d_Md_character_237 (by decide) ?_
                  refine lv_istore (lv' := [(6, .int 0), (5, .int (nI (((b pl - 224) * 64 + (b (pl + 1) - 128)) * 64 + (b (pl + 2) - 128)))), (4, .int 3), (3, .int (nI (b pl))), (0, .ref m0), (1, .int (nI pl)), (2, .int (nI ee))]) hx hb d_Md_character_259 hl (by decide) rfl (fun ls hl => ?_)
                  refine lv_iload hx hb d_Md_character_261 (lv_at hl 0 rfl) ?_
                  refine lv_if_eq (tgt := 271) hx hb d_Md_character_263 (by decide) (fun c_263 => ?_) (fun c_263 => absurd (by decide) c_263)
                  refine lv_iconst (v := 0) hx hb d_Md_character_271 (by decide) ?_
                  try (have e_193 := (nI_ltI (a := (((b pl - 224) * 64 + (b (pl + 1) - 128)) * 64 + (b (pl + 2) - 128))) (b := 128) (by omega) (by omega)); rw [show nI 128 = (128 : Int32) from rfl] at e_193; simp only [e_193] at c_193)
                  try (have e_215 := (nI_ltI (a := (((b pl - 224) * 64 + (b (pl + 1) - 128)) * 64 + (b (pl + 2) - 128))) (b := 2048) (by omega) (by omega)); rw [show nI 2048 = (2048 : Int32) from rfl] at e_215; simp only [e_215] at c_215)
                  try (have e_222 := (nI_ltI (a := (((b pl - 224) * 64 + (b (pl + 1) - 128)) * 64 + (b (pl + 2) - 128))) (b := 55296) (by omega) (by omega)); rw [show nI 55296 = (55296 : Int32) from rfl] at e_222; simp only [e_222] at c_222)
                  try (have e_229 := (nI_leI (a := (((b pl - 224) * 64 + (b (pl + 1) - 128)) * 64 + (b (pl + 2) - 128))) (b := 57343) (by omega) (by omega)); rw [show nI 57343 = (57343 : Int32) from rfl] at e_229; simp only [e_229] at c_229)
                  try (have e_244 := (nI_ltI (a := (((b pl - 224) * 64 + (b (pl + 1) - 128)) * 64 + (b (pl + 2) - 128))) (b := 65536) (by omega) (by omega)); rw [show nI 65536 = (65536 : Int32) from rfl] at e_244; simp only [e_244] at c_244)
                  try (have e_251 := (nI_ltI (a := 1114111) (b := (((b pl - 224) * 64 + (b (pl + 1) - 128)) * 64 + (b (pl + 2) - 128))) (by omega) (by omega)); rw [show nI 1114111 = (1114111 : Int32) from rfl] at e_251; simp only [e_251] at c_251)
                  have hz : nSz 3 (((b pl - 224) * 64 + (b (pl + 1) - 128)) * 64 + (b (pl + 2) - 128)) = false := by unfold nSz; simp; omega
                  exact cRi () hx hb hr hlocks d_Md_character_272 hS hP hD (by rw [show pChar b ee pl = 0 from by rw [ch_3 (by omega) (by omega) hend, chT_s hk1, chT_s hk2]; exact if_neg (by rw [hz]; decide)]; rfl) (Nat.le_refl _) (Nat.le_refl _)
                · refine lv_iload hx hb d_Md_character_218 (lv_at hl 1 rfl) ?_
                  refine lv_ldc hx hb hown (hts _ (List.mem_cons_of_mem _ iw4_4)) d_Md_character_220 ?_
                  refine lv_icmp_lt (tgt := 232) hx hb d_Md_character_222 (by decide) (fun c_222 => ?_) (fun c_222 => ?_)
                  · refine lv_iconst (v := 1) hx hb d_Md_character_232 (by decide) ?_
                    refine lv_goto (tgt := 259) hx hb d_Md_character_233 (by decide) ?_
                    refine lv_istore (lv' := [(6, .int 1), (5, .int (nI (((b pl - 224) * 64 + (b (pl + 1) - 128)) * 64 + (b (pl + 2) - 128)))), (4, .int 3), (3, .int (nI (b pl))), (0, .ref m0), (1, .int (nI pl)), (2, .int (nI ee))]) hx hb d_Md_character_259 hl (by decide) rfl (fun ls hl => ?_)
                    refine lv_iload hx hb d_Md_character_261 (lv_at hl 0 rfl) ?_
                    refine lv_if_eq (tgt := 271) hx hb d_Md_character_263 (by decide) (fun c_263 => absurd c_263 (by decide)) (fun c_263 => ?_)
                    refine lv_iload hx hb d_Md_character_266 (lv_at hl 2 rfl) ?_
                    refine lv_goto (tgt := 272) hx hb d_Md_character_268 (by decide) ?_
                    try (have e_193 := (nI_ltI (a := (((b pl - 224) * 64 + (b (pl + 1) - 128)) * 64 + (b (pl + 2) - 128))) (b := 128) (by omega) (by omega)); rw [show nI 128 = (128 : Int32) from rfl] at e_193; simp only [e_193] at c_193)
                    try (have e_215 := (nI_ltI (a := (((b pl - 224) * 64 + (b (pl + 1) - 128)) * 64 + (b (pl + 2) - 128))) (b := 2048) (by omega) (by omega)); rw [show nI 2048 = (2048 : Int32) from rfl] at e_215; simp only [e_215] at c_215)
                    try (have e_222 := (nI_ltI (a := (((b pl - 224) * 64 + (b (pl + 1) - 128)) * 64 + (b (pl + 2) - 128))) (b := 55296) (by omega) (by omega)); rw [show nI 55296 = (55296 : Int32) from rfl] at e_222; simp only [e_222] at c_222)
                    try (have e_229 := (nI_leI (a := (((b pl - 224) * 64 + (b (pl + 1) - 128)) * 64 + (b (pl + 2) - 128))) (b := 57343) (by omega) (by omega)); rw [show nI 57343 = (57343 : Int32) from rfl] at e_229; simp only [e_229] at c_229)
                    try (have e_244 := (nI_ltI (a := (((b pl - 224) * 64 + (b (pl + 1) - 128)) * 64 + (b (pl + 2) - 128))) (b := 65536) (by omega) (by omega)); rw [show nI 65536 = (65536 : Int32) from rfl] at e_244; simp only [e_244] at c_244)
                    try (have e_251 := (nI_ltI (a := 1114111) (b := (((b pl - 224) * 64 + (b (pl + 1) - 128)) * 64 + (b (pl + 2) - 128))) (by omega) (by omega)); rw [show nI 1114111 = (1114111 : Int32) from rfl] at e_251; simp only [e_251] at c_251)
                    have hz : nSz 3 (((b pl - 224) * 64 + (b (pl + 1) - 128)) * 64 + (b (pl + 2) - 128)) = true := by unfold nSz; simp; omega
                    exact cRi () hx hb hr hlocks d_Md_character_272 hS hP hD (by rw [show pChar b ee pl = 3 from by rw [ch_3 (by omega) (by omega) hend, chT_s hk1, chT_s hk2]; exact if_pos hz]; rfl) (Nat.le_refl _) (Nat.le_refl _)
                  · refine lv_iload hx hb d_Md_character_225 (lv_at hl 1 rfl) ?_
                    refine lv_ldc hx hb hown (hts _ (List.mem_cons_of_mem _ iw4_5)) d_Md_character_227 ?_
                    refine lv_icmp_le (tgt := 236) hx hb d_Md_character_229 (by decide) (fun c_229 => ?_) (fun c_229 => ?_)
                    · refine lv_iconst (v := 0) hx hb d_Md_character_236 (by decide) ?_
                      refine lv_goto (tgt := 259) hx hb d_Md_character_237 (by decide) ?_
                      refine lv_istore (lv' := [(6, .int 0), (5, .int (nI (((b pl - 224) * 64 + (b (pl + 1) - 128)) * 64 + (b (pl + 2) - 128)))), (4, .int 3), (3, .int (nI (b pl))), (0, .ref m0), (1, .int (nI pl)), (2, .int (nI ee))]) hx hb d_Md_character_259 hl (by decide) rfl (fun ls hl => ?_)
                      refine lv_iload hx hb d_Md_character_261 (lv_at hl 0 rfl) ?_
                      refine lv_if_eq (tgt := 271) hx hb d_Md_character_263 (by decide) (fun c_263 => ?_) (fun c_263 => absurd (by decide) c_263)
                      refine lv_iconst (v := 0) hx hb d_Md_character_271 (by decide) ?_
                      try (have e_193 := (nI_ltI (a := (((b pl - 224) * 64 + (b (pl + 1) - 128)) * 64 + (b (pl + 2) - 128))) (b := 128) (by omega) (by omega)); rw [show nI 128 = (128 : Int32) from rfl] at e_193; simp only [e_193] at c_193)
                      try (have e_215 := (nI_ltI (a := (((b pl - 224) * 64 + (b (pl + 1) - 128)) * 64 + (b (pl + 2) - 128))) (b := 2048) (by omega) (by omega)); rw [show nI 2048 = (2048 : Int32) from rfl] at e_215; simp only [e_215] at c_215)
                      try (have e_222 := (nI_ltI (a := (((b pl - 224) * 64 + (b (pl + 1) - 128)) * 64 + (b (pl + 2) - 128))) (b := 55296) (by omega) (by omega)); rw [show nI 55296 = (55296 : Int32) from rfl] at e_222; simp only [e_222] at c_222)
                      try (have e_229 := (nI_leI (a := (((b pl - 224) * 64 + (b (pl + 1) - 128)) * 64 + (b (pl + 2) - 128))) (b := 57343) (by omega) (by omega)); rw [show nI 57343 = (57343 : Int32) from rfl] at e_229; simp only [e_229] at c_229)
                      try (have e_244 := (nI_ltI (a := (((b pl - 224) * 64 + (b (pl + 1) - 128)) * 64 + (b (pl + 2) - 128))) (b := 65536) (by omega) (by omega)); rw [show nI 65536 = (65536 : Int32) from rfl] at e_244; simp only [e_244] at c_244)
                      try (have e_251 := (nI_ltI (a := 1114111) (b := (((b pl - 224) * 64 + (b (pl + 1) - 128)) * 64 + (b (pl + 2) - 128))) (by omega) (by omega)); rw [show nI 1114111 = (1114111 : Int32) from rfl] at e_251; simp only [e_251] at c_251)
                      have hz : nSz 3 (((b pl - 224) * 64 + (b (pl + 1) - 128)) * 64 + (b (pl + 2) - 128)) = false := by unfold nSz; simp; omega
                      exact cRi () hx hb hr hlocks d_Md_character_272 hS hP hD (by rw [show pChar b ee pl = 0 from by rw [ch_3 (by omega) (by omega) hend, chT_s hk1, chT_s hk2]; exact if_neg (by rw [hz]; decide)]; rfl) (Nat.le_refl _) (Nat.le_refl _)
                    · refine lv_iconst (v := 1) hx hb d_Md_character_232 (by decide) ?_
                      refine lv_goto (tgt := 259) hx hb d_Md_character_233 (by decide) ?_
                      refine lv_istore (lv' := [(6, .int 1), (5, .int (nI (((b pl - 224) * 64 + (b (pl + 1) - 128)) * 64 + (b (pl + 2) - 128)))), (4, .int 3), (3, .int (nI (b pl))), (0, .ref m0), (1, .int (nI pl)), (2, .int (nI ee))]) hx hb d_Md_character_259 hl (by decide) rfl (fun ls hl => ?_)
                      refine lv_iload hx hb d_Md_character_261 (lv_at hl 0 rfl) ?_
                      refine lv_if_eq (tgt := 271) hx hb d_Md_character_263 (by decide) (fun c_263 => absurd c_263 (by decide)) (fun c_263 => ?_)
                      refine lv_iload hx hb d_Md_character_266 (lv_at hl 2 rfl) ?_
                      refine lv_goto (tgt := 272) hx hb d_Md_character_268 (by decide) ?_
                      try (have e_193 := (nI_ltI (a := (((b pl - 224) * 64 + (b (pl + 1) - 128)) * 64 + (b (pl + 2) - 128))) (b := 128) (by omega) (by omega)); rw [show nI 128 = (128 : Int32) from rfl] at e_193; simp only [e_193] at c_193)
                      try (have e_215 := (nI_ltI (a := (((b pl - 224) * 64 + (b (pl + 1) - 128)) * 64 + (b (pl + 2) - 128))) (b := 2048) (by omega) (by omega)); rw [show nI 2048 = (2048 : Int32) from rfl] at e_215; simp only [e_215] at c_215)
                      try (have e_222 := (nI_ltI (a := (((b pl - 224) * 64 + (b (pl + 1) - 128)) * 64 + (b (pl + 2) - 128))) (b := 55296) (by omega) (by omega)); rw [show nI 55296 = (55296 : Int32) from rfl] at e_222; simp only [e_222] at c_222)
                      try (have e_229 := (nI_leI (a := (((b pl - 224) * 64 + (b (pl + 1) - 128)) * 64 + (b (pl + 2) - 128))) (b := 57343) (by omega) (by omega)); rw [show nI 57343 = (57343 : Int32) from rfl] at e_229; simp only [e_229] at c_229)
                      try (have e_244 := (nI_ltI (a := (((b pl - 224) * 64 + (b (pl + 1) - 128)) * 64 + (b (pl + 2) - 128))) (b := 65536) (by omega) (by omega)); rw [show nI 65536 = (65536 : Int32) from rfl] at e_244; simp only [e_244] at c_244)
                      try (have e_251 := (nI_ltI (a := 1114111) (b := (((b pl - 224) * 64 + (b (pl + 1) - 128)) * 64 + (b (pl + 2) - 128))) (by omega) (by omega)); rw [show nI 1114111 = (1114111 : Int32) from rfl] at e_251; simp only [e_251] at c_251)
                      have hz : nSz 3 (((b pl - 224) * 64 + (b (pl + 1) - 128)) * 64 + (b (pl + 2) - 128)) = true := by unfold nSz; simp; omega
                      exact cRi () hx hb hr hlocks d_Md_character_272 hS hP hD (by rw [show pChar b ee pl = 3 from by rw [ch_3 (by omega) (by omega) hend, chT_s hk1, chT_s hk2]; exact if_pos hz]; rfl) (Nat.le_refl _) (Nat.le_refl _)
              · have hk2 : b (pl + 2) < 128 ∨ 191 < b (pl + 2) := Decidable.byContradiction (fun q => c_150 (by rw [show b (pl + 2) / 2 ^ 6 = 2 by omega]; rfl))
                refine lv_iconst (v := 0) hx hb d_Md_character_153 (by decide) ?_
                exact cRi () hx hb hr hlocks d_Md_character_154 hS hP hD (by rw [show pChar b ee pl = 0 from by rw [ch_3 (by omega) (by omega) hend, chT_s hk1, chT_n hk2]]; rfl) (Nat.le_refl _) (Nat.le_refl _)
            · have hk1 : b (pl + 1) < 128 ∨ 191 < b (pl + 1) := Decidable.byContradiction (fun q => c_150 (by rw [show b (pl + 1) / 2 ^ 6 = 2 by omega]; rfl))
              refine lv_iconst (v := 0) hx hb d_Md_character_153 (by decide) ?_
              exact cRi () hx hb hr hlocks d_Md_character_154 hS hP hD (by rw [show pChar b ee pl = 0 from by rw [ch_3 (by omega) (by omega) hend, chT_n hk1]]; rfl) (Nat.le_refl _) (Nat.le_refl _)
          · have hend : ¬ pl + 3 ≤ ee := fun q => c_76 (nI_le q (by omega))
            refine lv_iload hx hb d_Md_character_79 (lv_at hl 0 rfl) ?_
            refine lv_iconst (v := 2) hx hb d_Md_character_81 (by decide) ?_
            refine lv_icmp_ge (tgt := 90) hx hb d_Md_character_82 (by decide) (fun c_82 => ?_) (fun c_82 => absurd (by decide) c_82)
            refine lv_iconst (v := 0) hx hb d_Md_character_90 (by decide) ?_
            exact cRi () hx hb hr hlocks d_Md_character_91 hS hP hD (by rw [show pChar b ee pl = 0 from pChar_0 (by omega) (Or.inr (Or.inr (by rw [show chS (b pl) = 3 from by unfold chS; rw [if_neg (by omega), if_pos (by omega)]]; omega)))]; rfl) (Nat.le_refl _) (Nat.le_refl _)
      · refine lv_iconst (v := 2) hx hb d_Md_character_36 (by decide) ?_
        refine lv_goto (tgt := 63) hx hb d_Md_character_37 (by decide) ?_
        have hB0 := hb9 pl
        try (have c_11 : ¬ b pl < 128 := Nat.not_lt.mpr ((nI_leI (a := 128) (b := b pl) (by omega) (by omega)).mp c_11))
        try (have c_11 : b pl < 128 := Nat.lt_of_not_le (fun q => c_11 (nI_le (a := 128) (b := b pl) q (by omega))))
        try (have c_22 : ¬ b pl < 192 := Nat.not_lt.mpr ((nI_leI (a := 192) (b := b pl) (by omega) (by omega)).mp c_22))
        try (have c_22 : b pl < 192 := Nat.lt_of_not_le (fun q => c_22 (nI_le (a := 192) (b := b pl) q (by omega))))
        try (have c_33 : ¬ b pl < 224 := Nat.not_lt.mpr ((nI_leI (a := 224) (b := b pl) (by omega) (by omega)).mp c_33))
        try (have c_33 : b pl < 224 := Nat.lt_of_not_le (fun q => c_33 (nI_le (a := 224) (b := b pl) q (by omega))))
        try (have c_44 : ¬ b pl < 240 := Nat.not_lt.mpr ((nI_leI (a := 240) (b := b pl) (by omega) (by omega)).mp c_44))
        try (have c_44 : b pl < 240 := Nat.lt_of_not_le (fun q => c_44 (nI_le (a := 240) (b := b pl) q (by omega))))
        try (have c_55 : ¬ b pl < 248 := Nat.not_lt.mpr ((nI_leI (a := 248) (b := b pl) (by omega) (by omega)).mp c_55))
        try (have c_55 : b pl < 248 := Nat.lt_of_not_le (fun q => c_55 (nI_le (a := 248) (b := b pl) q (by omega))))
        refine lv_istore (lv' := [(4, .int 2), (3, .int (nI (b pl))), (0, .ref m0), (1, .int (nI pl)), (2, .int (nI ee))]) hx hb d_Md_character_63 hl (by decide) rfl (fun ls hl => ?_)
        refine lv_iload hx hb d_Md_character_65 (lv_at hl 0 rfl) ?_
        refine lv_iconst (v := 2) hx hb d_Md_character_67 (by decide) ?_
        refine lv_icmp_lt (tgt := 79) hx hb d_Md_character_68 (by decide) (fun c_68 => absurd c_68 (by decide)) (fun c_68 => ?_)
        refine lv_iload_n hx hb d_Md_character_71 rfl (lv_at hl 3 rfl) ?_
        refine lv_iload hx hb d_Md_character_72 (lv_at hl 0 rfl) ?_
        refine lv_iadd hx hb d_Md_character_74 ?_
        rw [show nI pl + 2 = nI (pl + 2) from nI_add pl 2]
        refine lv_iload_n hx hb d_Md_character_75 rfl (lv_at hl 4 rfl) ?_
        refine lv_icmp_le (tgt := 92) hx hb d_Md_character_76 (by decide) (fun c_76 => ?_) (fun c_76 => ?_)
        · have hend : pl + 2 ≤ ee := (nI_leI (by omega) (by omega)).mp c_76
          refine lv_iload hx hb d_Md_character_92 (lv_at hl 0 rfl) ?_
          refine lv_iconst (v := 2) hx hb d_Md_character_94 (by decide) ?_
          refine lv_icmp_ne (tgt := 106) hx hb d_Md_character_95 (by decide) (fun c_95 => absurd (by decide) c_95) (fun c_95 => ?_)
          refine lv_iload_n hx hb d_Md_character_98 rfl (lv_at hl 1 rfl) ?_
          refine lv_sipush (v := 192) hx hb d_Md_character_99 (by decide) ?_
          refine lv_isub hx hb d_Md_character_102 ?_
          refine lv_goto (tgt := 125) hx hb d_Md_character_103 (by decide) ?_
          rw [show nI (b pl) - 192 = nI (b pl - 192) from pk_sub (a := b pl) (b := 192) (by omega)]
          refine lv_istore (lv' := [(5, .int (nI (b pl - 192))), (4, .int 2), (3, .int (nI (b pl))), (0, .ref m0), (1, .int (nI pl)), (2, .int (nI ee))]) hx hb d_Md_character_125 hl (by decide) rfl (fun ls hl => ?_)
          refine lv_iconst (v := 1) hx hb d_Md_character_127 (by decide) ?_
          refine lv_istore (lv' := [(6, .int 1), (5, .int (nI (b pl - 192))), (4, .int 2), (3, .int (nI (b pl))), (0, .ref m0), (1, .int (nI pl)), (2, .int (nI ee))]) hx hb d_Md_character_128 hl (by decide) rfl (fun ls hl => ?_)
          refine lv_iload hx hb d_Md_character_130 (lv_at hl 0 rfl) ?_
          refine lv_iload hx hb d_Md_character_132 (lv_at hl 2 rfl) ?_
          refine lv_icmp_ge (tgt := 182) hx hb d_Md_character_134 (by decide) (fun c_134 => absurd c_134 (by decide)) (fun c_134 => ?_)
          refine lv_aload_n hx hb d_Md_character_137 rfl (lv_at hl 4 rfl) ?_
          refine va_get (D := D) (ci := 6) (v := .ref (g 0)) (C := R_Md) (T := F_Md) (N := 44) hx hb hts (fun w h => List.mem_cons_of_mem _ (i_Md w h)) hown hE.1 hP 0 rfl rfl 0 (by decide) (hts _ (List.mem_cons_of_mem _ iw3_54)) (fun _ h9 => h9) rfl d_Md_character_138 ?_
          refine lv_iload_n hx hb d_Md_character_141 rfl (lv_at hl 5 rfl) ?_
          refine lv_iload hx hb d_Md_character_142 (lv_at hl 0 rfl) ?_
          refine lv_iadd hx hb d_Md_character_144 ?_
          rw [show nI pl + 1 = nI (pl + 1) from nI_add pl 1]
          refine va_iald hx hb hE.1 hP 1 3 rfl rfl (vp_in_nI (by omega) (by omega)) d_Md_character_145 ?_
          rw [nI_clamp (n := pl + 1) (by omega), hfd (pl + 1) (by omega)]
          refine lv_bipush (v := 6) hx hb d_Md_character_146 (by decide) ?_
          refine lv_ishr hx hb d_Md_character_148 ?_
          have hB1 := hb9 (pl + 1)
          rw [pk_shrN (by omega) _ 6 (by decide +kernel)]
          refine lv_iconst (v := 2) hx hb d_Md_character_149 (by decide) ?_
          refine lv_icmp_eq (tgt := 155) hx hb d_Md_character_150 (by decide) (fun c_150 => ?_) (fun c_150 => ?_)
          · have hk1 : ¬ (b (pl + 1) < 128 ∨ 191 < b (pl + 1)) := by have := (nI_eq (a := b (pl + 1) / 2 ^ 6) (b := 2) (by omega) (by omega)).mp c_150; omega
            refine lv_bipush (v := 64) hx hb d_Md_character_155 (by decide) ?_
            refine lv_iload hx hb d_Md_character_157 (lv_at hl 1 rfl) ?_
            refine lv_imul hx hb d_Md_character_159 ?_
            refine lv_aload_n hx hb d_Md_character_160 rfl (lv_at hl 4 rfl) ?_
            refine va_get (D := D) (ci := 6) (v := .ref (g 0)) (C := R_Md) (T := F_Md) (N := 44) hx hb hts (fun w h => List.mem_cons_of_mem _ (i_Md w h)) hown hE.1 hP 0 rfl rfl 0 (by decide) (hts _ (List.mem_cons_of_mem _ iw3_54)) (fun _ h9 => h9) rfl d_Md_character_161 ?_
            refine lv_iload_n hx hb d_Md_character_164 rfl (lv_at hl 5 rfl) ?_
            refine lv_iload hx hb d_Md_character_165 (lv_at hl 0 rfl) ?_
            refine lv_iadd hx hb d_Md_character_167 ?_
            rw [show nI pl + 1 = nI (pl + 1) from nI_add pl 1]
            refine va_iald hx hb hE.1 hP 1 3 rfl rfl (vp_in_nI (by omega) (by omega)) d_Md_character_168 ?_
            rw [nI_clamp (n := pl + 1) (by omega), hfd (pl + 1) (by omega)]
            refine lv_iadd hx hb d_Md_character_169 ?_
            refine lv_sipush (v := 128) hx hb d_Md_character_170 (by decide) ?_
            refine lv_isub hx hb d_Md_character_173 ?_
            rw [show 64 * nI (b pl - 192) + nI (b (pl + 1)) - 128 = nI ((b pl - 192) * 64 + (b (pl + 1) - 128)) from by rw [show (64 : Int32) = nI 64 from rfl, pk_mul, nI_add, show (128 : Int32) = nI 128 from rfl, pk_sub (by omega)]; congr 1; omega]
            refine lv_istore (lv' := [(5, .int (nI ((b pl - 192) * 64 + (b (pl + 1) - 128)))), (6, .int 1), (4, .int 2), (3, .int (nI (b pl))), (0, .ref m0), (1, .int (nI pl)), (2, .int (nI ee))]) hx hb d_Md_character_174 hl (by decide) rfl (fun ls hl => ?_)
            refine lv_iinc (v := 2) (lv' := [(6, .int 2), (5, .int (nI ((b pl - 192) * 64 + (b (pl + 1) - 128)))), (4, .int 2), (3, .int (nI (b pl))), (0, .ref m0), (1, .int (nI pl)), (2, .int (nI ee))]) hx hb d_Md_character_176 hl (k := 1) rfl (by decide) (by decide) rfl (fun ls hl => ?_)
            refine lv_goto (tgt := 130) hx hb d_Md_character_179 (by decide) ?_
            refine lv_iload hx hb d_Md_character_130 (lv_at hl 0 rfl) ?_
            refine lv_iload hx hb d_Md_character_132 (lv_at hl 2 rfl) ?_
            refine lv_icmp_ge (tgt := 182) hx hb d_Md_character_134 (by decide) (fun c_134 => ?_) (fun c_134 => absurd (by decide) c_134)
            refine lv_iload hx hb d_Md_character_182 (lv_at hl 2 rfl) ?_
            refine lv_iconst (v := 2) hx hb d_Md_character_184 (by decide) ?_
            refine lv_icmp_ne (tgt := 204) hx hb d_Md_character_185 (by decide) (fun c_185 => absurd (by decide) c_185) (fun c_185 => ?_)
            refine lv_iload hx hb d_Md_character_188 (lv_at hl 1 rfl) ?_
            refine lv_sipush (v := 128) hx hb d_Md_character_190 (by decide) ?_
            refine lv_icmp_lt (tgt := 200) hx hb d_Md_character_193 (by decide) (fun c_193 => ?_) (fun c_193 => ?_)
            · refine lv_iconst (v := 0) hx hb d_Md_character_200 (by decide) ?_
              refine lv_goto (tgt := 259) hx hb d_Md_character_201 (by decide) ?_
              refine lv_istore (lv' := [(6, .int 0), (5, .int (nI ((b pl - 192) * 64 + (b (pl + 1) - 128)))), (4, .int 2), (3, .int (nI (b pl))), (0, .ref m0), (1, .int (nI pl)), (2, .int (nI ee))]) hx hb d_Md_character_259 hl (by decide) rfl (fun ls hl => ?_)
              refine lv_iload hx hb d_Md_character_261 (lv_at hl 0 rfl) ?_
              refine lv_if_eq (tgt := 271) hx hb d_Md_character_263 (by decide) (fun c_263 => ?_) (fun c_263 => absurd (by decide) c_263)
              refine lv_iconst (v := 0) hx hb d_Md_character_271 (by decide) ?_
              try (have e_193 := (nI_ltI (a := ((b pl - 192) * 64 + (b (pl + 1) - 128))) (b := 128) (by omega) (by omega)); rw [show nI 128 = (128 : Int32) from rfl] at e_193; simp only [e_193] at c_193)
              try (have e_215 := (nI_ltI (a := ((b pl - 192) * 64 + (b (pl + 1) - 128))) (b := 2048) (by omega) (by omega)); rw [show nI 2048 = (2048 : Int32) from rfl] at e_215; simp only [e_215] at c_215)
              try (have e_222 := (nI_ltI (a := ((b pl - 192) * 64 + (b (pl + 1) - 128))) (b := 55296) (by omega) (by omega)); rw [show nI 55296 = (55296 : Int32) from rfl] at e_222; simp only [e_222] at c_222)
              try (have e_229 := (nI_leI (a := ((b pl - 192) * 64 + (b (pl + 1) - 128))) (b := 57343) (by omega) (by omega)); rw [show nI 57343 = (57343 : Int32) from rfl] at e_229; simp only [e_229] at c_229)
              try (have e_244 := (nI_ltI (a := ((b pl - 192) * 64 + (b (pl + 1) - 128))) (b := 65536) (by omega) (by omega)); rw [show nI 65536 = (65536 : Int32) from rfl] at e_244; simp only [e_244] at c_244)
              try (have e_251 := (nI_ltI (a := 1114111) (b := ((b pl - 192) * 64 + (b (pl + 1) - 128))) (by omega) (by omega)); rw [show nI 1114111 = (1114111 : Int32) from rfl] at e_251; simp only [e_251] at c_251)
              have hz : nSz 2 ((b pl - 192) * 64 + (b (pl + 1) - 128)) = false := by unfold nSz; simp; omega
              exact cRi () hx hb hr hlocks d_Md_character_272 hS hP hD (by rw [show pChar b ee pl = 0 from by rw [ch_2 (by omega) (by omega) hend, chT_s hk1]; exact if_neg (by rw [hz]; decide)]; rfl) (Nat.le_refl _) (Nat.le_refl _)
            · refine lv_iconst (v := 1) hx hb d_Md_character_196 (by decide) ?_
              refine lv_goto (tgt := 259) hx hb d_Md_character_197 (by decide) ?_
              refine lv_istore (lv' := [(6, .int 1), (5, .int (nI ((b pl - 192) * 64 + (b (pl + 1) - 128)))), (4, .int 2), (3, .int (nI (b pl))), (0, .ref m0), (1, .int (nI pl)), (2, .int (nI ee))]) hx hb d_Md_character_259 hl (by decide) rfl (fun ls hl => ?_)
              refine lv_iload hx hb d_Md_character_261 (lv_at hl 0 rfl) ?_
              refine lv_if_eq (tgt := 271) hx hb d_Md_character_263 (by decide) (fun c_263 => absurd c_263 (by decide)) (fun c_263 => ?_)
              refine lv_iload hx hb d_Md_character_266 (lv_at hl 2 rfl) ?_
              refine lv_goto (tgt := 272) hx hb d_Md_character_268 (by decide) ?_
              try (have e_193 := (nI_ltI (a := ((b pl - 192) * 64 + (b (pl + 1) - 128))) (b := 128) (by omega) (by omega)); rw [show nI 128 = (128 : Int32) from rfl] at e_193; simp only [e_193] at c_193)
              try (have e_215 := (nI_ltI (a := ((b pl - 192) * 64 + (b (pl + 1) - 128))) (b := 2048) (by omega) (by omega)); rw [show nI 2048 = (2048 : Int32) from rfl] at e_215; simp only [e_215] at c_215)
              try (have e_222 := (nI_ltI (a := ((b pl - 192) * 64 + (b (pl + 1) - 128))) (b := 55296) (by omega) (by omega)); rw [show nI 55296 = (55296 : Int32) from rfl] at e_222; simp only [e_222] at c_222)
              try (have e_229 := (nI_leI (a := ((b pl - 192) * 64 + (b (pl + 1) - 128))) (b := 57343) (by omega) (by omega)); rw [show nI 57343 = (57343 : Int32) from rfl] at e_229; simp only [e_229] at c_229)
              try (have e_244 := (nI_ltI (a := ((b pl - 192) * 64 + (b (pl + 1) - 128))) (b := 65536) (by omega) (by omega)); rw [show nI 65536 = (65536 : Int32) from rfl] at e_244; simp only [e_244] at c_244)
              try (have e_251 := (nI_ltI (a := 1114111) (b := ((b pl - 192) * 64 + (b (pl + 1) - 128))) (by omega) (by omega)); rw [show nI 1114111 = (1114111 : Int32) from rfl] at e_251; simp only [e_251] at c_251)
              have hz : nSz 2 ((b pl - 192) * 64 + (b (pl + 1) - 128)) = true := by unfold nSz; simp; omega
              exact cRi () hx hb hr hlocks d_Md_character_272 hS hP hD (by rw [show pChar b ee pl = 2 from by rw [ch_2 (by omega) (by omega) hend, chT_s hk1]; exact if_pos hz]; rfl) (Nat.le_refl _) (Nat.le_refl _)
          · have hk1 : b (pl + 1) < 128 ∨ 191 < b (pl + 1) := Decidable.byContradiction (fun q => c_150 (by rw [show b (pl + 1) / 2 ^ 6 = 2 by omega]; rfl))
            refine lv_iconst (v := 0) hx hb d_Md_character_153 (by decide) ?_
            exact cRi () hx hb hr hlocks d_Md_character_154 hS hP hD (by rw [show pChar b ee pl = 0 from by rw [ch_2 (by omega) (by omega) hend, chT_n hk1]]; rfl) (Nat.le_refl _) (Nat.le_refl _)
        · have hend : ¬ pl + 2 ≤ ee := fun q => c_76 (nI_le q (by omega))
          refine lv_iload hx hb d_Md_character_79 (lv_at hl 0 rfl) ?_
          refine lv_iconst (v := 2) hx hb d_Md_character_81 (by decide) ?_
          refine lv_icmp_ge (tgt := 90) hx hb d_Md_character_82 (by decide) (fun c_82 => ?_) (fun c_82 => absurd (by decide) c_82)
          refine lv_iconst (v := 0) hx hb d_Md_character_90 (by decide) ?_
          exact cRi () hx hb hr hlocks d_Md_character_91 hS hP hD (by rw [show pChar b ee pl = 0 from pChar_0 (by omega) (Or.inr (Or.inr (by rw [show chS (b pl) = 2 from by unfold chS; rw [if_neg (by omega), if_neg (by omega)]]; omega)))]; rfl) (Nat.le_refl _) (Nat.le_refl _)
    · refine lv_iconst (v := 0) hx hb d_Md_character_25 (by decide) ?_
      refine lv_goto (tgt := 63) hx hb d_Md_character_26 (by decide) ?_
      have hB0 := hb9 pl
      try (have c_11 : ¬ b pl < 128 := Nat.not_lt.mpr ((nI_leI (a := 128) (b := b pl) (by omega) (by omega)).mp c_11))
      try (have c_11 : b pl < 128 := Nat.lt_of_not_le (fun q => c_11 (nI_le (a := 128) (b := b pl) q (by omega))))
      try (have c_22 : ¬ b pl < 192 := Nat.not_lt.mpr ((nI_leI (a := 192) (b := b pl) (by omega) (by omega)).mp c_22))
      try (have c_22 : b pl < 192 := Nat.lt_of_not_le (fun q => c_22 (nI_le (a := 192) (b := b pl) q (by omega))))
      try (have c_33 : ¬ b pl < 224 := Nat.not_lt.mpr ((nI_leI (a := 224) (b := b pl) (by omega) (by omega)).mp c_33))
      try (have c_33 : b pl < 224 := Nat.lt_of_not_le (fun q => c_33 (nI_le (a := 224) (b := b pl) q (by omega))))
      try (have c_44 : ¬ b pl < 240 := Nat.not_lt.mpr ((nI_leI (a := 240) (b := b pl) (by omega) (by omega)).mp c_44))
      try (have c_44 : b pl < 240 := Nat.lt_of_not_le (fun q => c_44 (nI_le (a := 240) (b := b pl) q (by omega))))
      try (have c_55 : ¬ b pl < 248 := Nat.not_lt.mpr ((nI_leI (a := 248) (b := b pl) (by omega) (by omega)).mp c_55))
      try (have c_55 : b pl < 248 := Nat.lt_of_not_le (fun q => c_55 (nI_le (a := 248) (b := b pl) q (by omega))))
      refine lv_istore (lv' := [(4, .int 0), (3, .int (nI (b pl))), (0, .ref m0), (1, .int (nI pl)), (2, .int (nI ee))]) hx hb d_Md_character_63 hl (by decide) rfl (fun ls hl => ?_)
      refine lv_iload hx hb d_Md_character_65 (lv_at hl 0 rfl) ?_
      refine lv_iconst (v := 2) hx hb d_Md_character_67 (by decide) ?_
      refine lv_icmp_lt (tgt := 79) hx hb d_Md_character_68 (by decide) (fun c_68 => ?_) (fun c_68 => absurd (by decide) c_68)
      refine lv_iload hx hb d_Md_character_79 (lv_at hl 0 rfl) ?_
      refine lv_iconst (v := 2) hx hb d_Md_character_81 (by decide) ?_
      refine lv_icmp_ge (tgt := 90) hx hb d_Md_character_82 (by decide) (fun c_82 => absurd c_82 (by decide)) (fun c_82 => ?_)
      refine lv_iload hx hb d_Md_character_85 (lv_at hl 0 rfl) ?_
      refine lv_goto (tgt := 91) hx hb d_Md_character_87 (by decide) ?_
      exact cRi () hx hb hr hlocks d_Md_character_91 hS hP hD (by rw [show pChar b ee pl = 0 from pChar_0 (by omega) (by omega)]; rfl) (Nat.le_refl _) (Nat.le_refl _)
  · refine lv_iconst (v := 1) hx hb d_Md_character_14 (by decide) ?_
    refine lv_goto (tgt := 63) hx hb d_Md_character_15 (by decide) ?_
    have hB0 := hb9 pl
    try (have c_11 : ¬ b pl < 128 := Nat.not_lt.mpr ((nI_leI (a := 128) (b := b pl) (by omega) (by omega)).mp c_11))
    try (have c_11 : b pl < 128 := Nat.lt_of_not_le (fun q => c_11 (nI_le (a := 128) (b := b pl) q (by omega))))
    try (have c_22 : ¬ b pl < 192 := Nat.not_lt.mpr ((nI_leI (a := 192) (b := b pl) (by omega) (by omega)).mp c_22))
    try (have c_22 : b pl < 192 := Nat.lt_of_not_le (fun q => c_22 (nI_le (a := 192) (b := b pl) q (by omega))))
    try (have c_33 : ¬ b pl < 224 := Nat.not_lt.mpr ((nI_leI (a := 224) (b := b pl) (by omega) (by omega)).mp c_33))
    try (have c_33 : b pl < 224 := Nat.lt_of_not_le (fun q => c_33 (nI_le (a := 224) (b := b pl) q (by omega))))
    try (have c_44 : ¬ b pl < 240 := Nat.not_lt.mpr ((nI_leI (a := 240) (b := b pl) (by omega) (by omega)).mp c_44))
    try (have c_44 : b pl < 240 := Nat.lt_of_not_le (fun q => c_44 (nI_le (a := 240) (b := b pl) q (by omega))))
    try (have c_55 : ¬ b pl < 248 := Nat.not_lt.mpr ((nI_leI (a := 248) (b := b pl) (by omega) (by omega)).mp c_55))
    try (have c_55 : b pl < 248 := Nat.lt_of_not_le (fun q => c_55 (nI_le (a := 248) (b := b pl) q (by omega))))
    refine lv_istore (lv' := [(4, .int 1), (3, .int (nI (b pl))), (0, .ref m0), (1, .int (nI pl)), (2, .int (nI ee))]) hx hb d_Md_character_63 hl (by decide) rfl (fun ls hl => ?_)
    refine lv_iload hx hb d_Md_character_65 (lv_at hl 0 rfl) ?_
    refine lv_iconst (v := 2) hx hb d_Md_character_67 (by decide) ?_
    refine lv_icmp_lt (tgt := 79) hx hb d_Md_character_68 (by decide) (fun c_68 => ?_) (fun c_68 => absurd (by decide) c_68)
    refine lv_iload hx hb d_Md_character_79 (lv_at hl 0 rfl) ?_
    refine lv_iconst (v := 2) hx hb d_Md_character_81 (by decide) ?_
    refine lv_icmp_ge (tgt := 90) hx hb d_Md_character_82 (by decide) (fun c_82 => absurd c_82 (by decide)) (fun c_82 => ?_)
    refine lv_iload hx hb d_Md_character_85 (lv_at hl 0 rfl) ?_
    refine lv_goto (tgt := 91) hx hb d_Md_character_87 (by decide) ?_
    exact cRi () hx hb hr hlocks d_Md_character_91 hS hP hD (by rw [show pChar b ee pl = 1 from pChar_1 (by omega)]; rfl) (Nat.le_refl _) (Nat.le_refl _)
