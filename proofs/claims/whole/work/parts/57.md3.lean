theorem sT5f {g : Nat} (hg : g ≤ 127) (h1 : ¬ nI (g % 2 ^ 7 / 2 ^ 4) = 0) (h2 : ¬ nI (g % 2 ^ 7 / 2 ^ 4) = 7) : sTop 5 g = false := by
  have : ∀ g, g < 128 → ¬ nI (g % 2 ^ 7 / 2 ^ 4) = 0 → ¬ nI (g % 2 ^ 7 / 2 ^ 4) = 7 → sTop 5 g = false := by decide +kernel
  exact this g (by omega) h1 h2
theorem sT5t {g : Nat} (hg : g ≤ 127) (h1 : nI (g % 2 ^ 7 / 2 ^ 4) = 0 ∨ nI (g % 2 ^ 7 / 2 ^ 4) = 7) : sTop 5 g = true := by
  have : ∀ g, g < 128 → (nI (g % 2 ^ 7 / 2 ^ 4) = 0 ∨ nI (g % 2 ^ 7 / 2 ^ 4) = 7) → sTop 5 g = true := by decide +kernel
  exact this g (by omega) h1
theorem sT4f {g : Nat} (hg : g ≤ 127) (h1 : ¬ nI (g % 2 ^ 7 / 2 ^ 3) = 0) (h2 : ¬ nI (g % 2 ^ 7 / 2 ^ 3) = 15) : sTop 4 g = false := by
  have : ∀ g, g < 128 → ¬ nI (g % 2 ^ 7 / 2 ^ 3) = 0 → ¬ nI (g % 2 ^ 7 / 2 ^ 3) = 15 → sTop 4 g = false := by decide +kernel
  exact this g (by omega) h1 h2
theorem sT4t {g : Nat} (hg : g ≤ 127) (h1 : nI (g % 2 ^ 7 / 2 ^ 3) = 0 ∨ nI (g % 2 ^ 7 / 2 ^ 3) = 15) : sTop 4 g = true := by
  have : ∀ g, g < 128 → (nI (g % 2 ^ 7 / 2 ^ 3) = 0 ∨ nI (g % 2 ^ 7 / 2 ^ 3) = 15) → sTop 4 g = true := by decide +kernel
  exact this g (by omega) h1
theorem sT1f {g : Nat} (hg : g ≤ 127) (h1 : ¬ nI (g % 2 ^ 7 / 2 ^ 0) = 0) (h2 : ¬ nI (g % 2 ^ 7 / 2 ^ 0) = 127) : sTop 1 g = false := by
  have : ∀ g, g < 128 → ¬ nI (g % 2 ^ 7 / 2 ^ 0) = 0 → ¬ nI (g % 2 ^ 7 / 2 ^ 0) = 127 → sTop 1 g = false := by decide +kernel
  exact this g (by omega) h1 h2
theorem sT1t {g : Nat} (hg : g ≤ 127) (h1 : nI (g % 2 ^ 7 / 2 ^ 0) = 0 ∨ nI (g % 2 ^ 7 / 2 ^ 0) = 127) : sTop 1 g = true := by
  have : ∀ g, g < 128 → (nI (g % 2 ^ 7 / 2 ^ 0) = 0 ∨ nI (g % 2 ^ 7 / 2 ^ 0) = 127) → sTop 1 g = true := by decide +kernel
  exact this g (by omega) h1
set_option maxHeartbeats 4000000 in
set_option maxRecDepth 100000 in
/-- takeSigned(32) -/
theorem c_Md_takeSigned32 (l : Launch) (hl9 : l.stackTraces = false) (D : va_G) (cA : Nat → ClassId) (ad : Nat → Nat) (sz : Nat) (m0 : Nat) (g : Nat → Nat) (K : MK) (e : Int32) (np : Nat) (B : MB) (fd pe : Nat → Int32) (b : Nat → Nat) (N lm : Nat) (hnp : 1 ≤ np ∧ np ≤ 4) (hpe : pe (np - 1) = nI lm) (hlm : lm ≤ N) (hN : N ≤ 2000) (hfd : ∀ i, i < N → fd i = nI (b i)) (hb9 : ∀ i, b i < 256) (a : Nat) (p : Int32) (ha : a ≤ lm)  :
    cM l y_Md_takeSigned (.code y_Md_takeSigned b_Md_takeSigned 11 (some .long) :: wAll) ({ frames := 2, cells := 0, slots := 0, locals := 42 }) D cA ad [.ref m0, .int 32] [(m0, .inr (6, mF g K (nI a, 0, p) e (nI np) B)), ((g 0), .inl (cA 3, 2000, .inl fd)), ((g 10), .inl (cA 3, 4, .inl pe))] sz (oP (pS32 b lm a) p fL vS) (fun _ => False) (fun (u : A3) => [(m0, .inr (6, mF g K u e (nI np) B)), ((g 0), .inl (cA 3, 2000, .inl fd)), ((g 10), .inl (cA 3, 4, .inl pe))]) (fun _ => (0, 0)) := by
  refine cM.ofW (cc := b_Md_takeSigned) (maxL := 11) (ret := (some .long)) (by decide) (Nat.le_of_ble_eq_true rfl) ?_
  intro pg ev s m bw meth cdx A ls hF hsz hA hE hP hD hl
  obtain ⟨⟨hx, hb, hml, hown, hts⟩, hr, hno, hlocks, hin⟩ := hF
  subst hsz
  have hown : s.vm.findClass "ModuleBytesModel" = some m.cls := hown
  have hS : va_S A s.heap s.heap [] := va_S.rf
  have hl : lv_has ls 11 [(0, .ref m0), (1, .int 32)] := hl
  have hP : va_P D cls [(m0, .inr (6, mF g K (nI a, 0, p) e (nI np) B)), ((g 0), .inl (cA 3, 2000, .inl fd)), ((g 10), .inl (cA 3, 4, .inl pe))] s.heap := hP
  have hD : va_D A [(m0, .inr (6, mF g K (nI a, 0, p) e (nI np) B)), ((g 0), .inl (cA 3, 2000, .inl fd)), ((g 10), .inl (cA 3, 4, .inl pe))] := hD
  have hU0 : pSg b lm 5 32 a = pSg b lm 5 32 a := rfl
  refine lv_lconst (v := 0) hx hb d_Md_takeSigned_0 (by decide) ?_
  refine lv_lstore_n (lv' := [(2, .long 0), (0, .ref m0), (1, .int 32)]) hx hb d_Md_takeSigned_1 rfl hl (by decide) rfl (fun ls hl => ?_)
  refine lv_iload_n hx hb d_Md_takeSigned_2 rfl (lv_at hl 2 rfl) ?_
  refine lv_bipush (v := 6) hx hb d_Md_takeSigned_3 (by decide) ?_
  refine lv_iadd hx hb d_Md_takeSigned_5 ?_
  refine W.eq (g2 := F0 m 6 ls [.int 38]) (by rw [show (32 : Int32) + 6 = 38 from by decide +kernel]) ?_
  refine lv_bipush (v := 7) hx hb d_Md_takeSigned_6 (by decide) ?_
  refine lv_idiv hx hb d_Md_takeSigned_8 (by decide) ?_
  refine W.eq (g2 := F0 m 9 ls [.int 5]) (by rw [show (38 : Int32) / 7 = 5 from by decide +kernel]) ?_
  refine lv_istore (lv' := [(4, .int 5), (2, .long 0), (0, .ref m0), (1, .int 32)]) hx hb d_Md_takeSigned_9 hl (by decide) rfl (fun ls hl => ?_)
  refine lv_iconst (v := 0) hx hb d_Md_takeSigned_11 (by decide) ?_
  refine lv_istore (lv' := [(5, .int 0), (4, .int 5), (2, .long 0), (0, .ref m0), (1, .int 32)]) hx hb d_Md_takeSigned_12 hl (by decide) rfl (fun ls hl => ?_)
  refine lv_iload hx hb d_Md_takeSigned_14 (lv_at hl 0 rfl) ?_
  refine lv_iload hx hb d_Md_takeSigned_16 (lv_at hl 1 rfl) ?_
  refine lv_icmp_ge (tgt := 198) hx hb d_Md_takeSigned_18 (by decide) (fun c_18 => absurd c_18 (by decide)) (fun c_18 => ?_)
  refine lv_aload_n hx hb d_Md_takeSigned_21 rfl (lv_at hl 3 rfl) ?_
  refine va_get (D := D) (ci := 6) (v := .int 0) (C := R_Md) (T := F_Md) (N := 44) hx hb hts (fun w h => List.mem_cons_of_mem _ (i_Md w h)) hown hE.1 hP 0 rfl rfl 3 (by decide) (hts _ (List.mem_cons_of_mem _ iw3_57)) (fun _ h9 => h9) rfl d_Md_takeSigned_22 ?_
  refine lv_if_ne (tgt := 198) hx hb d_Md_takeSigned_25 (by decide) (fun c_25 => absurd (by decide) c_25) (fun c_25 => ?_)
  refine lv_aload_n hx hb d_Md_takeSigned_28 rfl (lv_at hl 3 rfl) ?_
  refine cV (As := []) (rest := []) (n := 0) (wc := [(m0, .inr (6, mF g K (nI a, 0, p) e (nI np) B)), ((g 0), .inl (cA 3, 2000, .inl fd)), ((g 10), .inl (cA 3, 4, .inl pe))]) (wr := []) ⟨hx, hb, hml, hown, hts⟩ hno hlocks hl.1 (c_Md_take l hl9 D cA ad s.heap.size m0 g K e np B fd pe b N lm hnp hpe hlm hN hfd hb9 a p (by omega) ) iw3_212 iw3_214 sel_Md_take iw1_7 iw3_215 (by decide +kernel) rfl ⟨Nat.le_of_ble_eq_true rfl, Nat.le_of_ble_eq_true rfl⟩ ⟨Nat.le_of_ble_eq_true rfl, Nat.le_of_ble_eq_true rfl⟩ rfl (Nat.le_of_ble_eq_true rfl) d_Md_takeSigned_29 hE hP hD hS hA [0, 1, 2] [] rfl rfl rfl rfl (by decide) (ci := 6) rfl rfl 0 rfl (fun _ h => h.elim) (fun v_29 u_29 H locs hp_29 hP hD hS => ?_)
  rcases hp_29 with ⟨f12, q12, hr12, hf12, hB12, rfl, zz12, hzz12, hzx12⟩ | ⟨v12, a12, hr12, rfl, rfl⟩
  · obtain ⟨x12, y12, z12⟩ := u_29
    cases hB12
    have hzx12 : x12 = nI zz12 := hzx12
    subst hzx12
    have hP : va_P D cls [(m0, .inr (6, mF g K (nI zz12, nI f12, nI q12) e (nI np) B)), ((g 0), .inl (cA 3, 2000, .inl fd)), ((g 10), .inl (cA 3, 4, .inl pe))] H := hP
    have hD : va_D A [(m0, .inr (6, mF g K (nI zz12, nI f12, nI q12) e (nI np) B)), ((g 0), .inl (cA 3, 2000, .inl fd)), ((g 10), .inl (cA 3, 4, .inl pe))] := hD
    refine W.cs (cells' := 0) (slots' := 0) rfl rfl ?_
    refine W.eq (g2 := F0 m 32 ls [.int 0]) rfl ?_
    refine lv_istore (lv' := [(6, .int 0), (5, .int 0), (4, .int 5), (2, .long 0), (0, .ref m0), (1, .int 32)]) hx hb d_Md_takeSigned_32 hl (by decide) rfl (fun ls hl => ?_)
    refine lv_iload_n hx hb d_Md_takeSigned_34 rfl (lv_at hl 5 rfl) ?_
    refine lv_bipush (v := 7) hx hb d_Md_takeSigned_35 (by decide) ?_
    refine lv_iload hx hb d_Md_takeSigned_37 (lv_at hl 1 rfl) ?_
    refine lv_imul hx hb d_Md_takeSigned_39 ?_
    refine W.eq (g2 := F0 m 40 ls [.int 0, .int 32]) (by rw [show (7 : Int32) * 0 = 0 from by decide +kernel]) ?_
    refine lv_isub hx hb d_Md_takeSigned_40 ?_
    refine W.eq (g2 := F0 m 41 ls [.int 32]) (by rw [show (32 : Int32) - 0 = 32 from by decide +kernel]) ?_
    refine lv_istore (lv' := [(7, .int 32), (6, .int 0), (5, .int 0), (4, .int 5), (2, .long 0), (0, .ref m0), (1, .int 32)]) hx hb d_Md_takeSigned_41 hl (by decide) rfl (fun ls hl => ?_)
    refine lv_iload hx hb d_Md_takeSigned_43 (lv_at hl 0 rfl) ?_
    refine lv_bipush (v := 7) hx hb d_Md_takeSigned_45 (by decide) ?_
    refine lv_icmp_ge (tgt := 63) hx hb d_Md_takeSigned_47 (by decide) (fun c_47 => ?_) (fun c_47 => absurd (by decide) c_47)
    refine lv_iconst (v := 0) hx hb d_Md_takeSigned_63 (by decide) ?_
    refine lv_istore (lv' := [(8, .int 0), (7, .int 32), (6, .int 0), (5, .int 0), (4, .int 5), (2, .long 0), (0, .ref m0), (1, .int 32)]) hx hb d_Md_takeSigned_64 hl (by decide) rfl (fun ls hl => ?_)
    refine lv_iload hx hb d_Md_takeSigned_66 (lv_at hl 1 rfl) ?_
    refine lv_bipush (v := 7) hx hb d_Md_takeSigned_68 (by decide) ?_
    refine lv_icmp_ge (tgt := 90) hx hb d_Md_takeSigned_70 (by decide) (fun c_70 => ?_) (fun c_70 => absurd (by decide) c_70)
    refine lv_iconst (v := 1) hx hb d_Md_takeSigned_90 (by decide) ?_
    refine lv_goto (tgt := 95) hx hb d_Md_takeSigned_91 (by decide) ?_
    refine lv_istore (lv' := [(9, .int 1), (8, .int 0), (7, .int 32), (6, .int 0), (5, .int 0), (4, .int 5), (2, .long 0), (0, .ref m0), (1, .int 32)]) hx hb d_Md_takeSigned_95 hl (by decide) rfl (fun ls hl => ?_)
    refine lv_aload_n hx hb d_Md_takeSigned_97 rfl (lv_at hl 7 rfl) ?_
    refine va_get (D := D) (ci := 6) (v := .int (nI f12)) (C := R_Md) (T := F_Md) (N := 44) hx hb hts (fun w h => List.mem_cons_of_mem _ (i_Md w h)) hown hE.1 hP 0 rfl rfl 3 (by decide) (hts _ (List.mem_cons_of_mem _ iw3_57)) (fun _ h9 => h9) rfl d_Md_takeSigned_98 ?_
    refine lv_if_ne (tgt := 134) hx hb d_Md_takeSigned_101 (by decide) (fun c_101 => ?_) (fun c_101 => absurd c_101 (hf12.n0))
    refine lv_lload_n hx hb d_Md_takeSigned_134 rfl (lv_at hl 6 rfl) ?_
    refine lv_iload hx hb d_Md_takeSigned_135 (lv_at hl 3 rfl) ?_
    refine lv_bipush (v := 127) hx hb d_Md_takeSigned_137 (by decide) ?_
    refine lv_iand hx hb d_Md_takeSigned_139 ?_
    refine W.eq (g2 := F0 m 140 ls [.int 0, .long 0]) (by rw [show (0 : Int32) &&& 127 = 0 from by decide +kernel]) ?_
    refine lv_i2l hx hb d_Md_takeSigned_140 rfl ?_
    refine lv_bipush (v := 7) hx hb d_Md_takeSigned_141 (by decide) ?_
    refine lv_iload hx hb d_Md_takeSigned_143 (lv_at hl 4 rfl) ?_
    refine lv_imul hx hb d_Md_takeSigned_145 ?_
    refine W.eq (g2 := F0 m 146 ls [.int 0, .long ((0 : Int32).toInt64), .long 0]) (by rw [show (7 : Int32) * 0 = 0 from by decide +kernel]) ?_
    refine lv_lshl hx hb d_Md_takeSigned_146 rfl ?_
    refine lv_lor hx hb d_Md_takeSigned_147 ?_
    refine lv_topl (fun yF eyF => ?_)
    refine lv_lstore_n (lv' := [(2, .long yF), (9, .int 1), (8, .int 0), (7, .int 32), (6, .int 0), (5, .int 0), (4, .int 5), (0, .ref m0), (1, .int 32)]) hx hb d_Md_takeSigned_148 rfl hl (by decide) rfl (fun ls hl => ?_)
    refine lv_bipush (v := 7) hx hb d_Md_takeSigned_149 (by decide) ?_
    refine lv_iload hx hb d_Md_takeSigned_151 (lv_at hl 5 rfl) ?_
    refine lv_imul hx hb d_Md_takeSigned_153 ?_
    refine W.eq (g2 := F0 m 154 ls [.int 0]) (by rw [show (7 : Int32) * 0 = 0 from by decide +kernel]) ?_
    refine lv_bipush (v := 7) hx hb d_Md_takeSigned_154 (by decide) ?_
    refine lv_iadd hx hb d_Md_takeSigned_156 ?_
    refine W.eq (g2 := F0 m 157 ls [.int 7]) (by rw [show (0 : Int32) + 7 = 7 from by decide +kernel]) ?_
    refine lv_istore (lv' := [(10, .int 7), (2, .long yF), (9, .int 1), (8, .int 0), (7, .int 32), (6, .int 0), (5, .int 0), (4, .int 5), (0, .ref m0), (1, .int 32)]) hx hb d_Md_takeSigned_157 hl (by decide) rfl (fun ls hl => ?_)
    refine lv_iload hx hb d_Md_takeSigned_159 (lv_at hl 5 rfl) ?_
    refine lv_sipush (v := 128) hx hb d_Md_takeSigned_161 (by decide) ?_
    refine lv_icmp_ge (tgt := 192) hx hb d_Md_takeSigned_164 (by decide) (fun c_164 => absurd c_164 (by decide)) (fun c_164 => ?_)
    refine lv_iload hx hb d_Md_takeSigned_167 (lv_at hl 0 rfl) ?_
    refine lv_bipush (v := 64) hx hb d_Md_takeSigned_169 (by decide) ?_
    refine lv_icmp_ge (tgt := 190) hx hb d_Md_takeSigned_171 (by decide) (fun c_171 => absurd c_171 (by decide)) (fun c_171 => ?_)
    refine lv_lload_n hx hb d_Md_takeSigned_174 rfl (lv_at hl 1 rfl) ?_
    refine lv_bipush (v := 64) hx hb d_Md_takeSigned_175 (by decide) ?_
    refine lv_iload hx hb d_Md_takeSigned_177 (lv_at hl 0 rfl) ?_
    refine lv_isub hx hb d_Md_takeSigned_179 ?_
    refine W.eq (g2 := F0 m 180 ls [.int 57, .long yF]) (by rw [show (64 : Int32) - 7 = 57 from by decide +kernel]) ?_
    refine lv_lshl hx hb d_Md_takeSigned_180 rfl ?_
    refine lv_bipush (v := 64) hx hb d_Md_takeSigned_181 (by decide) ?_
    refine lv_iload hx hb d_Md_takeSigned_183 (lv_at hl 0 rfl) ?_
    refine lv_isub hx hb d_Md_takeSigned_185 ?_
    refine W.eq (g2 := F0 m 186 ls [.int 57, .long (yF <<< ((57 : Int32).toInt64 &&& 63))]) (by rw [show (64 : Int32) - 7 = 57 from by decide +kernel]) ?_
    refine lv_lshr hx hb d_Md_takeSigned_186 rfl ?_
    refine lv_goto (tgt := 191) hx hb d_Md_takeSigned_187 (by decide) ?_
    exact cRl ((nI zz12, nI f12, nI q12) : A3) hx hb hr hlocks d_Md_takeSigned_191 hS hP hD (Or.inl ⟨f12, q12, by rw [show pS32 b lm a = pSg b lm 5 32 a from rfl, hU0, pSg_T hr12], hf12, rfl, ⟨_, rfl⟩, zz12, by omega, rfl⟩) (Nat.le_refl _) (Nat.le_refl _)
  · obtain ⟨hla12, hgt12, hv12, hbd12⟩ := (pNext_ok2 hr12 hb9)
    have hP : va_P D cls [(m0, .inr (6, mF g K (nI a12, 0, p) e (nI np) B)), ((g 0), .inl (cA 3, 2000, .inl fd)), ((g 10), .inl (cA 3, 4, .inl pe))] H := hP
    have hD : va_D A [(m0, .inr (6, mF g K (nI a12, 0, p) e (nI np) B)), ((g 0), .inl (cA 3, 2000, .inl fd)), ((g 10), .inl (cA 3, 4, .inl pe))] := hD
    refine W.cs (cells' := 0) (slots' := 0) rfl rfl ?_
    refine W.eq (g2 := F0 m 32 ls [.int (nI v12)]) rfl ?_
    obtain ⟨hbd12, ean12⟩ := hbd12
    subst ean12
    have hP : va_P D cls [(m0, .inr (6, mF g K (nI (a + 1), 0, p) e (nI np) B)), ((g 0), .inl (cA 3, 2000, .inl fd)), ((g 10), .inl (cA 3, 4, .inl pe))] H := hP
    have hD : va_D A [(m0, .inr (6, mF g K (nI (a + 1), 0, p) e (nI np) B)), ((g 0), .inl (cA 3, 2000, .inl fd)), ((g 10), .inl (cA 3, 4, .inl pe))] := hD
    refine lv_istore (lv' := [(6, .int (nI v12)), (5, .int 0), (4, .int 5), (2, .long 0), (0, .ref m0), (1, .int 32)]) hx hb d_Md_takeSigned_32 hl (by decide) rfl (fun ls hl => ?_)
    refine lv_iload_n hx hb d_Md_takeSigned_34 rfl (lv_at hl 5 rfl) ?_
    refine lv_bipush (v := 7) hx hb d_Md_takeSigned_35 (by decide) ?_
    refine lv_iload hx hb d_Md_takeSigned_37 (lv_at hl 1 rfl) ?_
    refine lv_imul hx hb d_Md_takeSigned_39 ?_
    refine W.eq (g2 := F0 m 40 ls [.int 0, .int 32]) (by rw [show (7 : Int32) * 0 = 0 from by decide +kernel]) ?_
    refine lv_isub hx hb d_Md_takeSigned_40 ?_
    refine W.eq (g2 := F0 m 41 ls [.int 32]) (by rw [show (32 : Int32) - 0 = 32 from by decide +kernel]) ?_
    refine lv_istore (lv' := [(7, .int 32), (6, .int (nI v12)), (5, .int 0), (4, .int 5), (2, .long 0), (0, .ref m0), (1, .int 32)]) hx hb d_Md_takeSigned_41 hl (by decide) rfl (fun ls hl => ?_)
    refine lv_iload hx hb d_Md_takeSigned_43 (lv_at hl 0 rfl) ?_
    refine lv_bipush (v := 7) hx hb d_Md_takeSigned_45 (by decide) ?_
    refine lv_icmp_ge (tgt := 63) hx hb d_Md_takeSigned_47 (by decide) (fun c_47 => ?_) (fun c_47 => absurd (by decide) c_47)
    refine lv_iconst (v := 0) hx hb d_Md_takeSigned_63 (by decide) ?_
    refine lv_istore (lv' := [(8, .int 0), (7, .int 32), (6, .int (nI v12)), (5, .int 0), (4, .int 5), (2, .long 0), (0, .ref m0), (1, .int 32)]) hx hb d_Md_takeSigned_64 hl (by decide) rfl (fun ls hl => ?_)
    refine lv_iload hx hb d_Md_takeSigned_66 (lv_at hl 1 rfl) ?_
    refine lv_bipush (v := 7) hx hb d_Md_takeSigned_68 (by decide) ?_
    refine lv_icmp_ge (tgt := 90) hx hb d_Md_takeSigned_70 (by decide) (fun c_70 => ?_) (fun c_70 => absurd (by decide) c_70)
    refine lv_iconst (v := 1) hx hb d_Md_takeSigned_90 (by decide) ?_
    refine lv_goto (tgt := 95) hx hb d_Md_takeSigned_91 (by decide) ?_
    refine lv_istore (lv' := [(9, .int 1), (8, .int 0), (7, .int 32), (6, .int (nI v12)), (5, .int 0), (4, .int 5), (2, .long 0), (0, .ref m0), (1, .int 32)]) hx hb d_Md_takeSigned_95 hl (by decide) rfl (fun ls hl => ?_)
    refine lv_aload_n hx hb d_Md_takeSigned_97 rfl (lv_at hl 7 rfl) ?_
    refine va_get (D := D) (ci := 6) (v := .int 0) (C := R_Md) (T := F_Md) (N := 44) hx hb hts (fun w h => List.mem_cons_of_mem _ (i_Md w h)) hown hE.1 hP 0 rfl rfl 3 (by decide) (hts _ (List.mem_cons_of_mem _ iw3_57)) (fun _ h9 => h9) rfl d_Md_takeSigned_98 ?_
    refine lv_if_ne (tgt := 134) hx hb d_Md_takeSigned_101 (by decide) (fun c_101 => absurd (by decide) c_101) (fun c_101 => ?_)
    refine lv_iload hx hb d_Md_takeSigned_104 (lv_at hl 2 rfl) ?_
    refine lv_bipush (v := 8) hx hb d_Md_takeSigned_106 (by decide) ?_
    refine lv_icmp_ge (tgt := 134) hx hb d_Md_takeSigned_108 (by decide) (fun c_108 => ?_) (fun c_108 => absurd (by decide) c_108)
    have ho0 : ¬ (32 ≤ 7 ∧ sTop 32 v12 = false) := fun q => absurd q.1 (by decide)
    refine lv_lload_n hx hb d_Md_takeSigned_134 rfl (lv_at hl 6 rfl) ?_
    refine lv_iload hx hb d_Md_takeSigned_135 (lv_at hl 3 rfl) ?_
    refine lv_bipush (v := 127) hx hb d_Md_takeSigned_137 (by decide) ?_
    refine lv_iand hx hb d_Md_takeSigned_139 ?_
    refine lv_i2l hx hb d_Md_takeSigned_140 rfl ?_
    refine lv_bipush (v := 7) hx hb d_Md_takeSigned_141 (by decide) ?_
    refine lv_iload hx hb d_Md_takeSigned_143 (lv_at hl 4 rfl) ?_
    refine lv_imul hx hb d_Md_takeSigned_145 ?_
    refine W.eq (g2 := F0 m 146 ls [.int 0, .long (((nI v12) &&& 127).toInt64), .long 0]) (by rw [show (7 : Int32) * 0 = 0 from by decide +kernel]) ?_
    refine lv_lshl hx hb d_Md_takeSigned_146 rfl ?_
    refine lv_lor hx hb d_Md_takeSigned_147 ?_
    refine lv_topl (fun yF eyF => ?_)
    refine lv_lstore_n (lv' := [(2, .long yF), (9, .int 1), (8, .int 0), (7, .int 32), (6, .int (nI v12)), (5, .int 0), (4, .int 5), (0, .ref m0), (1, .int 32)]) hx hb d_Md_takeSigned_148 rfl hl (by decide) rfl (fun ls hl => ?_)
    refine lv_bipush (v := 7) hx hb d_Md_takeSigned_149 (by decide) ?_
    refine lv_iload hx hb d_Md_takeSigned_151 (lv_at hl 5 rfl) ?_
    refine lv_imul hx hb d_Md_takeSigned_153 ?_
    refine W.eq (g2 := F0 m 154 ls [.int 0]) (by rw [show (7 : Int32) * 0 = 0 from by decide +kernel]) ?_
    refine lv_bipush (v := 7) hx hb d_Md_takeSigned_154 (by decide) ?_
    refine lv_iadd hx hb d_Md_takeSigned_156 ?_
    refine W.eq (g2 := F0 m 157 ls [.int 7]) (by rw [show (0 : Int32) + 7 = 7 from by decide +kernel]) ?_
    refine lv_istore (lv' := [(10, .int 7), (2, .long yF), (9, .int 1), (8, .int 0), (7, .int 32), (6, .int (nI v12)), (5, .int 0), (4, .int 5), (0, .ref m0), (1, .int 32)]) hx hb d_Md_takeSigned_157 hl (by decide) rfl (fun ls hl => ?_)
    refine lv_iload hx hb d_Md_takeSigned_159 (lv_at hl 5 rfl) ?_
    refine lv_sipush (v := 128) hx hb d_Md_takeSigned_161 (by decide) ?_
    refine lv_icmp_ge (tgt := 192) hx hb d_Md_takeSigned_164 (by decide) (fun c_164 => ?_) (fun c_164 => ?_)
    · have hd0 : ¬ v12 < 128 := fun q => absurd ((nI_leI (a := 128) (b := v12) (by omega) (by omega)).mp c_164) (by omega)
      have hU1 : pSg b lm 5 32 a = pSg b lm 4 25 (a + 1) := hU0.trans (pSg_C hr12 ho0 hd0)
      refine lv_iinc (v := 1) (lv' := [(5, .int 1), (10, .int 7), (2, .long yF), (9, .int 1), (8, .int 0), (7, .int 32), (6, .int (nI v12)), (4, .int 5), (0, .ref m0), (1, .int 32)]) hx hb d_Md_takeSigned_192 hl (k := 6) rfl (by decide) (by decide) rfl (fun ls hl => ?_)
      refine lv_goto (tgt := 14) hx hb d_Md_takeSigned_195 (by decide) ?_
      refine lv_iload hx hb d_Md_takeSigned_14 (lv_at hl 0 rfl) ?_
      refine lv_iload hx hb d_Md_takeSigned_16 (lv_at hl 7 rfl) ?_
      refine lv_icmp_ge (tgt := 198) hx hb d_Md_takeSigned_18 (by decide) (fun c_18 => absurd c_18 (by decide)) (fun c_18 => ?_)
      refine lv_aload_n hx hb d_Md_takeSigned_21 rfl (lv_at hl 8 rfl) ?_
      refine va_get (D := D) (ci := 6) (v := .int 0) (C := R_Md) (T := F_Md) (N := 44) hx hb hts (fun w h => List.mem_cons_of_mem _ (i_Md w h)) hown hE.1 hP 0 rfl rfl 3 (by decide) (hts _ (List.mem_cons_of_mem _ iw3_57)) (fun _ h9 => h9) rfl d_Md_takeSigned_22 ?_
      refine lv_if_ne (tgt := 198) hx hb d_Md_takeSigned_25 (by decide) (fun c_25 => absurd (by decide) c_25) (fun c_25 => ?_)
      refine lv_aload_n hx hb d_Md_takeSigned_28 rfl (lv_at hl 8 rfl) ?_
      refine cV (As := []) (rest := []) (n := 0) (wc := [(m0, .inr (6, mF g K (nI (a + 1), 0, p) e (nI np) B)), ((g 0), .inl (cA 3, 2000, .inl fd)), ((g 10), .inl (cA 3, 4, .inl pe))]) (wr := []) ⟨hx, hb, hml, hown, hts⟩ hno hlocks hl.1 (c_Md_take l hl9 D cA ad H.size m0 g K e np B fd pe b N lm hnp hpe hlm hN hfd hb9 (a + 1) p (by omega) ) iw3_212 iw3_214 sel_Md_take iw1_7 iw3_215 (by decide +kernel) rfl ⟨Nat.le_of_ble_eq_true rfl, Nat.le_of_ble_eq_true rfl⟩ ⟨Nat.le_of_ble_eq_true rfl, Nat.le_of_ble_eq_true rfl⟩ rfl (Nat.le_of_ble_eq_true rfl) d_Md_takeSigned_29 hE hP hD hS hA [0, 1, 2] [] rfl rfl rfl rfl (by decide) (ci := 6) rfl rfl 0 rfl (fun _ h => h.elim) (fun v_29 u_29 H locs hp_29 hP hD hS => ?_)
      rcases hp_29 with ⟨f13, q13, hr13, hf13, hB13, rfl, zz13, hzz13, hzx13⟩ | ⟨v13, a13, hr13, rfl, rfl⟩
      · obtain ⟨x13, y13, z13⟩ := u_29
        cases hB13
        have hzx13 : x13 = nI zz13 := hzx13
        subst hzx13
        have hP : va_P D cls [(m0, .inr (6, mF g K (nI zz13, nI f13, nI q13) e (nI np) B)), ((g 0), .inl (cA 3, 2000, .inl fd)), ((g 10), .inl (cA 3, 4, .inl pe))] H := hP
        have hD : va_D A [(m0, .inr (6, mF g K (nI zz13, nI f13, nI q13) e (nI np) B)), ((g 0), .inl (cA 3, 2000, .inl fd)), ((g 10), .inl (cA 3, 4, .inl pe))] := hD
        refine W.cs (cells' := 0) (slots' := 0) rfl rfl ?_
        refine W.eq (g2 := F0 m 32 ls [.int 0]) rfl ?_
        refine lv_istore (lv' := [(6, .int 0), (5, .int 1), (10, .int 7), (2, .long yF), (9, .int 1), (8, .int 0), (7, .int 32), (4, .int 5), (0, .ref m0), (1, .int 32)]) hx hb d_Md_takeSigned_32 hl (by decide) rfl (fun ls hl => ?_)
        refine lv_iload_n hx hb d_Md_takeSigned_34 rfl (lv_at hl 9 rfl) ?_
        refine lv_bipush (v := 7) hx hb d_Md_takeSigned_35 (by decide) ?_
        refine lv_iload hx hb d_Md_takeSigned_37 (lv_at hl 1 rfl) ?_
        refine lv_imul hx hb d_Md_takeSigned_39 ?_
        refine W.eq (g2 := F0 m 40 ls [.int 7, .int 32]) (by rw [show (7 : Int32) * 1 = 7 from by decide +kernel]) ?_
        refine lv_isub hx hb d_Md_takeSigned_40 ?_
        refine W.eq (g2 := F0 m 41 ls [.int 25]) (by rw [show (32 : Int32) - 7 = 25 from by decide +kernel]) ?_
        refine lv_istore (lv' := [(7, .int 25), (6, .int 0), (5, .int 1), (10, .int 7), (2, .long yF), (9, .int 1), (8, .int 0), (4, .int 5), (0, .ref m0), (1, .int 32)]) hx hb d_Md_takeSigned_41 hl (by decide) rfl (fun ls hl => ?_)
        refine lv_iload hx hb d_Md_takeSigned_43 (lv_at hl 0 rfl) ?_
        refine lv_bipush (v := 7) hx hb d_Md_takeSigned_45 (by decide) ?_
        refine lv_icmp_ge (tgt := 63) hx hb d_Md_takeSigned_47 (by decide) (fun c_47 => ?_) (fun c_47 => absurd (by decide) c_47)
        refine lv_iconst (v := 0) hx hb d_Md_takeSigned_63 (by decide) ?_
        refine lv_istore (lv' := [(8, .int 0), (7, .int 25), (6, .int 0), (5, .int 1), (10, .int 7), (2, .long yF), (9, .int 1), (4, .int 5), (0, .ref m0), (1, .int 32)]) hx hb d_Md_takeSigned_64 hl (by decide) rfl (fun ls hl => ?_)
        refine lv_iload hx hb d_Md_takeSigned_66 (lv_at hl 1 rfl) ?_
        refine lv_bipush (v := 7) hx hb d_Md_takeSigned_68 (by decide) ?_
        refine lv_icmp_ge (tgt := 90) hx hb d_Md_takeSigned_70 (by decide) (fun c_70 => ?_) (fun c_70 => absurd (by decide) c_70)
        refine lv_iconst (v := 1) hx hb d_Md_takeSigned_90 (by decide) ?_
        refine lv_goto (tgt := 95) hx hb d_Md_takeSigned_91 (by decide) ?_
        refine lv_istore (lv' := [(9, .int 1), (8, .int 0), (7, .int 25), (6, .int 0), (5, .int 1), (10, .int 7), (2, .long yF), (4, .int 5), (0, .ref m0), (1, .int 32)]) hx hb d_Md_takeSigned_95 hl (by decide) rfl (fun ls hl => ?_)
        refine lv_aload_n hx hb d_Md_takeSigned_97 rfl (lv_at hl 8 rfl) ?_
        refine va_get (D := D) (ci := 6) (v := .int (nI f13)) (C := R_Md) (T := F_Md) (N := 44) hx hb hts (fun w h => List.mem_cons_of_mem _ (i_Md w h)) hown hE.1 hP 0 rfl rfl 3 (by decide) (hts _ (List.mem_cons_of_mem _ iw3_57)) (fun _ h9 => h9) rfl d_Md_takeSigned_98 ?_
        refine lv_if_ne (tgt := 134) hx hb d_Md_takeSigned_101 (by decide) (fun c_101 => ?_) (fun c_101 => absurd c_101 (hf13.n0))
        refine lv_lload_n hx hb d_Md_takeSigned_134 rfl (lv_at hl 6 rfl) ?_
        refine lv_iload hx hb d_Md_takeSigned_135 (lv_at hl 3 rfl) ?_
        refine lv_bipush (v := 127) hx hb d_Md_takeSigned_137 (by decide) ?_
        refine lv_iand hx hb d_Md_takeSigned_139 ?_
        refine W.eq (g2 := F0 m 140 ls [.int 0, .long yF]) (by rw [show (0 : Int32) &&& 127 = 0 from by decide +kernel]) ?_
        refine lv_i2l hx hb d_Md_takeSigned_140 rfl ?_
        refine lv_bipush (v := 7) hx hb d_Md_takeSigned_141 (by decide) ?_
        refine lv_iload hx hb d_Md_takeSigned_143 (lv_at hl 4 rfl) ?_
        refine lv_imul hx hb d_Md_takeSigned_145 ?_
        refine W.eq (g2 := F0 m 146 ls [.int 7, .long ((0 : Int32).toInt64), .long yF]) (by rw [show (7 : Int32) * 1 = 7 from by decide +kernel]) ?_
        refine lv_lshl hx hb d_Md_takeSigned_146 rfl ?_
        refine lv_lor hx hb d_Md_takeSigned_147 ?_
        refine lv_topl (fun yF eyF => ?_)
        refine lv_lstore_n (lv' := [(2, .long yF), (9, .int 1), (8, .int 0), (7, .int 25), (6, .int 0), (5, .int 1), (10, .int 7), (4, .int 5), (0, .ref m0), (1, .int 32)]) hx hb d_Md_takeSigned_148 rfl hl (by decide) rfl (fun ls hl => ?_)
        refine lv_bipush (v := 7) hx hb d_Md_takeSigned_149 (by decide) ?_
        refine lv_iload hx hb d_Md_takeSigned_151 (lv_at hl 5 rfl) ?_
        refine lv_imul hx hb d_Md_takeSigned_153 ?_
        refine W.eq (g2 := F0 m 154 ls [.int 7]) (by rw [show (7 : Int32) * 1 = 7 from by decide +kernel]) ?_
        refine lv_bipush (v := 7) hx hb d_Md_takeSigned_154 (by decide) ?_
        refine lv_iadd hx hb d_Md_takeSigned_156 ?_
        refine W.eq (g2 := F0 m 157 ls [.int 14]) (by rw [show (7 : Int32) + 7 = 14 from by decide +kernel]) ?_
        refine lv_istore (lv' := [(10, .int 14), (2, .long yF), (9, .int 1), (8, .int 0), (7, .int 25), (6, .int 0), (5, .int 1), (4, .int 5), (0, .ref m0), (1, .int 32)]) hx hb d_Md_takeSigned_157 hl (by decide) rfl (fun ls hl => ?_)
        refine lv_iload hx hb d_Md_takeSigned_159 (lv_at hl 5 rfl) ?_
        refine lv_sipush (v := 128) hx hb d_Md_takeSigned_161 (by decide) ?_
        refine lv_icmp_ge (tgt := 192) hx hb d_Md_takeSigned_164 (by decide) (fun c_164 => absurd c_164 (by decide)) (fun c_164 => ?_)
        refine lv_iload hx hb d_Md_takeSigned_167 (lv_at hl 0 rfl) ?_
        refine lv_bipush (v := 64) hx hb d_Md_takeSigned_169 (by decide) ?_
        refine lv_icmp_ge (tgt := 190) hx hb d_Md_takeSigned_171 (by decide) (fun c_171 => absurd c_171 (by decide)) (fun c_171 => ?_)
        refine lv_lload_n hx hb d_Md_takeSigned_174 rfl (lv_at hl 1 rfl) ?_
        refine lv_bipush (v := 64) hx hb d_Md_takeSigned_175 (by decide) ?_
        refine lv_iload hx hb d_Md_takeSigned_177 (lv_at hl 0 rfl) ?_
        refine lv_isub hx hb d_Md_takeSigned_179 ?_
        refine W.eq (g2 := F0 m 180 ls [.int 50, .long yF]) (by rw [show (64 : Int32) - 14 = 50 from by decide +kernel]) ?_
        refine lv_lshl hx hb d_Md_takeSigned_180 rfl ?_
        refine lv_bipush (v := 64) hx hb d_Md_takeSigned_181 (by decide) ?_
        refine lv_iload hx hb d_Md_takeSigned_183 (lv_at hl 0 rfl) ?_
        refine lv_isub hx hb d_Md_takeSigned_185 ?_
        refine W.eq (g2 := F0 m 186 ls [.int 50, .long (yF <<< ((50 : Int32).toInt64 &&& 63))]) (by rw [show (64 : Int32) - 14 = 50 from by decide +kernel]) ?_
        refine lv_lshr hx hb d_Md_takeSigned_186 rfl ?_
        refine lv_goto (tgt := 191) hx hb d_Md_takeSigned_187 (by decide) ?_
        exact cRl ((nI zz13, nI f13, nI q13) : A3) hx hb hr hlocks d_Md_takeSigned_191 hS hP hD (Or.inl ⟨f13, q13, by rw [show pS32 b lm a = pSg b lm 5 32 a from rfl, hU1, pSg_T hr13], hf13, rfl, ⟨_, rfl⟩, zz13, by omega, rfl⟩) (Nat.le_refl _) (Nat.le_refl _)
      · obtain ⟨hla13, hgt13, hv13, hbd13⟩ := (pNext_ok2 hr13 hb9)
        have hP : va_P D cls [(m0, .inr (6, mF g K (nI a13, 0, p) e (nI np) B)), ((g 0), .inl (cA 3, 2000, .inl fd)), ((g 10), .inl (cA 3, 4, .inl pe))] H := hP
        have hD : va_D A [(m0, .inr (6, mF g K (nI a13, 0, p) e (nI np) B)), ((g 0), .inl (cA 3, 2000, .inl fd)), ((g 10), .inl (cA 3, 4, .inl pe))] := hD
        refine W.cs (cells' := 0) (slots' := 0) rfl rfl ?_
        refine W.eq (g2 := F0 m 32 ls [.int (nI v13)]) rfl ?_
        obtain ⟨hbd13, ean13⟩ := hbd13
        subst ean13
        have hP : va_P D cls [(m0, .inr (6, mF g K (nI ((a + 1) + 1), 0, p) e (nI np) B)), ((g 0), .inl (cA 3, 2000, .inl fd)), ((g 10), .inl (cA 3, 4, .inl pe))] H := hP
        have hD : va_D A [(m0, .inr (6, mF g K (nI ((a + 1) + 1), 0, p) e (nI np) B)), ((g 0), .inl (cA 3, 2000, .inl fd)), ((g 10), .inl (cA 3, 4, .inl pe))] := hD
        refine lv_istore (lv' := [(6, .int (nI v13)), (5, .int 1), (10, .int 7), (2, .long yF), (9, .int 1), (8, .int 0), (7, .int 32), (4, .int 5), (0, .ref m0), (1, .int 32)]) hx hb d_Md_takeSigned_32 hl (by decide) rfl (fun ls hl => ?_)
        refine lv_iload_n hx hb d_Md_takeSigned_34 rfl (lv_at hl 9 rfl) ?_
        refine lv_bipush (v := 7) hx hb d_Md_takeSigned_35 (by decide) ?_
        refine lv_iload hx hb d_Md_takeSigned_37 (lv_at hl 1 rfl) ?_
        refine lv_imul hx hb d_Md_takeSigned_39 ?_
        refine W.eq (g2 := F0 m 40 ls [.int 7, .int 32]) (by rw [show (7 : Int32) * 1 = 7 from by decide +kernel]) ?_
        refine lv_isub hx hb d_Md_takeSigned_40 ?_
        refine W.eq (g2 := F0 m 41 ls [.int 25]) (by rw [show (32 : Int32) - 7 = 25 from by decide +kernel]) ?_
        refine lv_istore (lv' := [(7, .int 25), (6, .int (nI v13)), (5, .int 1), (10, .int 7), (2, .long yF), (9, .int 1), (8, .int 0), (4, .int 5), (0, .ref m0), (1, .int 32)]) hx hb d_Md_takeSigned_41 hl (by decide) rfl (fun ls hl => ?_)
        refine lv_iload hx hb d_Md_takeSigned_43 (lv_at hl 0 rfl) ?_
        refine lv_bipush (v := 7) hx hb d_Md_takeSigned_45 (by decide) ?_
        refine lv_icmp_ge (tgt := 63) hx hb d_Md_takeSigned_47 (by decide) (fun c_47 => ?_) (fun c_47 => absurd (by decide) c_47)
        refine lv_iconst (v := 0) hx hb d_Md_takeSigned_63 (by decide) ?_
        refine lv_istore (lv' := [(8, .int 0), (7, .int 25), (6, .int (nI v13)), (5, .int 1), (10, .int 7), (2, .long yF), (9, .int 1), (4, .int 5), (0, .ref m0), (1, .int 32)]) hx hb d_Md_takeSigned_64 hl (by decide) rfl (fun ls hl => ?_)
        refine lv_iload hx hb d_Md_takeSigned_66 (lv_at hl 1 rfl) ?_
        refine lv_bipush (v := 7) hx hb d_Md_takeSigned_68 (by decide) ?_
        refine lv_icmp_ge (tgt := 90) hx hb d_Md_takeSigned_70 (by decide) (fun c_70 => ?_) (fun c_70 => absurd (by decide) c_70)
        refine lv_iconst (v := 1) hx hb d_Md_takeSigned_90 (by decide) ?_
        refine lv_goto (tgt := 95) hx hb d_Md_takeSigned_91 (by decide) ?_
        refine lv_istore (lv' := [(9, .int 1), (8, .int 0), (7, .int 25), (6, .int (nI v13)), (5, .int 1), (10, .int 7), (2, .long yF), (4, .int 5), (0, .ref m0), (1, .int 32)]) hx hb d_Md_takeSigned_95 hl (by decide) rfl (fun ls hl => ?_)
        refine lv_aload_n hx hb d_Md_takeSigned_97 rfl (lv_at hl 8 rfl) ?_
        refine va_get (D := D) (ci := 6) (v := .int 0) (C := R_Md) (T := F_Md) (N := 44) hx hb hts (fun w h => List.mem_cons_of_mem _ (i_Md w h)) hown hE.1 hP 0 rfl rfl 3 (by decide) (hts _ (List.mem_cons_of_mem _ iw3_57)) (fun _ h9 => h9) rfl d_Md_takeSigned_98 ?_
        refine lv_if_ne (tgt := 134) hx hb d_Md_takeSigned_101 (by decide) (fun c_101 => absurd (by decide) c_101) (fun c_101 => ?_)
        refine lv_iload hx hb d_Md_takeSigned_104 (lv_at hl 2 rfl) ?_
        refine lv_bipush (v := 8) hx hb d_Md_takeSigned_106 (by decide) ?_
        refine lv_icmp_ge (tgt := 134) hx hb d_Md_takeSigned_108 (by decide) (fun c_108 => ?_) (fun c_108 => absurd (by decide) c_108)
        have ho1 : ¬ (25 ≤ 7 ∧ sTop 25 v13 = false) := fun q => absurd q.1 (by decide)
        refine lv_lload_n hx hb d_Md_takeSigned_134 rfl (lv_at hl 6 rfl) ?_
        refine lv_iload hx hb d_Md_takeSigned_135 (lv_at hl 3 rfl) ?_
        refine lv_bipush (v := 127) hx hb d_Md_takeSigned_137 (by decide) ?_
        refine lv_iand hx hb d_Md_takeSigned_139 ?_
        refine lv_i2l hx hb d_Md_takeSigned_140 rfl ?_
        refine lv_bipush (v := 7) hx hb d_Md_takeSigned_141 (by decide) ?_
        refine lv_iload hx hb d_Md_takeSigned_143 (lv_at hl 4 rfl) ?_
        refine lv_imul hx hb d_Md_takeSigned_145 ?_
        refine W.eq (g2 := F0 m 146 ls [.int 7, .long (((nI v13) &&& 127).toInt64), .long yF]) (by rw [show (7 : Int32) * 1 = 7 from by decide +kernel]) ?_
        refine lv_lshl hx hb d_Md_takeSigned_146 rfl ?_
        refine lv_lor hx hb d_Md_takeSigned_147 ?_
        refine lv_topl (fun yF eyF => ?_)
        refine lv_lstore_n (lv' := [(2, .long yF), (9, .int 1), (8, .int 0), (7, .int 25), (6, .int (nI v13)), (5, .int 1), (10, .int 7), (4, .int 5), (0, .ref m0), (1, .int 32)]) hx hb d_Md_takeSigned_148 rfl hl (by decide) rfl (fun ls hl => ?_)
        refine lv_bipush (v := 7) hx hb d_Md_takeSigned_149 (by decide) ?_
        refine lv_iload hx hb d_Md_takeSigned_151 (lv_at hl 5 rfl) ?_
        refine lv_imul hx hb d_Md_takeSigned_153 ?_
        refine W.eq (g2 := F0 m 154 ls [.int 7]) (by rw [show (7 : Int32) * 1 = 7 from by decide +kernel]) ?_
        refine lv_bipush (v := 7) hx hb d_Md_takeSigned_154 (by decide) ?_
        refine lv_iadd hx hb d_Md_takeSigned_156 ?_
        refine W.eq (g2 := F0 m 157 ls [.int 14]) (by rw [show (7 : Int32) + 7 = 14 from by decide +kernel]) ?_
        refine lv_istore (lv' := [(10, .int 14), (2, .long yF), (9, .int 1), (8, .int 0), (7, .int 25), (6, .int (nI v13)), (5, .int 1), (4, .int 5), (0, .ref m0), (1, .int 32)]) hx hb d_Md_takeSigned_157 hl (by decide) rfl (fun ls hl => ?_)
        refine lv_iload hx hb d_Md_takeSigned_159 (lv_at hl 5 rfl) ?_
        refine lv_sipush (v := 128) hx hb d_Md_takeSigned_161 (by decide) ?_
        refine lv_icmp_ge (tgt := 192) hx hb d_Md_takeSigned_164 (by decide) (fun c_164 => ?_) (fun c_164 => ?_)
        · have hd1 : ¬ v13 < 128 := fun q => absurd ((nI_leI (a := 128) (b := v13) (by omega) (by omega)).mp c_164) (by omega)
          have hU2 : pSg b lm 5 32 a = pSg b lm 3 18 ((a + 1) + 1) := hU1.trans (pSg_C hr13 ho1 hd1)
          refine lv_iinc (v := 2) (lv' := [(5, .int 2), (10, .int 14), (2, .long yF), (9, .int 1), (8, .int 0), (7, .int 25), (6, .int (nI v13)), (4, .int 5), (0, .ref m0), (1, .int 32)]) hx hb d_Md_takeSigned_192 hl (k := 6) rfl (by decide) (by decide) rfl (fun ls hl => ?_)
          refine lv_goto (tgt := 14) hx hb d_Md_takeSigned_195 (by decide) ?_
          refine lv_iload hx hb d_Md_takeSigned_14 (lv_at hl 0 rfl) ?_
          refine lv_iload hx hb d_Md_takeSigned_16 (lv_at hl 7 rfl) ?_
          refine lv_icmp_ge (tgt := 198) hx hb d_Md_takeSigned_18 (by decide) (fun c_18 => absurd c_18 (by decide)) (fun c_18 => ?_)
          refine lv_aload_n hx hb d_Md_takeSigned_21 rfl (lv_at hl 8 rfl) ?_
          refine va_get (D := D) (ci := 6) (v := .int 0) (C := R_Md) (T := F_Md) (N := 44) hx hb hts (fun w h => List.mem_cons_of_mem _ (i_Md w h)) hown hE.1 hP 0 rfl rfl 3 (by decide) (hts _ (List.mem_cons_of_mem _ iw3_57)) (fun _ h9 => h9) rfl d_Md_takeSigned_22 ?_
          refine lv_if_ne (tgt := 198) hx hb d_Md_takeSigned_25 (by decide) (fun c_25 => absurd (by decide) c_25) (fun c_25 => ?_)
          refine lv_aload_n hx hb d_Md_takeSigned_28 rfl (lv_at hl 8 rfl) ?_
          refine cV (As := []) (rest := []) (n := 0) (wc := [(m0, .inr (6, mF g K (nI ((a + 1) + 1), 0, p) e (nI np) B)), ((g 0), .inl (cA 3, 2000, .inl fd)), ((g 10), .inl (cA 3, 4, .inl pe))]) (wr := []) ⟨hx, hb, hml, hown, hts⟩ hno hlocks hl.1 (c_Md_take l hl9 D cA ad H.size m0 g K e np B fd pe b N lm hnp hpe hlm hN hfd hb9 ((a + 1) + 1) p (by omega) ) iw3_212 iw3_214 sel_Md_take iw1_7 iw3_215 (by decide +kernel) rfl ⟨Nat.le_of_ble_eq_true rfl, Nat.le_of_ble_eq_true rfl⟩ ⟨Nat.le_of_ble_eq_true rfl, Nat.le_of_ble_eq_true rfl⟩ rfl (Nat.le_of_ble_eq_true rfl) d_Md_takeSigned_29 hE hP hD hS hA [0, 1, 2] [] rfl rfl rfl rfl (by decide) (ci := 6) rfl rfl 0 rfl (fun _ h => h.elim) (fun v_29 u_29 H locs hp_29 hP hD hS => ?_)
          rcases hp_29 with ⟨f14, q14, hr14, hf14, hB14, rfl, zz14, hzz14, hzx14⟩ | ⟨v14, a14, hr14, rfl, rfl⟩
          · obtain ⟨x14, y14, z14⟩ := u_29
            cases hB14
            have hzx14 : x14 = nI zz14 := hzx14
            subst hzx14
            have hP : va_P D cls [(m0, .inr (6, mF g K (nI zz14, nI f14, nI q14) e (nI np) B)), ((g 0), .inl (cA 3, 2000, .inl fd)), ((g 10), .inl (cA 3, 4, .inl pe))] H := hP
            have hD : va_D A [(m0, .inr (6, mF g K (nI zz14, nI f14, nI q14) e (nI np) B)), ((g 0), .inl (cA 3, 2000, .inl fd)), ((g 10), .inl (cA 3, 4, .inl pe))] := hD
            refine W.cs (cells' := 0) (slots' := 0) rfl rfl ?_
            refine W.eq (g2 := F0 m 32 ls [.int 0]) rfl ?_
            refine lv_istore (lv' := [(6, .int 0), (5, .int 2), (10, .int 14), (2, .long yF), (9, .int 1), (8, .int 0), (7, .int 25), (4, .int 5), (0, .ref m0), (1, .int 32)]) hx hb d_Md_takeSigned_32 hl (by decide) rfl (fun ls hl => ?_)
            refine lv_iload_n hx hb d_Md_takeSigned_34 rfl (lv_at hl 9 rfl) ?_
            refine lv_bipush (v := 7) hx hb d_Md_takeSigned_35 (by decide) ?_
            refine lv_iload hx hb d_Md_takeSigned_37 (lv_at hl 1 rfl) ?_
            refine lv_imul hx hb d_Md_takeSigned_39 ?_
            refine W.eq (g2 := F0 m 40 ls [.int 14, .int 32]) (by rw [show (7 : Int32) * 2 = 14 from by decide +kernel]) ?_
            refine lv_isub hx hb d_Md_takeSigned_40 ?_
            refine W.eq (g2 := F0 m 41 ls [.int 18]) (by rw [show (32 : Int32) - 14 = 18 from by decide +kernel]) ?_
            refine lv_istore (lv' := [(7, .int 18), (6, .int 0), (5, .int 2), (10, .int 14), (2, .long yF), (9, .int 1), (8, .int 0), (4, .int 5), (0, .ref m0), (1, .int 32)]) hx hb d_Md_takeSigned_41 hl (by decide) rfl (fun ls hl => ?_)
            refine lv_iload hx hb d_Md_takeSigned_43 (lv_at hl 0 rfl) ?_
            refine lv_bipush (v := 7) hx hb d_Md_takeSigned_45 (by decide) ?_
            refine lv_icmp_ge (tgt := 63) hx hb d_Md_takeSigned_47 (by decide) (fun c_47 => ?_) (fun c_47 => absurd (by decide) c_47)
            refine lv_iconst (v := 0) hx hb d_Md_takeSigned_63 (by decide) ?_
            refine lv_istore (lv' := [(8, .int 0), (7, .int 18), (6, .int 0), (5, .int 2), (10, .int 14), (2, .long yF), (9, .int 1), (4, .int 5), (0, .ref m0), (1, .int 32)]) hx hb d_Md_takeSigned_64 hl (by decide) rfl (fun ls hl => ?_)
            refine lv_iload hx hb d_Md_takeSigned_66 (lv_at hl 1 rfl) ?_
            refine lv_bipush (v := 7) hx hb d_Md_takeSigned_68 (by decide) ?_
            refine lv_icmp_ge (tgt := 90) hx hb d_Md_takeSigned_70 (by decide) (fun c_70 => ?_) (fun c_70 => absurd (by decide) c_70)
            refine lv_iconst (v := 1) hx hb d_Md_takeSigned_90 (by decide) ?_
            refine lv_goto (tgt := 95) hx hb d_Md_takeSigned_91 (by decide) ?_
            refine lv_istore (lv' := [(9, .int 1), (8, .int 0), (7, .int 18), (6, .int 0), (5, .int 2), (10, .int 14), (2, .long yF), (4, .int 5), (0, .ref m0), (1, .int 32)]) hx hb d_Md_takeSigned_95 hl (by decide) rfl (fun ls hl => ?_)
            refine lv_aload_n hx hb d_Md_takeSigned_97 rfl (lv_at hl 8 rfl) ?_
            refine va_get (D := D) (ci := 6) (v := .int (nI f14)) (C := R_Md) (T := F_Md) (N := 44) hx hb hts (fun w h => List.mem_cons_of_mem _ (i_Md w h)) hown hE.1 hP 0 rfl rfl 3 (by decide) (hts _ (List.mem_cons_of_mem _ iw3_57)) (fun _ h9 => h9) rfl d_Md_takeSigned_98 ?_
            refine lv_if_ne (tgt := 134) hx hb d_Md_takeSigned_101 (by decide) (fun c_101 => ?_) (fun c_101 => absurd c_101 (hf14.n0))
            refine lv_lload_n hx hb d_Md_takeSigned_134 rfl (lv_at hl 6 rfl) ?_
            refine lv_iload hx hb d_Md_takeSigned_135 (lv_at hl 3 rfl) ?_
            refine lv_bipush (v := 127) hx hb d_Md_takeSigned_137 (by decide) ?_
            refine lv_iand hx hb d_Md_takeSigned_139 ?_
            refine W.eq (g2 := F0 m 140 ls [.int 0, .long yF]) (by rw [show (0 : Int32) &&& 127 = 0 from by decide +kernel]) ?_
            refine lv_i2l hx hb d_Md_takeSigned_140 rfl ?_
            refine lv_bipush (v := 7) hx hb d_Md_takeSigned_141 (by decide) ?_
            refine lv_iload hx hb d_Md_takeSigned_143 (lv_at hl 4 rfl) ?_
            refine lv_imul hx hb d_Md_takeSigned_145 ?_
            refine W.eq (g2 := F0 m 146 ls [.int 14, .long ((0 : Int32).toInt64), .long yF]) (by rw [show (7 : Int32) * 2 = 14 from by decide +kernel]) ?_
            refine lv_lshl hx hb d_Md_takeSigned_146 rfl ?_
            refine lv_lor hx hb d_Md_takeSigned_147 ?_
            refine lv_topl (fun yF eyF => ?_)
            refine lv_lstore_n (lv' := [(2, .long yF), (9, .int 1), (8, .int 0), (7, .int 18), (6, .int 0), (5, .int 2), (10, .int 14), (4, .int 5), (0, .ref m0), (1, .int 32)]) hx hb d_Md_takeSigned_148 rfl hl (by decide) rfl (fun ls hl => ?_)
            refine lv_bipush (v := 7) hx hb d_Md_takeSigned_149 (by decide) ?_
            refine lv_iload hx hb d_Md_takeSigned_151 (lv_at hl 5 rfl) ?_
            refine lv_imul hx hb d_Md_takeSigned_153 ?_
            refine W.eq (g2 := F0 m 154 ls [.int 14]) (by rw [show (7 : Int32) * 2 = 14 from by decide +kernel]) ?_
            refine lv_bipush (v := 7) hx hb d_Md_takeSigned_154 (by decide) ?_
            refine lv_iadd hx hb d_Md_takeSigned_156 ?_
            refine W.eq (g2 := F0 m 157 ls [.int 21]) (by rw [show (14 : Int32) + 7 = 21 from by decide +kernel]) ?_
            refine lv_istore (lv' := [(10, .int 21), (2, .long yF), (9, .int 1), (8, .int 0), (7, .int 18), (6, .int 0), (5, .int 2), (4, .int 5), (0, .ref m0), (1, .int 32)]) hx hb d_Md_takeSigned_157 hl (by decide) rfl (fun ls hl => ?_)
            refine lv_iload hx hb d_Md_takeSigned_159 (lv_at hl 5 rfl) ?_
            refine lv_sipush (v := 128) hx hb d_Md_takeSigned_161 (by decide) ?_
            refine lv_icmp_ge (tgt := 192) hx hb d_Md_takeSigned_164 (by decide) (fun c_164 => absurd c_164 (by decide)) (fun c_164 => ?_)
            refine lv_iload hx hb d_Md_takeSigned_167 (lv_at hl 0 rfl) ?_
            refine lv_bipush (v := 64) hx hb d_Md_takeSigned_169 (by decide) ?_
            refine lv_icmp_ge (tgt := 190) hx hb d_Md_takeSigned_171 (by decide) (fun c_171 => absurd c_171 (by decide)) (fun c_171 => ?_)
            refine lv_lload_n hx hb d_Md_takeSigned_174 rfl (lv_at hl 1 rfl) ?_
            refine lv_bipush (v := 64) hx hb d_Md_takeSigned_175 (by decide) ?_
            refine lv_iload hx hb d_Md_takeSigned_177 (lv_at hl 0 rfl) ?_
            refine lv_isub hx hb d_Md_takeSigned_179 ?_
            refine W.eq (g2 := F0 m 180 ls [.int 43, .long yF]) (by rw [show (64 : Int32) - 21 = 43 from by decide +kernel]) ?_
            refine lv_lshl hx hb d_Md_takeSigned_180 rfl ?_
            refine lv_bipush (v := 64) hx hb d_Md_takeSigned_181 (by decide) ?_
            refine lv_iload hx hb d_Md_takeSigned_183 (lv_at hl 0 rfl) ?_
            refine lv_isub hx hb d_Md_takeSigned_185 ?_
            refine W.eq (g2 := F0 m 186 ls [.int 43, .long (yF <<< ((43 : Int32).toInt64 &&& 63))]) (by rw [show (64 : Int32) - 21 = 43 from by decide +kernel]) ?_
            refine lv_lshr hx hb d_Md_takeSigned_186 rfl ?_
            refine lv_goto (tgt := 191) hx hb d_Md_takeSigned_187 (by decide) ?_
            exact cRl ((nI zz14, nI f14, nI q14) : A3) hx hb hr hlocks d_Md_takeSigned_191 hS hP hD (Or.inl ⟨f14, q14, by rw [show pS32 b lm a = pSg b lm 5 32 a from rfl, hU2, pSg_T hr14], hf14, rfl, ⟨_, rfl⟩, zz14, by omega, rfl⟩) (Nat.le_refl _) (Nat.le_refl _)
          · obtain ⟨hla14, hgt14, hv14, hbd14⟩ := (pNext_ok2 hr14 hb9)
            have hP : va_P D cls [(m0, .inr (6, mF g K (nI a14, 0, p) e (nI np) B)), ((g 0), .inl (cA 3, 2000, .inl fd)), ((g 10), .inl (cA 3, 4, .inl pe))] H := hP
            have hD : va_D A [(m0, .inr (6, mF g K (nI a14, 0, p) e (nI np) B)), ((g 0), .inl (cA 3, 2000, .inl fd)), ((g 10), .inl (cA 3, 4, .inl pe))] := hD
            refine W.cs (cells' := 0) (slots' := 0) rfl rfl ?_
            refine W.eq (g2 := F0 m 32 ls [.int (nI v14)]) rfl ?_
            obtain ⟨hbd14, ean14⟩ := hbd14
            subst ean14
            have hP : va_P D cls [(m0, .inr (6, mF g K (nI (((a + 1) + 1) + 1), 0, p) e (nI np) B)), ((g 0), .inl (cA 3, 2000, .inl fd)), ((g 10), .inl (cA 3, 4, .inl pe))] H := hP
            have hD : va_D A [(m0, .inr (6, mF g K (nI (((a + 1) + 1) + 1), 0, p) e (nI np) B)), ((g 0), .inl (cA 3, 2000, .inl fd)), ((g 10), .inl (cA 3, 4, .inl pe))] := hD
            refine lv_istore (lv' := [(6, .int (nI v14)), (5, .int 2), (10, .int 14), (2, .long yF), (9, .int 1), (8, .int 0), (7, .int 25), (4, .int 5), (0, .ref m0), (1, .int 32)]) hx hb d_Md_takeSigned_32 hl (by decide) rfl (fun ls hl => ?_)
            refine lv_iload_n hx hb d_Md_takeSigned_34 rfl (lv_at hl 9 rfl) ?_
            refine lv_bipush (v := 7) hx hb d_Md_takeSigned_35 (by decide) ?_
            refine lv_iload hx hb d_Md_takeSigned_37 (lv_at hl 1 rfl) ?_
            refine lv_imul hx hb d_Md_takeSigned_39 ?_
            refine W.eq (g2 := F0 m 40 ls [.int 14, .int 32]) (by rw [show (7 : Int32) * 2 = 14 from by decide +kernel]) ?_
            refine lv_isub hx hb d_Md_takeSigned_40 ?_
            refine W.eq (g2 := F0 m 41 ls [.int 18]) (by rw [show (32 : Int32) - 14 = 18 from by decide +kernel]) ?_
            refine lv_istore (lv' := [(7, .int 18), (6, .int (nI v14)), (5, .int 2), (10, .int 14), (2, .long yF), (9, .int 1), (8, .int 0), (4, .int 5), (0, .ref m0), (1, .int 32)]) hx hb d_Md_takeSigned_41 hl (by decide) rfl (fun ls hl => ?_)
            refine lv_iload hx hb d_Md_takeSigned_43 (lv_at hl 0 rfl) ?_
            refine lv_bipush (v := 7) hx hb d_Md_takeSigned_45 (by decide) ?_
            refine lv_icmp_ge (tgt := 63) hx hb d_Md_takeSigned_47 (by decide) (fun c_47 => ?_) (fun c_47 => absurd (by decide) c_47)
            refine lv_iconst (v := 0) hx hb d_Md_takeSigned_63 (by decide) ?_
            refine lv_istore (lv' := [(8, .int 0), (7, .int 18), (6, .int (nI v14)), (5, .int 2), (10, .int 14), (2, .long yF), (9, .int 1), (4, .int 5), (0, .ref m0), (1, .int 32)]) hx hb d_Md_takeSigned_64 hl (by decide) rfl (fun ls hl => ?_)
            refine lv_iload hx hb d_Md_takeSigned_66 (lv_at hl 1 rfl) ?_
            refine lv_bipush (v := 7) hx hb d_Md_takeSigned_68 (by decide) ?_
            refine lv_icmp_ge (tgt := 90) hx hb d_Md_takeSigned_70 (by decide) (fun c_70 => ?_) (fun c_70 => absurd (by decide) c_70)
            refine lv_iconst (v := 1) hx hb d_Md_takeSigned_90 (by decide) ?_
            refine lv_goto (tgt := 95) hx hb d_Md_takeSigned_91 (by decide) ?_
            refine lv_istore (lv' := [(9, .int 1), (8, .int 0), (7, .int 18), (6, .int (nI v14)), (5, .int 2), (10, .int 14), (2, .long yF), (4, .int 5), (0, .ref m0), (1, .int 32)]) hx hb d_Md_takeSigned_95 hl (by decide) rfl (fun ls hl => ?_)
            refine lv_aload_n hx hb d_Md_takeSigned_97 rfl (lv_at hl 8 rfl) ?_
            refine va_get (D := D) (ci := 6) (v := .int 0) (C := R_Md) (T := F_Md) (N := 44) hx hb hts (fun w h => List.mem_cons_of_mem _ (i_Md w h)) hown hE.1 hP 0 rfl rfl 3 (by decide) (hts _ (List.mem_cons_of_mem _ iw3_57)) (fun _ h9 => h9) rfl d_Md_takeSigned_98 ?_
            refine lv_if_ne (tgt := 134) hx hb d_Md_takeSigned_101 (by decide) (fun c_101 => absurd (by decide) c_101) (fun c_101 => ?_)
            refine lv_iload hx hb d_Md_takeSigned_104 (lv_at hl 2 rfl) ?_
            refine lv_bipush (v := 8) hx hb d_Md_takeSigned_106 (by decide) ?_
            refine lv_icmp_ge (tgt := 134) hx hb d_Md_takeSigned_108 (by decide) (fun c_108 => ?_) (fun c_108 => absurd (by decide) c_108)
            have ho2 : ¬ (18 ≤ 7 ∧ sTop 18 v14 = false) := fun q => absurd q.1 (by decide)
            refine lv_lload_n hx hb d_Md_takeSigned_134 rfl (lv_at hl 6 rfl) ?_
            refine lv_iload hx hb d_Md_takeSigned_135 (lv_at hl 3 rfl) ?_
            refine lv_bipush (v := 127) hx hb d_Md_takeSigned_137 (by decide) ?_
            refine lv_iand hx hb d_Md_takeSigned_139 ?_
            refine lv_i2l hx hb d_Md_takeSigned_140 rfl ?_
            refine lv_bipush (v := 7) hx hb d_Md_takeSigned_141 (by decide) ?_
            refine lv_iload hx hb d_Md_takeSigned_143 (lv_at hl 4 rfl) ?_
            refine lv_imul hx hb d_Md_takeSigned_145 ?_
            refine W.eq (g2 := F0 m 146 ls [.int 14, .long (((nI v14) &&& 127).toInt64), .long yF]) (by rw [show (7 : Int32) * 2 = 14 from by decide +kernel]) ?_
            refine lv_lshl hx hb d_Md_takeSigned_146 rfl ?_
            refine lv_lor hx hb d_Md_takeSigned_147 ?_
            refine lv_topl (fun yF eyF => ?_)
            refine lv_lstore_n (lv' := [(2, .long yF), (9, .int 1), (8, .int 0), (7, .int 18), (6, .int (nI v14)), (5, .int 2), (10, .int 14), (4, .int 5), (0, .ref m0), (1, .int 32)]) hx hb d_Md_takeSigned_148 rfl hl (by decide) rfl (fun ls hl => ?_)
            refine lv_bipush (v := 7) hx hb d_Md_takeSigned_149 (by decide) ?_
            refine lv_iload hx hb d_Md_takeSigned_151 (lv_at hl 5 rfl) ?_
            refine lv_imul hx hb d_Md_takeSigned_153 ?_
            refine W.eq (g2 := F0 m 154 ls [.int 14]) (by rw [show (7 : Int32) * 2 = 14 from by decide +kernel]) ?_
            refine lv_bipush (v := 7) hx hb d_Md_takeSigned_154 (by decide) ?_
            refine lv_iadd hx hb d_Md_takeSigned_156 ?_
            refine W.eq (g2 := F0 m 157 ls [.int 21]) (by rw [show (14 : Int32) + 7 = 21 from by decide +kernel]) ?_
            refine lv_istore (lv' := [(10, .int 21), (2, .long yF), (9, .int 1), (8, .int 0), (7, .int 18), (6, .int (nI v14)), (5, .int 2), (4, .int 5), (0, .ref m0), (1, .int 32)]) hx hb d_Md_takeSigned_157 hl (by decide) rfl (fun ls hl => ?_)
            refine lv_iload hx hb d_Md_takeSigned_159 (lv_at hl 5 rfl) ?_
            refine lv_sipush (v := 128) hx hb d_Md_takeSigned_161 (by decide) ?_
            refine lv_icmp_ge (tgt := 192) hx hb d_Md_takeSigned_164 (by decide) (fun c_164 => ?_) (fun c_164 => ?_)
            · have hd2 : ¬ v14 < 128 := fun q => absurd ((nI_leI (a := 128) (b := v14) (by omega) (by omega)).mp c_164) (by omega)
              have hU3 : pSg b lm 5 32 a = pSg b lm 2 11 (((a + 1) + 1) + 1) := hU2.trans (pSg_C hr14 ho2 hd2)
              refine lv_iinc (v := 3) (lv' := [(5, .int 3), (10, .int 21), (2, .long yF), (9, .int 1), (8, .int 0), (7, .int 18), (6, .int (nI v14)), (4, .int 5), (0, .ref m0), (1, .int 32)]) hx hb d_Md_takeSigned_192 hl (k := 6) rfl (by decide) (by decide) rfl (fun ls hl => ?_)
              refine lv_goto (tgt := 14) hx hb d_Md_takeSigned_195 (by decide) ?_
              refine lv_iload hx hb d_Md_takeSigned_14 (lv_at hl 0 rfl) ?_
              refine lv_iload hx hb d_Md_takeSigned_16 (lv_at hl 7 rfl) ?_
              refine lv_icmp_ge (tgt := 198) hx hb d_Md_takeSigned_18 (by decide) (fun c_18 => absurd c_18 (by decide)) (fun c_18 => ?_)
              refine lv_aload_n hx hb d_Md_takeSigned_21 rfl (lv_at hl 8 rfl) ?_
              refine va_get (D := D) (ci := 6) (v := .int 0) (C := R_Md) (T := F_Md) (N := 44) hx hb hts (fun w h => List.mem_cons_of_mem _ (i_Md w h)) hown hE.1 hP 0 rfl rfl 3 (by decide) (hts _ (List.mem_cons_of_mem _ iw3_57)) (fun _ h9 => h9) rfl d_Md_takeSigned_22 ?_
              refine lv_if_ne (tgt := 198) hx hb d_Md_takeSigned_25 (by decide) (fun c_25 => absurd (by decide) c_25) (fun c_25 => ?_)
              refine lv_aload_n hx hb d_Md_takeSigned_28 rfl (lv_at hl 8 rfl) ?_
              refine cV (As := []) (rest := []) (n := 0) (wc := [(m0, .inr (6, mF g K (nI (((a + 1) + 1) + 1), 0, p) e (nI np) B)), ((g 0), .inl (cA 3, 2000, .inl fd)), ((g 10), .inl (cA 3, 4, .inl pe))]) (wr := []) ⟨hx, hb, hml, hown, hts⟩ hno hlocks hl.1 (c_Md_take l hl9 D cA ad H.size m0 g K e np B fd pe b N lm hnp hpe hlm hN hfd hb9 (((a + 1) + 1) + 1) p (by omega) ) iw3_212 iw3_214 sel_Md_take iw1_7 iw3_215 (by decide +kernel) rfl ⟨Nat.le_of_ble_eq_true rfl, Nat.le_of_ble_eq_true rfl⟩ ⟨Nat.le_of_ble_eq_true rfl, Nat.le_of_ble_eq_true rfl⟩ rfl (Nat.le_of_ble_eq_true rfl) d_Md_takeSigned_29 hE hP hD hS hA [0, 1, 2] [] rfl rfl rfl rfl (by decide) (ci := 6) rfl rfl 0 rfl (fun _ h => h.elim) (fun v_29 u_29 H locs hp_29 hP hD hS => ?_)
              rcases hp_29 with ⟨f15, q15, hr15, hf15, hB15, rfl, zz15, hzz15, hzx15⟩ | ⟨v15, a15, hr15, rfl, rfl⟩
              · obtain ⟨x15, y15, z15⟩ := u_29
                cases hB15
                have hzx15 : x15 = nI zz15 := hzx15
                subst hzx15
                have hP : va_P D cls [(m0, .inr (6, mF g K (nI zz15, nI f15, nI q15) e (nI np) B)), ((g 0), .inl (cA 3, 2000, .inl fd)), ((g 10), .inl (cA 3, 4, .inl pe))] H := hP
                have hD : va_D A [(m0, .inr (6, mF g K (nI zz15, nI f15, nI q15) e (nI np) B)), ((g 0), .inl (cA 3, 2000, .inl fd)), ((g 10), .inl (cA 3, 4, .inl pe))] := hD
                refine W.cs (cells' := 0) (slots' := 0) rfl rfl ?_
                refine W.eq (g2 := F0 m 32 ls [.int 0]) rfl ?_
                refine lv_istore (lv' := [(6, .int 0), (5, .int 3), (10, .int 21), (2, .long yF), (9, .int 1), (8, .int 0), (7, .int 18), (4, .int 5), (0, .ref m0), (1, .int 32)]) hx hb d_Md_takeSigned_32 hl (by decide) rfl (fun ls hl => ?_)
                refine lv_iload_n hx hb d_Md_takeSigned_34 rfl (lv_at hl 9 rfl) ?_
                refine lv_bipush (v := 7) hx hb d_Md_takeSigned_35 (by decide) ?_
                refine lv_iload hx hb d_Md_takeSigned_37 (lv_at hl 1 rfl) ?_
                refine lv_imul hx hb d_Md_takeSigned_39 ?_
                refine W.eq (g2 := F0 m 40 ls [.int 21, .int 32]) (by rw [show (7 : Int32) * 3 = 21 from by decide +kernel]) ?_
                refine lv_isub hx hb d_Md_takeSigned_40 ?_
                refine W.eq (g2 := F0 m 41 ls [.int 11]) (by rw [show (32 : Int32) - 21 = 11 from by decide +kernel]) ?_
                refine lv_istore (lv' := [(7, .int 11), (6, .int 0), (5, .int 3), (10, .int 21), (2, .long yF), (9, .int 1), (8, .int 0), (4, .int 5), (0, .ref m0), (1, .int 32)]) hx hb d_Md_takeSigned_41 hl (by decide) rfl (fun ls hl => ?_)
                refine lv_iload hx hb d_Md_takeSigned_43 (lv_at hl 0 rfl) ?_
                refine lv_bipush (v := 7) hx hb d_Md_takeSigned_45 (by decide) ?_
                refine lv_icmp_ge (tgt := 63) hx hb d_Md_takeSigned_47 (by decide) (fun c_47 => ?_) (fun c_47 => absurd (by decide) c_47)
                refine lv_iconst (v := 0) hx hb d_Md_takeSigned_63 (by decide) ?_
                refine lv_istore (lv' := [(8, .int 0), (7, .int 11), (6, .int 0), (5, .int 3), (10, .int 21), (2, .long yF), (9, .int 1), (4, .int 5), (0, .ref m0), (1, .int 32)]) hx hb d_Md_takeSigned_64 hl (by decide) rfl (fun ls hl => ?_)
                refine lv_iload hx hb d_Md_takeSigned_66 (lv_at hl 1 rfl) ?_
                refine lv_bipush (v := 7) hx hb d_Md_takeSigned_68 (by decide) ?_
                refine lv_icmp_ge (tgt := 90) hx hb d_Md_takeSigned_70 (by decide) (fun c_70 => ?_) (fun c_70 => absurd (by decide) c_70)
                refine lv_iconst (v := 1) hx hb d_Md_takeSigned_90 (by decide) ?_
                refine lv_goto (tgt := 95) hx hb d_Md_takeSigned_91 (by decide) ?_
                refine lv_istore (lv' := [(9, .int 1), (8, .int 0), (7, .int 11), (6, .int 0), (5, .int 3), (10, .int 21), (2, .long yF), (4, .int 5), (0, .ref m0), (1, .int 32)]) hx hb d_Md_takeSigned_95 hl (by decide) rfl (fun ls hl => ?_)
                refine lv_aload_n hx hb d_Md_takeSigned_97 rfl (lv_at hl 8 rfl) ?_
                refine va_get (D := D) (ci := 6) (v := .int (nI f15)) (C := R_Md) (T := F_Md) (N := 44) hx hb hts (fun w h => List.mem_cons_of_mem _ (i_Md w h)) hown hE.1 hP 0 rfl rfl 3 (by decide) (hts _ (List.mem_cons_of_mem _ iw3_57)) (fun _ h9 => h9) rfl d_Md_takeSigned_98 ?_
                refine lv_if_ne (tgt := 134) hx hb d_Md_takeSigned_101 (by decide) (fun c_101 => ?_) (fun c_101 => absurd c_101 (hf15.n0))
                refine lv_lload_n hx hb d_Md_takeSigned_134 rfl (lv_at hl 6 rfl) ?_
                refine lv_iload hx hb d_Md_takeSigned_135 (lv_at hl 3 rfl) ?_
                refine lv_bipush (v := 127) hx hb d_Md_takeSigned_137 (by decide) ?_
                refine lv_iand hx hb d_Md_takeSigned_139 ?_
                refine W.eq (g2 := F0 m 140 ls [.int 0, .long yF]) (by rw [show (0 : Int32) &&& 127 = 0 from by decide +kernel]) ?_
                refine lv_i2l hx hb d_Md_takeSigned_140 rfl ?_
                refine lv_bipush (v := 7) hx hb d_Md_takeSigned_141 (by decide) ?_
                refine lv_iload hx hb d_Md_takeSigned_143 (lv_at hl 4 rfl) ?_
                refine lv_imul hx hb d_Md_takeSigned_145 ?_
                refine W.eq (g2 := F0 m 146 ls [.int 21, .long ((0 : Int32).toInt64), .long yF]) (by rw [show (7 : Int32) * 3 = 21 from by decide +kernel]) ?_
                refine lv_lshl hx hb d_Md_takeSigned_146 rfl ?_
                refine lv_lor hx hb d_Md_takeSigned_147 ?_
                refine lv_topl (fun yF eyF => ?_)
                refine lv_lstore_n (lv' := [(2, .long yF), (9, .int 1), (8, .int 0), (7, .int 11), (6, .int 0), (5, .int 3), (10, .int 21), (4, .int 5), (0, .ref m0), (1, .int 32)]) hx hb d_Md_takeSigned_148 rfl hl (by decide) rfl (fun ls hl => ?_)
                refine lv_bipush (v := 7) hx hb d_Md_takeSigned_149 (by decide) ?_
                refine lv_iload hx hb d_Md_takeSigned_151 (lv_at hl 5 rfl) ?_
                refine lv_imul hx hb d_Md_takeSigned_153 ?_
                refine W.eq (g2 := F0 m 154 ls [.int 21]) (by rw [show (7 : Int32) * 3 = 21 from by decide +kernel]) ?_
                refine lv_bipush (v := 7) hx hb d_Md_takeSigned_154 (by decide) ?_
                refine lv_iadd hx hb d_Md_takeSigned_156 ?_
                refine W.eq (g2 := F0 m 157 ls [.int 28]) (by rw [show (21 : Int32) + 7 = 28 from by decide +kernel]) ?_
                refine lv_istore (lv' := [(10, .int 28), (2, .long yF), (9, .int 1), (8, .int 0), (7, .int 11), (6, .int 0), (5, .int 3), (4, .int 5), (0, .ref m0), (1, .int 32)]) hx hb d_Md_takeSigned_157 hl (by decide) rfl (fun ls hl => ?_)
                refine lv_iload hx hb d_Md_takeSigned_159 (lv_at hl 5 rfl) ?_
                refine lv_sipush (v := 128) hx hb d_Md_takeSigned_161 (by decide) ?_
                refine lv_icmp_ge (tgt := 192) hx hb d_Md_takeSigned_164 (by decide) (fun c_164 => absurd c_164 (by decide)) (fun c_164 => ?_)
                refine lv_iload hx hb d_Md_takeSigned_167 (lv_at hl 0 rfl) ?_
                refine lv_bipush (v := 64) hx hb d_Md_takeSigned_169 (by decide) ?_
                refine lv_icmp_ge (tgt := 190) hx hb d_Md_takeSigned_171 (by decide) (fun c_171 => absurd c_171 (by decide)) (fun c_171 => ?_)
                refine lv_lload_n hx hb d_Md_takeSigned_174 rfl (lv_at hl 1 rfl) ?_
                refine lv_bipush (v := 64) hx hb d_Md_takeSigned_175 (by decide) ?_
                refine lv_iload hx hb d_Md_takeSigned_177 (lv_at hl 0 rfl) ?_
                refine lv_isub hx hb d_Md_takeSigned_179 ?_
                refine W.eq (g2 := F0 m 180 ls [.int 36, .long yF]) (by rw [show (64 : Int32) - 28 = 36 from by decide +kernel]) ?_
                refine lv_lshl hx hb d_Md_takeSigned_180 rfl ?_
                refine lv_bipush (v := 64) hx hb d_Md_takeSigned_181 (by decide) ?_
                refine lv_iload hx hb d_Md_takeSigned_183 (lv_at hl 0 rfl) ?_
                refine lv_isub hx hb d_Md_takeSigned_185 ?_
                refine W.eq (g2 := F0 m 186 ls [.int 36, .long (yF <<< ((36 : Int32).toInt64 &&& 63))]) (by rw [show (64 : Int32) - 28 = 36 from by decide +kernel]) ?_
                refine lv_lshr hx hb d_Md_takeSigned_186 rfl ?_
                refine lv_goto (tgt := 191) hx hb d_Md_takeSigned_187 (by decide) ?_
                exact cRl ((nI zz15, nI f15, nI q15) : A3) hx hb hr hlocks d_Md_takeSigned_191 hS hP hD (Or.inl ⟨f15, q15, by rw [show pS32 b lm a = pSg b lm 5 32 a from rfl, hU3, pSg_T hr15], hf15, rfl, ⟨_, rfl⟩, zz15, by omega, rfl⟩) (Nat.le_refl _) (Nat.le_refl _)
              · obtain ⟨hla15, hgt15, hv15, hbd15⟩ := (pNext_ok2 hr15 hb9)
                have hP : va_P D cls [(m0, .inr (6, mF g K (nI a15, 0, p) e (nI np) B)), ((g 0), .inl (cA 3, 2000, .inl fd)), ((g 10), .inl (cA 3, 4, .inl pe))] H := hP
                have hD : va_D A [(m0, .inr (6, mF g K (nI a15, 0, p) e (nI np) B)), ((g 0), .inl (cA 3, 2000, .inl fd)), ((g 10), .inl (cA 3, 4, .inl pe))] := hD
                refine W.cs (cells' := 0) (slots' := 0) rfl rfl ?_
                refine W.eq (g2 := F0 m 32 ls [.int (nI v15)]) rfl ?_
                obtain ⟨hbd15, ean15⟩ := hbd15
                subst ean15
                have hP : va_P D cls [(m0, .inr (6, mF g K (nI ((((a + 1) + 1) + 1) + 1), 0, p) e (nI np) B)), ((g 0), .inl (cA 3, 2000, .inl fd)), ((g 10), .inl (cA 3, 4, .inl pe))] H := hP
                have hD : va_D A [(m0, .inr (6, mF g K (nI ((((a + 1) + 1) + 1) + 1), 0, p) e (nI np) B)), ((g 0), .inl (cA 3, 2000, .inl fd)), ((g 10), .inl (cA 3, 4, .inl pe))] := hD
                refine lv_istore (lv' := [(6, .int (nI v15)), (5, .int 3), (10, .int 21), (2, .long yF), (9, .int 1), (8, .int 0), (7, .int 18), (4, .int 5), (0, .ref m0), (1, .int 32)]) hx hb d_Md_takeSigned_32 hl (by decide) rfl (fun ls hl => ?_)
                refine lv_iload_n hx hb d_Md_takeSigned_34 rfl (lv_at hl 9 rfl) ?_
                refine lv_bipush (v := 7) hx hb d_Md_takeSigned_35 (by decide) ?_
                refine lv_iload hx hb d_Md_takeSigned_37 (lv_at hl 1 rfl) ?_
                refine lv_imul hx hb d_Md_takeSigned_39 ?_
                refine W.eq (g2 := F0 m 40 ls [.int 21, .int 32]) (by rw [show (7 : Int32) * 3 = 21 from by decide +kernel]) ?_
                refine lv_isub hx hb d_Md_takeSigned_40 ?_
                refine W.eq (g2 := F0 m 41 ls [.int 11]) (by rw [show (32 : Int32) - 21 = 11 from by decide +kernel]) ?_
                refine lv_istore (lv' := [(7, .int 11), (6, .int (nI v15)), (5, .int 3), (10, .int 21), (2, .long yF), (9, .int 1), (8, .int 0), (4, .int 5), (0, .ref m0), (1, .int 32)]) hx hb d_Md_takeSigned_41 hl (by decide) rfl (fun ls hl => ?_)
                refine lv_iload hx hb d_Md_takeSigned_43 (lv_at hl 0 rfl) ?_
                refine lv_bipush (v := 7) hx hb d_Md_takeSigned_45 (by decide) ?_
                refine lv_icmp_ge (tgt := 63) hx hb d_Md_takeSigned_47 (by decide) (fun c_47 => ?_) (fun c_47 => absurd (by decide) c_47)
                refine lv_iconst (v := 0) hx hb d_Md_takeSigned_63 (by decide) ?_
                refine lv_istore (lv' := [(8, .int 0), (7, .int 11), (6, .int (nI v15)), (5, .int 3), (10, .int 21), (2, .long yF), (9, .int 1), (4, .int 5), (0, .ref m0), (1, .int 32)]) hx hb d_Md_takeSigned_64 hl (by decide) rfl (fun ls hl => ?_)
                refine lv_iload hx hb d_Md_takeSigned_66 (lv_at hl 1 rfl) ?_
                refine lv_bipush (v := 7) hx hb d_Md_takeSigned_68 (by decide) ?_
                refine lv_icmp_ge (tgt := 90) hx hb d_Md_takeSigned_70 (by decide) (fun c_70 => ?_) (fun c_70 => absurd (by decide) c_70)
                refine lv_iconst (v := 1) hx hb d_Md_takeSigned_90 (by decide) ?_
                refine lv_goto (tgt := 95) hx hb d_Md_takeSigned_91 (by decide) ?_
                refine lv_istore (lv' := [(9, .int 1), (8, .int 0), (7, .int 11), (6, .int (nI v15)), (5, .int 3), (10, .int 21), (2, .long yF), (4, .int 5), (0, .ref m0), (1, .int 32)]) hx hb d_Md_takeSigned_95 hl (by decide) rfl (fun ls hl => ?_)
                refine lv_aload_n hx hb d_Md_takeSigned_97 rfl (lv_at hl 8 rfl) ?_
                refine va_get (D := D) (ci := 6) (v := .int 0) (C := R_Md) (T := F_Md) (N := 44) hx hb hts (fun w h => List.mem_cons_of_mem _ (i_Md w h)) hown hE.1 hP 0 rfl rfl 3 (by decide) (hts _ (List.mem_cons_of_mem _ iw3_57)) (fun _ h9 => h9) rfl d_Md_takeSigned_98 ?_
                refine lv_if_ne (tgt := 134) hx hb d_Md_takeSigned_101 (by decide) (fun c_101 => absurd (by decide) c_101) (fun c_101 => ?_)
                refine lv_iload hx hb d_Md_takeSigned_104 (lv_at hl 2 rfl) ?_
                refine lv_bipush (v := 8) hx hb d_Md_takeSigned_106 (by decide) ?_
                refine lv_icmp_ge (tgt := 134) hx hb d_Md_takeSigned_108 (by decide) (fun c_108 => ?_) (fun c_108 => absurd (by decide) c_108)
                have ho3 : ¬ (11 ≤ 7 ∧ sTop 11 v15 = false) := fun q => absurd q.1 (by decide)
                refine lv_lload_n hx hb d_Md_takeSigned_134 rfl (lv_at hl 6 rfl) ?_
                refine lv_iload hx hb d_Md_takeSigned_135 (lv_at hl 3 rfl) ?_
                refine lv_bipush (v := 127) hx hb d_Md_takeSigned_137 (by decide) ?_
                refine lv_iand hx hb d_Md_takeSigned_139 ?_
                refine lv_i2l hx hb d_Md_takeSigned_140 rfl ?_
                refine lv_bipush (v := 7) hx hb d_Md_takeSigned_141 (by decide) ?_
                refine lv_iload hx hb d_Md_takeSigned_143 (lv_at hl 4 rfl) ?_
                refine lv_imul hx hb d_Md_takeSigned_145 ?_
                refine W.eq (g2 := F0 m 146 ls [.int 21, .long (((nI v15) &&& 127).toInt64), .long yF]) (by rw [show (7 : Int32) * 3 = 21 from by decide +kernel]) ?_
                refine lv_lshl hx hb d_Md_takeSigned_146 rfl ?_
                refine lv_lor hx hb d_Md_takeSigned_147 ?_
                refine lv_topl (fun yF eyF => ?_)
                refine lv_lstore_n (lv' := [(2, .long yF), (9, .int 1), (8, .int 0), (7, .int 11), (6, .int (nI v15)), (5, .int 3), (10, .int 21), (4, .int 5), (0, .ref m0), (1, .int 32)]) hx hb d_Md_takeSigned_148 rfl hl (by decide) rfl (fun ls hl => ?_)
                refine lv_bipush (v := 7) hx hb d_Md_takeSigned_149 (by decide) ?_
                refine lv_iload hx hb d_Md_takeSigned_151 (lv_at hl 5 rfl) ?_
                refine lv_imul hx hb d_Md_takeSigned_153 ?_
                refine W.eq (g2 := F0 m 154 ls [.int 21]) (by rw [show (7 : Int32) * 3 = 21 from by decide +kernel]) ?_
                refine lv_bipush (v := 7) hx hb d_Md_takeSigned_154 (by decide) ?_
                refine lv_iadd hx hb d_Md_takeSigned_156 ?_
                refine W.eq (g2 := F0 m 157 ls [.int 28]) (by rw [show (21 : Int32) + 7 = 28 from by decide +kernel]) ?_
                refine lv_istore (lv' := [(10, .int 28), (2, .long yF), (9, .int 1), (8, .int 0), (7, .int 11), (6, .int (nI v15)), (5, .int 3), (4, .int 5), (0, .ref m0), (1, .int 32)]) hx hb d_Md_takeSigned_157 hl (by decide) rfl (fun ls hl => ?_)
                refine lv_iload hx hb d_Md_takeSigned_159 (lv_at hl 5 rfl) ?_
                refine lv_sipush (v := 128) hx hb d_Md_takeSigned_161 (by decide) ?_
                refine lv_icmp_ge (tgt := 192) hx hb d_Md_takeSigned_164 (by decide) (fun c_164 => ?_) (fun c_164 => ?_)
                · have hd3 : ¬ v15 < 128 := fun q => absurd ((nI_leI (a := 128) (b := v15) (by omega) (by omega)).mp c_164) (by omega)
                  have hU4 : pSg b lm 5 32 a = pSg b lm 1 4 ((((a + 1) + 1) + 1) + 1) := hU3.trans (pSg_C hr15 ho3 hd3)
                  refine lv_iinc (v := 4) (lv' := [(5, .int 4), (10, .int 28), (2, .long yF), (9, .int 1), (8, .int 0), (7, .int 11), (6, .int (nI v15)), (4, .int 5), (0, .ref m0), (1, .int 32)]) hx hb d_Md_takeSigned_192 hl (k := 6) rfl (by decide) (by decide) rfl (fun ls hl => ?_)
                  refine lv_goto (tgt := 14) hx hb d_Md_takeSigned_195 (by decide) ?_
                  refine lv_iload hx hb d_Md_takeSigned_14 (lv_at hl 0 rfl) ?_
                  refine lv_iload hx hb d_Md_takeSigned_16 (lv_at hl 7 rfl) ?_
                  refine lv_icmp_ge (tgt := 198) hx hb d_Md_takeSigned_18 (by decide) (fun c_18 => absurd c_18 (by decide)) (fun c_18 => ?_)
                  refine lv_aload_n hx hb d_Md_takeSigned_21 rfl (lv_at hl 8 rfl) ?_
                  refine va_get (D := D) (ci := 6) (v := .int 0) (C := R_Md) (T := F_Md) (N := 44) hx hb hts (fun w h => List.mem_cons_of_mem _ (i_Md w h)) hown hE.1 hP 0 rfl rfl 3 (by decide) (hts _ (List.mem_cons_of_mem _ iw3_57)) (fun _ h9 => h9) rfl d_Md_takeSigned_22 ?_
                  refine lv_if_ne (tgt := 198) hx hb d_Md_takeSigned_25 (by decide) (fun c_25 => absurd (by decide) c_25) (fun c_25 => ?_)
                  refine lv_aload_n hx hb d_Md_takeSigned_28 rfl (lv_at hl 8 rfl) ?_
                  refine cV (As := []) (rest := []) (n := 0) (wc := [(m0, .inr (6, mF g K (nI ((((a + 1) + 1) + 1) + 1), 0, p) e (nI np) B)), ((g 0), .inl (cA 3, 2000, .inl fd)), ((g 10), .inl (cA 3, 4, .inl pe))]) (wr := []) ⟨hx, hb, hml, hown, hts⟩ hno hlocks hl.1 (c_Md_take l hl9 D cA ad H.size m0 g K e np B fd pe b N lm hnp hpe hlm hN hfd hb9 ((((a + 1) + 1) + 1) + 1) p (by omega) ) iw3_212 iw3_214 sel_Md_take iw1_7 iw3_215 (by decide +kernel) rfl ⟨Nat.le_of_ble_eq_true rfl, Nat.le_of_ble_eq_true rfl⟩ ⟨Nat.le_of_ble_eq_true rfl, Nat.le_of_ble_eq_true rfl⟩ rfl (Nat.le_of_ble_eq_true rfl) d_Md_takeSigned_29 hE hP hD hS hA [0, 1, 2] [] rfl rfl rfl rfl (by decide) (ci := 6) rfl rfl 0 rfl (fun _ h => h.elim) (fun v_29 u_29 H locs hp_29 hP hD hS => ?_)
                  rcases hp_29 with ⟨f16, q16, hr16, hf16, hB16, rfl, zz16, hzz16, hzx16⟩ | ⟨v16, a16, hr16, rfl, rfl⟩
                  · obtain ⟨x16, y16, z16⟩ := u_29
                    cases hB16
                    have hzx16 : x16 = nI zz16 := hzx16
                    subst hzx16
                    have hP : va_P D cls [(m0, .inr (6, mF g K (nI zz16, nI f16, nI q16) e (nI np) B)), ((g 0), .inl (cA 3, 2000, .inl fd)), ((g 10), .inl (cA 3, 4, .inl pe))] H := hP
                    have hD : va_D A [(m0, .inr (6, mF g K (nI zz16, nI f16, nI q16) e (nI np) B)), ((g 0), .inl (cA 3, 2000, .inl fd)), ((g 10), .inl (cA 3, 4, .inl pe))] := hD
                    refine W.cs (cells' := 0) (slots' := 0) rfl rfl ?_
                    refine W.eq (g2 := F0 m 32 ls [.int 0]) rfl ?_
                    refine lv_istore (lv' := [(6, .int 0), (5, .int 4), (10, .int 28), (2, .long yF), (9, .int 1), (8, .int 0), (7, .int 11), (4, .int 5), (0, .ref m0), (1, .int 32)]) hx hb d_Md_takeSigned_32 hl (by decide) rfl (fun ls hl => ?_)
                    refine lv_iload_n hx hb d_Md_takeSigned_34 rfl (lv_at hl 9 rfl) ?_
                    refine lv_bipush (v := 7) hx hb d_Md_takeSigned_35 (by decide) ?_
                    refine lv_iload hx hb d_Md_takeSigned_37 (lv_at hl 1 rfl) ?_
                    refine lv_imul hx hb d_Md_takeSigned_39 ?_
                    refine W.eq (g2 := F0 m 40 ls [.int 28, .int 32]) (by rw [show (7 : Int32) * 4 = 28 from by decide +kernel]) ?_
                    refine lv_isub hx hb d_Md_takeSigned_40 ?_
                    refine W.eq (g2 := F0 m 41 ls [.int 4]) (by rw [show (32 : Int32) - 28 = 4 from by decide +kernel]) ?_
                    refine lv_istore (lv' := [(7, .int 4), (6, .int 0), (5, .int 4), (10, .int 28), (2, .long yF), (9, .int 1), (8, .int 0), (4, .int 5), (0, .ref m0), (1, .int 32)]) hx hb d_Md_takeSigned_41 hl (by decide) rfl (fun ls hl => ?_)
                    refine lv_iload hx hb d_Md_takeSigned_43 (lv_at hl 0 rfl) ?_
                    refine lv_bipush (v := 7) hx hb d_Md_takeSigned_45 (by decide) ?_
                    refine lv_icmp_ge (tgt := 63) hx hb d_Md_takeSigned_47 (by decide) (fun c_47 => absurd c_47 (by decide)) (fun c_47 => ?_)
                    refine lv_iload hx hb d_Md_takeSigned_50 (lv_at hl 1 rfl) ?_
                    refine lv_bipush (v := 127) hx hb d_Md_takeSigned_52 (by decide) ?_
                    refine lv_iand hx hb d_Md_takeSigned_54 ?_
                    refine W.eq (g2 := F0 m 55 ls [.int 0]) (by rw [show (0 : Int32) &&& 127 = 0 from by decide +kernel]) ?_
                    refine lv_iload hx hb d_Md_takeSigned_55 (lv_at hl 0 rfl) ?_
                    refine lv_iconst (v := 1) hx hb d_Md_takeSigned_57 (by decide) ?_
                    refine lv_isub hx hb d_Md_takeSigned_58 ?_
                    refine W.eq (g2 := F0 m 59 ls [.int 3, .int 0]) (by rw [show (4 : Int32) - 1 = 3 from by decide +kernel]) ?_
                    refine lv_ishr hx hb d_Md_takeSigned_59 ?_
                    refine W.eq (g2 := F0 m 60 ls [.int 0]) (by rw [show (0 : Int32) >>> (3 &&& 31) = 0 from by decide +kernel]) ?_
                    refine lv_goto (tgt := 64) hx hb d_Md_takeSigned_60 (by decide) ?_
                    refine lv_istore (lv' := [(8, .int 0), (7, .int 4), (6, .int 0), (5, .int 4), (10, .int 28), (2, .long yF), (9, .int 1), (4, .int 5), (0, .ref m0), (1, .int 32)]) hx hb d_Md_takeSigned_64 hl (by decide) rfl (fun ls hl => ?_)
                    refine lv_iload hx hb d_Md_takeSigned_66 (lv_at hl 1 rfl) ?_
                    refine lv_bipush (v := 7) hx hb d_Md_takeSigned_68 (by decide) ?_
                    refine lv_icmp_ge (tgt := 90) hx hb d_Md_takeSigned_70 (by decide) (fun c_70 => absurd c_70 (by decide)) (fun c_70 => ?_)
                    refine lv_iload hx hb d_Md_takeSigned_73 (lv_at hl 0 rfl) ?_
                    refine lv_if_eq (tgt := 90) hx hb d_Md_takeSigned_75 (by decide) (fun c_75 => ?_) (fun c_75 => absurd (by decide) c_75)
                    refine lv_iconst (v := 1) hx hb d_Md_takeSigned_90 (by decide) ?_
                    refine lv_goto (tgt := 95) hx hb d_Md_takeSigned_91 (by decide) ?_
                    refine lv_istore (lv' := [(9, .int 1), (8, .int 0), (7, .int 4), (6, .int 0), (5, .int 4), (10, .int 28), (2, .long yF), (4, .int 5), (0, .ref m0), (1, .int 32)]) hx hb d_Md_takeSigned_95 hl (by decide) rfl (fun ls hl => ?_)
                    refine lv_aload_n hx hb d_Md_takeSigned_97 rfl (lv_at hl 8 rfl) ?_
                    refine va_get (D := D) (ci := 6) (v := .int (nI f16)) (C := R_Md) (T := F_Md) (N := 44) hx hb hts (fun w h => List.mem_cons_of_mem _ (i_Md w h)) hown hE.1 hP 0 rfl rfl 3 (by decide) (hts _ (List.mem_cons_of_mem _ iw3_57)) (fun _ h9 => h9) rfl d_Md_takeSigned_98 ?_
                    refine lv_if_ne (tgt := 134) hx hb d_Md_takeSigned_101 (by decide) (fun c_101 => ?_) (fun c_101 => absurd c_101 (hf16.n0))
                    refine lv_lload_n hx hb d_Md_takeSigned_134 rfl (lv_at hl 6 rfl) ?_
                    refine lv_iload hx hb d_Md_takeSigned_135 (lv_at hl 3 rfl) ?_
                    refine lv_bipush (v := 127) hx hb d_Md_takeSigned_137 (by decide) ?_
                    refine lv_iand hx hb d_Md_takeSigned_139 ?_
                    refine W.eq (g2 := F0 m 140 ls [.int 0, .long yF]) (by rw [show (0 : Int32) &&& 127 = 0 from by decide +kernel]) ?_
                    refine lv_i2l hx hb d_Md_takeSigned_140 rfl ?_
                    refine lv_bipush (v := 7) hx hb d_Md_takeSigned_141 (by decide) ?_
                    refine lv_iload hx hb d_Md_takeSigned_143 (lv_at hl 4 rfl) ?_
                    refine lv_imul hx hb d_Md_takeSigned_145 ?_
                    refine W.eq (g2 := F0 m 146 ls [.int 28, .long ((0 : Int32).toInt64), .long yF]) (by rw [show (7 : Int32) * 4 = 28 from by decide +kernel]) ?_
                    refine lv_lshl hx hb d_Md_takeSigned_146 rfl ?_
                    refine lv_lor hx hb d_Md_takeSigned_147 ?_
                    refine lv_topl (fun yF eyF => ?_)
                    refine lv_lstore_n (lv' := [(2, .long yF), (9, .int 1), (8, .int 0), (7, .int 4), (6, .int 0), (5, .int 4), (10, .int 28), (4, .int 5), (0, .ref m0), (1, .int 32)]) hx hb d_Md_takeSigned_148 rfl hl (by decide) rfl (fun ls hl => ?_)
                    refine lv_bipush (v := 7) hx hb d_Md_takeSigned_149 (by decide) ?_
                    refine lv_iload hx hb d_Md_takeSigned_151 (lv_at hl 5 rfl) ?_
                    refine lv_imul hx hb d_Md_takeSigned_153 ?_
                    refine W.eq (g2 := F0 m 154 ls [.int 28]) (by rw [show (7 : Int32) * 4 = 28 from by decide +kernel]) ?_
                    refine lv_bipush (v := 7) hx hb d_Md_takeSigned_154 (by decide) ?_
                    refine lv_iadd hx hb d_Md_takeSigned_156 ?_
                    refine W.eq (g2 := F0 m 157 ls [.int 35]) (by rw [show (28 : Int32) + 7 = 35 from by decide +kernel]) ?_
                    refine lv_istore (lv' := [(10, .int 35), (2, .long yF), (9, .int 1), (8, .int 0), (7, .int 4), (6, .int 0), (5, .int 4), (4, .int 5), (0, .ref m0), (1, .int 32)]) hx hb d_Md_takeSigned_157 hl (by decide) rfl (fun ls hl => ?_)
                    refine lv_iload hx hb d_Md_takeSigned_159 (lv_at hl 5 rfl) ?_
                    refine lv_sipush (v := 128) hx hb d_Md_takeSigned_161 (by decide) ?_
                    refine lv_icmp_ge (tgt := 192) hx hb d_Md_takeSigned_164 (by decide) (fun c_164 => absurd c_164 (by decide)) (fun c_164 => ?_)
                    refine lv_iload hx hb d_Md_takeSigned_167 (lv_at hl 0 rfl) ?_
                    refine lv_bipush (v := 64) hx hb d_Md_takeSigned_169 (by decide) ?_
                    refine lv_icmp_ge (tgt := 190) hx hb d_Md_takeSigned_171 (by decide) (fun c_171 => absurd c_171 (by decide)) (fun c_171 => ?_)
                    refine lv_lload_n hx hb d_Md_takeSigned_174 rfl (lv_at hl 1 rfl) ?_
                    refine lv_bipush (v := 64) hx hb d_Md_takeSigned_175 (by decide) ?_
                    refine lv_iload hx hb d_Md_takeSigned_177 (lv_at hl 0 rfl) ?_
                    refine lv_isub hx hb d_Md_takeSigned_179 ?_
                    refine W.eq (g2 := F0 m 180 ls [.int 29, .long yF]) (by rw [show (64 : Int32) - 35 = 29 from by decide +kernel]) ?_
                    refine lv_lshl hx hb d_Md_takeSigned_180 rfl ?_
                    refine lv_bipush (v := 64) hx hb d_Md_takeSigned_181 (by decide) ?_
                    refine lv_iload hx hb d_Md_takeSigned_183 (lv_at hl 0 rfl) ?_
                    refine lv_isub hx hb d_Md_takeSigned_185 ?_
                    refine W.eq (g2 := F0 m 186 ls [.int 29, .long (yF <<< ((29 : Int32).toInt64 &&& 63))]) (by rw [show (64 : Int32) - 35 = 29 from by decide +kernel]) ?_
                    refine lv_lshr hx hb d_Md_takeSigned_186 rfl ?_
                    refine lv_goto (tgt := 191) hx hb d_Md_takeSigned_187 (by decide) ?_
                    exact cRl ((nI zz16, nI f16, nI q16) : A3) hx hb hr hlocks d_Md_takeSigned_191 hS hP hD (Or.inl ⟨f16, q16, by rw [show pS32 b lm a = pSg b lm 5 32 a from rfl, hU4, pSg_T hr16], hf16, rfl, ⟨_, rfl⟩, zz16, by omega, rfl⟩) (Nat.le_refl _) (Nat.le_refl _)
                  · obtain ⟨hla16, hgt16, hv16, hbd16⟩ := (pNext_ok2 hr16 hb9)
                    have hP : va_P D cls [(m0, .inr (6, mF g K (nI a16, 0, p) e (nI np) B)), ((g 0), .inl (cA 3, 2000, .inl fd)), ((g 10), .inl (cA 3, 4, .inl pe))] H := hP
                    have hD : va_D A [(m0, .inr (6, mF g K (nI a16, 0, p) e (nI np) B)), ((g 0), .inl (cA 3, 2000, .inl fd)), ((g 10), .inl (cA 3, 4, .inl pe))] := hD
                    refine W.cs (cells' := 0) (slots' := 0) rfl rfl ?_
                    refine W.eq (g2 := F0 m 32 ls [.int (nI v16)]) rfl ?_
                    obtain ⟨hbd16, ean16⟩ := hbd16
                    subst ean16
                    have hP : va_P D cls [(m0, .inr (6, mF g K (nI (((((a + 1) + 1) + 1) + 1) + 1), 0, p) e (nI np) B)), ((g 0), .inl (cA 3, 2000, .inl fd)), ((g 10), .inl (cA 3, 4, .inl pe))] H := hP
                    have hD : va_D A [(m0, .inr (6, mF g K (nI (((((a + 1) + 1) + 1) + 1) + 1), 0, p) e (nI np) B)), ((g 0), .inl (cA 3, 2000, .inl fd)), ((g 10), .inl (cA 3, 4, .inl pe))] := hD
                    refine lv_istore (lv' := [(6, .int (nI v16)), (5, .int 4), (10, .int 28), (2, .long yF), (9, .int 1), (8, .int 0), (7, .int 11), (4, .int 5), (0, .ref m0), (1, .int 32)]) hx hb d_Md_takeSigned_32 hl (by decide) rfl (fun ls hl => ?_)
                    refine lv_iload_n hx hb d_Md_takeSigned_34 rfl (lv_at hl 9 rfl) ?_
                    refine lv_bipush (v := 7) hx hb d_Md_takeSigned_35 (by decide) ?_
                    refine lv_iload hx hb d_Md_takeSigned_37 (lv_at hl 1 rfl) ?_
                    refine lv_imul hx hb d_Md_takeSigned_39 ?_
                    refine W.eq (g2 := F0 m 40 ls [.int 28, .int 32]) (by rw [show (7 : Int32) * 4 = 28 from by decide +kernel]) ?_
                    refine lv_isub hx hb d_Md_takeSigned_40 ?_
                    refine W.eq (g2 := F0 m 41 ls [.int 4]) (by rw [show (32 : Int32) - 28 = 4 from by decide +kernel]) ?_
                    refine lv_istore (lv' := [(7, .int 4), (6, .int (nI v16)), (5, .int 4), (10, .int 28), (2, .long yF), (9, .int 1), (8, .int 0), (4, .int 5), (0, .ref m0), (1, .int 32)]) hx hb d_Md_takeSigned_41 hl (by decide) rfl (fun ls hl => ?_)
                    refine lv_iload hx hb d_Md_takeSigned_43 (lv_at hl 0 rfl) ?_
                    refine lv_bipush (v := 7) hx hb d_Md_takeSigned_45 (by decide) ?_
                    refine lv_icmp_ge (tgt := 63) hx hb d_Md_takeSigned_47 (by decide) (fun c_47 => absurd c_47 (by decide)) (fun c_47 => ?_)
                    refine lv_iload hx hb d_Md_takeSigned_50 (lv_at hl 1 rfl) ?_
                    refine lv_bipush (v := 127) hx hb d_Md_takeSigned_52 (by decide) ?_
                    refine lv_iand hx hb d_Md_takeSigned_54 ?_
                    rw [pk_andN (n := v16) (by omega) 7 (by decide +kernel)]
                    refine lv_iload hx hb d_Md_takeSigned_55 (lv_at hl 0 rfl) ?_
                    refine lv_iconst (v := 1) hx hb d_Md_takeSigned_57 (by decide) ?_
                    refine lv_isub hx hb d_Md_takeSigned_58 ?_
                    refine W.eq (g2 := F0 m 59 ls [.int 3, .int (nI (v16 % 2 ^ 7))]) (by rw [show (4 : Int32) - 1 = 3 from by decide +kernel]) ?_
                    refine lv_ishr hx hb d_Md_takeSigned_59 ?_
                    rw [pk_shrN (n := v16 % 2 ^ 7) (by omega) _ 3 (by decide +kernel)]
                    refine lv_goto (tgt := 64) hx hb d_Md_takeSigned_60 (by decide) ?_
                    refine lv_istore (lv' := [(8, .int (nI (v16 % 2 ^ 7 / 2 ^ 3))), (7, .int 4), (6, .int (nI v16)), (5, .int 4), (10, .int 28), (2, .long yF), (9, .int 1), (4, .int 5), (0, .ref m0), (1, .int 32)]) hx hb d_Md_takeSigned_64 hl (by decide) rfl (fun ls hl => ?_)
                    refine lv_iload hx hb d_Md_takeSigned_66 (lv_at hl 1 rfl) ?_
                    refine lv_bipush (v := 7) hx hb d_Md_takeSigned_68 (by decide) ?_
                    refine lv_icmp_ge (tgt := 90) hx hb d_Md_takeSigned_70 (by decide) (fun c_70 => absurd c_70 (by decide)) (fun c_70 => ?_)
                    refine lv_iload hx hb d_Md_takeSigned_73 (lv_at hl 0 rfl) ?_
                    refine lv_if_eq (tgt := 90) hx hb d_Md_takeSigned_75 (by decide) (fun c_75 => ?_) (fun c_75 => ?_)
                    · refine lv_iconst (v := 1) hx hb d_Md_takeSigned_90 (by decide) ?_
                      refine lv_goto (tgt := 95) hx hb d_Md_takeSigned_91 (by decide) ?_
                      refine lv_istore (lv' := [(9, .int 1), (8, .int (nI (v16 % 2 ^ 7 / 2 ^ 3))), (7, .int 4), (6, .int (nI v16)), (5, .int 4), (10, .int 28), (2, .long yF), (4, .int 5), (0, .ref m0), (1, .int 32)]) hx hb d_Md_takeSigned_95 hl (by decide) rfl (fun ls hl => ?_)
                      refine lv_aload_n hx hb d_Md_takeSigned_97 rfl (lv_at hl 8 rfl) ?_
                      refine va_get (D := D) (ci := 6) (v := .int 0) (C := R_Md) (T := F_Md) (N := 44) hx hb hts (fun w h => List.mem_cons_of_mem _ (i_Md w h)) hown hE.1 hP 0 rfl rfl 3 (by decide) (hts _ (List.mem_cons_of_mem _ iw3_57)) (fun _ h9 => h9) rfl d_Md_takeSigned_98 ?_
                      refine lv_if_ne (tgt := 134) hx hb d_Md_takeSigned_101 (by decide) (fun c_101 => absurd (by decide) c_101) (fun c_101 => ?_)
                      refine lv_iload hx hb d_Md_takeSigned_104 (lv_at hl 2 rfl) ?_
                      refine lv_bipush (v := 8) hx hb d_Md_takeSigned_106 (by decide) ?_
                      refine lv_icmp_ge (tgt := 134) hx hb d_Md_takeSigned_108 (by decide) (fun c_108 => absurd c_108 (by decide)) (fun c_108 => ?_)
                      refine lv_iload hx hb d_Md_takeSigned_111 (lv_at hl 3 rfl) ?_
                      refine lv_bipush (v := 127) hx hb d_Md_takeSigned_113 (by decide) ?_
                      refine lv_icmp_gt (tgt := 123) hx hb d_Md_takeSigned_115 (by decide) (fun c_115 => ?_) (fun c_115 => ?_)
                      · have hbad : sTop 4 v16 = false := sTop_big 3 (by decide) v16 (by omega) (by have := (nI_ltI (a := 127) (b := v16) (by omega) (by omega)).mp c_115; omega)
                        refine lv_aload_n hx hb d_Md_takeSigned_123 rfl (lv_at hl 8 rfl) ?_
                        refine lv_iconst (v := 4) hx hb d_Md_takeSigned_124 (by decide) ?_
                        refine lv_aload_n hx hb d_Md_takeSigned_125 rfl (lv_at hl 8 rfl) ?_
                        refine va_get (D := D) (ci := 6) (v := .int (nI (((((a + 1) + 1) + 1) + 1) + 1))) (C := R_Md) (T := F_Md) (N := 44) hx hb hts (fun w h => List.mem_cons_of_mem _ (i_Md w h)) hown hE.1 hP 0 rfl rfl 2 (by decide) (hts _ (List.mem_cons_of_mem _ iw3_56)) (fun _ h9 => h9) rfl d_Md_takeSigned_126 ?_
                        refine lv_iconst (v := 1) hx hb d_Md_takeSigned_129 (by decide) ?_
                        refine lv_isub hx hb d_Md_takeSigned_130 ?_
                        rw [nI_pred]
                        refine cV (As := [.int 4, .int (nI ((((a + 1) + 1) + 1) + 1))]) (rest := []) (n := 2) (wc := [(m0, .inr (6, mF g K (nI (((((a + 1) + 1) + 1) + 1) + 1), 0, p) e (nI np) B))]) (wr := [((g 0), .inl (cA 3, 2000, .inl fd)), ((g 10), .inl (cA 3, 4, .inl pe))]) ⟨hx, hb, hml, hown, hts⟩ hno hlocks hl.1 (c_Md_stop l hl9 D cA ad H.size m0 g K e (nI np) B (nI (((((a + 1) + 1) + 1) + 1) + 1)) p (4 : Int32) (nI ((((a + 1) + 1) + 1) + 1))) iw3_216 iw3_218 sel_Md_stop iw1_7 iw3_219 (by decide +kernel) rfl ⟨Nat.le_of_ble_eq_true rfl, Nat.le_of_ble_eq_true rfl⟩ ⟨Nat.le_of_ble_eq_true rfl, Nat.le_of_ble_eq_true rfl⟩ rfl (Nat.le_of_ble_eq_true rfl) d_Md_takeSigned_131 hE hP hD hS hA [0] [1, 2] rfl rfl rfl rfl (by decide) (ci := 6) rfl rfl 0 rfl (fun _ h => h.elim) (fun v_131 u_131 H locs hp_131 hP hD hS => ?_)
                        obtain rfl := hp_131
                        have hP : va_P D cls [(m0, .inr (6, mF g K (nI (((((a + 1) + 1) + 1) + 1) + 1), 4, nI ((((a + 1) + 1) + 1) + 1)) e (nI np) B)), ((g 0), .inl (cA 3, 2000, .inl fd)), ((g 10), .inl (cA 3, 4, .inl pe))] H := hP.sub [2, 0, 1] rfl
                        have hD : va_D A [(m0, .inr (6, mF g K (nI (((((a + 1) + 1) + 1) + 1) + 1), 4, nI ((((a + 1) + 1) + 1) + 1)) e (nI np) B)), ((g 0), .inl (cA 3, 2000, .inl fd)), ((g 10), .inl (cA 3, 4, .inl pe))] := hD.sub [2, 0, 1] (by decide) rfl
                        refine W.cs (cells' := 0) (slots' := 0) rfl rfl ?_
                        refine W.eq (g2 := F0 m 134 ls []) rfl ?_
                        refine lv_lload_n hx hb d_Md_takeSigned_134 rfl (lv_at hl 6 rfl) ?_
                        refine lv_iload hx hb d_Md_takeSigned_135 (lv_at hl 3 rfl) ?_
                        refine lv_bipush (v := 127) hx hb d_Md_takeSigned_137 (by decide) ?_
                        refine lv_iand hx hb d_Md_takeSigned_139 ?_
                        refine lv_i2l hx hb d_Md_takeSigned_140 rfl ?_
                        refine lv_bipush (v := 7) hx hb d_Md_takeSigned_141 (by decide) ?_
                        refine lv_iload hx hb d_Md_takeSigned_143 (lv_at hl 4 rfl) ?_
                        refine lv_imul hx hb d_Md_takeSigned_145 ?_
                        refine W.eq (g2 := F0 m 146 ls [.int 28, .long (((nI v16) &&& 127).toInt64), .long yF]) (by rw [show (7 : Int32) * 4 = 28 from by decide +kernel]) ?_
                        refine lv_lshl hx hb d_Md_takeSigned_146 rfl ?_
                        refine lv_lor hx hb d_Md_takeSigned_147 ?_
                        refine lv_topl (fun yF eyF => ?_)
                        refine lv_lstore_n (lv' := [(2, .long yF), (9, .int 1), (8, .int (nI (v16 % 2 ^ 7 / 2 ^ 3))), (7, .int 4), (6, .int (nI v16)), (5, .int 4), (10, .int 28), (4, .int 5), (0, .ref m0), (1, .int 32)]) hx hb d_Md_takeSigned_148 rfl hl (by decide) rfl (fun ls hl => ?_)
                        refine lv_bipush (v := 7) hx hb d_Md_takeSigned_149 (by decide) ?_
                        refine lv_iload hx hb d_Md_takeSigned_151 (lv_at hl 5 rfl) ?_
                        refine lv_imul hx hb d_Md_takeSigned_153 ?_
                        refine W.eq (g2 := F0 m 154 ls [.int 28]) (by rw [show (7 : Int32) * 4 = 28 from by decide +kernel]) ?_
                        refine lv_bipush (v := 7) hx hb d_Md_takeSigned_154 (by decide) ?_
                        refine lv_iadd hx hb d_Md_takeSigned_156 ?_
                        refine W.eq (g2 := F0 m 157 ls [.int 35]) (by rw [show (28 : Int32) + 7 = 35 from by decide +kernel]) ?_
                        refine lv_istore (lv' := [(10, .int 35), (2, .long yF), (9, .int 1), (8, .int (nI (v16 % 2 ^ 7 / 2 ^ 3))), (7, .int 4), (6, .int (nI v16)), (5, .int 4), (4, .int 5), (0, .ref m0), (1, .int 32)]) hx hb d_Md_takeSigned_157 hl (by decide) rfl (fun ls hl => ?_)
                        refine lv_iload hx hb d_Md_takeSigned_159 (lv_at hl 5 rfl) ?_
                        refine lv_sipush (v := 128) hx hb d_Md_takeSigned_161 (by decide) ?_
                        refine lv_icmp_ge (tgt := 192) hx hb d_Md_takeSigned_164 (by decide) (fun c_164 => ?_) (fun c_164 => ?_)
                        · refine lv_iinc (v := 5) (lv' := [(5, .int 5), (10, .int 35), (2, .long yF), (9, .int 1), (8, .int (nI (v16 % 2 ^ 7 / 2 ^ 3))), (7, .int 4), (6, .int (nI v16)), (4, .int 5), (0, .ref m0), (1, .int 32)]) hx hb d_Md_takeSigned_192 hl (k := 6) rfl (by decide) (by decide) rfl (fun ls hl => ?_)
                          refine lv_goto (tgt := 14) hx hb d_Md_takeSigned_195 (by decide) ?_
                          refine lv_iload hx hb d_Md_takeSigned_14 (lv_at hl 0 rfl) ?_
                          refine lv_iload hx hb d_Md_takeSigned_16 (lv_at hl 7 rfl) ?_
                          refine lv_icmp_ge (tgt := 198) hx hb d_Md_takeSigned_18 (by decide) (fun c_18 => ?_) (fun c_18 => absurd (by decide) c_18)
                          refine lv_lload_n hx hb d_Md_takeSigned_198 rfl (lv_at hl 2 rfl) ?_
                          exact cRl ((nI (((((a + 1) + 1) + 1) + 1) + 1), nI 4, nI ((((a + 1) + 1) + 1) + 1)) : A3) hx hb hr hlocks d_Md_takeSigned_199 hS hP hD (Or.inl ⟨4, ((((a + 1) + 1) + 1) + 1), by rw [show pS32 b lm a = pSg b lm 5 32 a from rfl, hU4, pSg_F hr16 (by decide) hbad], ⟨by decide, by decide⟩, rfl, ⟨_, rfl⟩, (((((a + 1) + 1) + 1) + 1) + 1), by omega, rfl⟩) (Nat.le_refl _) (Nat.le_refl _)
                        · refine lv_iload hx hb d_Md_takeSigned_167 (lv_at hl 0 rfl) ?_
                          refine lv_bipush (v := 64) hx hb d_Md_takeSigned_169 (by decide) ?_
                          refine lv_icmp_ge (tgt := 190) hx hb d_Md_takeSigned_171 (by decide) (fun c_171 => absurd c_171 (by decide)) (fun c_171 => ?_)
                          refine lv_lload_n hx hb d_Md_takeSigned_174 rfl (lv_at hl 1 rfl) ?_
                          refine lv_bipush (v := 64) hx hb d_Md_takeSigned_175 (by decide) ?_
                          refine lv_iload hx hb d_Md_takeSigned_177 (lv_at hl 0 rfl) ?_
                          refine lv_isub hx hb d_Md_takeSigned_179 ?_
                          refine W.eq (g2 := F0 m 180 ls [.int 29, .long yF]) (by rw [show (64 : Int32) - 35 = 29 from by decide +kernel]) ?_
                          refine lv_lshl hx hb d_Md_takeSigned_180 rfl ?_
                          refine lv_bipush (v := 64) hx hb d_Md_takeSigned_181 (by decide) ?_
                          refine lv_iload hx hb d_Md_takeSigned_183 (lv_at hl 0 rfl) ?_
                          refine lv_isub hx hb d_Md_takeSigned_185 ?_
                          refine W.eq (g2 := F0 m 186 ls [.int 29, .long (yF <<< ((29 : Int32).toInt64 &&& 63))]) (by rw [show (64 : Int32) - 35 = 29 from by decide +kernel]) ?_
                          refine lv_lshr hx hb d_Md_takeSigned_186 rfl ?_
                          refine lv_goto (tgt := 191) hx hb d_Md_takeSigned_187 (by decide) ?_
                          exact cRl ((nI (((((a + 1) + 1) + 1) + 1) + 1), nI 4, nI ((((a + 1) + 1) + 1) + 1)) : A3) hx hb hr hlocks d_Md_takeSigned_191 hS hP hD (Or.inl ⟨4, ((((a + 1) + 1) + 1) + 1), by rw [show pS32 b lm a = pSg b lm 5 32 a from rfl, hU4, pSg_F hr16 (by decide) hbad], ⟨by decide, by decide⟩, rfl, ⟨_, rfl⟩, (((((a + 1) + 1) + 1) + 1) + 1), by omega, rfl⟩) (Nat.le_refl _) (Nat.le_refl _)
                      · have hle : v16 ≤ 127 := Nat.le_of_not_lt (fun q => c_115 (nI_lt (a := 127) (b := v16) q (by omega)))
                        refine lv_iload hx hb d_Md_takeSigned_118 (lv_at hl 0 rfl) ?_
                        refine lv_if_ne (tgt := 134) hx hb d_Md_takeSigned_120 (by decide) (fun c_120 => ?_) (fun c_120 => absurd c_120 (by decide))
                        have hst : sTop 4 v16 = true := sT4t hle (by first | exact Or.inl c_75 | exact Or.inr c_87)
                        have ho4 : ¬ (4 ≤ 7 ∧ sTop 4 v16 = false) := fun q => by rw [hst] at q; exact absurd q.2 (by decide)
                        refine lv_lload_n hx hb d_Md_takeSigned_134 rfl (lv_at hl 6 rfl) ?_
                        refine lv_iload hx hb d_Md_takeSigned_135 (lv_at hl 3 rfl) ?_
                        refine lv_bipush (v := 127) hx hb d_Md_takeSigned_137 (by decide) ?_
                        refine lv_iand hx hb d_Md_takeSigned_139 ?_
                        refine lv_i2l hx hb d_Md_takeSigned_140 rfl ?_
                        refine lv_bipush (v := 7) hx hb d_Md_takeSigned_141 (by decide) ?_
                        refine lv_iload hx hb d_Md_takeSigned_143 (lv_at hl 4 rfl) ?_
                        refine lv_imul hx hb d_Md_takeSigned_145 ?_
                        refine W.eq (g2 := F0 m 146 ls [.int 28, .long (((nI v16) &&& 127).toInt64), .long yF]) (by rw [show (7 : Int32) * 4 = 28 from by decide +kernel]) ?_
                        refine lv_lshl hx hb d_Md_takeSigned_146 rfl ?_
                        refine lv_lor hx hb d_Md_takeSigned_147 ?_
                        refine lv_topl (fun yF eyF => ?_)
                        refine lv_lstore_n (lv' := [(2, .long yF), (9, .int 1), (8, .int (nI (v16 % 2 ^ 7 / 2 ^ 3))), (7, .int 4), (6, .int (nI v16)), (5, .int 4), (10, .int 28), (4, .int 5), (0, .ref m0), (1, .int 32)]) hx hb d_Md_takeSigned_148 rfl hl (by decide) rfl (fun ls hl => ?_)
                        refine lv_bipush (v := 7) hx hb d_Md_takeSigned_149 (by decide) ?_
                        refine lv_iload hx hb d_Md_takeSigned_151 (lv_at hl 5 rfl) ?_
                        refine lv_imul hx hb d_Md_takeSigned_153 ?_
                        refine W.eq (g2 := F0 m 154 ls [.int 28]) (by rw [show (7 : Int32) * 4 = 28 from by decide +kernel]) ?_
                        refine lv_bipush (v := 7) hx hb d_Md_takeSigned_154 (by decide) ?_
                        refine lv_iadd hx hb d_Md_takeSigned_156 ?_
                        refine W.eq (g2 := F0 m 157 ls [.int 35]) (by rw [show (28 : Int32) + 7 = 35 from by decide +kernel]) ?_
                        refine lv_istore (lv' := [(10, .int 35), (2, .long yF), (9, .int 1), (8, .int (nI (v16 % 2 ^ 7 / 2 ^ 3))), (7, .int 4), (6, .int (nI v16)), (5, .int 4), (4, .int 5), (0, .ref m0), (1, .int 32)]) hx hb d_Md_takeSigned_157 hl (by decide) rfl (fun ls hl => ?_)
                        refine lv_iload hx hb d_Md_takeSigned_159 (lv_at hl 5 rfl) ?_
                        refine lv_sipush (v := 128) hx hb d_Md_takeSigned_161 (by decide) ?_
                        refine lv_icmp_ge (tgt := 192) hx hb d_Md_takeSigned_164 (by decide) (fun c_164 => ?_) (fun c_164 => ?_)
                        · have hd4 : ¬ v16 < 128 := fun q => absurd ((nI_leI (a := 128) (b := v16) (by omega) (by omega)).mp c_164) (by omega)
                          exact absurd hle (by omega)
                        · have hd4 : v16 < 128 := Nat.lt_of_not_le (fun q => c_164 (nI_le (a := 128) (b := v16) q (by omega)))
                          refine lv_iload hx hb d_Md_takeSigned_167 (lv_at hl 0 rfl) ?_
                          refine lv_bipush (v := 64) hx hb d_Md_takeSigned_169 (by decide) ?_
                          refine lv_icmp_ge (tgt := 190) hx hb d_Md_takeSigned_171 (by decide) (fun c_171 => absurd c_171 (by decide)) (fun c_171 => ?_)
                          refine lv_lload_n hx hb d_Md_takeSigned_174 rfl (lv_at hl 1 rfl) ?_
                          refine lv_bipush (v := 64) hx hb d_Md_takeSigned_175 (by decide) ?_
                          refine lv_iload hx hb d_Md_takeSigned_177 (lv_at hl 0 rfl) ?_
                          refine lv_isub hx hb d_Md_takeSigned_179 ?_
                          refine W.eq (g2 := F0 m 180 ls [.int 29, .long yF]) (by rw [show (64 : Int32) - 35 = 29 from by decide +kernel]) ?_
                          refine lv_lshl hx hb d_Md_takeSigned_180 rfl ?_
                          refine lv_bipush (v := 64) hx hb d_Md_takeSigned_181 (by decide) ?_
                          refine lv_iload hx hb d_Md_takeSigned_183 (lv_at hl 0 rfl) ?_
                          refine lv_isub hx hb d_Md_takeSigned_185 ?_
                          refine W.eq (g2 := F0 m 186 ls [.int 29, .long (yF <<< ((29 : Int32).toInt64 &&& 63))]) (by rw [show (64 : Int32) - 35 = 29 from by decide +kernel]) ?_
                          refine lv_lshr hx hb d_Md_takeSigned_186 rfl ?_
                          refine lv_goto (tgt := 191) hx hb d_Md_takeSigned_187 (by decide) ?_
                          exact cRl ((nI (((((a + 1) + 1) + 1) + 1) + 1), 0, p) : A3) hx hb hr hlocks d_Md_takeSigned_191 hS hP hD (Or.inr ⟨v16 / 64 % 2, (((((a + 1) + 1) + 1) + 1) + 1), hU4.trans (pSg_E hr16 ho4 hd4), rfl, _, rfl⟩) (Nat.le_refl _) (Nat.le_refl _)
                    · refine lv_iload hx hb d_Md_takeSigned_78 (lv_at hl 0 rfl) ?_
                      refine lv_bipush (v := 127) hx hb d_Md_takeSigned_80 (by decide) ?_
                      refine lv_iload hx hb d_Md_takeSigned_82 (lv_at hl 1 rfl) ?_
                      refine lv_iconst (v := 1) hx hb d_Md_takeSigned_84 (by decide) ?_
                      refine lv_isub hx hb d_Md_takeSigned_85 ?_
                      refine W.eq (g2 := F0 m 86 ls [.int 3, .int 127, .int (nI (v16 % 2 ^ 7 / 2 ^ 3))]) (by rw [show (4 : Int32) - 1 = 3 from by decide +kernel]) ?_
                      refine lv_ishr hx hb d_Md_takeSigned_86 ?_
                      refine W.eq (g2 := F0 m 87 ls [.int 15, .int (nI (v16 % 2 ^ 7 / 2 ^ 3))]) (by rw [show (127 : Int32) >>> (3 &&& 31) = 15 from by decide +kernel]) ?_
                      refine lv_icmp_ne (tgt := 94) hx hb d_Md_takeSigned_87 (by decide) (fun c_87 => ?_) (fun c_87 => ?_)
                      · refine lv_iconst (v := 0) hx hb d_Md_takeSigned_94 (by decide) ?_
                        refine lv_istore (lv' := [(9, .int 0), (8, .int (nI (v16 % 2 ^ 7 / 2 ^ 3))), (7, .int 4), (6, .int (nI v16)), (5, .int 4), (10, .int 28), (2, .long yF), (4, .int 5), (0, .ref m0), (1, .int 32)]) hx hb d_Md_takeSigned_95 hl (by decide) rfl (fun ls hl => ?_)
                        refine lv_aload_n hx hb d_Md_takeSigned_97 rfl (lv_at hl 8 rfl) ?_
                        refine va_get (D := D) (ci := 6) (v := .int 0) (C := R_Md) (T := F_Md) (N := 44) hx hb hts (fun w h => List.mem_cons_of_mem _ (i_Md w h)) hown hE.1 hP 0 rfl rfl 3 (by decide) (hts _ (List.mem_cons_of_mem _ iw3_57)) (fun _ h9 => h9) rfl d_Md_takeSigned_98 ?_
                        refine lv_if_ne (tgt := 134) hx hb d_Md_takeSigned_101 (by decide) (fun c_101 => absurd (by decide) c_101) (fun c_101 => ?_)
                        refine lv_iload hx hb d_Md_takeSigned_104 (lv_at hl 2 rfl) ?_
                        refine lv_bipush (v := 8) hx hb d_Md_takeSigned_106 (by decide) ?_
                        refine lv_icmp_ge (tgt := 134) hx hb d_Md_takeSigned_108 (by decide) (fun c_108 => absurd c_108 (by decide)) (fun c_108 => ?_)
                        refine lv_iload hx hb d_Md_takeSigned_111 (lv_at hl 3 rfl) ?_
                        refine lv_bipush (v := 127) hx hb d_Md_takeSigned_113 (by decide) ?_
                        refine lv_icmp_gt (tgt := 123) hx hb d_Md_takeSigned_115 (by decide) (fun c_115 => ?_) (fun c_115 => ?_)
                        · have hbad : sTop 4 v16 = false := sTop_big 3 (by decide) v16 (by omega) (by have := (nI_ltI (a := 127) (b := v16) (by omega) (by omega)).mp c_115; omega)
                          refine lv_aload_n hx hb d_Md_takeSigned_123 rfl (lv_at hl 8 rfl) ?_
                          refine lv_iconst (v := 4) hx hb d_Md_takeSigned_124 (by decide) ?_
                          refine lv_aload_n hx hb d_Md_takeSigned_125 rfl (lv_at hl 8 rfl) ?_
                          refine va_get (D := D) (ci := 6) (v := .int (nI (((((a + 1) + 1) + 1) + 1) + 1))) (C := R_Md) (T := F_Md) (N := 44) hx hb hts (fun w h => List.mem_cons_of_mem _ (i_Md w h)) hown hE.1 hP 0 rfl rfl 2 (by decide) (hts _ (List.mem_cons_of_mem _ iw3_56)) (fun _ h9 => h9) rfl d_Md_takeSigned_126 ?_
                          refine lv_iconst (v := 1) hx hb d_Md_takeSigned_129 (by decide) ?_
                          refine lv_isub hx hb d_Md_takeSigned_130 ?_
                          rw [nI_pred]
                          refine cV (As := [.int 4, .int (nI ((((a + 1) + 1) + 1) + 1))]) (rest := []) (n := 2) (wc := [(m0, .inr (6, mF g K (nI (((((a + 1) + 1) + 1) + 1) + 1), 0, p) e (nI np) B))]) (wr := [((g 0), .inl (cA 3, 2000, .inl fd)), ((g 10), .inl (cA 3, 4, .inl pe))]) ⟨hx, hb, hml, hown, hts⟩ hno hlocks hl.1 (c_Md_stop l hl9 D cA ad H.size m0 g K e (nI np) B (nI (((((a + 1) + 1) + 1) + 1) + 1)) p (4 : Int32) (nI ((((a + 1) + 1) + 1) + 1))) iw3_216 iw3_218 sel_Md_stop iw1_7 iw3_219 (by decide +kernel) rfl ⟨Nat.le_of_ble_eq_true rfl, Nat.le_of_ble_eq_true rfl⟩ ⟨Nat.le_of_ble_eq_true rfl, Nat.le_of_ble_eq_true rfl⟩ rfl (Nat.le_of_ble_eq_true rfl) d_Md_takeSigned_131 hE hP hD hS hA [0] [1, 2] rfl rfl rfl rfl (by decide) (ci := 6) rfl rfl 0 rfl (fun _ h => h.elim) (fun v_131 u_131 H locs hp_131 hP hD hS => ?_)
                          obtain rfl := hp_131
                          have hP : va_P D cls [(m0, .inr (6, mF g K (nI (((((a + 1) + 1) + 1) + 1) + 1), 4, nI ((((a + 1) + 1) + 1) + 1)) e (nI np) B)), ((g 0), .inl (cA 3, 2000, .inl fd)), ((g 10), .inl (cA 3, 4, .inl pe))] H := hP.sub [2, 0, 1] rfl
                          have hD : va_D A [(m0, .inr (6, mF g K (nI (((((a + 1) + 1) + 1) + 1) + 1), 4, nI ((((a + 1) + 1) + 1) + 1)) e (nI np) B)), ((g 0), .inl (cA 3, 2000, .inl fd)), ((g 10), .inl (cA 3, 4, .inl pe))] := hD.sub [2, 0, 1] (by decide) rfl
                          refine W.cs (cells' := 0) (slots' := 0) rfl rfl ?_
                          refine W.eq (g2 := F0 m 134 ls []) rfl ?_
                          refine lv_lload_n hx hb d_Md_takeSigned_134 rfl (lv_at hl 6 rfl) ?_
                          refine lv_iload hx hb d_Md_takeSigned_135 (lv_at hl 3 rfl) ?_
                          refine lv_bipush (v := 127) hx hb d_Md_takeSigned_137 (by decide) ?_
                          refine lv_iand hx hb d_Md_takeSigned_139 ?_
                          refine lv_i2l hx hb d_Md_takeSigned_140 rfl ?_
                          refine lv_bipush (v := 7) hx hb d_Md_takeSigned_141 (by decide) ?_
                          refine lv_iload hx hb d_Md_takeSigned_143 (lv_at hl 4 rfl) ?_
                          refine lv_imul hx hb d_Md_takeSigned_145 ?_
                          refine W.eq (g2 := F0 m 146 ls [.int 28, .long (((nI v16) &&& 127).toInt64), .long yF]) (by rw [show (7 : Int32) * 4 = 28 from by decide +kernel]) ?_
                          refine lv_lshl hx hb d_Md_takeSigned_146 rfl ?_
                          refine lv_lor hx hb d_Md_takeSigned_147 ?_
                          refine lv_topl (fun yF eyF => ?_)
                          refine lv_lstore_n (lv' := [(2, .long yF), (9, .int 0), (8, .int (nI (v16 % 2 ^ 7 / 2 ^ 3))), (7, .int 4), (6, .int (nI v16)), (5, .int 4), (10, .int 28), (4, .int 5), (0, .ref m0), (1, .int 32)]) hx hb d_Md_takeSigned_148 rfl hl (by decide) rfl (fun ls hl => ?_)
                          refine lv_bipush (v := 7) hx hb d_Md_takeSigned_149 (by decide) ?_
                          refine lv_iload hx hb d_Md_takeSigned_151 (lv_at hl 5 rfl) ?_
                          refine lv_imul hx hb d_Md_takeSigned_153 ?_
                          refine W.eq (g2 := F0 m 154 ls [.int 28]) (by rw [show (7 : Int32) * 4 = 28 from by decide +kernel]) ?_
                          refine lv_bipush (v := 7) hx hb d_Md_takeSigned_154 (by decide) ?_
                          refine lv_iadd hx hb d_Md_takeSigned_156 ?_
                          refine W.eq (g2 := F0 m 157 ls [.int 35]) (by rw [show (28 : Int32) + 7 = 35 from by decide +kernel]) ?_
                          refine lv_istore (lv' := [(10, .int 35), (2, .long yF), (9, .int 0), (8, .int (nI (v16 % 2 ^ 7 / 2 ^ 3))), (7, .int 4), (6, .int (nI v16)), (5, .int 4), (4, .int 5), (0, .ref m0), (1, .int 32)]) hx hb d_Md_takeSigned_157 hl (by decide) rfl (fun ls hl => ?_)
                          refine lv_iload hx hb d_Md_takeSigned_159 (lv_at hl 5 rfl) ?_
                          refine lv_sipush (v := 128) hx hb d_Md_takeSigned_161 (by decide) ?_
                          refine lv_icmp_ge (tgt := 192) hx hb d_Md_takeSigned_164 (by decide) (fun c_164 => ?_) (fun c_164 => ?_)
                          · refine lv_iinc (v := 5) (lv' := [(5, .int 5), (10, .int 35), (2, .long yF), (9, .int 0), (8, .int (nI (v16 % 2 ^ 7 / 2 ^ 3))), (7, .int 4), (6, .int (nI v16)), (4, .int 5), (0, .ref m0), (1, .int 32)]) hx hb d_Md_takeSigned_192 hl (k := 6) rfl (by decide) (by decide) rfl (fun ls hl => ?_)
                            refine lv_goto (tgt := 14) hx hb d_Md_takeSigned_195 (by decide) ?_
                            refine lv_iload hx hb d_Md_takeSigned_14 (lv_at hl 0 rfl) ?_
                            refine lv_iload hx hb d_Md_takeSigned_16 (lv_at hl 7 rfl) ?_
                            refine lv_icmp_ge (tgt := 198) hx hb d_Md_takeSigned_18 (by decide) (fun c_18 => ?_) (fun c_18 => absurd (by decide) c_18)
                            refine lv_lload_n hx hb d_Md_takeSigned_198 rfl (lv_at hl 2 rfl) ?_
                            exact cRl ((nI (((((a + 1) + 1) + 1) + 1) + 1), nI 4, nI ((((a + 1) + 1) + 1) + 1)) : A3) hx hb hr hlocks d_Md_takeSigned_199 hS hP hD (Or.inl ⟨4, ((((a + 1) + 1) + 1) + 1), by rw [show pS32 b lm a = pSg b lm 5 32 a from rfl, hU4, pSg_F hr16 (by decide) hbad], ⟨by decide, by decide⟩, rfl, ⟨_, rfl⟩, (((((a + 1) + 1) + 1) + 1) + 1), by omega, rfl⟩) (Nat.le_refl _) (Nat.le_refl _)
                          · refine lv_iload hx hb d_Md_takeSigned_167 (lv_at hl 0 rfl) ?_
                            refine lv_bipush (v := 64) hx hb d_Md_takeSigned_169 (by decide) ?_
                            refine lv_icmp_ge (tgt := 190) hx hb d_Md_takeSigned_171 (by decide) (fun c_171 => absurd c_171 (by decide)) (fun c_171 => ?_)
                            refine lv_lload_n hx hb d_Md_takeSigned_174 rfl (lv_at hl 1 rfl) ?_
                            refine lv_bipush (v := 64) hx hb d_Md_takeSigned_175 (by decide) ?_
                            refine lv_iload hx hb d_Md_takeSigned_177 (lv_at hl 0 rfl) ?_
                            refine lv_isub hx hb d_Md_takeSigned_179 ?_
                            refine W.eq (g2 := F0 m 180 ls [.int 29, .long yF]) (by rw [show (64 : Int32) - 35 = 29 from by decide +kernel]) ?_
                            refine lv_lshl hx hb d_Md_takeSigned_180 rfl ?_
                            refine lv_bipush (v := 64) hx hb d_Md_takeSigned_181 (by decide) ?_
                            refine lv_iload hx hb d_Md_takeSigned_183 (lv_at hl 0 rfl) ?_
                            refine lv_isub hx hb d_Md_takeSigned_185 ?_
                            refine W.eq (g2 := F0 m 186 ls [.int 29, .long (yF <<< ((29 : Int32).toInt64 &&& 63))]) (by rw [show (64 : Int32) - 35 = 29 from by decide +kernel]) ?_
                            refine lv_lshr hx hb d_Md_takeSigned_186 rfl ?_
                            refine lv_goto (tgt := 191) hx hb d_Md_takeSigned_187 (by decide) ?_
                            exact cRl ((nI (((((a + 1) + 1) + 1) + 1) + 1), nI 4, nI ((((a + 1) + 1) + 1) + 1)) : A3) hx hb hr hlocks d_Md_takeSigned_191 hS hP hD (Or.inl ⟨4, ((((a + 1) + 1) + 1) + 1), by rw [show pS32 b lm a = pSg b lm 5 32 a from rfl, hU4, pSg_F hr16 (by decide) hbad], ⟨by decide, by decide⟩, rfl, ⟨_, rfl⟩, (((((a + 1) + 1) + 1) + 1) + 1), by omega, rfl⟩) (Nat.le_refl _) (Nat.le_refl _)
                        · have hle : v16 ≤ 127 := Nat.le_of_not_lt (fun q => c_115 (nI_lt (a := 127) (b := v16) q (by omega)))
                          refine lv_iload hx hb d_Md_takeSigned_118 (lv_at hl 0 rfl) ?_
                          refine lv_if_ne (tgt := 134) hx hb d_Md_takeSigned_120 (by decide) (fun c_120 => absurd (by decide) c_120) (fun c_120 => ?_)
                          have hbad : sTop 4 v16 = false := sT4f hle c_75 c_87
                          refine lv_aload_n hx hb d_Md_takeSigned_123 rfl (lv_at hl 8 rfl) ?_
                          refine lv_iconst (v := 4) hx hb d_Md_takeSigned_124 (by decide) ?_
                          refine lv_aload_n hx hb d_Md_takeSigned_125 rfl (lv_at hl 8 rfl) ?_
                          refine va_get (D := D) (ci := 6) (v := .int (nI (((((a + 1) + 1) + 1) + 1) + 1))) (C := R_Md) (T := F_Md) (N := 44) hx hb hts (fun w h => List.mem_cons_of_mem _ (i_Md w h)) hown hE.1 hP 0 rfl rfl 2 (by decide) (hts _ (List.mem_cons_of_mem _ iw3_56)) (fun _ h9 => h9) rfl d_Md_takeSigned_126 ?_
                          refine lv_iconst (v := 1) hx hb d_Md_takeSigned_129 (by decide) ?_
                          refine lv_isub hx hb d_Md_takeSigned_130 ?_
                          rw [nI_pred]
                          refine cV (As := [.int 4, .int (nI ((((a + 1) + 1) + 1) + 1))]) (rest := []) (n := 2) (wc := [(m0, .inr (6, mF g K (nI (((((a + 1) + 1) + 1) + 1) + 1), 0, p) e (nI np) B))]) (wr := [((g 0), .inl (cA 3, 2000, .inl fd)), ((g 10), .inl (cA 3, 4, .inl pe))]) ⟨hx, hb, hml, hown, hts⟩ hno hlocks hl.1 (c_Md_stop l hl9 D cA ad H.size m0 g K e (nI np) B (nI (((((a + 1) + 1) + 1) + 1) + 1)) p (4 : Int32) (nI ((((a + 1) + 1) + 1) + 1))) iw3_216 iw3_218 sel_Md_stop iw1_7 iw3_219 (by decide +kernel) rfl ⟨Nat.le_of_ble_eq_true rfl, Nat.le_of_ble_eq_true rfl⟩ ⟨Nat.le_of_ble_eq_true rfl, Nat.le_of_ble_eq_true rfl⟩ rfl (Nat.le_of_ble_eq_true rfl) d_Md_takeSigned_131 hE hP hD hS hA [0] [1, 2] rfl rfl rfl rfl (by decide) (ci := 6) rfl rfl 0 rfl (fun _ h => h.elim) (fun v_131 u_131 H locs hp_131 hP hD hS => ?_)
                          obtain rfl := hp_131
                          have hP : va_P D cls [(m0, .inr (6, mF g K (nI (((((a + 1) + 1) + 1) + 1) + 1), 4, nI ((((a + 1) + 1) + 1) + 1)) e (nI np) B)), ((g 0), .inl (cA 3, 2000, .inl fd)), ((g 10), .inl (cA 3, 4, .inl pe))] H := hP.sub [2, 0, 1] rfl
                          have hD : va_D A [(m0, .inr (6, mF g K (nI (((((a + 1) + 1) + 1) + 1) + 1), 4, nI ((((a + 1) + 1) + 1) + 1)) e (nI np) B)), ((g 0), .inl (cA 3, 2000, .inl fd)), ((g 10), .inl (cA 3, 4, .inl pe))] := hD.sub [2, 0, 1] (by decide) rfl
                          refine W.cs (cells' := 0) (slots' := 0) rfl rfl ?_
                          refine W.eq (g2 := F0 m 134 ls []) rfl ?_
                          refine lv_lload_n hx hb d_Md_takeSigned_134 rfl (lv_at hl 6 rfl) ?_
                          refine lv_iload hx hb d_Md_takeSigned_135 (lv_at hl 3 rfl) ?_
                          refine lv_bipush (v := 127) hx hb d_Md_takeSigned_137 (by decide) ?_
                          refine lv_iand hx hb d_Md_takeSigned_139 ?_
                          refine lv_i2l hx hb d_Md_takeSigned_140 rfl ?_
                          refine lv_bipush (v := 7) hx hb d_Md_takeSigned_141 (by decide) ?_
                          refine lv_iload hx hb d_Md_takeSigned_143 (lv_at hl 4 rfl) ?_
                          refine lv_imul hx hb d_Md_takeSigned_145 ?_
                          refine W.eq (g2 := F0 m 146 ls [.int 28, .long (((nI v16) &&& 127).toInt64), .long yF]) (by rw [show (7 : Int32) * 4 = 28 from by decide +kernel]) ?_
                          refine lv_lshl hx hb d_Md_takeSigned_146 rfl ?_
                          refine lv_lor hx hb d_Md_takeSigned_147 ?_
                          refine lv_topl (fun yF eyF => ?_)
                          refine lv_lstore_n (lv' := [(2, .long yF), (9, .int 0), (8, .int (nI (v16 % 2 ^ 7 / 2 ^ 3))), (7, .int 4), (6, .int (nI v16)), (5, .int 4), (10, .int 28), (4, .int 5), (0, .ref m0), (1, .int 32)]) hx hb d_Md_takeSigned_148 rfl hl (by decide) rfl (fun ls hl => ?_)
                          refine lv_bipush (v := 7) hx hb d_Md_takeSigned_149 (by decide) ?_
                          refine lv_iload hx hb d_Md_takeSigned_151 (lv_at hl 5 rfl) ?_
                          refine lv_imul hx hb d_Md_takeSigned_153 ?_
                          refine W.eq (g2 := F0 m 154 ls [.int 28]) (by rw [show (7 : Int32) * 4 = 28 from by decide +kernel]) ?_
                          refine lv_bipush (v := 7) hx hb d_Md_takeSigned_154 (by decide) ?_
                          refine lv_iadd hx hb d_Md_takeSigned_156 ?_
                          refine W.eq (g2 := F0 m 157 ls [.int 35]) (by rw [show (28 : Int32) + 7 = 35 from by decide +kernel]) ?_
                          refine lv_istore (lv' := [(10, .int 35), (2, .long yF), (9, .int 0), (8, .int (nI (v16 % 2 ^ 7 / 2 ^ 3))), (7, .int 4), (6, .int (nI v16)), (5, .int 4), (4, .int 5), (0, .ref m0), (1, .int 32)]) hx hb d_Md_takeSigned_157 hl (by decide) rfl (fun ls hl => ?_)
                          refine lv_iload hx hb d_Md_takeSigned_159 (lv_at hl 5 rfl) ?_
                          refine lv_sipush (v := 128) hx hb d_Md_takeSigned_161 (by decide) ?_
                          refine lv_icmp_ge (tgt := 192) hx hb d_Md_takeSigned_164 (by decide) (fun c_164 => ?_) (fun c_164 => ?_)
                          · refine lv_iinc (v := 5) (lv' := [(5, .int 5), (10, .int 35), (2, .long yF), (9, .int 0), (8, .int (nI (v16 % 2 ^ 7 / 2 ^ 3))), (7, .int 4), (6, .int (nI v16)), (4, .int 5), (0, .ref m0), (1, .int 32)]) hx hb d_Md_takeSigned_192 hl (k := 6) rfl (by decide) (by decide) rfl (fun ls hl => ?_)
                            refine lv_goto (tgt := 14) hx hb d_Md_takeSigned_195 (by decide) ?_
                            refine lv_iload hx hb d_Md_takeSigned_14 (lv_at hl 0 rfl) ?_
                            refine lv_iload hx hb d_Md_takeSigned_16 (lv_at hl 7 rfl) ?_
                            refine lv_icmp_ge (tgt := 198) hx hb d_Md_takeSigned_18 (by decide) (fun c_18 => ?_) (fun c_18 => absurd (by decide) c_18)
                            refine lv_lload_n hx hb d_Md_takeSigned_198 rfl (lv_at hl 2 rfl) ?_
                            exact cRl ((nI (((((a + 1) + 1) + 1) + 1) + 1), nI 4, nI ((((a + 1) + 1) + 1) + 1)) : A3) hx hb hr hlocks d_Md_takeSigned_199 hS hP hD (Or.inl ⟨4, ((((a + 1) + 1) + 1) + 1), by rw [show pS32 b lm a = pSg b lm 5 32 a from rfl, hU4, pSg_F hr16 (by decide) hbad], ⟨by decide, by decide⟩, rfl, ⟨_, rfl⟩, (((((a + 1) + 1) + 1) + 1) + 1), by omega, rfl⟩) (Nat.le_refl _) (Nat.le_refl _)
                          · refine lv_iload hx hb d_Md_takeSigned_167 (lv_at hl 0 rfl) ?_
                            refine lv_bipush (v := 64) hx hb d_Md_takeSigned_169 (by decide) ?_
                            refine lv_icmp_ge (tgt := 190) hx hb d_Md_takeSigned_171 (by decide) (fun c_171 => absurd c_171 (by decide)) (fun c_171 => ?_)
                            refine lv_lload_n hx hb d_Md_takeSigned_174 rfl (lv_at hl 1 rfl) ?_
                            refine lv_bipush (v := 64) hx hb d_Md_takeSigned_175 (by decide) ?_
                            refine lv_iload hx hb d_Md_takeSigned_177 (lv_at hl 0 rfl) ?_
                            refine lv_isub hx hb d_Md_takeSigned_179 ?_
                            refine W.eq (g2 := F0 m 180 ls [.int 29, .long yF]) (by rw [show (64 : Int32) - 35 = 29 from by decide +kernel]) ?_
                            refine lv_lshl hx hb d_Md_takeSigned_180 rfl ?_
                            refine lv_bipush (v := 64) hx hb d_Md_takeSigned_181 (by decide) ?_
                            refine lv_iload hx hb d_Md_takeSigned_183 (lv_at hl 0 rfl) ?_
                            refine lv_isub hx hb d_Md_takeSigned_185 ?_
                            refine W.eq (g2 := F0 m 186 ls [.int 29, .long (yF <<< ((29 : Int32).toInt64 &&& 63))]) (by rw [show (64 : Int32) - 35 = 29 from by decide +kernel]) ?_
                            refine lv_lshr hx hb d_Md_takeSigned_186 rfl ?_
                            refine lv_goto (tgt := 191) hx hb d_Md_takeSigned_187 (by decide) ?_
                            exact cRl ((nI (((((a + 1) + 1) + 1) + 1) + 1), nI 4, nI ((((a + 1) + 1) + 1) + 1)) : A3) hx hb hr hlocks d_Md_takeSigned_191 hS hP hD (Or.inl ⟨4, ((((a + 1) + 1) + 1) + 1), by rw [show pS32 b lm a = pSg b lm 5 32 a from rfl, hU4, pSg_F hr16 (by decide) hbad], ⟨by decide, by decide⟩, rfl, ⟨_, rfl⟩, (((((a + 1) + 1) + 1) + 1) + 1), by omega, rfl⟩) (Nat.le_refl _) (Nat.le_refl _)
                      · refine lv_iconst (v := 1) hx hb d_Md_takeSigned_90 (by decide) ?_
                        refine lv_goto (tgt := 95) hx hb d_Md_takeSigned_91 (by decide) ?_
                        refine lv_istore (lv' := [(9, .int 1), (8, .int (nI (v16 % 2 ^ 7 / 2 ^ 3))), (7, .int 4), (6, .int (nI v16)), (5, .int 4), (10, .int 28), (2, .long yF), (4, .int 5), (0, .ref m0), (1, .int 32)]) hx hb d_Md_takeSigned_95 hl (by decide) rfl (fun ls hl => ?_)
                        refine lv_aload_n hx hb d_Md_takeSigned_97 rfl (lv_at hl 8 rfl) ?_
                        refine va_get (D := D) (ci := 6) (v := .int 0) (C := R_Md) (T := F_Md) (N := 44) hx hb hts (fun w h => List.mem_cons_of_mem _ (i_Md w h)) hown hE.1 hP 0 rfl rfl 3 (by decide) (hts _ (List.mem_cons_of_mem _ iw3_57)) (fun _ h9 => h9) rfl d_Md_takeSigned_98 ?_
                        refine lv_if_ne (tgt := 134) hx hb d_Md_takeSigned_101 (by decide) (fun c_101 => absurd (by decide) c_101) (fun c_101 => ?_)
                        refine lv_iload hx hb d_Md_takeSigned_104 (lv_at hl 2 rfl) ?_
                        refine lv_bipush (v := 8) hx hb d_Md_takeSigned_106 (by decide) ?_
                        refine lv_icmp_ge (tgt := 134) hx hb d_Md_takeSigned_108 (by decide) (fun c_108 => absurd c_108 (by decide)) (fun c_108 => ?_)
                        refine lv_iload hx hb d_Md_takeSigned_111 (lv_at hl 3 rfl) ?_
                        refine lv_bipush (v := 127) hx hb d_Md_takeSigned_113 (by decide) ?_
                        refine lv_icmp_gt (tgt := 123) hx hb d_Md_takeSigned_115 (by decide) (fun c_115 => ?_) (fun c_115 => ?_)
                        · have hbad : sTop 4 v16 = false := sTop_big 3 (by decide) v16 (by omega) (by have := (nI_ltI (a := 127) (b := v16) (by omega) (by omega)).mp c_115; omega)
                          refine lv_aload_n hx hb d_Md_takeSigned_123 rfl (lv_at hl 8 rfl) ?_
                          refine lv_iconst (v := 4) hx hb d_Md_takeSigned_124 (by decide) ?_
                          refine lv_aload_n hx hb d_Md_takeSigned_125 rfl (lv_at hl 8 rfl) ?_
                          refine va_get (D := D) (ci := 6) (v := .int (nI (((((a + 1) + 1) + 1) + 1) + 1))) (C := R_Md) (T := F_Md) (N := 44) hx hb hts (fun w h => List.mem_cons_of_mem _ (i_Md w h)) hown hE.1 hP 0 rfl rfl 2 (by decide) (hts _ (List.mem_cons_of_mem _ iw3_56)) (fun _ h9 => h9) rfl d_Md_takeSigned_126 ?_
                          refine lv_iconst (v := 1) hx hb d_Md_takeSigned_129 (by decide) ?_
                          refine lv_isub hx hb d_Md_takeSigned_130 ?_
                          rw [nI_pred]
                          refine cV (As := [.int 4, .int (nI ((((a + 1) + 1) + 1) + 1))]) (rest := []) (n := 2) (wc := [(m0, .inr (6, mF g K (nI (((((a + 1) + 1) + 1) + 1) + 1), 0, p) e (nI np) B))]) (wr := [((g 0), .inl (cA 3, 2000, .inl fd)), ((g 10), .inl (cA 3, 4, .inl pe))]) ⟨hx, hb, hml, hown, hts⟩ hno hlocks hl.1 (c_Md_stop l hl9 D cA ad H.size m0 g K e (nI np) B (nI (((((a + 1) + 1) + 1) + 1) + 1)) p (4 : Int32) (nI ((((a + 1) + 1) + 1) + 1))) iw3_216 iw3_218 sel_Md_stop iw1_7 iw3_219 (by decide +kernel) rfl ⟨Nat.le_of_ble_eq_true rfl, Nat.le_of_ble_eq_true rfl⟩ ⟨Nat.le_of_ble_eq_true rfl, Nat.le_of_ble_eq_true rfl⟩ rfl (Nat.le_of_ble_eq_true rfl) d_Md_takeSigned_131 hE hP hD hS hA [0] [1, 2] rfl rfl rfl rfl (by decide) (ci := 6) rfl rfl 0 rfl (fun _ h => h.elim) (fun v_131 u_131 H locs hp_131 hP hD hS => ?_)
                          obtain rfl := hp_131
                          have hP : va_P D cls [(m0, .inr (6, mF g K (nI (((((a + 1) + 1) + 1) + 1) + 1), 4, nI ((((a + 1) + 1) + 1) + 1)) e (nI np) B)), ((g 0), .inl (cA 3, 2000, .inl fd)), ((g 10), .inl (cA 3, 4, .inl pe))] H := hP.sub [2, 0, 1] rfl
                          have hD : va_D A [(m0, .inr (6, mF g K (nI (((((a + 1) + 1) + 1) + 1) + 1), 4, nI ((((a + 1) + 1) + 1) + 1)) e (nI np) B)), ((g 0), .inl (cA 3, 2000, .inl fd)), ((g 10), .inl (cA 3, 4, .inl pe))] := hD.sub [2, 0, 1] (by decide) rfl
                          refine W.cs (cells' := 0) (slots' := 0) rfl rfl ?_
                          refine W.eq (g2 := F0 m 134 ls []) rfl ?_
                          refine lv_lload_n hx hb d_Md_takeSigned_134 rfl (lv_at hl 6 rfl) ?_
                          refine lv_iload hx hb d_Md_takeSigned_135 (lv_at hl 3 rfl) ?_
                          refine lv_bipush (v := 127) hx hb d_Md_takeSigned_137 (by decide) ?_
                          refine lv_iand hx hb d_Md_takeSigned_139 ?_
                          refine lv_i2l hx hb d_Md_takeSigned_140 rfl ?_
                          refine lv_bipush (v := 7) hx hb d_Md_takeSigned_141 (by decide) ?_
                          refine lv_iload hx hb d_Md_takeSigned_143 (lv_at hl 4 rfl) ?_
                          refine lv_imul hx hb d_Md_takeSigned_145 ?_
                          refine W.eq (g2 := F0 m 146 ls [.int 28, .long (((nI v16) &&& 127).toInt64), .long yF]) (by rw [show (7 : Int32) * 4 = 28 from by decide +kernel]) ?_
                          refine lv_lshl hx hb d_Md_takeSigned_146 rfl ?_
                          refine lv_lor hx hb d_Md_takeSigned_147 ?_
                          refine lv_topl (fun yF eyF => ?_)
                          refine lv_lstore_n (lv' := [(2, .long yF), (9, .int 1), (8, .int (nI (v16 % 2 ^ 7 / 2 ^ 3))), (7, .int 4), (6, .int (nI v16)), (5, .int 4), (10, .int 28), (4, .int 5), (0, .ref m0), (1, .int 32)]) hx hb d_Md_takeSigned_148 rfl hl (by decide) rfl (fun ls hl => ?_)
                          refine lv_bipush (v := 7) hx hb d_Md_takeSigned_149 (by decide) ?_
                          refine lv_iload hx hb d_Md_takeSigned_151 (lv_at hl 5 rfl) ?_
                          refine lv_imul hx hb d_Md_takeSigned_153 ?_
                          refine W.eq (g2 := F0 m 154 ls [.int 28]) (by rw [show (7 : Int32) * 4 = 28 from by decide +kernel]) ?_
                          refine lv_bipush (v := 7) hx hb d_Md_takeSigned_154 (by decide) ?_
                          refine lv_iadd hx hb d_Md_takeSigned_156 ?_
                          refine W.eq (g2 := F0 m 157 ls [.int 35]) (by rw [show (28 : Int32) + 7 = 35 from by decide +kernel]) ?_
                          refine lv_istore (lv' := [(10, .int 35), (2, .long yF), (9, .int 1), (8, .int (nI (v16 % 2 ^ 7 / 2 ^ 3))), (7, .int 4), (6, .int (nI v16)), (5, .int 4), (4, .int 5), (0, .ref m0), (1, .int 32)]) hx hb d_Md_takeSigned_157 hl (by decide) rfl (fun ls hl => ?_)
                          refine lv_iload hx hb d_Md_takeSigned_159 (lv_at hl 5 rfl) ?_
                          refine lv_sipush (v := 128) hx hb d_Md_takeSigned_161 (by decide) ?_
                          refine lv_icmp_ge (tgt := 192) hx hb d_Md_takeSigned_164 (by decide) (fun c_164 => ?_) (fun c_164 => ?_)
                          · refine lv_iinc (v := 5) (lv' := [(5, .int 5), (10, .int 35), (2, .long yF), (9, .int 1), (8, .int (nI (v16 % 2 ^ 7 / 2 ^ 3))), (7, .int 4), (6, .int (nI v16)), (4, .int 5), (0, .ref m0), (1, .int 32)]) hx hb d_Md_takeSigned_192 hl (k := 6) rfl (by decide) (by decide) rfl (fun ls hl => ?_)
                            refine lv_goto (tgt := 14) hx hb d_Md_takeSigned_195 (by decide) ?_
                            refine lv_iload hx hb d_Md_takeSigned_14 (lv_at hl 0 rfl) ?_
                            refine lv_iload hx hb d_Md_takeSigned_16 (lv_at hl 7 rfl) ?_
                            refine lv_icmp_ge (tgt := 198) hx hb d_Md_takeSigned_18 (by decide) (fun c_18 => ?_) (fun c_18 => absurd (by decide) c_18)
                            refine lv_lload_n hx hb d_Md_takeSigned_198 rfl (lv_at hl 2 rfl) ?_
                            exact cRl ((nI (((((a + 1) + 1) + 1) + 1) + 1), nI 4, nI ((((a + 1) + 1) + 1) + 1)) : A3) hx hb hr hlocks d_Md_takeSigned_199 hS hP hD (Or.inl ⟨4, ((((a + 1) + 1) + 1) + 1), by rw [show pS32 b lm a = pSg b lm 5 32 a from rfl, hU4, pSg_F hr16 (by decide) hbad], ⟨by decide, by decide⟩, rfl, ⟨_, rfl⟩, (((((a + 1) + 1) + 1) + 1) + 1), by omega, rfl⟩) (Nat.le_refl _) (Nat.le_refl _)
                          · refine lv_iload hx hb d_Md_takeSigned_167 (lv_at hl 0 rfl) ?_
                            refine lv_bipush (v := 64) hx hb d_Md_takeSigned_169 (by decide) ?_
                            refine lv_icmp_ge (tgt := 190) hx hb d_Md_takeSigned_171 (by decide) (fun c_171 => absurd c_171 (by decide)) (fun c_171 => ?_)
                            refine lv_lload_n hx hb d_Md_takeSigned_174 rfl (lv_at hl 1 rfl) ?_
                            refine lv_bipush (v := 64) hx hb d_Md_takeSigned_175 (by decide) ?_
                            refine lv_iload hx hb d_Md_takeSigned_177 (lv_at hl 0 rfl) ?_
                            refine lv_isub hx hb d_Md_takeSigned_179 ?_
                            refine W.eq (g2 := F0 m 180 ls [.int 29, .long yF]) (by rw [show (64 : Int32) - 35 = 29 from by decide +kernel]) ?_
                            refine lv_lshl hx hb d_Md_takeSigned_180 rfl ?_
                            refine lv_bipush (v := 64) hx hb d_Md_takeSigned_181 (by decide) ?_
                            refine lv_iload hx hb d_Md_takeSigned_183 (lv_at hl 0 rfl) ?_
                            refine lv_isub hx hb d_Md_takeSigned_185 ?_
                            refine W.eq (g2 := F0 m 186 ls [.int 29, .long (yF <<< ((29 : Int32).toInt64 &&& 63))]) (by rw [show (64 : Int32) - 35 = 29 from by decide +kernel]) ?_
                            refine lv_lshr hx hb d_Md_takeSigned_186 rfl ?_
                            refine lv_goto (tgt := 191) hx hb d_Md_takeSigned_187 (by decide) ?_
                            exact cRl ((nI (((((a + 1) + 1) + 1) + 1) + 1), nI 4, nI ((((a + 1) + 1) + 1) + 1)) : A3) hx hb hr hlocks d_Md_takeSigned_191 hS hP hD (Or.inl ⟨4, ((((a + 1) + 1) + 1) + 1), by rw [show pS32 b lm a = pSg b lm 5 32 a from rfl, hU4, pSg_F hr16 (by decide) hbad], ⟨by decide, by decide⟩, rfl, ⟨_, rfl⟩, (((((a + 1) + 1) + 1) + 1) + 1), by omega, rfl⟩) (Nat.le_refl _) (Nat.le_refl _)
                        · have hle : v16 ≤ 127 := Nat.le_of_not_lt (fun q => c_115 (nI_lt (a := 127) (b := v16) q (by omega)))
                          refine lv_iload hx hb d_Md_takeSigned_118 (lv_at hl 0 rfl) ?_
                          refine lv_if_ne (tgt := 134) hx hb d_Md_takeSigned_120 (by decide) (fun c_120 => ?_) (fun c_120 => absurd c_120 (by decide))
                          have hst : sTop 4 v16 = true := sT4t hle (by first | exact Or.inl c_75 | exact Or.inr c_87)
                          have ho4 : ¬ (4 ≤ 7 ∧ sTop 4 v16 = false) := fun q => by rw [hst] at q; exact absurd q.2 (by decide)
                          refine lv_lload_n hx hb d_Md_takeSigned_134 rfl (lv_at hl 6 rfl) ?_
                          refine lv_iload hx hb d_Md_takeSigned_135 (lv_at hl 3 rfl) ?_
                          refine lv_bipush (v := 127) hx hb d_Md_takeSigned_137 (by decide) ?_
                          refine lv_iand hx hb d_Md_takeSigned_139 ?_
                          refine lv_i2l hx hb d_Md_takeSigned_140 rfl ?_
                          refine lv_bipush (v := 7) hx hb d_Md_takeSigned_141 (by decide) ?_
                          refine lv_iload hx hb d_Md_takeSigned_143 (lv_at hl 4 rfl) ?_
                          refine lv_imul hx hb d_Md_takeSigned_145 ?_
                          refine W.eq (g2 := F0 m 146 ls [.int 28, .long (((nI v16) &&& 127).toInt64), .long yF]) (by rw [show (7 : Int32) * 4 = 28 from by decide +kernel]) ?_
                          refine lv_lshl hx hb d_Md_takeSigned_146 rfl ?_
                          refine lv_lor hx hb d_Md_takeSigned_147 ?_
                          refine lv_topl (fun yF eyF => ?_)
                          refine lv_lstore_n (lv' := [(2, .long yF), (9, .int 1), (8, .int (nI (v16 % 2 ^ 7 / 2 ^ 3))), (7, .int 4), (6, .int (nI v16)), (5, .int 4), (10, .int 28), (4, .int 5), (0, .ref m0), (1, .int 32)]) hx hb d_Md_takeSigned_148 rfl hl (by decide) rfl (fun ls hl => ?_)
                          refine lv_bipush (v := 7) hx hb d_Md_takeSigned_149 (by decide) ?_
                          refine lv_iload hx hb d_Md_takeSigned_151 (lv_at hl 5 rfl) ?_
                          refine lv_imul hx hb d_Md_takeSigned_153 ?_
                          refine W.eq (g2 := F0 m 154 ls [.int 28]) (by rw [show (7 : Int32) * 4 = 28 from by decide +kernel]) ?_
                          refine lv_bipush (v := 7) hx hb d_Md_takeSigned_154 (by decide) ?_
                          refine lv_iadd hx hb d_Md_takeSigned_156 ?_
                          refine W.eq (g2 := F0 m 157 ls [.int 35]) (by rw [show (28 : Int32) + 7 = 35 from by decide +kernel]) ?_
                          refine lv_istore (lv' := [(10, .int 35), (2, .long yF), (9, .int 1), (8, .int (nI (v16 % 2 ^ 7 / 2 ^ 3))), (7, .int 4), (6, .int (nI v16)), (5, .int 4), (4, .int 5), (0, .ref m0), (1, .int 32)]) hx hb d_Md_takeSigned_157 hl (by decide) rfl (fun ls hl => ?_)
                          refine lv_iload hx hb d_Md_takeSigned_159 (lv_at hl 5 rfl) ?_
                          refine lv_sipush (v := 128) hx hb d_Md_takeSigned_161 (by decide) ?_
                          refine lv_icmp_ge (tgt := 192) hx hb d_Md_takeSigned_164 (by decide) (fun c_164 => ?_) (fun c_164 => ?_)
                          · have hd4 : ¬ v16 < 128 := fun q => absurd ((nI_leI (a := 128) (b := v16) (by omega) (by omega)).mp c_164) (by omega)
                            exact absurd hle (by omega)
                          · have hd4 : v16 < 128 := Nat.lt_of_not_le (fun q => c_164 (nI_le (a := 128) (b := v16) q (by omega)))
                            refine lv_iload hx hb d_Md_takeSigned_167 (lv_at hl 0 rfl) ?_
                            refine lv_bipush (v := 64) hx hb d_Md_takeSigned_169 (by decide) ?_
                            refine lv_icmp_ge (tgt := 190) hx hb d_Md_takeSigned_171 (by decide) (fun c_171 => absurd c_171 (by decide)) (fun c_171 => ?_)
                            refine lv_lload_n hx hb d_Md_takeSigned_174 rfl (lv_at hl 1 rfl) ?_
                            refine lv_bipush (v := 64) hx hb d_Md_takeSigned_175 (by decide) ?_
                            refine lv_iload hx hb d_Md_takeSigned_177 (lv_at hl 0 rfl) ?_
                            refine lv_isub hx hb d_Md_takeSigned_179 ?_
                            refine W.eq (g2 := F0 m 180 ls [.int 29, .long yF]) (by rw [show (64 : Int32) - 35 = 29 from by decide +kernel]) ?_
                            refine lv_lshl hx hb d_Md_takeSigned_180 rfl ?_
                            refine lv_bipush (v := 64) hx hb d_Md_takeSigned_181 (by decide) ?_
                            refine lv_iload hx hb d_Md_takeSigned_183 (lv_at hl 0 rfl) ?_
                            refine lv_isub hx hb d_Md_takeSigned_185 ?_
                            refine W.eq (g2 := F0 m 186 ls [.int 29, .long (yF <<< ((29 : Int32).toInt64 &&& 63))]) (by rw [show (64 : Int32) - 35 = 29 from by decide +kernel]) ?_
                            refine lv_lshr hx hb d_Md_takeSigned_186 rfl ?_
                            refine lv_goto (tgt := 191) hx hb d_Md_takeSigned_187 (by decide) ?_
                            exact cRl ((nI (((((a + 1) + 1) + 1) + 1) + 1), 0, p) : A3) hx hb hr hlocks d_Md_takeSigned_191 hS hP hD (Or.inr ⟨v16 / 64 % 2, (((((a + 1) + 1) + 1) + 1) + 1), hU4.trans (pSg_E hr16 ho4 hd4), rfl, _, rfl⟩) (Nat.le_refl _) (Nat.le_refl _)
                · have hd3 : v15 < 128 := Nat.lt_of_not_le (fun q => c_164 (nI_le (a := 128) (b := v15) q (by omega)))
                  refine lv_iload hx hb d_Md_takeSigned_167 (lv_at hl 0 rfl) ?_
                  refine lv_bipush (v := 64) hx hb d_Md_takeSigned_169 (by decide) ?_
                  refine lv_icmp_ge (tgt := 190) hx hb d_Md_takeSigned_171 (by decide) (fun c_171 => absurd c_171 (by decide)) (fun c_171 => ?_)
                  refine lv_lload_n hx hb d_Md_takeSigned_174 rfl (lv_at hl 1 rfl) ?_
                  refine lv_bipush (v := 64) hx hb d_Md_takeSigned_175 (by decide) ?_
                  refine lv_iload hx hb d_Md_takeSigned_177 (lv_at hl 0 rfl) ?_
                  refine lv_isub hx hb d_Md_takeSigned_179 ?_
                  refine W.eq (g2 := F0 m 180 ls [.int 36, .long yF]) (by rw [show (64 : Int32) - 28 = 36 from by decide +kernel]) ?_
                  refine lv_lshl hx hb d_Md_takeSigned_180 rfl ?_
                  refine lv_bipush (v := 64) hx hb d_Md_takeSigned_181 (by decide) ?_
                  refine lv_iload hx hb d_Md_takeSigned_183 (lv_at hl 0 rfl) ?_
                  refine lv_isub hx hb d_Md_takeSigned_185 ?_
                  refine W.eq (g2 := F0 m 186 ls [.int 36, .long (yF <<< ((36 : Int32).toInt64 &&& 63))]) (by rw [show (64 : Int32) - 28 = 36 from by decide +kernel]) ?_
                  refine lv_lshr hx hb d_Md_takeSigned_186 rfl ?_
                  refine lv_goto (tgt := 191) hx hb d_Md_takeSigned_187 (by decide) ?_
                  exact cRl ((nI ((((a + 1) + 1) + 1) + 1), 0, p) : A3) hx hb hr hlocks d_Md_takeSigned_191 hS hP hD (Or.inr ⟨v15 / 64 % 2, ((((a + 1) + 1) + 1) + 1), hU3.trans (pSg_E hr15 ho3 hd3), rfl, _, rfl⟩) (Nat.le_refl _) (Nat.le_refl _)
            · have hd2 : v14 < 128 := Nat.lt_of_not_le (fun q => c_164 (nI_le (a := 128) (b := v14) q (by omega)))
              refine lv_iload hx hb d_Md_takeSigned_167 (lv_at hl 0 rfl) ?_
              refine lv_bipush (v := 64) hx hb d_Md_takeSigned_169 (by decide) ?_
              refine lv_icmp_ge (tgt := 190) hx hb d_Md_takeSigned_171 (by decide) (fun c_171 => absurd c_171 (by decide)) (fun c_171 => ?_)
              refine lv_lload_n hx hb d_Md_takeSigned_174 rfl (lv_at hl 1 rfl) ?_
              refine lv_bipush (v := 64) hx hb d_Md_takeSigned_175 (by decide) ?_
              refine lv_iload hx hb d_Md_takeSigned_177 (lv_at hl 0 rfl) ?_
              refine lv_isub hx hb d_Md_takeSigned_179 ?_
              refine W.eq (g2 := F0 m 180 ls [.int 43, .long yF]) (by rw [show (64 : Int32) - 21 = 43 from by decide +kernel]) ?_
              refine lv_lshl hx hb d_Md_takeSigned_180 rfl ?_
              refine lv_bipush (v := 64) hx hb d_Md_takeSigned_181 (by decide) ?_
              refine lv_iload hx hb d_Md_takeSigned_183 (lv_at hl 0 rfl) ?_
              refine lv_isub hx hb d_Md_takeSigned_185 ?_
              refine W.eq (g2 := F0 m 186 ls [.int 43, .long (yF <<< ((43 : Int32).toInt64 &&& 63))]) (by rw [show (64 : Int32) - 21 = 43 from by decide +kernel]) ?_
              refine lv_lshr hx hb d_Md_takeSigned_186 rfl ?_
              refine lv_goto (tgt := 191) hx hb d_Md_takeSigned_187 (by decide) ?_
              exact cRl ((nI (((a + 1) + 1) + 1), 0, p) : A3) hx hb hr hlocks d_Md_takeSigned_191 hS hP hD (Or.inr ⟨v14 / 64 % 2, (((a + 1) + 1) + 1), hU2.trans (pSg_E hr14 ho2 hd2), rfl, _, rfl⟩) (Nat.le_refl _) (Nat.le_refl _)
        · have hd1 : v13 < 128 := Nat.lt_of_not_le (fun q => c_164 (nI_le (a := 128) (b := v13) q (by omega)))
          refine lv_iload hx hb d_Md_takeSigned_167 (lv_at hl 0 rfl) ?_
          refine lv_bipush (v := 64) hx hb d_Md_takeSigned_169 (by decide) ?_
          refine lv_icmp_ge (tgt := 190) hx hb d_Md_takeSigned_171 (by decide) (fun c_171 => absurd c_171 (by decide)) (fun c_171 => ?_)
          refine lv_lload_n hx hb d_Md_takeSigned_174 rfl (lv_at hl 1 rfl) ?_
          refine lv_bipush (v := 64) hx hb d_Md_takeSigned_175 (by decide) ?_
          refine lv_iload hx hb d_Md_takeSigned_177 (lv_at hl 0 rfl) ?_
          refine lv_isub hx hb d_Md_takeSigned_179 ?_
          refine W.eq (g2 := F0 m 180 ls [.int 50, .long yF]) (by rw [show (64 : Int32) - 14 = 50 from by decide +kernel]) ?_
          refine lv_lshl hx hb d_Md_takeSigned_180 rfl ?_
          refine lv_bipush (v := 64) hx hb d_Md_takeSigned_181 (by decide) ?_
          refine lv_iload hx hb d_Md_takeSigned_183 (lv_at hl 0 rfl) ?_
          refine lv_isub hx hb d_Md_takeSigned_185 ?_
          refine W.eq (g2 := F0 m 186 ls [.int 50, .long (yF <<< ((50 : Int32).toInt64 &&& 63))]) (by rw [show (64 : Int32) - 14 = 50 from by decide +kernel]) ?_
          refine lv_lshr hx hb d_Md_takeSigned_186 rfl ?_
          refine lv_goto (tgt := 191) hx hb d_Md_takeSigned_187 (by decide) ?_
          exact cRl ((nI ((a + 1) + 1), 0, p) : A3) hx hb hr hlocks d_Md_takeSigned_191 hS hP hD (Or.inr ⟨v13 / 64 % 2, ((a + 1) + 1), hU1.trans (pSg_E hr13 ho1 hd1), rfl, _, rfl⟩) (Nat.le_refl _) (Nat.le_refl _)
    · have hd0 : v12 < 128 := Nat.lt_of_not_le (fun q => c_164 (nI_le (a := 128) (b := v12) q (by omega)))
      refine lv_iload hx hb d_Md_takeSigned_167 (lv_at hl 0 rfl) ?_
      refine lv_bipush (v := 64) hx hb d_Md_takeSigned_169 (by decide) ?_
      refine lv_icmp_ge (tgt := 190) hx hb d_Md_takeSigned_171 (by decide) (fun c_171 => absurd c_171 (by decide)) (fun c_171 => ?_)
      refine lv_lload_n hx hb d_Md_takeSigned_174 rfl (lv_at hl 1 rfl) ?_
      refine lv_bipush (v := 64) hx hb d_Md_takeSigned_175 (by decide) ?_
      refine lv_iload hx hb d_Md_takeSigned_177 (lv_at hl 0 rfl) ?_
      refine lv_isub hx hb d_Md_takeSigned_179 ?_
      refine W.eq (g2 := F0 m 180 ls [.int 57, .long yF]) (by rw [show (64 : Int32) - 7 = 57 from by decide +kernel]) ?_
      refine lv_lshl hx hb d_Md_takeSigned_180 rfl ?_
      refine lv_bipush (v := 64) hx hb d_Md_takeSigned_181 (by decide) ?_
      refine lv_iload hx hb d_Md_takeSigned_183 (lv_at hl 0 rfl) ?_
      refine lv_isub hx hb d_Md_takeSigned_185 ?_
      refine W.eq (g2 := F0 m 186 ls [.int 57, .long (yF <<< ((57 : Int32).toInt64 &&& 63))]) (by rw [show (64 : Int32) - 7 = 57 from by decide +kernel]) ?_
      refine lv_lshr hx hb d_Md_takeSigned_186 rfl ?_
      refine lv_goto (tgt := 191) hx hb d_Md_takeSigned_187 (by decide) ?_
      exact cRl ((nI (a + 1), 0, p) : A3) hx hb hr hlocks d_Md_takeSigned_191 hS hP hD (Or.inr ⟨v12 / 64 % 2, (a + 1), hU0.trans (pSg_E hr12 ho0 hd0), rfl, _, rfl⟩) (Nat.le_refl _) (Nat.le_refl _)
set_option maxHeartbeats 4000000 in
set_option maxRecDepth 100000 in
/-- takeSigned(33) -/
theorem c_Md_takeSigned33 (l : Launch) (hl9 : l.stackTraces = false) (D : va_G) (cA : Nat → ClassId) (ad : Nat → Nat) (sz : Nat) (m0 : Nat) (g : Nat → Nat) (K : MK) (e : Int32) (np : Nat) (B : MB) (fd pe : Nat → Int32) (b : Nat → Nat) (N lm : Nat) (hnp : 1 ≤ np ∧ np ≤ 4) (hpe : pe (np - 1) = nI lm) (hlm : lm ≤ N) (hN : N ≤ 2000) (hfd : ∀ i, i < N → fd i = nI (b i)) (hb9 : ∀ i, b i < 256) (a : Nat) (p : Int32) (ha : a ≤ lm)  :
    cM l y_Md_takeSigned (.code y_Md_takeSigned b_Md_takeSigned 11 (some .long) :: wAll) ({ frames := 2, cells := 0, slots := 0, locals := 42 }) D cA ad [.ref m0, .int 33] [(m0, .inr (6, mF g K (nI a, 0, p) e (nI np) B)), ((g 0), .inl (cA 3, 2000, .inl fd)), ((g 10), .inl (cA 3, 4, .inl pe))] sz (oP (pS33 b lm a) p fL vG) (fun _ => False) (fun (u : A3) => [(m0, .inr (6, mF g K u e (nI np) B)), ((g 0), .inl (cA 3, 2000, .inl fd)), ((g 10), .inl (cA 3, 4, .inl pe))]) (fun _ => (0, 0)) := by
  refine cM.ofW (cc := b_Md_takeSigned) (maxL := 11) (ret := (some .long)) (by decide) (Nat.le_of_ble_eq_true rfl) ?_
  intro pg ev s m bw meth cdx A ls hF hsz hA hE hP hD hl
  obtain ⟨⟨hx, hb, hml, hown, hts⟩, hr, hno, hlocks, hin⟩ := hF
  subst hsz
  have hown : s.vm.findClass "ModuleBytesModel" = some m.cls := hown
  have hS : va_S A s.heap s.heap [] := va_S.rf
  have hl : lv_has ls 11 [(0, .ref m0), (1, .int 33)] := hl
  have hP : va_P D cls [(m0, .inr (6, mF g K (nI a, 0, p) e (nI np) B)), ((g 0), .inl (cA 3, 2000, .inl fd)), ((g 10), .inl (cA 3, 4, .inl pe))] s.heap := hP
  have hD : va_D A [(m0, .inr (6, mF g K (nI a, 0, p) e (nI np) B)), ((g 0), .inl (cA 3, 2000, .inl fd)), ((g 10), .inl (cA 3, 4, .inl pe))] := hD
  have hU0 : pSg b lm 5 33 a = pSg b lm 5 33 a := rfl
  refine lv_lconst (v := 0) hx hb d_Md_takeSigned_0 (by decide) ?_
  refine lv_lstore_n (lv' := [(2, .long 0), (0, .ref m0), (1, .int 33)]) hx hb d_Md_takeSigned_1 rfl hl (by decide) rfl (fun ls hl => ?_)
  refine lv_iload_n hx hb d_Md_takeSigned_2 rfl (lv_at hl 2 rfl) ?_
  refine lv_bipush (v := 6) hx hb d_Md_takeSigned_3 (by decide) ?_
  refine lv_iadd hx hb d_Md_takeSigned_5 ?_
  refine W.eq (g2 := F0 m 6 ls [.int 39]) (by rw [show (33 : Int32) + 6 = 39 from by decide +kernel]) ?_
  refine lv_bipush (v := 7) hx hb d_Md_takeSigned_6 (by decide) ?_
  refine lv_idiv hx hb d_Md_takeSigned_8 (by decide) ?_
  refine W.eq (g2 := F0 m 9 ls [.int 5]) (by rw [show (39 : Int32) / 7 = 5 from by decide +kernel]) ?_
  refine lv_istore (lv' := [(4, .int 5), (2, .long 0), (0, .ref m0), (1, .int 33)]) hx hb d_Md_takeSigned_9 hl (by decide) rfl (fun ls hl => ?_)
  refine lv_iconst (v := 0) hx hb d_Md_takeSigned_11 (by decide) ?_
  refine lv_istore (lv' := [(5, .int 0), (4, .int 5), (2, .long 0), (0, .ref m0), (1, .int 33)]) hx hb d_Md_takeSigned_12 hl (by decide) rfl (fun ls hl => ?_)
  refine lv_iload hx hb d_Md_takeSigned_14 (lv_at hl 0 rfl) ?_
  refine lv_iload hx hb d_Md_takeSigned_16 (lv_at hl 1 rfl) ?_
  refine lv_icmp_ge (tgt := 198) hx hb d_Md_takeSigned_18 (by decide) (fun c_18 => absurd c_18 (by decide)) (fun c_18 => ?_)
  refine lv_aload_n hx hb d_Md_takeSigned_21 rfl (lv_at hl 3 rfl) ?_
  refine va_get (D := D) (ci := 6) (v := .int 0) (C := R_Md) (T := F_Md) (N := 44) hx hb hts (fun w h => List.mem_cons_of_mem _ (i_Md w h)) hown hE.1 hP 0 rfl rfl 3 (by decide) (hts _ (List.mem_cons_of_mem _ iw3_57)) (fun _ h9 => h9) rfl d_Md_takeSigned_22 ?_
  refine lv_if_ne (tgt := 198) hx hb d_Md_takeSigned_25 (by decide) (fun c_25 => absurd (by decide) c_25) (fun c_25 => ?_)
  refine lv_aload_n hx hb d_Md_takeSigned_28 rfl (lv_at hl 3 rfl) ?_
  refine cV (As := []) (rest := []) (n := 0) (wc := [(m0, .inr (6, mF g K (nI a, 0, p) e (nI np) B)), ((g 0), .inl (cA 3, 2000, .inl fd)), ((g 10), .inl (cA 3, 4, .inl pe))]) (wr := []) ⟨hx, hb, hml, hown, hts⟩ hno hlocks hl.1 (c_Md_take l hl9 D cA ad s.heap.size m0 g K e np B fd pe b N lm hnp hpe hlm hN hfd hb9 a p (by omega) ) iw3_212 iw3_214 sel_Md_take iw1_7 iw3_215 (by decide +kernel) rfl ⟨Nat.le_of_ble_eq_true rfl, Nat.le_of_ble_eq_true rfl⟩ ⟨Nat.le_of_ble_eq_true rfl, Nat.le_of_ble_eq_true rfl⟩ rfl (Nat.le_of_ble_eq_true rfl) d_Md_takeSigned_29 hE hP hD hS hA [0, 1, 2] [] rfl rfl rfl rfl (by decide) (ci := 6) rfl rfl 0 rfl (fun _ h => h.elim) (fun v_29 u_29 H locs hp_29 hP hD hS => ?_)
  rcases hp_29 with ⟨f17, q17, hr17, hf17, hB17, rfl, zz17, hzz17, hzx17⟩ | ⟨v17, a17, hr17, rfl, rfl⟩
  · obtain ⟨x17, y17, z17⟩ := u_29
    cases hB17
    have hzx17 : x17 = nI zz17 := hzx17
    subst hzx17
    have hP : va_P D cls [(m0, .inr (6, mF g K (nI zz17, nI f17, nI q17) e (nI np) B)), ((g 0), .inl (cA 3, 2000, .inl fd)), ((g 10), .inl (cA 3, 4, .inl pe))] H := hP
    have hD : va_D A [(m0, .inr (6, mF g K (nI zz17, nI f17, nI q17) e (nI np) B)), ((g 0), .inl (cA 3, 2000, .inl fd)), ((g 10), .inl (cA 3, 4, .inl pe))] := hD
    refine W.cs (cells' := 0) (slots' := 0) rfl rfl ?_
    refine W.eq (g2 := F0 m 32 ls [.int 0]) rfl ?_
    refine lv_istore (lv' := [(6, .int 0), (5, .int 0), (4, .int 5), (2, .long 0), (0, .ref m0), (1, .int 33)]) hx hb d_Md_takeSigned_32 hl (by decide) rfl (fun ls hl => ?_)
    refine lv_iload_n hx hb d_Md_takeSigned_34 rfl (lv_at hl 5 rfl) ?_
    refine lv_bipush (v := 7) hx hb d_Md_takeSigned_35 (by decide) ?_
    refine lv_iload hx hb d_Md_takeSigned_37 (lv_at hl 1 rfl) ?_
    refine lv_imul hx hb d_Md_takeSigned_39 ?_
    refine W.eq (g2 := F0 m 40 ls [.int 0, .int 33]) (by rw [show (7 : Int32) * 0 = 0 from by decide +kernel]) ?_
    refine lv_isub hx hb d_Md_takeSigned_40 ?_
    refine W.eq (g2 := F0 m 41 ls [.int 33]) (by rw [show (33 : Int32) - 0 = 33 from by decide +kernel]) ?_
    refine lv_istore (lv' := [(7, .int 33), (6, .int 0), (5, .int 0), (4, .int 5), (2, .long 0), (0, .ref m0), (1, .int 33)]) hx hb d_Md_takeSigned_41 hl (by decide) rfl (fun ls hl => ?_)
    refine lv_iload hx hb d_Md_takeSigned_43 (lv_at hl 0 rfl) ?_
    refine lv_bipush (v := 7) hx hb d_Md_takeSigned_45 (by decide) ?_
    refine lv_icmp_ge (tgt := 63) hx hb d_Md_takeSigned_47 (by decide) (fun c_47 => ?_) (fun c_47 => absurd (by decide) c_47)
    refine lv_iconst (v := 0) hx hb d_Md_takeSigned_63 (by decide) ?_
    refine lv_istore (lv' := [(8, .int 0), (7, .int 33), (6, .int 0), (5, .int 0), (4, .int 5), (2, .long 0), (0, .ref m0), (1, .int 33)]) hx hb d_Md_takeSigned_64 hl (by decide) rfl (fun ls hl => ?_)
    refine lv_iload hx hb d_Md_takeSigned_66 (lv_at hl 1 rfl) ?_
    refine lv_bipush (v := 7) hx hb d_Md_takeSigned_68 (by decide) ?_
    refine lv_icmp_ge (tgt := 90) hx hb d_Md_takeSigned_70 (by decide) (fun c_70 => ?_) (fun c_70 => absurd (by decide) c_70)
    refine lv_iconst (v := 1) hx hb d_Md_takeSigned_90 (by decide) ?_
    refine lv_goto (tgt := 95) hx hb d_Md_takeSigned_91 (by decide) ?_
    refine lv_istore (lv' := [(9, .int 1), (8, .int 0), (7, .int 33), (6, .int 0), (5, .int 0), (4, .int 5), (2, .long 0), (0, .ref m0), (1, .int 33)]) hx hb d_Md_takeSigned_95 hl (by decide) rfl (fun ls hl => ?_)
    refine lv_aload_n hx hb d_Md_takeSigned_97 rfl (lv_at hl 7 rfl) ?_
    refine va_get (D := D) (ci := 6) (v := .int (nI f17)) (C := R_Md) (T := F_Md) (N := 44) hx hb hts (fun w h => List.mem_cons_of_mem _ (i_Md w h)) hown hE.1 hP 0 rfl rfl 3 (by decide) (hts _ (List.mem_cons_of_mem _ iw3_57)) (fun _ h9 => h9) rfl d_Md_takeSigned_98 ?_
    refine lv_if_ne (tgt := 134) hx hb d_Md_takeSigned_101 (by decide) (fun c_101 => ?_) (fun c_101 => absurd c_101 (hf17.n0))
    refine lv_lload_n hx hb d_Md_takeSigned_134 rfl (lv_at hl 6 rfl) ?_
    refine lv_iload hx hb d_Md_takeSigned_135 (lv_at hl 3 rfl) ?_
    refine lv_bipush (v := 127) hx hb d_Md_takeSigned_137 (by decide) ?_
    refine lv_iand hx hb d_Md_takeSigned_139 ?_
    refine W.eq (g2 := F0 m 140 ls [.int 0, .long 0]) (by rw [show (0 : Int32) &&& 127 = 0 from by decide +kernel]) ?_
    refine lv_i2l hx hb d_Md_takeSigned_140 rfl ?_
    refine lv_bipush (v := 7) hx hb d_Md_takeSigned_141 (by decide) ?_
    refine lv_iload hx hb d_Md_takeSigned_143 (lv_at hl 4 rfl) ?_
    refine lv_imul hx hb d_Md_takeSigned_145 ?_
    refine W.eq (g2 := F0 m 146 ls [.int 0, .long ((0 : Int32).toInt64), .long 0]) (by rw [show (7 : Int32) * 0 = 0 from by decide +kernel]) ?_
    refine lv_lshl hx hb d_Md_takeSigned_146 rfl ?_
    refine lv_lor hx hb d_Md_takeSigned_147 ?_
    refine lv_topl (fun yF eyF => ?_)
    refine lv_lstore_n (lv' := [(2, .long yF), (9, .int 1), (8, .int 0), (7, .int 33), (6, .int 0), (5, .int 0), (4, .int 5), (0, .ref m0), (1, .int 33)]) hx hb d_Md_takeSigned_148 rfl hl (by decide) rfl (fun ls hl => ?_)
    refine lv_bipush (v := 7) hx hb d_Md_takeSigned_149 (by decide) ?_
    refine lv_iload hx hb d_Md_takeSigned_151 (lv_at hl 5 rfl) ?_
    refine lv_imul hx hb d_Md_takeSigned_153 ?_
    refine W.eq (g2 := F0 m 154 ls [.int 0]) (by rw [show (7 : Int32) * 0 = 0 from by decide +kernel]) ?_
    refine lv_bipush (v := 7) hx hb d_Md_takeSigned_154 (by decide) ?_
    refine lv_iadd hx hb d_Md_takeSigned_156 ?_
    refine W.eq (g2 := F0 m 157 ls [.int 7]) (by rw [show (0 : Int32) + 7 = 7 from by decide +kernel]) ?_
    refine lv_istore (lv' := [(10, .int 7), (2, .long yF), (9, .int 1), (8, .int 0), (7, .int 33), (6, .int 0), (5, .int 0), (4, .int 5), (0, .ref m0), (1, .int 33)]) hx hb d_Md_takeSigned_157 hl (by decide) rfl (fun ls hl => ?_)
    refine lv_iload hx hb d_Md_takeSigned_159 (lv_at hl 5 rfl) ?_
    refine lv_sipush (v := 128) hx hb d_Md_takeSigned_161 (by decide) ?_
    refine lv_icmp_ge (tgt := 192) hx hb d_Md_takeSigned_164 (by decide) (fun c_164 => absurd c_164 (by decide)) (fun c_164 => ?_)
    refine lv_iload hx hb d_Md_takeSigned_167 (lv_at hl 0 rfl) ?_
    refine lv_bipush (v := 64) hx hb d_Md_takeSigned_169 (by decide) ?_
    refine lv_icmp_ge (tgt := 190) hx hb d_Md_takeSigned_171 (by decide) (fun c_171 => absurd c_171 (by decide)) (fun c_171 => ?_)
    refine lv_lload_n hx hb d_Md_takeSigned_174 rfl (lv_at hl 1 rfl) ?_
    refine lv_bipush (v := 64) hx hb d_Md_takeSigned_175 (by decide) ?_
    refine lv_iload hx hb d_Md_takeSigned_177 (lv_at hl 0 rfl) ?_
    refine lv_isub hx hb d_Md_takeSigned_179 ?_
    refine W.eq (g2 := F0 m 180 ls [.int 57, .long yF]) (by rw [show (64 : Int32) - 7 = 57 from by decide +kernel]) ?_
    refine lv_lshl hx hb d_Md_takeSigned_180 rfl ?_
    refine lv_bipush (v := 64) hx hb d_Md_takeSigned_181 (by decide) ?_
    refine lv_iload hx hb d_Md_takeSigned_183 (lv_at hl 0 rfl) ?_
    refine lv_isub hx hb d_Md_takeSigned_185 ?_
    refine W.eq (g2 := F0 m 186 ls [.int 57, .long (yF <<< ((57 : Int32).toInt64 &&& 63))]) (by rw [show (64 : Int32) - 7 = 57 from by decide +kernel]) ?_
    refine lv_lshr hx hb d_Md_takeSigned_186 rfl ?_
    refine lv_goto (tgt := 191) hx hb d_Md_takeSigned_187 (by decide) ?_
    exact cRl ((nI zz17, nI f17, nI q17) : A3) hx hb hr hlocks d_Md_takeSigned_191 hS hP hD (Or.inl ⟨f17, q17, by rw [show pS33 b lm a = pSg b lm 5 33 a from rfl, hU0, pSg_T hr17], hf17, rfl, ⟨_, rfl⟩, zz17, by omega, rfl⟩) (Nat.le_refl _) (Nat.le_refl _)
  · obtain ⟨hla17, hgt17, hv17, hbd17⟩ := (pNext_ok2 hr17 hb9)
    have hP : va_P D cls [(m0, .inr (6, mF g K (nI a17, 0, p) e (nI np) B)), ((g 0), .inl (cA 3, 2000, .inl fd)), ((g 10), .inl (cA 3, 4, .inl pe))] H := hP
    have hD : va_D A [(m0, .inr (6, mF g K (nI a17, 0, p) e (nI np) B)), ((g 0), .inl (cA 3, 2000, .inl fd)), ((g 10), .inl (cA 3, 4, .inl pe))] := hD
    refine W.cs (cells' := 0) (slots' := 0) rfl rfl ?_
    refine W.eq (g2 := F0 m 32 ls [.int (nI v17)]) rfl ?_
    obtain ⟨hbd17, ean17⟩ := hbd17
    subst ean17
    have hP : va_P D cls [(m0, .inr (6, mF g K (nI (a + 1), 0, p) e (nI np) B)), ((g 0), .inl (cA 3, 2000, .inl fd)), ((g 10), .inl (cA 3, 4, .inl pe))] H := hP
    have hD : va_D A [(m0, .inr (6, mF g K (nI (a + 1), 0, p) e (nI np) B)), ((g 0), .inl (cA 3, 2000, .inl fd)), ((g 10), .inl (cA 3, 4, .inl pe))] := hD
    refine lv_istore (lv' := [(6, .int (nI v17)), (5, .int 0), (4, .int 5), (2, .long 0), (0, .ref m0), (1, .int 33)]) hx hb d_Md_takeSigned_32 hl (by decide) rfl (fun ls hl => ?_)
    refine lv_iload_n hx hb d_Md_takeSigned_34 rfl (lv_at hl 5 rfl) ?_
    refine lv_bipush (v := 7) hx hb d_Md_takeSigned_35 (by decide) ?_
    refine lv_iload hx hb d_Md_takeSigned_37 (lv_at hl 1 rfl) ?_
    refine lv_imul hx hb d_Md_takeSigned_39 ?_
    refine W.eq (g2 := F0 m 40 ls [.int 0, .int 33]) (by rw [show (7 : Int32) * 0 = 0 from by decide +kernel]) ?_
    refine lv_isub hx hb d_Md_takeSigned_40 ?_
    refine W.eq (g2 := F0 m 41 ls [.int 33]) (by rw [show (33 : Int32) - 0 = 33 from by decide +kernel]) ?_
    refine lv_istore (lv' := [(7, .int 33), (6, .int (nI v17)), (5, .int 0), (4, .int 5), (2, .long 0), (0, .ref m0), (1, .int 33)]) hx hb d_Md_takeSigned_41 hl (by decide) rfl (fun ls hl => ?_)
    refine lv_iload hx hb d_Md_takeSigned_43 (lv_at hl 0 rfl) ?_
    refine lv_bipush (v := 7) hx hb d_Md_takeSigned_45 (by decide) ?_
    refine lv_icmp_ge (tgt := 63) hx hb d_Md_takeSigned_47 (by decide) (fun c_47 => ?_) (fun c_47 => absurd (by decide) c_47)
    refine lv_iconst (v := 0) hx hb d_Md_takeSigned_63 (by decide) ?_
    refine lv_istore (lv' := [(8, .int 0), (7, .int 33), (6, .int (nI v17)), (5, .int 0), (4, .int 5), (2, .long 0), (0, .ref m0), (1, .int 33)]) hx hb d_Md_takeSigned_64 hl (by decide) rfl (fun ls hl => ?_)
    refine lv_iload hx hb d_Md_takeSigned_66 (lv_at hl 1 rfl) ?_
    refine lv_bipush (v := 7) hx hb d_Md_takeSigned_68 (by decide) ?_
    refine lv_icmp_ge (tgt := 90) hx hb d_Md_takeSigned_70 (by decide) (fun c_70 => ?_) (fun c_70 => absurd (by decide) c_70)
    refine lv_iconst (v := 1) hx hb d_Md_takeSigned_90 (by decide) ?_
    refine lv_goto (tgt := 95) hx hb d_Md_takeSigned_91 (by decide) ?_
    refine lv_istore (lv' := [(9, .int 1), (8, .int 0), (7, .int 33), (6, .int (nI v17)), (5, .int 0), (4, .int 5), (2, .long 0), (0, .ref m0), (1, .int 33)]) hx hb d_Md_takeSigned_95 hl (by decide) rfl (fun ls hl => ?_)
    refine lv_aload_n hx hb d_Md_takeSigned_97 rfl (lv_at hl 7 rfl) ?_
    refine va_get (D := D) (ci := 6) (v := .int 0) (C := R_Md) (T := F_Md) (N := 44) hx hb hts (fun w h => List.mem_cons_of_mem _ (i_Md w h)) hown hE.1 hP 0 rfl rfl 3 (by decide) (hts _ (List.mem_cons_of_mem _ iw3_57)) (fun _ h9 => h9) rfl d_Md_takeSigned_98 ?_
    refine lv_if_ne (tgt := 134) hx hb d_Md_takeSigned_101 (by decide) (fun c_101 => absurd (by decide) c_101) (fun c_101 => ?_)
    refine lv_iload hx hb d_Md_takeSigned_104 (lv_at hl 2 rfl) ?_
    refine lv_bipush (v := 8) hx hb d_Md_takeSigned_106 (by decide) ?_
    refine lv_icmp_ge (tgt := 134) hx hb d_Md_takeSigned_108 (by decide) (fun c_108 => ?_) (fun c_108 => absurd (by decide) c_108)
    have ho0 : ¬ (33 ≤ 7 ∧ sTop 33 v17 = false) := fun q => absurd q.1 (by decide)
    refine lv_lload_n hx hb d_Md_takeSigned_134 rfl (lv_at hl 6 rfl) ?_
    refine lv_iload hx hb d_Md_takeSigned_135 (lv_at hl 3 rfl) ?_
    refine lv_bipush (v := 127) hx hb d_Md_takeSigned_137 (by decide) ?_
    refine lv_iand hx hb d_Md_takeSigned_139 ?_
    refine lv_i2l hx hb d_Md_takeSigned_140 rfl ?_
    refine lv_bipush (v := 7) hx hb d_Md_takeSigned_141 (by decide) ?_
    refine lv_iload hx hb d_Md_takeSigned_143 (lv_at hl 4 rfl) ?_
    refine lv_imul hx hb d_Md_takeSigned_145 ?_
    refine W.eq (g2 := F0 m 146 ls [.int 0, .long (((nI v17) &&& 127).toInt64), .long 0]) (by rw [show (7 : Int32) * 0 = 0 from by decide +kernel]) ?_
    refine lv_lshl hx hb d_Md_takeSigned_146 rfl ?_
    refine lv_lor hx hb d_Md_takeSigned_147 ?_
    refine lv_topl (fun y0_ ey0_ => ?_)
    have hy0_ : y0_ = lN (0 + v17 % 128 * 2 ^ 0) := ey0_.trans (u_step 0 (by decide) (by decide) (v := 0) (by decide) hbd17)
    have hW0 : 0 + v17 % 128 * 2 ^ 0 < 2 ^ 7 := u_bd (k := 0) (by decide)
    have hsg0 : v17 < 128 → ((lN (0 + v17 % 128 * 2 ^ 0) <<< ((57 : Int32).toInt64 &&& 63)) >>> ((57 : Int32).toInt64 &&& 63) < 0 ↔ ¬ v17 / 64 % 2 = 0) := fun q => by rw [Nat.mod_eq_of_lt q]; exact sg_neg (o := 0) (g := v17) (sh := 0) (by decide) q (by decide)
    generalize 0 + v17 % 128 * 2 ^ 0 = V1 at hy0_ hW0 hsg0
    subst hy0_
    refine lv_lstore_n (lv' := [(2, .long (lN V1)), (9, .int 1), (8, .int 0), (7, .int 33), (6, .int (nI v17)), (5, .int 0), (4, .int 5), (0, .ref m0), (1, .int 33)]) hx hb d_Md_takeSigned_148 rfl hl (by decide) rfl (fun ls hl => ?_)
    refine lv_bipush (v := 7) hx hb d_Md_takeSigned_149 (by decide) ?_
    refine lv_iload hx hb d_Md_takeSigned_151 (lv_at hl 5 rfl) ?_
    refine lv_imul hx hb d_Md_takeSigned_153 ?_
    refine W.eq (g2 := F0 m 154 ls [.int 0]) (by rw [show (7 : Int32) * 0 = 0 from by decide +kernel]) ?_
    refine lv_bipush (v := 7) hx hb d_Md_takeSigned_154 (by decide) ?_
    refine lv_iadd hx hb d_Md_takeSigned_156 ?_
    refine W.eq (g2 := F0 m 157 ls [.int 7]) (by rw [show (0 : Int32) + 7 = 7 from by decide +kernel]) ?_
    refine lv_istore (lv' := [(10, .int 7), (2, .long (lN V1)), (9, .int 1), (8, .int 0), (7, .int 33), (6, .int (nI v17)), (5, .int 0), (4, .int 5), (0, .ref m0), (1, .int 33)]) hx hb d_Md_takeSigned_157 hl (by decide) rfl (fun ls hl => ?_)
    refine lv_iload hx hb d_Md_takeSigned_159 (lv_at hl 5 rfl) ?_
    refine lv_sipush (v := 128) hx hb d_Md_takeSigned_161 (by decide) ?_
    refine lv_icmp_ge (tgt := 192) hx hb d_Md_takeSigned_164 (by decide) (fun c_164 => ?_) (fun c_164 => ?_)
    · have hd0 : ¬ v17 < 128 := fun q => absurd ((nI_leI (a := 128) (b := v17) (by omega) (by omega)).mp c_164) (by omega)
      have hV1 := hW0
      have hU1 : pSg b lm 5 33 a = pSg b lm 4 26 (a + 1) := hU0.trans (pSg_C hr17 ho0 hd0)
      refine lv_iinc (v := 1) (lv' := [(5, .int 1), (10, .int 7), (2, .long (lN V1)), (9, .int 1), (8, .int 0), (7, .int 33), (6, .int (nI v17)), (4, .int 5), (0, .ref m0), (1, .int 33)]) hx hb d_Md_takeSigned_192 hl (k := 6) rfl (by decide) (by decide) rfl (fun ls hl => ?_)
      refine lv_goto (tgt := 14) hx hb d_Md_takeSigned_195 (by decide) ?_
      refine lv_iload hx hb d_Md_takeSigned_14 (lv_at hl 0 rfl) ?_
      refine lv_iload hx hb d_Md_takeSigned_16 (lv_at hl 7 rfl) ?_
      refine lv_icmp_ge (tgt := 198) hx hb d_Md_takeSigned_18 (by decide) (fun c_18 => absurd c_18 (by decide)) (fun c_18 => ?_)
      refine lv_aload_n hx hb d_Md_takeSigned_21 rfl (lv_at hl 8 rfl) ?_
      refine va_get (D := D) (ci := 6) (v := .int 0) (C := R_Md) (T := F_Md) (N := 44) hx hb hts (fun w h => List.mem_cons_of_mem _ (i_Md w h)) hown hE.1 hP 0 rfl rfl 3 (by decide) (hts _ (List.mem_cons_of_mem _ iw3_57)) (fun _ h9 => h9) rfl d_Md_takeSigned_22 ?_
      refine lv_if_ne (tgt := 198) hx hb d_Md_takeSigned_25 (by decide) (fun c_25 => absurd (by decide) c_25) (fun c_25 => ?_)
      refine lv_aload_n hx hb d_Md_takeSigned_28 rfl (lv_at hl 8 rfl) ?_
      refine cV (As := []) (rest := []) (n := 0) (wc := [(m0, .inr (6, mF g K (nI (a + 1), 0, p) e (nI np) B)), ((g 0), .inl (cA 3, 2000, .inl fd)), ((g 10), .inl (cA 3, 4, .inl pe))]) (wr := []) ⟨hx, hb, hml, hown, hts⟩ hno hlocks hl.1 (c_Md_take l hl9 D cA ad H.size m0 g K e np B fd pe b N lm hnp hpe hlm hN hfd hb9 (a + 1) p (by omega) ) iw3_212 iw3_214 sel_Md_take iw1_7 iw3_215 (by decide +kernel) rfl ⟨Nat.le_of_ble_eq_true rfl, Nat.le_of_ble_eq_true rfl⟩ ⟨Nat.le_of_ble_eq_true rfl, Nat.le_of_ble_eq_true rfl⟩ rfl (Nat.le_of_ble_eq_true rfl) d_Md_takeSigned_29 hE hP hD hS hA [0, 1, 2] [] rfl rfl rfl rfl (by decide) (ci := 6) rfl rfl 0 rfl (fun _ h => h.elim) (fun v_29 u_29 H locs hp_29 hP hD hS => ?_)
      rcases hp_29 with ⟨f18, q18, hr18, hf18, hB18, rfl, zz18, hzz18, hzx18⟩ | ⟨v18, a18, hr18, rfl, rfl⟩
      · obtain ⟨x18, y18, z18⟩ := u_29
        cases hB18
        have hzx18 : x18 = nI zz18 := hzx18
        subst hzx18
        have hP : va_P D cls [(m0, .inr (6, mF g K (nI zz18, nI f18, nI q18) e (nI np) B)), ((g 0), .inl (cA 3, 2000, .inl fd)), ((g 10), .inl (cA 3, 4, .inl pe))] H := hP
        have hD : va_D A [(m0, .inr (6, mF g K (nI zz18, nI f18, nI q18) e (nI np) B)), ((g 0), .inl (cA 3, 2000, .inl fd)), ((g 10), .inl (cA 3, 4, .inl pe))] := hD
        refine W.cs (cells' := 0) (slots' := 0) rfl rfl ?_
        refine W.eq (g2 := F0 m 32 ls [.int 0]) rfl ?_
        refine lv_istore (lv' := [(6, .int 0), (5, .int 1), (10, .int 7), (2, .long (lN V1)), (9, .int 1), (8, .int 0), (7, .int 33), (4, .int 5), (0, .ref m0), (1, .int 33)]) hx hb d_Md_takeSigned_32 hl (by decide) rfl (fun ls hl => ?_)
        refine lv_iload_n hx hb d_Md_takeSigned_34 rfl (lv_at hl 9 rfl) ?_
        refine lv_bipush (v := 7) hx hb d_Md_takeSigned_35 (by decide) ?_
        refine lv_iload hx hb d_Md_takeSigned_37 (lv_at hl 1 rfl) ?_
        refine lv_imul hx hb d_Md_takeSigned_39 ?_
        refine W.eq (g2 := F0 m 40 ls [.int 7, .int 33]) (by rw [show (7 : Int32) * 1 = 7 from by decide +kernel]) ?_
        refine lv_isub hx hb d_Md_takeSigned_40 ?_
        refine W.eq (g2 := F0 m 41 ls [.int 26]) (by rw [show (33 : Int32) - 7 = 26 from by decide +kernel]) ?_
        refine lv_istore (lv' := [(7, .int 26), (6, .int 0), (5, .int 1), (10, .int 7), (2, .long (lN V1)), (9, .int 1), (8, .int 0), (4, .int 5), (0, .ref m0), (1, .int 33)]) hx hb d_Md_takeSigned_41 hl (by decide) rfl (fun ls hl => ?_)
        refine lv_iload hx hb d_Md_takeSigned_43 (lv_at hl 0 rfl) ?_
        refine lv_bipush (v := 7) hx hb d_Md_takeSigned_45 (by decide) ?_
        refine lv_icmp_ge (tgt := 63) hx hb d_Md_takeSigned_47 (by decide) (fun c_47 => ?_) (fun c_47 => absurd (by decide) c_47)
        refine lv_iconst (v := 0) hx hb d_Md_takeSigned_63 (by decide) ?_
        refine lv_istore (lv' := [(8, .int 0), (7, .int 26), (6, .int 0), (5, .int 1), (10, .int 7), (2, .long (lN V1)), (9, .int 1), (4, .int 5), (0, .ref m0), (1, .int 33)]) hx hb d_Md_takeSigned_64 hl (by decide) rfl (fun ls hl => ?_)
        refine lv_iload hx hb d_Md_takeSigned_66 (lv_at hl 1 rfl) ?_
        refine lv_bipush (v := 7) hx hb d_Md_takeSigned_68 (by decide) ?_
        refine lv_icmp_ge (tgt := 90) hx hb d_Md_takeSigned_70 (by decide) (fun c_70 => ?_) (fun c_70 => absurd (by decide) c_70)
        refine lv_iconst (v := 1) hx hb d_Md_takeSigned_90 (by decide) ?_
        refine lv_goto (tgt := 95) hx hb d_Md_takeSigned_91 (by decide) ?_
        refine lv_istore (lv' := [(9, .int 1), (8, .int 0), (7, .int 26), (6, .int 0), (5, .int 1), (10, .int 7), (2, .long (lN V1)), (4, .int 5), (0, .ref m0), (1, .int 33)]) hx hb d_Md_takeSigned_95 hl (by decide) rfl (fun ls hl => ?_)
        refine lv_aload_n hx hb d_Md_takeSigned_97 rfl (lv_at hl 8 rfl) ?_
        refine va_get (D := D) (ci := 6) (v := .int (nI f18)) (C := R_Md) (T := F_Md) (N := 44) hx hb hts (fun w h => List.mem_cons_of_mem _ (i_Md w h)) hown hE.1 hP 0 rfl rfl 3 (by decide) (hts _ (List.mem_cons_of_mem _ iw3_57)) (fun _ h9 => h9) rfl d_Md_takeSigned_98 ?_
        refine lv_if_ne (tgt := 134) hx hb d_Md_takeSigned_101 (by decide) (fun c_101 => ?_) (fun c_101 => absurd c_101 (hf18.n0))
        refine lv_lload_n hx hb d_Md_takeSigned_134 rfl (lv_at hl 6 rfl) ?_
        refine lv_iload hx hb d_Md_takeSigned_135 (lv_at hl 3 rfl) ?_
        refine lv_bipush (v := 127) hx hb d_Md_takeSigned_137 (by decide) ?_
        refine lv_iand hx hb d_Md_takeSigned_139 ?_
        refine W.eq (g2 := F0 m 140 ls [.int 0, .long (lN V1)]) (by rw [show (0 : Int32) &&& 127 = 0 from by decide +kernel]) ?_
        refine lv_i2l hx hb d_Md_takeSigned_140 rfl ?_
        refine lv_bipush (v := 7) hx hb d_Md_takeSigned_141 (by decide) ?_
        refine lv_iload hx hb d_Md_takeSigned_143 (lv_at hl 4 rfl) ?_
        refine lv_imul hx hb d_Md_takeSigned_145 ?_
        refine W.eq (g2 := F0 m 146 ls [.int 7, .long ((0 : Int32).toInt64), .long (lN V1)]) (by rw [show (7 : Int32) * 1 = 7 from by decide +kernel]) ?_
        refine lv_lshl hx hb d_Md_takeSigned_146 rfl ?_
        refine lv_lor hx hb d_Md_takeSigned_147 ?_
        refine lv_topl (fun yF eyF => ?_)
        refine lv_lstore_n (lv' := [(2, .long yF), (9, .int 1), (8, .int 0), (7, .int 26), (6, .int 0), (5, .int 1), (10, .int 7), (4, .int 5), (0, .ref m0), (1, .int 33)]) hx hb d_Md_takeSigned_148 rfl hl (by decide) rfl (fun ls hl => ?_)
        refine lv_bipush (v := 7) hx hb d_Md_takeSigned_149 (by decide) ?_
        refine lv_iload hx hb d_Md_takeSigned_151 (lv_at hl 5 rfl) ?_
        refine lv_imul hx hb d_Md_takeSigned_153 ?_
        refine W.eq (g2 := F0 m 154 ls [.int 7]) (by rw [show (7 : Int32) * 1 = 7 from by decide +kernel]) ?_
        refine lv_bipush (v := 7) hx hb d_Md_takeSigned_154 (by decide) ?_
        refine lv_iadd hx hb d_Md_takeSigned_156 ?_
        refine W.eq (g2 := F0 m 157 ls [.int 14]) (by rw [show (7 : Int32) + 7 = 14 from by decide +kernel]) ?_
        refine lv_istore (lv' := [(10, .int 14), (2, .long yF), (9, .int 1), (8, .int 0), (7, .int 26), (6, .int 0), (5, .int 1), (4, .int 5), (0, .ref m0), (1, .int 33)]) hx hb d_Md_takeSigned_157 hl (by decide) rfl (fun ls hl => ?_)
        refine lv_iload hx hb d_Md_takeSigned_159 (lv_at hl 5 rfl) ?_
        refine lv_sipush (v := 128) hx hb d_Md_takeSigned_161 (by decide) ?_
        refine lv_icmp_ge (tgt := 192) hx hb d_Md_takeSigned_164 (by decide) (fun c_164 => absurd c_164 (by decide)) (fun c_164 => ?_)
        refine lv_iload hx hb d_Md_takeSigned_167 (lv_at hl 0 rfl) ?_
        refine lv_bipush (v := 64) hx hb d_Md_takeSigned_169 (by decide) ?_
        refine lv_icmp_ge (tgt := 190) hx hb d_Md_takeSigned_171 (by decide) (fun c_171 => absurd c_171 (by decide)) (fun c_171 => ?_)
        refine lv_lload_n hx hb d_Md_takeSigned_174 rfl (lv_at hl 1 rfl) ?_
        refine lv_bipush (v := 64) hx hb d_Md_takeSigned_175 (by decide) ?_
        refine lv_iload hx hb d_Md_takeSigned_177 (lv_at hl 0 rfl) ?_
        refine lv_isub hx hb d_Md_takeSigned_179 ?_
        refine W.eq (g2 := F0 m 180 ls [.int 50, .long yF]) (by rw [show (64 : Int32) - 14 = 50 from by decide +kernel]) ?_
        refine lv_lshl hx hb d_Md_takeSigned_180 rfl ?_
        refine lv_bipush (v := 64) hx hb d_Md_takeSigned_181 (by decide) ?_
        refine lv_iload hx hb d_Md_takeSigned_183 (lv_at hl 0 rfl) ?_
        refine lv_isub hx hb d_Md_takeSigned_185 ?_
        refine W.eq (g2 := F0 m 186 ls [.int 50, .long (yF <<< ((50 : Int32).toInt64 &&& 63))]) (by rw [show (64 : Int32) - 14 = 50 from by decide +kernel]) ?_
        refine lv_lshr hx hb d_Md_takeSigned_186 rfl ?_
        refine lv_goto (tgt := 191) hx hb d_Md_takeSigned_187 (by decide) ?_
        exact cRl ((nI zz18, nI f18, nI q18) : A3) hx hb hr hlocks d_Md_takeSigned_191 hS hP hD (Or.inl ⟨f18, q18, by rw [show pS33 b lm a = pSg b lm 5 33 a from rfl, hU1, pSg_T hr18], hf18, rfl, ⟨_, rfl⟩, zz18, by omega, rfl⟩) (Nat.le_refl _) (Nat.le_refl _)
      · obtain ⟨hla18, hgt18, hv18, hbd18⟩ := (pNext_ok2 hr18 hb9)
        have hP : va_P D cls [(m0, .inr (6, mF g K (nI a18, 0, p) e (nI np) B)), ((g 0), .inl (cA 3, 2000, .inl fd)), ((g 10), .inl (cA 3, 4, .inl pe))] H := hP
        have hD : va_D A [(m0, .inr (6, mF g K (nI a18, 0, p) e (nI np) B)), ((g 0), .inl (cA 3, 2000, .inl fd)), ((g 10), .inl (cA 3, 4, .inl pe))] := hD
        refine W.cs (cells' := 0) (slots' := 0) rfl rfl ?_
        refine W.eq (g2 := F0 m 32 ls [.int (nI v18)]) rfl ?_
        obtain ⟨hbd18, ean18⟩ := hbd18
        subst ean18
        have hP : va_P D cls [(m0, .inr (6, mF g K (nI ((a + 1) + 1), 0, p) e (nI np) B)), ((g 0), .inl (cA 3, 2000, .inl fd)), ((g 10), .inl (cA 3, 4, .inl pe))] H := hP
        have hD : va_D A [(m0, .inr (6, mF g K (nI ((a + 1) + 1), 0, p) e (nI np) B)), ((g 0), .inl (cA 3, 2000, .inl fd)), ((g 10), .inl (cA 3, 4, .inl pe))] := hD
        refine lv_istore (lv' := [(6, .int (nI v18)), (5, .int 1), (10, .int 7), (2, .long (lN V1)), (9, .int 1), (8, .int 0), (7, .int 33), (4, .int 5), (0, .ref m0), (1, .int 33)]) hx hb d_Md_takeSigned_32 hl (by decide) rfl (fun ls hl => ?_)
        refine lv_iload_n hx hb d_Md_takeSigned_34 rfl (lv_at hl 9 rfl) ?_
        refine lv_bipush (v := 7) hx hb d_Md_takeSigned_35 (by decide) ?_
        refine lv_iload hx hb d_Md_takeSigned_37 (lv_at hl 1 rfl) ?_
        refine lv_imul hx hb d_Md_takeSigned_39 ?_
        refine W.eq (g2 := F0 m 40 ls [.int 7, .int 33]) (by rw [show (7 : Int32) * 1 = 7 from by decide +kernel]) ?_
        refine lv_isub hx hb d_Md_takeSigned_40 ?_
        refine W.eq (g2 := F0 m 41 ls [.int 26]) (by rw [show (33 : Int32) - 7 = 26 from by decide +kernel]) ?_
        refine lv_istore (lv' := [(7, .int 26), (6, .int (nI v18)), (5, .int 1), (10, .int 7), (2, .long (lN V1)), (9, .int 1), (8, .int 0), (4, .int 5), (0, .ref m0), (1, .int 33)]) hx hb d_Md_takeSigned_41 hl (by decide) rfl (fun ls hl => ?_)
        refine lv_iload hx hb d_Md_takeSigned_43 (lv_at hl 0 rfl) ?_
        refine lv_bipush (v := 7) hx hb d_Md_takeSigned_45 (by decide) ?_
        refine lv_icmp_ge (tgt := 63) hx hb d_Md_takeSigned_47 (by decide) (fun c_47 => ?_) (fun c_47 => absurd (by decide) c_47)
        refine lv_iconst (v := 0) hx hb d_Md_takeSigned_63 (by decide) ?_
        refine lv_istore (lv' := [(8, .int 0), (7, .int 26), (6, .int (nI v18)), (5, .int 1), (10, .int 7), (2, .long (lN V1)), (9, .int 1), (4, .int 5), (0, .ref m0), (1, .int 33)]) hx hb d_Md_takeSigned_64 hl (by decide) rfl (fun ls hl => ?_)
        refine lv_iload hx hb d_Md_takeSigned_66 (lv_at hl 1 rfl) ?_
        refine lv_bipush (v := 7) hx hb d_Md_takeSigned_68 (by decide) ?_
        refine lv_icmp_ge (tgt := 90) hx hb d_Md_takeSigned_70 (by decide) (fun c_70 => ?_) (fun c_70 => absurd (by decide) c_70)
        refine lv_iconst (v := 1) hx hb d_Md_takeSigned_90 (by decide) ?_
        refine lv_goto (tgt := 95) hx hb d_Md_takeSigned_91 (by decide) ?_
        refine lv_istore (lv' := [(9, .int 1), (8, .int 0), (7, .int 26), (6, .int (nI v18)), (5, .int 1), (10, .int 7), (2, .long (lN V1)), (4, .int 5), (0, .ref m0), (1, .int 33)]) hx hb d_Md_takeSigned_95 hl (by decide) rfl (fun ls hl => ?_)
        refine lv_aload_n hx hb d_Md_takeSigned_97 rfl (lv_at hl 8 rfl) ?_
        refine va_get (D := D) (ci := 6) (v := .int 0) (C := R_Md) (T := F_Md) (N := 44) hx hb hts (fun w h => List.mem_cons_of_mem _ (i_Md w h)) hown hE.1 hP 0 rfl rfl 3 (by decide) (hts _ (List.mem_cons_of_mem _ iw3_57)) (fun _ h9 => h9) rfl d_Md_takeSigned_98 ?_
        refine lv_if_ne (tgt := 134) hx hb d_Md_takeSigned_101 (by decide) (fun c_101 => absurd (by decide) c_101) (fun c_101 => ?_)
        refine lv_iload hx hb d_Md_takeSigned_104 (lv_at hl 2 rfl) ?_
        refine lv_bipush (v := 8) hx hb d_Md_takeSigned_106 (by decide) ?_
        refine lv_icmp_ge (tgt := 134) hx hb d_Md_takeSigned_108 (by decide) (fun c_108 => ?_) (fun c_108 => absurd (by decide) c_108)
        have ho1 : ¬ (26 ≤ 7 ∧ sTop 26 v18 = false) := fun q => absurd q.1 (by decide)
        refine lv_lload_n hx hb d_Md_takeSigned_134 rfl (lv_at hl 6 rfl) ?_
        refine lv_iload hx hb d_Md_takeSigned_135 (lv_at hl 3 rfl) ?_
        refine lv_bipush (v := 127) hx hb d_Md_takeSigned_137 (by decide) ?_
        refine lv_iand hx hb d_Md_takeSigned_139 ?_
        refine lv_i2l hx hb d_Md_takeSigned_140 rfl ?_
        refine lv_bipush (v := 7) hx hb d_Md_takeSigned_141 (by decide) ?_
        refine lv_iload hx hb d_Md_takeSigned_143 (lv_at hl 4 rfl) ?_
        refine lv_imul hx hb d_Md_takeSigned_145 ?_
        refine W.eq (g2 := F0 m 146 ls [.int 7, .long (((nI v18) &&& 127).toInt64), .long (lN V1)]) (by rw [show (7 : Int32) * 1 = 7 from by decide +kernel]) ?_
        refine lv_lshl hx hb d_Md_takeSigned_146 rfl ?_
        refine lv_lor hx hb d_Md_takeSigned_147 ?_
        refine lv_topl (fun y1_ ey1_ => ?_)
        have hy1_ : y1_ = lN (V1 + v18 % 128 * 2 ^ 7) := ey1_.trans (u_step 7 (by decide) (by decide) (v := V1) hV1 hbd18)
        have hW1 : V1 + v18 % 128 * 2 ^ 7 < 2 ^ 14 := u_bd (k := 7) hV1
        have hsg1 : v18 < 128 → ((lN (V1 + v18 % 128 * 2 ^ 7) <<< ((50 : Int32).toInt64 &&& 63)) >>> ((50 : Int32).toInt64 &&& 63) < 0 ↔ ¬ v18 / 64 % 2 = 0) := fun q => by rw [Nat.mod_eq_of_lt q]; exact sg_neg (o := V1) (g := v18) (sh := 7) hV1 q (by decide)
        generalize V1 + v18 % 128 * 2 ^ 7 = V2 at hy1_ hW1 hsg1
        subst hy1_
        refine lv_lstore_n (lv' := [(2, .long (lN V2)), (9, .int 1), (8, .int 0), (7, .int 26), (6, .int (nI v18)), (5, .int 1), (10, .int 7), (4, .int 5), (0, .ref m0), (1, .int 33)]) hx hb d_Md_takeSigned_148 rfl hl (by decide) rfl (fun ls hl => ?_)
        refine lv_bipush (v := 7) hx hb d_Md_takeSigned_149 (by decide) ?_
        refine lv_iload hx hb d_Md_takeSigned_151 (lv_at hl 5 rfl) ?_
        refine lv_imul hx hb d_Md_takeSigned_153 ?_
        refine W.eq (g2 := F0 m 154 ls [.int 7]) (by rw [show (7 : Int32) * 1 = 7 from by decide +kernel]) ?_
        refine lv_bipush (v := 7) hx hb d_Md_takeSigned_154 (by decide) ?_
        refine lv_iadd hx hb d_Md_takeSigned_156 ?_
        refine W.eq (g2 := F0 m 157 ls [.int 14]) (by rw [show (7 : Int32) + 7 = 14 from by decide +kernel]) ?_
        refine lv_istore (lv' := [(10, .int 14), (2, .long (lN V2)), (9, .int 1), (8, .int 0), (7, .int 26), (6, .int (nI v18)), (5, .int 1), (4, .int 5), (0, .ref m0), (1, .int 33)]) hx hb d_Md_takeSigned_157 hl (by decide) rfl (fun ls hl => ?_)
        refine lv_iload hx hb d_Md_takeSigned_159 (lv_at hl 5 rfl) ?_
        refine lv_sipush (v := 128) hx hb d_Md_takeSigned_161 (by decide) ?_
        refine lv_icmp_ge (tgt := 192) hx hb d_Md_takeSigned_164 (by decide) (fun c_164 => ?_) (fun c_164 => ?_)
        · have hd1 : ¬ v18 < 128 := fun q => absurd ((nI_leI (a := 128) (b := v18) (by omega) (by omega)).mp c_164) (by omega)
          have hV2 := hW1
          have hU2 : pSg b lm 5 33 a = pSg b lm 3 19 ((a + 1) + 1) := hU1.trans (pSg_C hr18 ho1 hd1)
          refine lv_iinc (v := 2) (lv' := [(5, .int 2), (10, .int 14), (2, .long (lN V2)), (9, .int 1), (8, .int 0), (7, .int 26), (6, .int (nI v18)), (4, .int 5), (0, .ref m0), (1, .int 33)]) hx hb d_Md_takeSigned_192 hl (k := 6) rfl (by decide) (by decide) rfl (fun ls hl => ?_)
          refine lv_goto (tgt := 14) hx hb d_Md_takeSigned_195 (by decide) ?_
          refine lv_iload hx hb d_Md_takeSigned_14 (lv_at hl 0 rfl) ?_
          refine lv_iload hx hb d_Md_takeSigned_16 (lv_at hl 7 rfl) ?_
          refine lv_icmp_ge (tgt := 198) hx hb d_Md_takeSigned_18 (by decide) (fun c_18 => absurd c_18 (by decide)) (fun c_18 => ?_)
          refine lv_aload_n hx hb d_Md_takeSigned_21 rfl (lv_at hl 8 rfl) ?_
          refine va_get (D := D) (ci := 6) (v := .int 0) (C := R_Md) (T := F_Md) (N := 44) hx hb hts (fun w h => List.mem_cons_of_mem _ (i_Md w h)) hown hE.1 hP 0 rfl rfl 3 (by decide) (hts _ (List.mem_cons_of_mem _ iw3_57)) (fun _ h9 => h9) rfl d_Md_takeSigned_22 ?_
          refine lv_if_ne (tgt := 198) hx hb d_Md_takeSigned_25 (by decide) (fun c_25 => absurd (by decide) c_25) (fun c_25 => ?_)
          refine lv_aload_n hx hb d_Md_takeSigned_28 rfl (lv_at hl 8 rfl) ?_
          refine cV (As := []) (rest := []) (n := 0) (wc := [(m0, .inr (6, mF g K (nI ((a + 1) + 1), 0, p) e (nI np) B)), ((g 0), .inl (cA 3, 2000, .inl fd)), ((g 10), .inl (cA 3, 4, .inl pe))]) (wr := []) ⟨hx, hb, hml, hown, hts⟩ hno hlocks hl.1 (c_Md_take l hl9 D cA ad H.size m0 g K e np B fd pe b N lm hnp hpe hlm hN hfd hb9 ((a + 1) + 1) p (by omega) ) iw3_212 iw3_214 sel_Md_take iw1_7 iw3_215 (by decide +kernel) rfl ⟨Nat.le_of_ble_eq_true rfl, Nat.le_of_ble_eq_true rfl⟩ ⟨Nat.le_of_ble_eq_true rfl, Nat.le_of_ble_eq_true rfl⟩ rfl (Nat.le_of_ble_eq_true rfl) d_Md_takeSigned_29 hE hP hD hS hA [0, 1, 2] [] rfl rfl rfl rfl (by decide) (ci := 6) rfl rfl 0 rfl (fun _ h => h.elim) (fun v_29 u_29 H locs hp_29 hP hD hS => ?_)
          rcases hp_29 with ⟨f19, q19, hr19, hf19, hB19, rfl, zz19, hzz19, hzx19⟩ | ⟨v19, a19, hr19, rfl, rfl⟩
          · obtain ⟨x19, y19, z19⟩ := u_29
            cases hB19
            have hzx19 : x19 = nI zz19 := hzx19
            subst hzx19
            have hP : va_P D cls [(m0, .inr (6, mF g K (nI zz19, nI f19, nI q19) e (nI np) B)), ((g 0), .inl (cA 3, 2000, .inl fd)), ((g 10), .inl (cA 3, 4, .inl pe))] H := hP
            have hD : va_D A [(m0, .inr (6, mF g K (nI zz19, nI f19, nI q19) e (nI np) B)), ((g 0), .inl (cA 3, 2000, .inl fd)), ((g 10), .inl (cA 3, 4, .inl pe))] := hD
            refine W.cs (cells' := 0) (slots' := 0) rfl rfl ?_
            refine W.eq (g2 := F0 m 32 ls [.int 0]) rfl ?_
            refine lv_istore (lv' := [(6, .int 0), (5, .int 2), (10, .int 14), (2, .long (lN V2)), (9, .int 1), (8, .int 0), (7, .int 26), (4, .int 5), (0, .ref m0), (1, .int 33)]) hx hb d_Md_takeSigned_32 hl (by decide) rfl (fun ls hl => ?_)
            refine lv_iload_n hx hb d_Md_takeSigned_34 rfl (lv_at hl 9 rfl) ?_
            refine lv_bipush (v := 7) hx hb d_Md_takeSigned_35 (by decide) ?_
            refine lv_iload hx hb d_Md_takeSigned_37 (lv_at hl 1 rfl) ?_
            refine lv_imul hx hb d_Md_takeSigned_39 ?_
            refine W.eq (g2 := F0 m 40 ls [.int 14, .int 33]) (by rw [show (7 : Int32) * 2 = 14 from by decide +kernel]) ?_
            refine lv_isub hx hb d_Md_takeSigned_40 ?_
            refine W.eq (g2 := F0 m 41 ls [.int 19]) (by rw [show (33 : Int32) - 14 = 19 from by decide +kernel]) ?_
            refine lv_istore (lv' := [(7, .int 19), (6, .int 0), (5, .int 2), (10, .int 14), (2, .long (lN V2)), (9, .int 1), (8, .int 0), (4, .int 5), (0, .ref m0), (1, .int 33)]) hx hb d_Md_takeSigned_41 hl (by decide) rfl (fun ls hl => ?_)
            refine lv_iload hx hb d_Md_takeSigned_43 (lv_at hl 0 rfl) ?_
            refine lv_bipush (v := 7) hx hb d_Md_takeSigned_45 (by decide) ?_
            refine lv_icmp_ge (tgt := 63) hx hb d_Md_takeSigned_47 (by decide) (fun c_47 => ?_) (fun c_47 => absurd (by decide) c_47)
            refine lv_iconst (v := 0) hx hb d_Md_takeSigned_63 (by decide) ?_
            refine lv_istore (lv' := [(8, .int 0), (7, .int 19), (6, .int 0), (5, .int 2), (10, .int 14), (2, .long (lN V2)), (9, .int 1), (4, .int 5), (0, .ref m0), (1, .int 33)]) hx hb d_Md_takeSigned_64 hl (by decide) rfl (fun ls hl => ?_)
            refine lv_iload hx hb d_Md_takeSigned_66 (lv_at hl 1 rfl) ?_
            refine lv_bipush (v := 7) hx hb d_Md_takeSigned_68 (by decide) ?_
            refine lv_icmp_ge (tgt := 90) hx hb d_Md_takeSigned_70 (by decide) (fun c_70 => ?_) (fun c_70 => absurd (by decide) c_70)
            refine lv_iconst (v := 1) hx hb d_Md_takeSigned_90 (by decide) ?_
            refine lv_goto (tgt := 95) hx hb d_Md_takeSigned_91 (by decide) ?_
            refine lv_istore (lv' := [(9, .int 1), (8, .int 0), (7, .int 19), (6, .int 0), (5, .int 2), (10, .int 14), (2, .long (lN V2)), (4, .int 5), (0, .ref m0), (1, .int 33)]) hx hb d_Md_takeSigned_95 hl (by decide) rfl (fun ls hl => ?_)
            refine lv_aload_n hx hb d_Md_takeSigned_97 rfl (lv_at hl 8 rfl) ?_
            refine va_get (D := D) (ci := 6) (v := .int (nI f19)) (C := R_Md) (T := F_Md) (N := 44) hx hb hts (fun w h => List.mem_cons_of_mem _ (i_Md w h)) hown hE.1 hP 0 rfl rfl 3 (by decide) (hts _ (List.mem_cons_of_mem _ iw3_57)) (fun _ h9 => h9) rfl d_Md_takeSigned_98 ?_
            refine lv_if_ne (tgt := 134) hx hb d_Md_takeSigned_101 (by decide) (fun c_101 => ?_) (fun c_101 => absurd c_101 (hf19.n0))
            refine lv_lload_n hx hb d_Md_takeSigned_134 rfl (lv_at hl 6 rfl) ?_
            refine lv_iload hx hb d_Md_takeSigned_135 (lv_at hl 3 rfl) ?_
            refine lv_bipush (v := 127) hx hb d_Md_takeSigned_137 (by decide) ?_
            refine lv_iand hx hb d_Md_takeSigned_139 ?_
            refine W.eq (g2 := F0 m 140 ls [.int 0, .long (lN V2)]) (by rw [show (0 : Int32) &&& 127 = 0 from by decide +kernel]) ?_
            refine lv_i2l hx hb d_Md_takeSigned_140 rfl ?_
            refine lv_bipush (v := 7) hx hb d_Md_takeSigned_141 (by decide) ?_
            refine lv_iload hx hb d_Md_takeSigned_143 (lv_at hl 4 rfl) ?_
            refine lv_imul hx hb d_Md_takeSigned_145 ?_
            refine W.eq (g2 := F0 m 146 ls [.int 14, .long ((0 : Int32).toInt64), .long (lN V2)]) (by rw [show (7 : Int32) * 2 = 14 from by decide +kernel]) ?_
            refine lv_lshl hx hb d_Md_takeSigned_146 rfl ?_
            refine lv_lor hx hb d_Md_takeSigned_147 ?_
            refine lv_topl (fun yF eyF => ?_)
            refine lv_lstore_n (lv' := [(2, .long yF), (9, .int 1), (8, .int 0), (7, .int 19), (6, .int 0), (5, .int 2), (10, .int 14), (4, .int 5), (0, .ref m0), (1, .int 33)]) hx hb d_Md_takeSigned_148 rfl hl (by decide) rfl (fun ls hl => ?_)
            refine lv_bipush (v := 7) hx hb d_Md_takeSigned_149 (by decide) ?_
            refine lv_iload hx hb d_Md_takeSigned_151 (lv_at hl 5 rfl) ?_
            refine lv_imul hx hb d_Md_takeSigned_153 ?_
            refine W.eq (g2 := F0 m 154 ls [.int 14]) (by rw [show (7 : Int32) * 2 = 14 from by decide +kernel]) ?_
            refine lv_bipush (v := 7) hx hb d_Md_takeSigned_154 (by decide) ?_
            refine lv_iadd hx hb d_Md_takeSigned_156 ?_
            refine W.eq (g2 := F0 m 157 ls [.int 21]) (by rw [show (14 : Int32) + 7 = 21 from by decide +kernel]) ?_
            refine lv_istore (lv' := [(10, .int 21), (2, .long yF), (9, .int 1), (8, .int 0), (7, .int 19), (6, .int 0), (5, .int 2), (4, .int 5), (0, .ref m0), (1, .int 33)]) hx hb d_Md_takeSigned_157 hl (by decide) rfl (fun ls hl => ?_)
            refine lv_iload hx hb d_Md_takeSigned_159 (lv_at hl 5 rfl) ?_
            refine lv_sipush (v := 128) hx hb d_Md_takeSigned_161 (by decide) ?_
            refine lv_icmp_ge (tgt := 192) hx hb d_Md_takeSigned_164 (by decide) (fun c_164 => absurd c_164 (by decide)) (fun c_164 => ?_)
            refine lv_iload hx hb d_Md_takeSigned_167 (lv_at hl 0 rfl) ?_
            refine lv_bipush (v := 64) hx hb d_Md_takeSigned_169 (by decide) ?_
            refine lv_icmp_ge (tgt := 190) hx hb d_Md_takeSigned_171 (by decide) (fun c_171 => absurd c_171 (by decide)) (fun c_171 => ?_)
            refine lv_lload_n hx hb d_Md_takeSigned_174 rfl (lv_at hl 1 rfl) ?_
            refine lv_bipush (v := 64) hx hb d_Md_takeSigned_175 (by decide) ?_
            refine lv_iload hx hb d_Md_takeSigned_177 (lv_at hl 0 rfl) ?_
            refine lv_isub hx hb d_Md_takeSigned_179 ?_
            refine W.eq (g2 := F0 m 180 ls [.int 43, .long yF]) (by rw [show (64 : Int32) - 21 = 43 from by decide +kernel]) ?_
            refine lv_lshl hx hb d_Md_takeSigned_180 rfl ?_
            refine lv_bipush (v := 64) hx hb d_Md_takeSigned_181 (by decide) ?_
            refine lv_iload hx hb d_Md_takeSigned_183 (lv_at hl 0 rfl) ?_
            refine lv_isub hx hb d_Md_takeSigned_185 ?_
            refine W.eq (g2 := F0 m 186 ls [.int 43, .long (yF <<< ((43 : Int32).toInt64 &&& 63))]) (by rw [show (64 : Int32) - 21 = 43 from by decide +kernel]) ?_
            refine lv_lshr hx hb d_Md_takeSigned_186 rfl ?_
            refine lv_goto (tgt := 191) hx hb d_Md_takeSigned_187 (by decide) ?_
            exact cRl ((nI zz19, nI f19, nI q19) : A3) hx hb hr hlocks d_Md_takeSigned_191 hS hP hD (Or.inl ⟨f19, q19, by rw [show pS33 b lm a = pSg b lm 5 33 a from rfl, hU2, pSg_T hr19], hf19, rfl, ⟨_, rfl⟩, zz19, by omega, rfl⟩) (Nat.le_refl _) (Nat.le_refl _)
          · obtain ⟨hla19, hgt19, hv19, hbd19⟩ := (pNext_ok2 hr19 hb9)
            have hP : va_P D cls [(m0, .inr (6, mF g K (nI a19, 0, p) e (nI np) B)), ((g 0), .inl (cA 3, 2000, .inl fd)), ((g 10), .inl (cA 3, 4, .inl pe))] H := hP
            have hD : va_D A [(m0, .inr (6, mF g K (nI a19, 0, p) e (nI np) B)), ((g 0), .inl (cA 3, 2000, .inl fd)), ((g 10), .inl (cA 3, 4, .inl pe))] := hD
            refine W.cs (cells' := 0) (slots' := 0) rfl rfl ?_
            refine W.eq (g2 := F0 m 32 ls [.int (nI v19)]) rfl ?_
            obtain ⟨hbd19, ean19⟩ := hbd19
            subst ean19
            have hP : va_P D cls [(m0, .inr (6, mF g K (nI (((a + 1) + 1) + 1), 0, p) e (nI np) B)), ((g 0), .inl (cA 3, 2000, .inl fd)), ((g 10), .inl (cA 3, 4, .inl pe))] H := hP
            have hD : va_D A [(m0, .inr (6, mF g K (nI (((a + 1) + 1) + 1), 0, p) e (nI np) B)), ((g 0), .inl (cA 3, 2000, .inl fd)), ((g 10), .inl (cA 3, 4, .inl pe))] := hD
            refine lv_istore (lv' := [(6, .int (nI v19)), (5, .int 2), (10, .int 14), (2, .long (lN V2)), (9, .int 1), (8, .int 0), (7, .int 26), (4, .int 5), (0, .ref m0), (1, .int 33)]) hx hb d_Md_takeSigned_32 hl (by decide) rfl (fun ls hl => ?_)
            refine lv_iload_n hx hb d_Md_takeSigned_34 rfl (lv_at hl 9 rfl) ?_
            refine lv_bipush (v := 7) hx hb d_Md_takeSigned_35 (by decide) ?_
            refine lv_iload hx hb d_Md_takeSigned_37 (lv_at hl 1 rfl) ?_
            refine lv_imul hx hb d_Md_takeSigned_39 ?_
            refine W.eq (g2 := F0 m 40 ls [.int 14, .int 33]) (by rw [show (7 : Int32) * 2 = 14 from by decide +kernel]) ?_
            refine lv_isub hx hb d_Md_takeSigned_40 ?_
            refine W.eq (g2 := F0 m 41 ls [.int 19]) (by rw [show (33 : Int32) - 14 = 19 from by decide +kernel]) ?_
            refine lv_istore (lv' := [(7, .int 19), (6, .int (nI v19)), (5, .int 2), (10, .int 14), (2, .long (lN V2)), (9, .int 1), (8, .int 0), (4, .int 5), (0, .ref m0), (1, .int 33)]) hx hb d_Md_takeSigned_41 hl (by decide) rfl (fun ls hl => ?_)
            refine lv_iload hx hb d_Md_takeSigned_43 (lv_at hl 0 rfl) ?_
            refine lv_bipush (v := 7) hx hb d_Md_takeSigned_45 (by decide) ?_
            refine lv_icmp_ge (tgt := 63) hx hb d_Md_takeSigned_47 (by decide) (fun c_47 => ?_) (fun c_47 => absurd (by decide) c_47)
            refine lv_iconst (v := 0) hx hb d_Md_takeSigned_63 (by decide) ?_
            refine lv_istore (lv' := [(8, .int 0), (7, .int 19), (6, .int (nI v19)), (5, .int 2), (10, .int 14), (2, .long (lN V2)), (9, .int 1), (4, .int 5), (0, .ref m0), (1, .int 33)]) hx hb d_Md_takeSigned_64 hl (by decide) rfl (fun ls hl => ?_)
            refine lv_iload hx hb d_Md_takeSigned_66 (lv_at hl 1 rfl) ?_
            refine lv_bipush (v := 7) hx hb d_Md_takeSigned_68 (by decide) ?_
            refine lv_icmp_ge (tgt := 90) hx hb d_Md_takeSigned_70 (by decide) (fun c_70 => ?_) (fun c_70 => absurd (by decide) c_70)
            refine lv_iconst (v := 1) hx hb d_Md_takeSigned_90 (by decide) ?_
            refine lv_goto (tgt := 95) hx hb d_Md_takeSigned_91 (by decide) ?_
            refine lv_istore (lv' := [(9, .int 1), (8, .int 0), (7, .int 19), (6, .int (nI v19)), (5, .int 2), (10, .int 14), (2, .long (lN V2)), (4, .int 5), (0, .ref m0), (1, .int 33)]) hx hb d_Md_takeSigned_95 hl (by decide) rfl (fun ls hl => ?_)
            refine lv_aload_n hx hb d_Md_takeSigned_97 rfl (lv_at hl 8 rfl) ?_
            refine va_get (D := D) (ci := 6) (v := .int 0) (C := R_Md) (T := F_Md) (N := 44) hx hb hts (fun w h => List.mem_cons_of_mem _ (i_Md w h)) hown hE.1 hP 0 rfl rfl 3 (by decide) (hts _ (List.mem_cons_of_mem _ iw3_57)) (fun _ h9 => h9) rfl d_Md_takeSigned_98 ?_
            refine lv_if_ne (tgt := 134) hx hb d_Md_takeSigned_101 (by decide) (fun c_101 => absurd (by decide) c_101) (fun c_101 => ?_)
            refine lv_iload hx hb d_Md_takeSigned_104 (lv_at hl 2 rfl) ?_
            refine lv_bipush (v := 8) hx hb d_Md_takeSigned_106 (by decide) ?_
            refine lv_icmp_ge (tgt := 134) hx hb d_Md_takeSigned_108 (by decide) (fun c_108 => ?_) (fun c_108 => absurd (by decide) c_108)
            have ho2 : ¬ (19 ≤ 7 ∧ sTop 19 v19 = false) := fun q => absurd q.1 (by decide)
            refine lv_lload_n hx hb d_Md_takeSigned_134 rfl (lv_at hl 6 rfl) ?_
            refine lv_iload hx hb d_Md_takeSigned_135 (lv_at hl 3 rfl) ?_
            refine lv_bipush (v := 127) hx hb d_Md_takeSigned_137 (by decide) ?_
            refine lv_iand hx hb d_Md_takeSigned_139 ?_
            refine lv_i2l hx hb d_Md_takeSigned_140 rfl ?_
            refine lv_bipush (v := 7) hx hb d_Md_takeSigned_141 (by decide) ?_
            refine lv_iload hx hb d_Md_takeSigned_143 (lv_at hl 4 rfl) ?_
            refine lv_imul hx hb d_Md_takeSigned_145 ?_
            refine W.eq (g2 := F0 m 146 ls [.int 14, .long (((nI v19) &&& 127).toInt64), .long (lN V2)]) (by rw [show (7 : Int32) * 2 = 14 from by decide +kernel]) ?_
            refine lv_lshl hx hb d_Md_takeSigned_146 rfl ?_
            refine lv_lor hx hb d_Md_takeSigned_147 ?_
            refine lv_topl (fun y2_ ey2_ => ?_)
            have hy2_ : y2_ = lN (V2 + v19 % 128 * 2 ^ 14) := ey2_.trans (u_step 14 (by decide) (by decide) (v := V2) hV2 hbd19)
            have hW2 : V2 + v19 % 128 * 2 ^ 14 < 2 ^ 21 := u_bd (k := 14) hV2
            have hsg2 : v19 < 128 → ((lN (V2 + v19 % 128 * 2 ^ 14) <<< ((43 : Int32).toInt64 &&& 63)) >>> ((43 : Int32).toInt64 &&& 63) < 0 ↔ ¬ v19 / 64 % 2 = 0) := fun q => by rw [Nat.mod_eq_of_lt q]; exact sg_neg (o := V2) (g := v19) (sh := 14) hV2 q (by decide)
            generalize V2 + v19 % 128 * 2 ^ 14 = V3 at hy2_ hW2 hsg2
            subst hy2_
            refine lv_lstore_n (lv' := [(2, .long (lN V3)), (9, .int 1), (8, .int 0), (7, .int 19), (6, .int (nI v19)), (5, .int 2), (10, .int 14), (4, .int 5), (0, .ref m0), (1, .int 33)]) hx hb d_Md_takeSigned_148 rfl hl (by decide) rfl (fun ls hl => ?_)
            refine lv_bipush (v := 7) hx hb d_Md_takeSigned_149 (by decide) ?_
            refine lv_iload hx hb d_Md_takeSigned_151 (lv_at hl 5 rfl) ?_
            refine lv_imul hx hb d_Md_takeSigned_153 ?_
            refine W.eq (g2 := F0 m 154 ls [.int 14]) (by rw [show (7 : Int32) * 2 = 14 from by decide +kernel]) ?_
            refine lv_bipush (v := 7) hx hb d_Md_takeSigned_154 (by decide) ?_
            refine lv_iadd hx hb d_Md_takeSigned_156 ?_
            refine W.eq (g2 := F0 m 157 ls [.int 21]) (by rw [show (14 : Int32) + 7 = 21 from by decide +kernel]) ?_
            refine lv_istore (lv' := [(10, .int 21), (2, .long (lN V3)), (9, .int 1), (8, .int 0), (7, .int 19), (6, .int (nI v19)), (5, .int 2), (4, .int 5), (0, .ref m0), (1, .int 33)]) hx hb d_Md_takeSigned_157 hl (by decide) rfl (fun ls hl => ?_)
            refine lv_iload hx hb d_Md_takeSigned_159 (lv_at hl 5 rfl) ?_
            refine lv_sipush (v := 128) hx hb d_Md_takeSigned_161 (by decide) ?_
            refine lv_icmp_ge (tgt := 192) hx hb d_Md_takeSigned_164 (by decide) (fun c_164 => ?_) (fun c_164 => ?_)
            · have hd2 : ¬ v19 < 128 := fun q => absurd ((nI_leI (a := 128) (b := v19) (by omega) (by omega)).mp c_164) (by omega)
              have hV3 := hW2
              have hU3 : pSg b lm 5 33 a = pSg b lm 2 12 (((a + 1) + 1) + 1) := hU2.trans (pSg_C hr19 ho2 hd2)
              refine lv_iinc (v := 3) (lv' := [(5, .int 3), (10, .int 21), (2, .long (lN V3)), (9, .int 1), (8, .int 0), (7, .int 19), (6, .int (nI v19)), (4, .int 5), (0, .ref m0), (1, .int 33)]) hx hb d_Md_takeSigned_192 hl (k := 6) rfl (by decide) (by decide) rfl (fun ls hl => ?_)
              refine lv_goto (tgt := 14) hx hb d_Md_takeSigned_195 (by decide) ?_
              refine lv_iload hx hb d_Md_takeSigned_14 (lv_at hl 0 rfl) ?_
              refine lv_iload hx hb d_Md_takeSigned_16 (lv_at hl 7 rfl) ?_
              refine lv_icmp_ge (tgt := 198) hx hb d_Md_takeSigned_18 (by decide) (fun c_18 => absurd c_18 (by decide)) (fun c_18 => ?_)
              refine lv_aload_n hx hb d_Md_takeSigned_21 rfl (lv_at hl 8 rfl) ?_
              refine va_get (D := D) (ci := 6) (v := .int 0) (C := R_Md) (T := F_Md) (N := 44) hx hb hts (fun w h => List.mem_cons_of_mem _ (i_Md w h)) hown hE.1 hP 0 rfl rfl 3 (by decide) (hts _ (List.mem_cons_of_mem _ iw3_57)) (fun _ h9 => h9) rfl d_Md_takeSigned_22 ?_
              refine lv_if_ne (tgt := 198) hx hb d_Md_takeSigned_25 (by decide) (fun c_25 => absurd (by decide) c_25) (fun c_25 => ?_)
              refine lv_aload_n hx hb d_Md_takeSigned_28 rfl (lv_at hl 8 rfl) ?_
              refine cV (As := []) (rest := []) (n := 0) (wc := [(m0, .inr (6, mF g K (nI (((a + 1) + 1) + 1), 0, p) e (nI np) B)), ((g 0), .inl (cA 3, 2000, .inl fd)), ((g 10), .inl (cA 3, 4, .inl pe))]) (wr := []) ⟨hx, hb, hml, hown, hts⟩ hno hlocks hl.1 (c_Md_take l hl9 D cA ad H.size m0 g K e np B fd pe b N lm hnp hpe hlm hN hfd hb9 (((a + 1) + 1) + 1) p (by omega) ) iw3_212 iw3_214 sel_Md_take iw1_7 iw3_215 (by decide +kernel) rfl ⟨Nat.le_of_ble_eq_true rfl, Nat.le_of_ble_eq_true rfl⟩ ⟨Nat.le_of_ble_eq_true rfl, Nat.le_of_ble_eq_true rfl⟩ rfl (Nat.le_of_ble_eq_true rfl) d_Md_takeSigned_29 hE hP hD hS hA [0, 1, 2] [] rfl rfl rfl rfl (by decide) (ci := 6) rfl rfl 0 rfl (fun _ h => h.elim) (fun v_29 u_29 H locs hp_29 hP hD hS => ?_)
              rcases hp_29 with ⟨f20, q20, hr20, hf20, hB20, rfl, zz20, hzz20, hzx20⟩ | ⟨v20, a20, hr20, rfl, rfl⟩
              · obtain ⟨x20, y20, z20⟩ := u_29
                cases hB20
                have hzx20 : x20 = nI zz20 := hzx20
                subst hzx20
                have hP : va_P D cls [(m0, .inr (6, mF g K (nI zz20, nI f20, nI q20) e (nI np) B)), ((g 0), .inl (cA 3, 2000, .inl fd)), ((g 10), .inl (cA 3, 4, .inl pe))] H := hP
                have hD : va_D A [(m0, .inr (6, mF g K (nI zz20, nI f20, nI q20) e (nI np) B)), ((g 0), .inl (cA 3, 2000, .inl fd)), ((g 10), .inl (cA 3, 4, .inl pe))] := hD
                refine W.cs (cells' := 0) (slots' := 0) rfl rfl ?_
                refine W.eq (g2 := F0 m 32 ls [.int 0]) rfl ?_
                refine lv_istore (lv' := [(6, .int 0), (5, .int 3), (10, .int 21), (2, .long (lN V3)), (9, .int 1), (8, .int 0), (7, .int 19), (4, .int 5), (0, .ref m0), (1, .int 33)]) hx hb d_Md_takeSigned_32 hl (by decide) rfl (fun ls hl => ?_)
                refine lv_iload_n hx hb d_Md_takeSigned_34 rfl (lv_at hl 9 rfl) ?_
                refine lv_bipush (v := 7) hx hb d_Md_takeSigned_35 (by decide) ?_
                refine lv_iload hx hb d_Md_takeSigned_37 (lv_at hl 1 rfl) ?_
                refine lv_imul hx hb d_Md_takeSigned_39 ?_
                refine W.eq (g2 := F0 m 40 ls [.int 21, .int 33]) (by rw [show (7 : Int32) * 3 = 21 from by decide +kernel]) ?_
                refine lv_isub hx hb d_Md_takeSigned_40 ?_
                refine W.eq (g2 := F0 m 41 ls [.int 12]) (by rw [show (33 : Int32) - 21 = 12 from by decide +kernel]) ?_
                refine lv_istore (lv' := [(7, .int 12), (6, .int 0), (5, .int 3), (10, .int 21), (2, .long (lN V3)), (9, .int 1), (8, .int 0), (4, .int 5), (0, .ref m0), (1, .int 33)]) hx hb d_Md_takeSigned_41 hl (by decide) rfl (fun ls hl => ?_)
                refine lv_iload hx hb d_Md_takeSigned_43 (lv_at hl 0 rfl) ?_
                refine lv_bipush (v := 7) hx hb d_Md_takeSigned_45 (by decide) ?_
                refine lv_icmp_ge (tgt := 63) hx hb d_Md_takeSigned_47 (by decide) (fun c_47 => ?_) (fun c_47 => absurd (by decide) c_47)
                refine lv_iconst (v := 0) hx hb d_Md_takeSigned_63 (by decide) ?_
                refine lv_istore (lv' := [(8, .int 0), (7, .int 12), (6, .int 0), (5, .int 3), (10, .int 21), (2, .long (lN V3)), (9, .int 1), (4, .int 5), (0, .ref m0), (1, .int 33)]) hx hb d_Md_takeSigned_64 hl (by decide) rfl (fun ls hl => ?_)
                refine lv_iload hx hb d_Md_takeSigned_66 (lv_at hl 1 rfl) ?_
                refine lv_bipush (v := 7) hx hb d_Md_takeSigned_68 (by decide) ?_
                refine lv_icmp_ge (tgt := 90) hx hb d_Md_takeSigned_70 (by decide) (fun c_70 => ?_) (fun c_70 => absurd (by decide) c_70)
                refine lv_iconst (v := 1) hx hb d_Md_takeSigned_90 (by decide) ?_
                refine lv_goto (tgt := 95) hx hb d_Md_takeSigned_91 (by decide) ?_
                refine lv_istore (lv' := [(9, .int 1), (8, .int 0), (7, .int 12), (6, .int 0), (5, .int 3), (10, .int 21), (2, .long (lN V3)), (4, .int 5), (0, .ref m0), (1, .int 33)]) hx hb d_Md_takeSigned_95 hl (by decide) rfl (fun ls hl => ?_)
                refine lv_aload_n hx hb d_Md_takeSigned_97 rfl (lv_at hl 8 rfl) ?_
                refine va_get (D := D) (ci := 6) (v := .int (nI f20)) (C := R_Md) (T := F_Md) (N := 44) hx hb hts (fun w h => List.mem_cons_of_mem _ (i_Md w h)) hown hE.1 hP 0 rfl rfl 3 (by decide) (hts _ (List.mem_cons_of_mem _ iw3_57)) (fun _ h9 => h9) rfl d_Md_takeSigned_98 ?_
                refine lv_if_ne (tgt := 134) hx hb d_Md_takeSigned_101 (by decide) (fun c_101 => ?_) (fun c_101 => absurd c_101 (hf20.n0))
                refine lv_lload_n hx hb d_Md_takeSigned_134 rfl (lv_at hl 6 rfl) ?_
                refine lv_iload hx hb d_Md_takeSigned_135 (lv_at hl 3 rfl) ?_
                refine lv_bipush (v := 127) hx hb d_Md_takeSigned_137 (by decide) ?_
                refine lv_iand hx hb d_Md_takeSigned_139 ?_
                refine W.eq (g2 := F0 m 140 ls [.int 0, .long (lN V3)]) (by rw [show (0 : Int32) &&& 127 = 0 from by decide +kernel]) ?_
                refine lv_i2l hx hb d_Md_takeSigned_140 rfl ?_
                refine lv_bipush (v := 7) hx hb d_Md_takeSigned_141 (by decide) ?_
                refine lv_iload hx hb d_Md_takeSigned_143 (lv_at hl 4 rfl) ?_
                refine lv_imul hx hb d_Md_takeSigned_145 ?_
                refine W.eq (g2 := F0 m 146 ls [.int 21, .long ((0 : Int32).toInt64), .long (lN V3)]) (by rw [show (7 : Int32) * 3 = 21 from by decide +kernel]) ?_
                refine lv_lshl hx hb d_Md_takeSigned_146 rfl ?_
                refine lv_lor hx hb d_Md_takeSigned_147 ?_
                refine lv_topl (fun yF eyF => ?_)
                refine lv_lstore_n (lv' := [(2, .long yF), (9, .int 1), (8, .int 0), (7, .int 12), (6, .int 0), (5, .int 3), (10, .int 21), (4, .int 5), (0, .ref m0), (1, .int 33)]) hx hb d_Md_takeSigned_148 rfl hl (by decide) rfl (fun ls hl => ?_)
                refine lv_bipush (v := 7) hx hb d_Md_takeSigned_149 (by decide) ?_
                refine lv_iload hx hb d_Md_takeSigned_151 (lv_at hl 5 rfl) ?_
                refine lv_imul hx hb d_Md_takeSigned_153 ?_
                refine W.eq (g2 := F0 m 154 ls [.int 21]) (by rw [show (7 : Int32) * 3 = 21 from by decide +kernel]) ?_
                refine lv_bipush (v := 7) hx hb d_Md_takeSigned_154 (by decide) ?_
                refine lv_iadd hx hb d_Md_takeSigned_156 ?_
                refine W.eq (g2 := F0 m 157 ls [.int 28]) (by rw [show (21 : Int32) + 7 = 28 from by decide +kernel]) ?_
                refine lv_istore (lv' := [(10, .int 28), (2, .long yF), (9, .int 1), (8, .int 0), (7, .int 12), (6, .int 0), (5, .int 3), (4, .int 5), (0, .ref m0), (1, .int 33)]) hx hb d_Md_takeSigned_157 hl (by decide) rfl (fun ls hl => ?_)
                refine lv_iload hx hb d_Md_takeSigned_159 (lv_at hl 5 rfl) ?_
                refine lv_sipush (v := 128) hx hb d_Md_takeSigned_161 (by decide) ?_
                refine lv_icmp_ge (tgt := 192) hx hb d_Md_takeSigned_164 (by decide) (fun c_164 => absurd c_164 (by decide)) (fun c_164 => ?_)
                refine lv_iload hx hb d_Md_takeSigned_167 (lv_at hl 0 rfl) ?_
                refine lv_bipush (v := 64) hx hb d_Md_takeSigned_169 (by decide) ?_
                refine lv_icmp_ge (tgt := 190) hx hb d_Md_takeSigned_171 (by decide) (fun c_171 => absurd c_171 (by decide)) (fun c_171 => ?_)
                refine lv_lload_n hx hb d_Md_takeSigned_174 rfl (lv_at hl 1 rfl) ?_
                refine lv_bipush (v := 64) hx hb d_Md_takeSigned_175 (by decide) ?_
                refine lv_iload hx hb d_Md_takeSigned_177 (lv_at hl 0 rfl) ?_
                refine lv_isub hx hb d_Md_takeSigned_179 ?_
                refine W.eq (g2 := F0 m 180 ls [.int 36, .long yF]) (by rw [show (64 : Int32) - 28 = 36 from by decide +kernel]) ?_
                refine lv_lshl hx hb d_Md_takeSigned_180 rfl ?_
                refine lv_bipush (v := 64) hx hb d_Md_takeSigned_181 (by decide) ?_
                refine lv_iload hx hb d_Md_takeSigned_183 (lv_at hl 0 rfl) ?_
                refine lv_isub hx hb d_Md_takeSigned_185 ?_
                refine W.eq (g2 := F0 m 186 ls [.int 36, .long (yF <<< ((36 : Int32).toInt64 &&& 63))]) (by rw [show (64 : Int32) - 28 = 36 from by decide +kernel]) ?_
                refine lv_lshr hx hb d_Md_takeSigned_186 rfl ?_
                refine lv_goto (tgt := 191) hx hb d_Md_takeSigned_187 (by decide) ?_
                exact cRl ((nI zz20, nI f20, nI q20) : A3) hx hb hr hlocks d_Md_takeSigned_191 hS hP hD (Or.inl ⟨f20, q20, by rw [show pS33 b lm a = pSg b lm 5 33 a from rfl, hU3, pSg_T hr20], hf20, rfl, ⟨_, rfl⟩, zz20, by omega, rfl⟩) (Nat.le_refl _) (Nat.le_refl _)
              · obtain ⟨hla20, hgt20, hv20, hbd20⟩ := (pNext_ok2 hr20 hb9)
                have hP : va_P D cls [(m0, .inr (6, mF g K (nI a20, 0, p) e (nI np) B)), ((g 0), .inl (cA 3, 2000, .inl fd)), ((g 10), .inl (cA 3, 4, .inl pe))] H := hP
                have hD : va_D A [(m0, .inr (6, mF g K (nI a20, 0, p) e (nI np) B)), ((g 0), .inl (cA 3, 2000, .inl fd)), ((g 10), .inl (cA 3, 4, .inl pe))] := hD
                refine W.cs (cells' := 0) (slots' := 0) rfl rfl ?_
                refine W.eq (g2 := F0 m 32 ls [.int (nI v20)]) rfl ?_
                obtain ⟨hbd20, ean20⟩ := hbd20
                subst ean20
                have hP : va_P D cls [(m0, .inr (6, mF g K (nI ((((a + 1) + 1) + 1) + 1), 0, p) e (nI np) B)), ((g 0), .inl (cA 3, 2000, .inl fd)), ((g 10), .inl (cA 3, 4, .inl pe))] H := hP
                have hD : va_D A [(m0, .inr (6, mF g K (nI ((((a + 1) + 1) + 1) + 1), 0, p) e (nI np) B)), ((g 0), .inl (cA 3, 2000, .inl fd)), ((g 10), .inl (cA 3, 4, .inl pe))] := hD
                refine lv_istore (lv' := [(6, .int (nI v20)), (5, .int 3), (10, .int 21), (2, .long (lN V3)), (9, .int 1), (8, .int 0), (7, .int 19), (4, .int 5), (0, .ref m0), (1, .int 33)]) hx hb d_Md_takeSigned_32 hl (by decide) rfl (fun ls hl => ?_)
                refine lv_iload_n hx hb d_Md_takeSigned_34 rfl (lv_at hl 9 rfl) ?_
                refine lv_bipush (v := 7) hx hb d_Md_takeSigned_35 (by decide) ?_
                refine lv_iload hx hb d_Md_takeSigned_37 (lv_at hl 1 rfl) ?_
                refine lv_imul hx hb d_Md_takeSigned_39 ?_
                refine W.eq (g2 := F0 m 40 ls [.int 21, .int 33]) (by rw [show (7 : Int32) * 3 = 21 from by decide +kernel]) ?_
                refine lv_isub hx hb d_Md_takeSigned_40 ?_
                refine W.eq (g2 := F0 m 41 ls [.int 12]) (by rw [show (33 : Int32) - 21 = 12 from by decide +kernel]) ?_
                refine lv_istore (lv' := [(7, .int 12), (6, .int (nI v20)), (5, .int 3), (10, .int 21), (2, .long (lN V3)), (9, .int 1), (8, .int 0), (4, .int 5), (0, .ref m0), (1, .int 33)]) hx hb d_Md_takeSigned_41 hl (by decide) rfl (fun ls hl => ?_)
                refine lv_iload hx hb d_Md_takeSigned_43 (lv_at hl 0 rfl) ?_
                refine lv_bipush (v := 7) hx hb d_Md_takeSigned_45 (by decide) ?_
                refine lv_icmp_ge (tgt := 63) hx hb d_Md_takeSigned_47 (by decide) (fun c_47 => ?_) (fun c_47 => absurd (by decide) c_47)
                refine lv_iconst (v := 0) hx hb d_Md_takeSigned_63 (by decide) ?_
                refine lv_istore (lv' := [(8, .int 0), (7, .int 12), (6, .int (nI v20)), (5, .int 3), (10, .int 21), (2, .long (lN V3)), (9, .int 1), (4, .int 5), (0, .ref m0), (1, .int 33)]) hx hb d_Md_takeSigned_64 hl (by decide) rfl (fun ls hl => ?_)
                refine lv_iload hx hb d_Md_takeSigned_66 (lv_at hl 1 rfl) ?_
                refine lv_bipush (v := 7) hx hb d_Md_takeSigned_68 (by decide) ?_
                refine lv_icmp_ge (tgt := 90) hx hb d_Md_takeSigned_70 (by decide) (fun c_70 => ?_) (fun c_70 => absurd (by decide) c_70)
                refine lv_iconst (v := 1) hx hb d_Md_takeSigned_90 (by decide) ?_
                refine lv_goto (tgt := 95) hx hb d_Md_takeSigned_91 (by decide) ?_
                refine lv_istore (lv' := [(9, .int 1), (8, .int 0), (7, .int 12), (6, .int (nI v20)), (5, .int 3), (10, .int 21), (2, .long (lN V3)), (4, .int 5), (0, .ref m0), (1, .int 33)]) hx hb d_Md_takeSigned_95 hl (by decide) rfl (fun ls hl => ?_)
                refine lv_aload_n hx hb d_Md_takeSigned_97 rfl (lv_at hl 8 rfl) ?_
                refine va_get (D := D) (ci := 6) (v := .int 0) (C := R_Md) (T := F_Md) (N := 44) hx hb hts (fun w h => List.mem_cons_of_mem _ (i_Md w h)) hown hE.1 hP 0 rfl rfl 3 (by decide) (hts _ (List.mem_cons_of_mem _ iw3_57)) (fun _ h9 => h9) rfl d_Md_takeSigned_98 ?_
                refine lv_if_ne (tgt := 134) hx hb d_Md_takeSigned_101 (by decide) (fun c_101 => absurd (by decide) c_101) (fun c_101 => ?_)
                refine lv_iload hx hb d_Md_takeSigned_104 (lv_at hl 2 rfl) ?_
                refine lv_bipush (v := 8) hx hb d_Md_takeSigned_106 (by decide) ?_
                refine lv_icmp_ge (tgt := 134) hx hb d_Md_takeSigned_108 (by decide) (fun c_108 => ?_) (fun c_108 => absurd (by decide) c_108)
                have ho3 : ¬ (12 ≤ 7 ∧ sTop 12 v20 = false) := fun q => absurd q.1 (by decide)
                refine lv_lload_n hx hb d_Md_takeSigned_134 rfl (lv_at hl 6 rfl) ?_
                refine lv_iload hx hb d_Md_takeSigned_135 (lv_at hl 3 rfl) ?_
                refine lv_bipush (v := 127) hx hb d_Md_takeSigned_137 (by decide) ?_
                refine lv_iand hx hb d_Md_takeSigned_139 ?_
                refine lv_i2l hx hb d_Md_takeSigned_140 rfl ?_
                refine lv_bipush (v := 7) hx hb d_Md_takeSigned_141 (by decide) ?_
                refine lv_iload hx hb d_Md_takeSigned_143 (lv_at hl 4 rfl) ?_
                refine lv_imul hx hb d_Md_takeSigned_145 ?_
                refine W.eq (g2 := F0 m 146 ls [.int 21, .long (((nI v20) &&& 127).toInt64), .long (lN V3)]) (by rw [show (7 : Int32) * 3 = 21 from by decide +kernel]) ?_
                refine lv_lshl hx hb d_Md_takeSigned_146 rfl ?_
                refine lv_lor hx hb d_Md_takeSigned_147 ?_
                refine lv_topl (fun y3_ ey3_ => ?_)
                have hy3_ : y3_ = lN (V3 + v20 % 128 * 2 ^ 21) := ey3_.trans (u_step 21 (by decide) (by decide) (v := V3) hV3 hbd20)
                have hW3 : V3 + v20 % 128 * 2 ^ 21 < 2 ^ 28 := u_bd (k := 21) hV3
                have hsg3 : v20 < 128 → ((lN (V3 + v20 % 128 * 2 ^ 21) <<< ((36 : Int32).toInt64 &&& 63)) >>> ((36 : Int32).toInt64 &&& 63) < 0 ↔ ¬ v20 / 64 % 2 = 0) := fun q => by rw [Nat.mod_eq_of_lt q]; exact sg_neg (o := V3) (g := v20) (sh := 21) hV3 q (by decide)
                generalize V3 + v20 % 128 * 2 ^ 21 = V4 at hy3_ hW3 hsg3
                subst hy3_
                refine lv_lstore_n (lv' := [(2, .long (lN V4)), (9, .int 1), (8, .int 0), (7, .int 12), (6, .int (nI v20)), (5, .int 3), (10, .int 21), (4, .int 5), (0, .ref m0), (1, .int 33)]) hx hb d_Md_takeSigned_148 rfl hl (by decide) rfl (fun ls hl => ?_)
                refine lv_bipush (v := 7) hx hb d_Md_takeSigned_149 (by decide) ?_
                refine lv_iload hx hb d_Md_takeSigned_151 (lv_at hl 5 rfl) ?_
                refine lv_imul hx hb d_Md_takeSigned_153 ?_
                refine W.eq (g2 := F0 m 154 ls [.int 21]) (by rw [show (7 : Int32) * 3 = 21 from by decide +kernel]) ?_
                refine lv_bipush (v := 7) hx hb d_Md_takeSigned_154 (by decide) ?_
                refine lv_iadd hx hb d_Md_takeSigned_156 ?_
                refine W.eq (g2 := F0 m 157 ls [.int 28]) (by rw [show (21 : Int32) + 7 = 28 from by decide +kernel]) ?_
                refine lv_istore (lv' := [(10, .int 28), (2, .long (lN V4)), (9, .int 1), (8, .int 0), (7, .int 12), (6, .int (nI v20)), (5, .int 3), (4, .int 5), (0, .ref m0), (1, .int 33)]) hx hb d_Md_takeSigned_157 hl (by decide) rfl (fun ls hl => ?_)
                refine lv_iload hx hb d_Md_takeSigned_159 (lv_at hl 5 rfl) ?_
                refine lv_sipush (v := 128) hx hb d_Md_takeSigned_161 (by decide) ?_
                refine lv_icmp_ge (tgt := 192) hx hb d_Md_takeSigned_164 (by decide) (fun c_164 => ?_) (fun c_164 => ?_)
                · have hd3 : ¬ v20 < 128 := fun q => absurd ((nI_leI (a := 128) (b := v20) (by omega) (by omega)).mp c_164) (by omega)
                  have hV4 := hW3
                  have hU4 : pSg b lm 5 33 a = pSg b lm 1 5 ((((a + 1) + 1) + 1) + 1) := hU3.trans (pSg_C hr20 ho3 hd3)
                  refine lv_iinc (v := 4) (lv' := [(5, .int 4), (10, .int 28), (2, .long (lN V4)), (9, .int 1), (8, .int 0), (7, .int 12), (6, .int (nI v20)), (4, .int 5), (0, .ref m0), (1, .int 33)]) hx hb d_Md_takeSigned_192 hl (k := 6) rfl (by decide) (by decide) rfl (fun ls hl => ?_)
                  refine lv_goto (tgt := 14) hx hb d_Md_takeSigned_195 (by decide) ?_
                  refine lv_iload hx hb d_Md_takeSigned_14 (lv_at hl 0 rfl) ?_
                  refine lv_iload hx hb d_Md_takeSigned_16 (lv_at hl 7 rfl) ?_
                  refine lv_icmp_ge (tgt := 198) hx hb d_Md_takeSigned_18 (by decide) (fun c_18 => absurd c_18 (by decide)) (fun c_18 => ?_)
                  refine lv_aload_n hx hb d_Md_takeSigned_21 rfl (lv_at hl 8 rfl) ?_
                  refine va_get (D := D) (ci := 6) (v := .int 0) (C := R_Md) (T := F_Md) (N := 44) hx hb hts (fun w h => List.mem_cons_of_mem _ (i_Md w h)) hown hE.1 hP 0 rfl rfl 3 (by decide) (hts _ (List.mem_cons_of_mem _ iw3_57)) (fun _ h9 => h9) rfl d_Md_takeSigned_22 ?_
                  refine lv_if_ne (tgt := 198) hx hb d_Md_takeSigned_25 (by decide) (fun c_25 => absurd (by decide) c_25) (fun c_25 => ?_)
                  refine lv_aload_n hx hb d_Md_takeSigned_28 rfl (lv_at hl 8 rfl) ?_
                  refine cV (As := []) (rest := []) (n := 0) (wc := [(m0, .inr (6, mF g K (nI ((((a + 1) + 1) + 1) + 1), 0, p) e (nI np) B)), ((g 0), .inl (cA 3, 2000, .inl fd)), ((g 10), .inl (cA 3, 4, .inl pe))]) (wr := []) ⟨hx, hb, hml, hown, hts⟩ hno hlocks hl.1 (c_Md_take l hl9 D cA ad H.size m0 g K e np B fd pe b N lm hnp hpe hlm hN hfd hb9 ((((a + 1) + 1) + 1) + 1) p (by omega) ) iw3_212 iw3_214 sel_Md_take iw1_7 iw3_215 (by decide +kernel) rfl ⟨Nat.le_of_ble_eq_true rfl, Nat.le_of_ble_eq_true rfl⟩ ⟨Nat.le_of_ble_eq_true rfl, Nat.le_of_ble_eq_true rfl⟩ rfl (Nat.le_of_ble_eq_true rfl) d_Md_takeSigned_29 hE hP hD hS hA [0, 1, 2] [] rfl rfl rfl rfl (by decide) (ci := 6) rfl rfl 0 rfl (fun _ h => h.elim) (fun v_29 u_29 H locs hp_29 hP hD hS => ?_)
                  rcases hp_29 with ⟨f21, q21, hr21, hf21, hB21, rfl, zz21, hzz21, hzx21⟩ | ⟨v21, a21, hr21, rfl, rfl⟩
                  · obtain ⟨x21, y21, z21⟩ := u_29
                    cases hB21
                    have hzx21 : x21 = nI zz21 := hzx21
                    subst hzx21
                    have hP : va_P D cls [(m0, .inr (6, mF g K (nI zz21, nI f21, nI q21) e (nI np) B)), ((g 0), .inl (cA 3, 2000, .inl fd)), ((g 10), .inl (cA 3, 4, .inl pe))] H := hP
                    have hD : va_D A [(m0, .inr (6, mF g K (nI zz21, nI f21, nI q21) e (nI np) B)), ((g 0), .inl (cA 3, 2000, .inl fd)), ((g 10), .inl (cA 3, 4, .inl pe))] := hD
                    refine W.cs (cells' := 0) (slots' := 0) rfl rfl ?_
                    refine W.eq (g2 := F0 m 32 ls [.int 0]) rfl ?_
                    refine lv_istore (lv' := [(6, .int 0), (5, .int 4), (10, .int 28), (2, .long (lN V4)), (9, .int 1), (8, .int 0), (7, .int 12), (4, .int 5), (0, .ref m0), (1, .int 33)]) hx hb d_Md_takeSigned_32 hl (by decide) rfl (fun ls hl => ?_)
                    refine lv_iload_n hx hb d_Md_takeSigned_34 rfl (lv_at hl 9 rfl) ?_
                    refine lv_bipush (v := 7) hx hb d_Md_takeSigned_35 (by decide) ?_
                    refine lv_iload hx hb d_Md_takeSigned_37 (lv_at hl 1 rfl) ?_
                    refine lv_imul hx hb d_Md_takeSigned_39 ?_
                    refine W.eq (g2 := F0 m 40 ls [.int 28, .int 33]) (by rw [show (7 : Int32) * 4 = 28 from by decide +kernel]) ?_
                    refine lv_isub hx hb d_Md_takeSigned_40 ?_
                    refine W.eq (g2 := F0 m 41 ls [.int 5]) (by rw [show (33 : Int32) - 28 = 5 from by decide +kernel]) ?_
                    refine lv_istore (lv' := [(7, .int 5), (6, .int 0), (5, .int 4), (10, .int 28), (2, .long (lN V4)), (9, .int 1), (8, .int 0), (4, .int 5), (0, .ref m0), (1, .int 33)]) hx hb d_Md_takeSigned_41 hl (by decide) rfl (fun ls hl => ?_)
                    refine lv_iload hx hb d_Md_takeSigned_43 (lv_at hl 0 rfl) ?_
                    refine lv_bipush (v := 7) hx hb d_Md_takeSigned_45 (by decide) ?_
                    refine lv_icmp_ge (tgt := 63) hx hb d_Md_takeSigned_47 (by decide) (fun c_47 => absurd c_47 (by decide)) (fun c_47 => ?_)
                    refine lv_iload hx hb d_Md_takeSigned_50 (lv_at hl 1 rfl) ?_
                    refine lv_bipush (v := 127) hx hb d_Md_takeSigned_52 (by decide) ?_
                    refine lv_iand hx hb d_Md_takeSigned_54 ?_
                    refine W.eq (g2 := F0 m 55 ls [.int 0]) (by rw [show (0 : Int32) &&& 127 = 0 from by decide +kernel]) ?_
                    refine lv_iload hx hb d_Md_takeSigned_55 (lv_at hl 0 rfl) ?_
                    refine lv_iconst (v := 1) hx hb d_Md_takeSigned_57 (by decide) ?_
                    refine lv_isub hx hb d_Md_takeSigned_58 ?_
                    refine W.eq (g2 := F0 m 59 ls [.int 4, .int 0]) (by rw [show (5 : Int32) - 1 = 4 from by decide +kernel]) ?_
                    refine lv_ishr hx hb d_Md_takeSigned_59 ?_
                    refine W.eq (g2 := F0 m 60 ls [.int 0]) (by rw [show (0 : Int32) >>> (4 &&& 31) = 0 from by decide +kernel]) ?_
                    refine lv_goto (tgt := 64) hx hb d_Md_takeSigned_60 (by decide) ?_
                    refine lv_istore (lv' := [(8, .int 0), (7, .int 5), (6, .int 0), (5, .int 4), (10, .int 28), (2, .long (lN V4)), (9, .int 1), (4, .int 5), (0, .ref m0), (1, .int 33)]) hx hb d_Md_takeSigned_64 hl (by decide) rfl (fun ls hl => ?_)
                    refine lv_iload hx hb d_Md_takeSigned_66 (lv_at hl 1 rfl) ?_
                    refine lv_bipush (v := 7) hx hb d_Md_takeSigned_68 (by decide) ?_
                    refine lv_icmp_ge (tgt := 90) hx hb d_Md_takeSigned_70 (by decide) (fun c_70 => absurd c_70 (by decide)) (fun c_70 => ?_)
                    refine lv_iload hx hb d_Md_takeSigned_73 (lv_at hl 0 rfl) ?_
                    refine lv_if_eq (tgt := 90) hx hb d_Md_takeSigned_75 (by decide) (fun c_75 => ?_) (fun c_75 => absurd (by decide) c_75)
                    refine lv_iconst (v := 1) hx hb d_Md_takeSigned_90 (by decide) ?_
                    refine lv_goto (tgt := 95) hx hb d_Md_takeSigned_91 (by decide) ?_
                    refine lv_istore (lv' := [(9, .int 1), (8, .int 0), (7, .int 5), (6, .int 0), (5, .int 4), (10, .int 28), (2, .long (lN V4)), (4, .int 5), (0, .ref m0), (1, .int 33)]) hx hb d_Md_takeSigned_95 hl (by decide) rfl (fun ls hl => ?_)
                    refine lv_aload_n hx hb d_Md_takeSigned_97 rfl (lv_at hl 8 rfl) ?_
                    refine va_get (D := D) (ci := 6) (v := .int (nI f21)) (C := R_Md) (T := F_Md) (N := 44) hx hb hts (fun w h => List.mem_cons_of_mem _ (i_Md w h)) hown hE.1 hP 0 rfl rfl 3 (by decide) (hts _ (List.mem_cons_of_mem _ iw3_57)) (fun _ h9 => h9) rfl d_Md_takeSigned_98 ?_
                    refine lv_if_ne (tgt := 134) hx hb d_Md_takeSigned_101 (by decide) (fun c_101 => ?_) (fun c_101 => absurd c_101 (hf21.n0))
                    refine lv_lload_n hx hb d_Md_takeSigned_134 rfl (lv_at hl 6 rfl) ?_
                    refine lv_iload hx hb d_Md_takeSigned_135 (lv_at hl 3 rfl) ?_
                    refine lv_bipush (v := 127) hx hb d_Md_takeSigned_137 (by decide) ?_
                    refine lv_iand hx hb d_Md_takeSigned_139 ?_
                    refine W.eq (g2 := F0 m 140 ls [.int 0, .long (lN V4)]) (by rw [show (0 : Int32) &&& 127 = 0 from by decide +kernel]) ?_
                    refine lv_i2l hx hb d_Md_takeSigned_140 rfl ?_
                    refine lv_bipush (v := 7) hx hb d_Md_takeSigned_141 (by decide) ?_
                    refine lv_iload hx hb d_Md_takeSigned_143 (lv_at hl 4 rfl) ?_
                    refine lv_imul hx hb d_Md_takeSigned_145 ?_
                    refine W.eq (g2 := F0 m 146 ls [.int 28, .long ((0 : Int32).toInt64), .long (lN V4)]) (by rw [show (7 : Int32) * 4 = 28 from by decide +kernel]) ?_
                    refine lv_lshl hx hb d_Md_takeSigned_146 rfl ?_
                    refine lv_lor hx hb d_Md_takeSigned_147 ?_
                    refine lv_topl (fun yF eyF => ?_)
                    refine lv_lstore_n (lv' := [(2, .long yF), (9, .int 1), (8, .int 0), (7, .int 5), (6, .int 0), (5, .int 4), (10, .int 28), (4, .int 5), (0, .ref m0), (1, .int 33)]) hx hb d_Md_takeSigned_148 rfl hl (by decide) rfl (fun ls hl => ?_)
                    refine lv_bipush (v := 7) hx hb d_Md_takeSigned_149 (by decide) ?_
                    refine lv_iload hx hb d_Md_takeSigned_151 (lv_at hl 5 rfl) ?_
                    refine lv_imul hx hb d_Md_takeSigned_153 ?_
                    refine W.eq (g2 := F0 m 154 ls [.int 28]) (by rw [show (7 : Int32) * 4 = 28 from by decide +kernel]) ?_
                    refine lv_bipush (v := 7) hx hb d_Md_takeSigned_154 (by decide) ?_
                    refine lv_iadd hx hb d_Md_takeSigned_156 ?_
                    refine W.eq (g2 := F0 m 157 ls [.int 35]) (by rw [show (28 : Int32) + 7 = 35 from by decide +kernel]) ?_
                    refine lv_istore (lv' := [(10, .int 35), (2, .long yF), (9, .int 1), (8, .int 0), (7, .int 5), (6, .int 0), (5, .int 4), (4, .int 5), (0, .ref m0), (1, .int 33)]) hx hb d_Md_takeSigned_157 hl (by decide) rfl (fun ls hl => ?_)
                    refine lv_iload hx hb d_Md_takeSigned_159 (lv_at hl 5 rfl) ?_
                    refine lv_sipush (v := 128) hx hb d_Md_takeSigned_161 (by decide) ?_
                    refine lv_icmp_ge (tgt := 192) hx hb d_Md_takeSigned_164 (by decide) (fun c_164 => absurd c_164 (by decide)) (fun c_164 => ?_)
                    refine lv_iload hx hb d_Md_takeSigned_167 (lv_at hl 0 rfl) ?_
                    refine lv_bipush (v := 64) hx hb d_Md_takeSigned_169 (by decide) ?_
                    refine lv_icmp_ge (tgt := 190) hx hb d_Md_takeSigned_171 (by decide) (fun c_171 => absurd c_171 (by decide)) (fun c_171 => ?_)
                    refine lv_lload_n hx hb d_Md_takeSigned_174 rfl (lv_at hl 1 rfl) ?_
                    refine lv_bipush (v := 64) hx hb d_Md_takeSigned_175 (by decide) ?_
                    refine lv_iload hx hb d_Md_takeSigned_177 (lv_at hl 0 rfl) ?_
                    refine lv_isub hx hb d_Md_takeSigned_179 ?_
                    refine W.eq (g2 := F0 m 180 ls [.int 29, .long yF]) (by rw [show (64 : Int32) - 35 = 29 from by decide +kernel]) ?_
                    refine lv_lshl hx hb d_Md_takeSigned_180 rfl ?_
                    refine lv_bipush (v := 64) hx hb d_Md_takeSigned_181 (by decide) ?_
                    refine lv_iload hx hb d_Md_takeSigned_183 (lv_at hl 0 rfl) ?_
                    refine lv_isub hx hb d_Md_takeSigned_185 ?_
                    refine W.eq (g2 := F0 m 186 ls [.int 29, .long (yF <<< ((29 : Int32).toInt64 &&& 63))]) (by rw [show (64 : Int32) - 35 = 29 from by decide +kernel]) ?_
                    refine lv_lshr hx hb d_Md_takeSigned_186 rfl ?_
                    refine lv_goto (tgt := 191) hx hb d_Md_takeSigned_187 (by decide) ?_
                    exact cRl ((nI zz21, nI f21, nI q21) : A3) hx hb hr hlocks d_Md_takeSigned_191 hS hP hD (Or.inl ⟨f21, q21, by rw [show pS33 b lm a = pSg b lm 5 33 a from rfl, hU4, pSg_T hr21], hf21, rfl, ⟨_, rfl⟩, zz21, by omega, rfl⟩) (Nat.le_refl _) (Nat.le_refl _)
                  · obtain ⟨hla21, hgt21, hv21, hbd21⟩ := (pNext_ok2 hr21 hb9)
                    have hP : va_P D cls [(m0, .inr (6, mF g K (nI a21, 0, p) e (nI np) B)), ((g 0), .inl (cA 3, 2000, .inl fd)), ((g 10), .inl (cA 3, 4, .inl pe))] H := hP
                    have hD : va_D A [(m0, .inr (6, mF g K (nI a21, 0, p) e (nI np) B)), ((g 0), .inl (cA 3, 2000, .inl fd)), ((g 10), .inl (cA 3, 4, .inl pe))] := hD
                    refine W.cs (cells' := 0) (slots' := 0) rfl rfl ?_
                    refine W.eq (g2 := F0 m 32 ls [.int (nI v21)]) rfl ?_
                    obtain ⟨hbd21, ean21⟩ := hbd21
                    subst ean21
                    have hP : va_P D cls [(m0, .inr (6, mF g K (nI (((((a + 1) + 1) + 1) + 1) + 1), 0, p) e (nI np) B)), ((g 0), .inl (cA 3, 2000, .inl fd)), ((g 10), .inl (cA 3, 4, .inl pe))] H := hP
                    have hD : va_D A [(m0, .inr (6, mF g K (nI (((((a + 1) + 1) + 1) + 1) + 1), 0, p) e (nI np) B)), ((g 0), .inl (cA 3, 2000, .inl fd)), ((g 10), .inl (cA 3, 4, .inl pe))] := hD
                    refine lv_istore (lv' := [(6, .int (nI v21)), (5, .int 4), (10, .int 28), (2, .long (lN V4)), (9, .int 1), (8, .int 0), (7, .int 12), (4, .int 5), (0, .ref m0), (1, .int 33)]) hx hb d_Md_takeSigned_32 hl (by decide) rfl (fun ls hl => ?_)
                    refine lv_iload_n hx hb d_Md_takeSigned_34 rfl (lv_at hl 9 rfl) ?_
                    refine lv_bipush (v := 7) hx hb d_Md_takeSigned_35 (by decide) ?_
                    refine lv_iload hx hb d_Md_takeSigned_37 (lv_at hl 1 rfl) ?_
                    refine lv_imul hx hb d_Md_takeSigned_39 ?_
                    refine W.eq (g2 := F0 m 40 ls [.int 28, .int 33]) (by rw [show (7 : Int32) * 4 = 28 from by decide +kernel]) ?_
                    refine lv_isub hx hb d_Md_takeSigned_40 ?_
                    refine W.eq (g2 := F0 m 41 ls [.int 5]) (by rw [show (33 : Int32) - 28 = 5 from by decide +kernel]) ?_
                    refine lv_istore (lv' := [(7, .int 5), (6, .int (nI v21)), (5, .int 4), (10, .int 28), (2, .long (lN V4)), (9, .int 1), (8, .int 0), (4, .int 5), (0, .ref m0), (1, .int 33)]) hx hb d_Md_takeSigned_41 hl (by decide) rfl (fun ls hl => ?_)
                    refine lv_iload hx hb d_Md_takeSigned_43 (lv_at hl 0 rfl) ?_
                    refine lv_bipush (v := 7) hx hb d_Md_takeSigned_45 (by decide) ?_
                    refine lv_icmp_ge (tgt := 63) hx hb d_Md_takeSigned_47 (by decide) (fun c_47 => absurd c_47 (by decide)) (fun c_47 => ?_)
                    refine lv_iload hx hb d_Md_takeSigned_50 (lv_at hl 1 rfl) ?_
                    refine lv_bipush (v := 127) hx hb d_Md_takeSigned_52 (by decide) ?_
                    refine lv_iand hx hb d_Md_takeSigned_54 ?_
                    rw [pk_andN (n := v21) (by omega) 7 (by decide +kernel)]
                    refine lv_iload hx hb d_Md_takeSigned_55 (lv_at hl 0 rfl) ?_
                    refine lv_iconst (v := 1) hx hb d_Md_takeSigned_57 (by decide) ?_
                    refine lv_isub hx hb d_Md_takeSigned_58 ?_
                    refine W.eq (g2 := F0 m 59 ls [.int 4, .int (nI (v21 % 2 ^ 7))]) (by rw [show (5 : Int32) - 1 = 4 from by decide +kernel]) ?_
                    refine lv_ishr hx hb d_Md_takeSigned_59 ?_
                    rw [pk_shrN (n := v21 % 2 ^ 7) (by omega) _ 4 (by decide +kernel)]
                    refine lv_goto (tgt := 64) hx hb d_Md_takeSigned_60 (by decide) ?_
                    refine lv_istore (lv' := [(8, .int (nI (v21 % 2 ^ 7 / 2 ^ 4))), (7, .int 5), (6, .int (nI v21)), (5, .int 4), (10, .int 28), (2, .long (lN V4)), (9, .int 1), (4, .int 5), (0, .ref m0), (1, .int 33)]) hx hb d_Md_takeSigned_64 hl (by decide) rfl (fun ls hl => ?_)
                    refine lv_iload hx hb d_Md_takeSigned_66 (lv_at hl 1 rfl) ?_
                    refine lv_bipush (v := 7) hx hb d_Md_takeSigned_68 (by decide) ?_
                    refine lv_icmp_ge (tgt := 90) hx hb d_Md_takeSigned_70 (by decide) (fun c_70 => absurd c_70 (by decide)) (fun c_70 => ?_)
                    refine lv_iload hx hb d_Md_takeSigned_73 (lv_at hl 0 rfl) ?_
                    refine lv_if_eq (tgt := 90) hx hb d_Md_takeSigned_75 (by decide) (fun c_75 => ?_) (fun c_75 => ?_)
                    · refine lv_iconst (v := 1) hx hb d_Md_takeSigned_90 (by decide) ?_
                      refine lv_goto (tgt := 95) hx hb d_Md_takeSigned_91 (by decide) ?_
                      refine lv_istore (lv' := [(9, .int 1), (8, .int (nI (v21 % 2 ^ 7 / 2 ^ 4))), (7, .int 5), (6, .int (nI v21)), (5, .int 4), (10, .int 28), (2, .long (lN V4)), (4, .int 5), (0, .ref m0), (1, .int 33)]) hx hb d_Md_takeSigned_95 hl (by decide) rfl (fun ls hl => ?_)
                      refine lv_aload_n hx hb d_Md_takeSigned_97 rfl (lv_at hl 8 rfl) ?_
                      refine va_get (D := D) (ci := 6) (v := .int 0) (C := R_Md) (T := F_Md) (N := 44) hx hb hts (fun w h => List.mem_cons_of_mem _ (i_Md w h)) hown hE.1 hP 0 rfl rfl 3 (by decide) (hts _ (List.mem_cons_of_mem _ iw3_57)) (fun _ h9 => h9) rfl d_Md_takeSigned_98 ?_
                      refine lv_if_ne (tgt := 134) hx hb d_Md_takeSigned_101 (by decide) (fun c_101 => absurd (by decide) c_101) (fun c_101 => ?_)
                      refine lv_iload hx hb d_Md_takeSigned_104 (lv_at hl 2 rfl) ?_
                      refine lv_bipush (v := 8) hx hb d_Md_takeSigned_106 (by decide) ?_
                      refine lv_icmp_ge (tgt := 134) hx hb d_Md_takeSigned_108 (by decide) (fun c_108 => absurd c_108 (by decide)) (fun c_108 => ?_)
                      refine lv_iload hx hb d_Md_takeSigned_111 (lv_at hl 3 rfl) ?_
                      refine lv_bipush (v := 127) hx hb d_Md_takeSigned_113 (by decide) ?_
                      refine lv_icmp_gt (tgt := 123) hx hb d_Md_takeSigned_115 (by decide) (fun c_115 => ?_) (fun c_115 => ?_)
                      · have hbad : sTop 5 v21 = false := sTop_big 4 (by decide) v21 (by omega) (by have := (nI_ltI (a := 127) (b := v21) (by omega) (by omega)).mp c_115; omega)
                        refine lv_aload_n hx hb d_Md_takeSigned_123 rfl (lv_at hl 8 rfl) ?_
                        refine lv_iconst (v := 4) hx hb d_Md_takeSigned_124 (by decide) ?_
                        refine lv_aload_n hx hb d_Md_takeSigned_125 rfl (lv_at hl 8 rfl) ?_
                        refine va_get (D := D) (ci := 6) (v := .int (nI (((((a + 1) + 1) + 1) + 1) + 1))) (C := R_Md) (T := F_Md) (N := 44) hx hb hts (fun w h => List.mem_cons_of_mem _ (i_Md w h)) hown hE.1 hP 0 rfl rfl 2 (by decide) (hts _ (List.mem_cons_of_mem _ iw3_56)) (fun _ h9 => h9) rfl d_Md_takeSigned_126 ?_
                        refine lv_iconst (v := 1) hx hb d_Md_takeSigned_129 (by decide) ?_
                        refine lv_isub hx hb d_Md_takeSigned_130 ?_
                        rw [nI_pred]
                        refine cV (As := [.int 4, .int (nI ((((a + 1) + 1) + 1) + 1))]) (rest := []) (n := 2) (wc := [(m0, .inr (6, mF g K (nI (((((a + 1) + 1) + 1) + 1) + 1), 0, p) e (nI np) B))]) (wr := [((g 0), .inl (cA 3, 2000, .inl fd)), ((g 10), .inl (cA 3, 4, .inl pe))]) ⟨hx, hb, hml, hown, hts⟩ hno hlocks hl.1 (c_Md_stop l hl9 D cA ad H.size m0 g K e (nI np) B (nI (((((a + 1) + 1) + 1) + 1) + 1)) p (4 : Int32) (nI ((((a + 1) + 1) + 1) + 1))) iw3_216 iw3_218 sel_Md_stop iw1_7 iw3_219 (by decide +kernel) rfl ⟨Nat.le_of_ble_eq_true rfl, Nat.le_of_ble_eq_true rfl⟩ ⟨Nat.le_of_ble_eq_true rfl, Nat.le_of_ble_eq_true rfl⟩ rfl (Nat.le_of_ble_eq_true rfl) d_Md_takeSigned_131 hE hP hD hS hA [0] [1, 2] rfl rfl rfl rfl (by decide) (ci := 6) rfl rfl 0 rfl (fun _ h => h.elim) (fun v_131 u_131 H locs hp_131 hP hD hS => ?_)
                        obtain rfl := hp_131
                        have hP : va_P D cls [(m0, .inr (6, mF g K (nI (((((a + 1) + 1) + 1) + 1) + 1), 4, nI ((((a + 1) + 1) + 1) + 1)) e (nI np) B)), ((g 0), .inl (cA 3, 2000, .inl fd)), ((g 10), .inl (cA 3, 4, .inl pe))] H := hP.sub [2, 0, 1] rfl
                        have hD : va_D A [(m0, .inr (6, mF g K (nI (((((a + 1) + 1) + 1) + 1) + 1), 4, nI ((((a + 1) + 1) + 1) + 1)) e (nI np) B)), ((g 0), .inl (cA 3, 2000, .inl fd)), ((g 10), .inl (cA 3, 4, .inl pe))] := hD.sub [2, 0, 1] (by decide) rfl
                        refine W.cs (cells' := 0) (slots' := 0) rfl rfl ?_
                        refine W.eq (g2 := F0 m 134 ls []) rfl ?_
                        refine lv_lload_n hx hb d_Md_takeSigned_134 rfl (lv_at hl 6 rfl) ?_
                        refine lv_iload hx hb d_Md_takeSigned_135 (lv_at hl 3 rfl) ?_
                        refine lv_bipush (v := 127) hx hb d_Md_takeSigned_137 (by decide) ?_
                        refine lv_iand hx hb d_Md_takeSigned_139 ?_
                        refine lv_i2l hx hb d_Md_takeSigned_140 rfl ?_
                        refine lv_bipush (v := 7) hx hb d_Md_takeSigned_141 (by decide) ?_
                        refine lv_iload hx hb d_Md_takeSigned_143 (lv_at hl 4 rfl) ?_
                        refine lv_imul hx hb d_Md_takeSigned_145 ?_
                        refine W.eq (g2 := F0 m 146 ls [.int 28, .long (((nI v21) &&& 127).toInt64), .long (lN V4)]) (by rw [show (7 : Int32) * 4 = 28 from by decide +kernel]) ?_
                        refine lv_lshl hx hb d_Md_takeSigned_146 rfl ?_
                        refine lv_lor hx hb d_Md_takeSigned_147 ?_
                        refine lv_topl (fun yF eyF => ?_)
                        refine lv_lstore_n (lv' := [(2, .long yF), (9, .int 1), (8, .int (nI (v21 % 2 ^ 7 / 2 ^ 4))), (7, .int 5), (6, .int (nI v21)), (5, .int 4), (10, .int 28), (4, .int 5), (0, .ref m0), (1, .int 33)]) hx hb d_Md_takeSigned_148 rfl hl (by decide) rfl (fun ls hl => ?_)
                        refine lv_bipush (v := 7) hx hb d_Md_takeSigned_149 (by decide) ?_
                        refine lv_iload hx hb d_Md_takeSigned_151 (lv_at hl 5 rfl) ?_
                        refine lv_imul hx hb d_Md_takeSigned_153 ?_
                        refine W.eq (g2 := F0 m 154 ls [.int 28]) (by rw [show (7 : Int32) * 4 = 28 from by decide +kernel]) ?_
                        refine lv_bipush (v := 7) hx hb d_Md_takeSigned_154 (by decide) ?_
                        refine lv_iadd hx hb d_Md_takeSigned_156 ?_
                        refine W.eq (g2 := F0 m 157 ls [.int 35]) (by rw [show (28 : Int32) + 7 = 35 from by decide +kernel]) ?_
                        refine lv_istore (lv' := [(10, .int 35), (2, .long yF), (9, .int 1), (8, .int (nI (v21 % 2 ^ 7 / 2 ^ 4))), (7, .int 5), (6, .int (nI v21)), (5, .int 4), (4, .int 5), (0, .ref m0), (1, .int 33)]) hx hb d_Md_takeSigned_157 hl (by decide) rfl (fun ls hl => ?_)
                        refine lv_iload hx hb d_Md_takeSigned_159 (lv_at hl 5 rfl) ?_
                        refine lv_sipush (v := 128) hx hb d_Md_takeSigned_161 (by decide) ?_
                        refine lv_icmp_ge (tgt := 192) hx hb d_Md_takeSigned_164 (by decide) (fun c_164 => ?_) (fun c_164 => ?_)
                        · refine lv_iinc (v := 5) (lv' := [(5, .int 5), (10, .int 35), (2, .long yF), (9, .int 1), (8, .int (nI (v21 % 2 ^ 7 / 2 ^ 4))), (7, .int 5), (6, .int (nI v21)), (4, .int 5), (0, .ref m0), (1, .int 33)]) hx hb d_Md_takeSigned_192 hl (k := 6) rfl (by decide) (by decide) rfl (fun ls hl => ?_)
                          refine lv_goto (tgt := 14) hx hb d_Md_takeSigned_195 (by decide) ?_
                          refine lv_iload hx hb d_Md_takeSigned_14 (lv_at hl 0 rfl) ?_
                          refine lv_iload hx hb d_Md_takeSigned_16 (lv_at hl 7 rfl) ?_
                          refine lv_icmp_ge (tgt := 198) hx hb d_Md_takeSigned_18 (by decide) (fun c_18 => ?_) (fun c_18 => absurd (by decide) c_18)
                          refine lv_lload_n hx hb d_Md_takeSigned_198 rfl (lv_at hl 2 rfl) ?_
                          exact cRl ((nI (((((a + 1) + 1) + 1) + 1) + 1), nI 4, nI ((((a + 1) + 1) + 1) + 1)) : A3) hx hb hr hlocks d_Md_takeSigned_199 hS hP hD (Or.inl ⟨4, ((((a + 1) + 1) + 1) + 1), by rw [show pS33 b lm a = pSg b lm 5 33 a from rfl, hU4, pSg_F hr21 (by decide) hbad], ⟨by decide, by decide⟩, rfl, ⟨_, rfl⟩, (((((a + 1) + 1) + 1) + 1) + 1), by omega, rfl⟩) (Nat.le_refl _) (Nat.le_refl _)
                        · refine lv_iload hx hb d_Md_takeSigned_167 (lv_at hl 0 rfl) ?_
                          refine lv_bipush (v := 64) hx hb d_Md_takeSigned_169 (by decide) ?_
                          refine lv_icmp_ge (tgt := 190) hx hb d_Md_takeSigned_171 (by decide) (fun c_171 => absurd c_171 (by decide)) (fun c_171 => ?_)
                          refine lv_lload_n hx hb d_Md_takeSigned_174 rfl (lv_at hl 1 rfl) ?_
                          refine lv_bipush (v := 64) hx hb d_Md_takeSigned_175 (by decide) ?_
                          refine lv_iload hx hb d_Md_takeSigned_177 (lv_at hl 0 rfl) ?_
                          refine lv_isub hx hb d_Md_takeSigned_179 ?_
                          refine W.eq (g2 := F0 m 180 ls [.int 29, .long yF]) (by rw [show (64 : Int32) - 35 = 29 from by decide +kernel]) ?_
                          refine lv_lshl hx hb d_Md_takeSigned_180 rfl ?_
                          refine lv_bipush (v := 64) hx hb d_Md_takeSigned_181 (by decide) ?_
                          refine lv_iload hx hb d_Md_takeSigned_183 (lv_at hl 0 rfl) ?_
                          refine lv_isub hx hb d_Md_takeSigned_185 ?_
                          refine W.eq (g2 := F0 m 186 ls [.int 29, .long (yF <<< ((29 : Int32).toInt64 &&& 63))]) (by rw [show (64 : Int32) - 35 = 29 from by decide +kernel]) ?_
                          refine lv_lshr hx hb d_Md_takeSigned_186 rfl ?_
                          refine lv_goto (tgt := 191) hx hb d_Md_takeSigned_187 (by decide) ?_
                          exact cRl ((nI (((((a + 1) + 1) + 1) + 1) + 1), nI 4, nI ((((a + 1) + 1) + 1) + 1)) : A3) hx hb hr hlocks d_Md_takeSigned_191 hS hP hD (Or.inl ⟨4, ((((a + 1) + 1) + 1) + 1), by rw [show pS33 b lm a = pSg b lm 5 33 a from rfl, hU4, pSg_F hr21 (by decide) hbad], ⟨by decide, by decide⟩, rfl, ⟨_, rfl⟩, (((((a + 1) + 1) + 1) + 1) + 1), by omega, rfl⟩) (Nat.le_refl _) (Nat.le_refl _)
                      · have hle : v21 ≤ 127 := Nat.le_of_not_lt (fun q => c_115 (nI_lt (a := 127) (b := v21) q (by omega)))
                        refine lv_iload hx hb d_Md_takeSigned_118 (lv_at hl 0 rfl) ?_
                        refine lv_if_ne (tgt := 134) hx hb d_Md_takeSigned_120 (by decide) (fun c_120 => ?_) (fun c_120 => absurd c_120 (by decide))
                        have hst : sTop 5 v21 = true := sT5t hle (by first | exact Or.inl c_75 | exact Or.inr c_87)
                        have ho4 : ¬ (5 ≤ 7 ∧ sTop 5 v21 = false) := fun q => by rw [hst] at q; exact absurd q.2 (by decide)
                        refine lv_lload_n hx hb d_Md_takeSigned_134 rfl (lv_at hl 6 rfl) ?_
                        refine lv_iload hx hb d_Md_takeSigned_135 (lv_at hl 3 rfl) ?_
                        refine lv_bipush (v := 127) hx hb d_Md_takeSigned_137 (by decide) ?_
                        refine lv_iand hx hb d_Md_takeSigned_139 ?_
                        refine lv_i2l hx hb d_Md_takeSigned_140 rfl ?_
                        refine lv_bipush (v := 7) hx hb d_Md_takeSigned_141 (by decide) ?_
                        refine lv_iload hx hb d_Md_takeSigned_143 (lv_at hl 4 rfl) ?_
                        refine lv_imul hx hb d_Md_takeSigned_145 ?_
                        refine W.eq (g2 := F0 m 146 ls [.int 28, .long (((nI v21) &&& 127).toInt64), .long (lN V4)]) (by rw [show (7 : Int32) * 4 = 28 from by decide +kernel]) ?_
                        refine lv_lshl hx hb d_Md_takeSigned_146 rfl ?_
                        refine lv_lor hx hb d_Md_takeSigned_147 ?_
                        refine lv_topl (fun y4_ ey4_ => ?_)
                        have hy4_ : y4_ = lN (V4 + v21 % 128 * 2 ^ 28) := ey4_.trans (u_step 28 (by decide) (by decide) (v := V4) hV4 hbd21)
                        have hW4 : V4 + v21 % 128 * 2 ^ 28 < 2 ^ 35 := u_bd (k := 28) hV4
                        have hsg4 : v21 < 128 → ((lN (V4 + v21 % 128 * 2 ^ 28) <<< ((29 : Int32).toInt64 &&& 63)) >>> ((29 : Int32).toInt64 &&& 63) < 0 ↔ ¬ v21 / 64 % 2 = 0) := fun q => by rw [Nat.mod_eq_of_lt q]; exact sg_neg (o := V4) (g := v21) (sh := 28) hV4 q (by decide)
                        generalize V4 + v21 % 128 * 2 ^ 28 = V5 at hy4_ hW4 hsg4
                        subst hy4_
                        refine lv_lstore_n (lv' := [(2, .long (lN V5)), (9, .int 1), (8, .int (nI (v21 % 2 ^ 7 / 2 ^ 4))), (7, .int 5), (6, .int (nI v21)), (5, .int 4), (10, .int 28), (4, .int 5), (0, .ref m0), (1, .int 33)]) hx hb d_Md_takeSigned_148 rfl hl (by decide) rfl (fun ls hl => ?_)
                        refine lv_bipush (v := 7) hx hb d_Md_takeSigned_149 (by decide) ?_
                        refine lv_iload hx hb d_Md_takeSigned_151 (lv_at hl 5 rfl) ?_
                        refine lv_imul hx hb d_Md_takeSigned_153 ?_
                        refine W.eq (g2 := F0 m 154 ls [.int 28]) (by rw [show (7 : Int32) * 4 = 28 from by decide +kernel]) ?_
                        refine lv_bipush (v := 7) hx hb d_Md_takeSigned_154 (by decide) ?_
                        refine lv_iadd hx hb d_Md_takeSigned_156 ?_
                        refine W.eq (g2 := F0 m 157 ls [.int 35]) (by rw [show (28 : Int32) + 7 = 35 from by decide +kernel]) ?_
                        refine lv_istore (lv' := [(10, .int 35), (2, .long (lN V5)), (9, .int 1), (8, .int (nI (v21 % 2 ^ 7 / 2 ^ 4))), (7, .int 5), (6, .int (nI v21)), (5, .int 4), (4, .int 5), (0, .ref m0), (1, .int 33)]) hx hb d_Md_takeSigned_157 hl (by decide) rfl (fun ls hl => ?_)
                        refine lv_iload hx hb d_Md_takeSigned_159 (lv_at hl 5 rfl) ?_
                        refine lv_sipush (v := 128) hx hb d_Md_takeSigned_161 (by decide) ?_
                        refine lv_icmp_ge (tgt := 192) hx hb d_Md_takeSigned_164 (by decide) (fun c_164 => ?_) (fun c_164 => ?_)
                        · have hd4 : ¬ v21 < 128 := fun q => absurd ((nI_leI (a := 128) (b := v21) (by omega) (by omega)).mp c_164) (by omega)
                          exact absurd hle (by omega)
                        · have hd4 : v21 < 128 := Nat.lt_of_not_le (fun q => c_164 (nI_le (a := 128) (b := v21) q (by omega)))
                          refine lv_iload hx hb d_Md_takeSigned_167 (lv_at hl 0 rfl) ?_
                          refine lv_bipush (v := 64) hx hb d_Md_takeSigned_169 (by decide) ?_
                          refine lv_icmp_ge (tgt := 190) hx hb d_Md_takeSigned_171 (by decide) (fun c_171 => absurd c_171 (by decide)) (fun c_171 => ?_)
                          refine lv_lload_n hx hb d_Md_takeSigned_174 rfl (lv_at hl 1 rfl) ?_
                          refine lv_bipush (v := 64) hx hb d_Md_takeSigned_175 (by decide) ?_
                          refine lv_iload hx hb d_Md_takeSigned_177 (lv_at hl 0 rfl) ?_
                          refine lv_isub hx hb d_Md_takeSigned_179 ?_
                          refine W.eq (g2 := F0 m 180 ls [.int 29, .long (lN V5)]) (by rw [show (64 : Int32) - 35 = 29 from by decide +kernel]) ?_
                          refine lv_lshl hx hb d_Md_takeSigned_180 rfl ?_
                          refine lv_bipush (v := 64) hx hb d_Md_takeSigned_181 (by decide) ?_
                          refine lv_iload hx hb d_Md_takeSigned_183 (lv_at hl 0 rfl) ?_
                          refine lv_isub hx hb d_Md_takeSigned_185 ?_
                          refine W.eq (g2 := F0 m 186 ls [.int 29, .long ((lN V5) <<< ((29 : Int32).toInt64 &&& 63))]) (by rw [show (64 : Int32) - 35 = 29 from by decide +kernel]) ?_
                          refine lv_lshr hx hb d_Md_takeSigned_186 rfl ?_
                          refine lv_goto (tgt := 191) hx hb d_Md_takeSigned_187 (by decide) ?_
                          exact cRl ((nI (((((a + 1) + 1) + 1) + 1) + 1), 0, p) : A3) hx hb hr hlocks d_Md_takeSigned_191 hS hP hD (Or.inr ⟨v21 / 64 % 2, (((((a + 1) + 1) + 1) + 1) + 1), hU4.trans (pSg_E hr21 ho4 hd4), rfl, _, rfl, hsg4 hd4⟩) (Nat.le_refl _) (Nat.le_refl _)
                    · refine lv_iload hx hb d_Md_takeSigned_78 (lv_at hl 0 rfl) ?_
                      refine lv_bipush (v := 127) hx hb d_Md_takeSigned_80 (by decide) ?_
                      refine lv_iload hx hb d_Md_takeSigned_82 (lv_at hl 1 rfl) ?_
                      refine lv_iconst (v := 1) hx hb d_Md_takeSigned_84 (by decide) ?_
                      refine lv_isub hx hb d_Md_takeSigned_85 ?_
                      refine W.eq (g2 := F0 m 86 ls [.int 4, .int 127, .int (nI (v21 % 2 ^ 7 / 2 ^ 4))]) (by rw [show (5 : Int32) - 1 = 4 from by decide +kernel]) ?_
                      refine lv_ishr hx hb d_Md_takeSigned_86 ?_
                      refine W.eq (g2 := F0 m 87 ls [.int 7, .int (nI (v21 % 2 ^ 7 / 2 ^ 4))]) (by rw [show (127 : Int32) >>> (4 &&& 31) = 7 from by decide +kernel]) ?_
                      refine lv_icmp_ne (tgt := 94) hx hb d_Md_takeSigned_87 (by decide) (fun c_87 => ?_) (fun c_87 => ?_)
                      · refine lv_iconst (v := 0) hx hb d_Md_takeSigned_94 (by decide) ?_
                        refine lv_istore (lv' := [(9, .int 0), (8, .int (nI (v21 % 2 ^ 7 / 2 ^ 4))), (7, .int 5), (6, .int (nI v21)), (5, .int 4), (10, .int 28), (2, .long (lN V4)), (4, .int 5), (0, .ref m0), (1, .int 33)]) hx hb d_Md_takeSigned_95 hl (by decide) rfl (fun ls hl => ?_)
                        refine lv_aload_n hx hb d_Md_takeSigned_97 rfl (lv_at hl 8 rfl) ?_
                        refine va_get (D := D) (ci := 6) (v := .int 0) (C := R_Md) (T := F_Md) (N := 44) hx hb hts (fun w h => List.mem_cons_of_mem _ (i_Md w h)) hown hE.1 hP 0 rfl rfl 3 (by decide) (hts _ (List.mem_cons_of_mem _ iw3_57)) (fun _ h9 => h9) rfl d_Md_takeSigned_98 ?_
                        refine lv_if_ne (tgt := 134) hx hb d_Md_takeSigned_101 (by decide) (fun c_101 => absurd (by decide) c_101) (fun c_101 => ?_)
                        refine lv_iload hx hb d_Md_takeSigned_104 (lv_at hl 2 rfl) ?_
                        refine lv_bipush (v := 8) hx hb d_Md_takeSigned_106 (by decide) ?_
                        refine lv_icmp_ge (tgt := 134) hx hb d_Md_takeSigned_108 (by decide) (fun c_108 => absurd c_108 (by decide)) (fun c_108 => ?_)
                        refine lv_iload hx hb d_Md_takeSigned_111 (lv_at hl 3 rfl) ?_
                        refine lv_bipush (v := 127) hx hb d_Md_takeSigned_113 (by decide) ?_
                        refine lv_icmp_gt (tgt := 123) hx hb d_Md_takeSigned_115 (by decide) (fun c_115 => ?_) (fun c_115 => ?_)
                        · have hbad : sTop 5 v21 = false := sTop_big 4 (by decide) v21 (by omega) (by have := (nI_ltI (a := 127) (b := v21) (by omega) (by omega)).mp c_115; omega)
                          refine lv_aload_n hx hb d_Md_takeSigned_123 rfl (lv_at hl 8 rfl) ?_
                          refine lv_iconst (v := 4) hx hb d_Md_takeSigned_124 (by decide) ?_
                          refine lv_aload_n hx hb d_Md_takeSigned_125 rfl (lv_at hl 8 rfl) ?_
                          refine va_get (D := D) (ci := 6) (v := .int (nI (((((a + 1) + 1) + 1) + 1) + 1))) (C := R_Md) (T := F_Md) (N := 44) hx hb hts (fun w h => List.mem_cons_of_mem _ (i_Md w h)) hown hE.1 hP 0 rfl rfl 2 (by decide) (hts _ (List.mem_cons_of_mem _ iw3_56)) (fun _ h9 => h9) rfl d_Md_takeSigned_126 ?_
                          refine lv_iconst (v := 1) hx hb d_Md_takeSigned_129 (by decide) ?_
                          refine lv_isub hx hb d_Md_takeSigned_130 ?_
                          rw [nI_pred]
                          refine cV (As := [.int 4, .int (nI ((((a + 1) + 1) + 1) + 1))]) (rest := []) (n := 2) (wc := [(m0, .inr (6, mF g K (nI (((((a + 1) + 1) + 1) + 1) + 1), 0, p) e (nI np) B))]) (wr := [((g 0), .inl (cA 3, 2000, .inl fd)), ((g 10), .inl (cA 3, 4, .inl pe))]) ⟨hx, hb, hml, hown, hts⟩ hno hlocks hl.1 (c_Md_stop l hl9 D cA ad H.size m0 g K e (nI np) B (nI (((((a + 1) + 1) + 1) + 1) + 1)) p (4 : Int32) (nI ((((a + 1) + 1) + 1) + 1))) iw3_216 iw3_218 sel_Md_stop iw1_7 iw3_219 (by decide +kernel) rfl ⟨Nat.le_of_ble_eq_true rfl, Nat.le_of_ble_eq_true rfl⟩ ⟨Nat.le_of_ble_eq_true rfl, Nat.le_of_ble_eq_true rfl⟩ rfl (Nat.le_of_ble_eq_true rfl) d_Md_takeSigned_131 hE hP hD hS hA [0] [1, 2] rfl rfl rfl rfl (by decide) (ci := 6) rfl rfl 0 rfl (fun _ h => h.elim) (fun v_131 u_131 H locs hp_131 hP hD hS => ?_)
                          obtain rfl := hp_131
                          have hP : va_P D cls [(m0, .inr (6, mF g K (nI (((((a + 1) + 1) + 1) + 1) + 1), 4, nI ((((a + 1) + 1) + 1) + 1)) e (nI np) B)), ((g 0), .inl (cA 3, 2000, .inl fd)), ((g 10), .inl (cA 3, 4, .inl pe))] H := hP.sub [2, 0, 1] rfl
                          have hD : va_D A [(m0, .inr (6, mF g K (nI (((((a + 1) + 1) + 1) + 1) + 1), 4, nI ((((a + 1) + 1) + 1) + 1)) e (nI np) B)), ((g 0), .inl (cA 3, 2000, .inl fd)), ((g 10), .inl (cA 3, 4, .inl pe))] := hD.sub [2, 0, 1] (by decide) rfl
                          refine W.cs (cells' := 0) (slots' := 0) rfl rfl ?_
                          refine W.eq (g2 := F0 m 134 ls []) rfl ?_
                          refine lv_lload_n hx hb d_Md_takeSigned_134 rfl (lv_at hl 6 rfl) ?_
                          refine lv_iload hx hb d_Md_takeSigned_135 (lv_at hl 3 rfl) ?_
                          refine lv_bipush (v := 127) hx hb d_Md_takeSigned_137 (by decide) ?_
                          refine lv_iand hx hb d_Md_takeSigned_139 ?_
                          refine lv_i2l hx hb d_Md_takeSigned_140 rfl ?_
                          refine lv_bipush (v := 7) hx hb d_Md_takeSigned_141 (by decide) ?_
                          refine lv_iload hx hb d_Md_takeSigned_143 (lv_at hl 4 rfl) ?_
                          refine lv_imul hx hb d_Md_takeSigned_145 ?_
                          refine W.eq (g2 := F0 m 146 ls [.int 28, .long (((nI v21) &&& 127).toInt64), .long (lN V4)]) (by rw [show (7 : Int32) * 4 = 28 from by decide +kernel]) ?_
                          refine lv_lshl hx hb d_Md_takeSigned_146 rfl ?_
                          refine lv_lor hx hb d_Md_takeSigned_147 ?_
                          refine lv_topl (fun yF eyF => ?_)
                          refine lv_lstore_n (lv' := [(2, .long yF), (9, .int 0), (8, .int (nI (v21 % 2 ^ 7 / 2 ^ 4))), (7, .int 5), (6, .int (nI v21)), (5, .int 4), (10, .int 28), (4, .int 5), (0, .ref m0), (1, .int 33)]) hx hb d_Md_takeSigned_148 rfl hl (by decide) rfl (fun ls hl => ?_)
                          refine lv_bipush (v := 7) hx hb d_Md_takeSigned_149 (by decide) ?_
                          refine lv_iload hx hb d_Md_takeSigned_151 (lv_at hl 5 rfl) ?_
                          refine lv_imul hx hb d_Md_takeSigned_153 ?_
                          refine W.eq (g2 := F0 m 154 ls [.int 28]) (by rw [show (7 : Int32) * 4 = 28 from by decide +kernel]) ?_
                          refine lv_bipush (v := 7) hx hb d_Md_takeSigned_154 (by decide) ?_
                          refine lv_iadd hx hb d_Md_takeSigned_156 ?_
                          refine W.eq (g2 := F0 m 157 ls [.int 35]) (by rw [show (28 : Int32) + 7 = 35 from by decide +kernel]) ?_
                          refine lv_istore (lv' := [(10, .int 35), (2, .long yF), (9, .int 0), (8, .int (nI (v21 % 2 ^ 7 / 2 ^ 4))), (7, .int 5), (6, .int (nI v21)), (5, .int 4), (4, .int 5), (0, .ref m0), (1, .int 33)]) hx hb d_Md_takeSigned_157 hl (by decide) rfl (fun ls hl => ?_)
                          refine lv_iload hx hb d_Md_takeSigned_159 (lv_at hl 5 rfl) ?_
                          refine lv_sipush (v := 128) hx hb d_Md_takeSigned_161 (by decide) ?_
                          refine lv_icmp_ge (tgt := 192) hx hb d_Md_takeSigned_164 (by decide) (fun c_164 => ?_) (fun c_164 => ?_)
                          · refine lv_iinc (v := 5) (lv' := [(5, .int 5), (10, .int 35), (2, .long yF), (9, .int 0), (8, .int (nI (v21 % 2 ^ 7 / 2 ^ 4))), (7, .int 5), (6, .int (nI v21)), (4, .int 5), (0, .ref m0), (1, .int 33)]) hx hb d_Md_takeSigned_192 hl (k := 6) rfl (by decide) (by decide) rfl (fun ls hl => ?_)
                            refine lv_goto (tgt := 14) hx hb d_Md_takeSigned_195 (by decide) ?_
                            refine lv_iload hx hb d_Md_takeSigned_14 (lv_at hl 0 rfl) ?_
                            refine lv_iload hx hb d_Md_takeSigned_16 (lv_at hl 7 rfl) ?_
                            refine lv_icmp_ge (tgt := 198) hx hb d_Md_takeSigned_18 (by decide) (fun c_18 => ?_) (fun c_18 => absurd (by decide) c_18)
                            refine lv_lload_n hx hb d_Md_takeSigned_198 rfl (lv_at hl 2 rfl) ?_
                            exact cRl ((nI (((((a + 1) + 1) + 1) + 1) + 1), nI 4, nI ((((a + 1) + 1) + 1) + 1)) : A3) hx hb hr hlocks d_Md_takeSigned_199 hS hP hD (Or.inl ⟨4, ((((a + 1) + 1) + 1) + 1), by rw [show pS33 b lm a = pSg b lm 5 33 a from rfl, hU4, pSg_F hr21 (by decide) hbad], ⟨by decide, by decide⟩, rfl, ⟨_, rfl⟩, (((((a + 1) + 1) + 1) + 1) + 1), by omega, rfl⟩) (Nat.le_refl _) (Nat.le_refl _)
                          · refine lv_iload hx hb d_Md_takeSigned_167 (lv_at hl 0 rfl) ?_
                            refine lv_bipush (v := 64) hx hb d_Md_takeSigned_169 (by decide) ?_
                            refine lv_icmp_ge (tgt := 190) hx hb d_Md_takeSigned_171 (by decide) (fun c_171 => absurd c_171 (by decide)) (fun c_171 => ?_)
                            refine lv_lload_n hx hb d_Md_takeSigned_174 rfl (lv_at hl 1 rfl) ?_
                            refine lv_bipush (v := 64) hx hb d_Md_takeSigned_175 (by decide) ?_
                            refine lv_iload hx hb d_Md_takeSigned_177 (lv_at hl 0 rfl) ?_
                            refine lv_isub hx hb d_Md_takeSigned_179 ?_
                            refine W.eq (g2 := F0 m 180 ls [.int 29, .long yF]) (by rw [show (64 : Int32) - 35 = 29 from by decide +kernel]) ?_
                            refine lv_lshl hx hb d_Md_takeSigned_180 rfl ?_
                            refine lv_bipush (v := 64) hx hb d_Md_takeSigned_181 (by decide) ?_
                            refine lv_iload hx hb d_Md_takeSigned_183 (lv_at hl 0 rfl) ?_
                            refine lv_isub hx hb d_Md_takeSigned_185 ?_
                            refine W.eq (g2 := F0 m 186 ls [.int 29, .long (yF <<< ((29 : Int32).toInt64 &&& 63))]) (by rw [show (64 : Int32) - 35 = 29 from by decide +kernel]) ?_
                            refine lv_lshr hx hb d_Md_takeSigned_186 rfl ?_
                            refine lv_goto (tgt := 191) hx hb d_Md_takeSigned_187 (by decide) ?_
                            exact cRl ((nI (((((a + 1) + 1) + 1) + 1) + 1), nI 4, nI ((((a + 1) + 1) + 1) + 1)) : A3) hx hb hr hlocks d_Md_takeSigned_191 hS hP hD (Or.inl ⟨4, ((((a + 1) + 1) + 1) + 1), by rw [show pS33 b lm a = pSg b lm 5 33 a from rfl, hU4, pSg_F hr21 (by decide) hbad], ⟨by decide, by decide⟩, rfl, ⟨_, rfl⟩, (((((a + 1) + 1) + 1) + 1) + 1), by omega, rfl⟩) (Nat.le_refl _) (Nat.le_refl _)
                        · have hle : v21 ≤ 127 := Nat.le_of_not_lt (fun q => c_115 (nI_lt (a := 127) (b := v21) q (by omega)))
                          refine lv_iload hx hb d_Md_takeSigned_118 (lv_at hl 0 rfl) ?_
                          refine lv_if_ne (tgt := 134) hx hb d_Md_takeSigned_120 (by decide) (fun c_120 => absurd (by decide) c_120) (fun c_120 => ?_)
                          have hbad : sTop 5 v21 = false := sT5f hle c_75 c_87
                          refine lv_aload_n hx hb d_Md_takeSigned_123 rfl (lv_at hl 8 rfl) ?_
                          refine lv_iconst (v := 4) hx hb d_Md_takeSigned_124 (by decide) ?_
                          refine lv_aload_n hx hb d_Md_takeSigned_125 rfl (lv_at hl 8 rfl) ?_
                          refine va_get (D := D) (ci := 6) (v := .int (nI (((((a + 1) + 1) + 1) + 1) + 1))) (C := R_Md) (T := F_Md) (N := 44) hx hb hts (fun w h => List.mem_cons_of_mem _ (i_Md w h)) hown hE.1 hP 0 rfl rfl 2 (by decide) (hts _ (List.mem_cons_of_mem _ iw3_56)) (fun _ h9 => h9) rfl d_Md_takeSigned_126 ?_
                          refine lv_iconst (v := 1) hx hb d_Md_takeSigned_129 (by decide) ?_
                          refine lv_isub hx hb d_Md_takeSigned_130 ?_
                          rw [nI_pred]
                          refine cV (As := [.int 4, .int (nI ((((a + 1) + 1) + 1) + 1))]) (rest := []) (n := 2) (wc := [(m0, .inr (6, mF g K (nI (((((a + 1) + 1) + 1) + 1) + 1), 0, p) e (nI np) B))]) (wr := [((g 0), .inl (cA 3, 2000, .inl fd)), ((g 10), .inl (cA 3, 4, .inl pe))]) ⟨hx, hb, hml, hown, hts⟩ hno hlocks hl.1 (c_Md_stop l hl9 D cA ad H.size m0 g K e (nI np) B (nI (((((a + 1) + 1) + 1) + 1) + 1)) p (4 : Int32) (nI ((((a + 1) + 1) + 1) + 1))) iw3_216 iw3_218 sel_Md_stop iw1_7 iw3_219 (by decide +kernel) rfl ⟨Nat.le_of_ble_eq_true rfl, Nat.le_of_ble_eq_true rfl⟩ ⟨Nat.le_of_ble_eq_true rfl, Nat.le_of_ble_eq_true rfl⟩ rfl (Nat.le_of_ble_eq_true rfl) d_Md_takeSigned_131 hE hP hD hS hA [0] [1, 2] rfl rfl rfl rfl (by decide) (ci := 6) rfl rfl 0 rfl (fun _ h => h.elim) (fun v_131 u_131 H locs hp_131 hP hD hS => ?_)
                          obtain rfl := hp_131
                          have hP : va_P D cls [(m0, .inr (6, mF g K (nI (((((a + 1) + 1) + 1) + 1) + 1), 4, nI ((((a + 1) + 1) + 1) + 1)) e (nI np) B)), ((g 0), .inl (cA 3, 2000, .inl fd)), ((g 10), .inl (cA 3, 4, .inl pe))] H := hP.sub [2, 0, 1] rfl
                          have hD : va_D A [(m0, .inr (6, mF g K (nI (((((a + 1) + 1) + 1) + 1) + 1), 4, nI ((((a + 1) + 1) + 1) + 1)) e (nI np) B)), ((g 0), .inl (cA 3, 2000, .inl fd)), ((g 10), .inl (cA 3, 4, .inl pe))] := hD.sub [2, 0, 1] (by decide) rfl
                          refine W.cs (cells' := 0) (slots' := 0) rfl rfl ?_
                          refine W.eq (g2 := F0 m 134 ls []) rfl ?_
                          refine lv_lload_n hx hb d_Md_takeSigned_134 rfl (lv_at hl 6 rfl) ?_
                          refine lv_iload hx hb d_Md_takeSigned_135 (lv_at hl 3 rfl) ?_
                          refine lv_bipush (v := 127) hx hb d_Md_takeSigned_137 (by decide) ?_
                          refine lv_iand hx hb d_Md_takeSigned_139 ?_
                          refine lv_i2l hx hb d_Md_takeSigned_140 rfl ?_
                          refine lv_bipush (v := 7) hx hb d_Md_takeSigned_141 (by decide) ?_
                          refine lv_iload hx hb d_Md_takeSigned_143 (lv_at hl 4 rfl) ?_
                          refine lv_imul hx hb d_Md_takeSigned_145 ?_
                          refine W.eq (g2 := F0 m 146 ls [.int 28, .long (((nI v21) &&& 127).toInt64), .long (lN V4)]) (by rw [show (7 : Int32) * 4 = 28 from by decide +kernel]) ?_
                          refine lv_lshl hx hb d_Md_takeSigned_146 rfl ?_
                          refine lv_lor hx hb d_Md_takeSigned_147 ?_
                          refine lv_topl (fun yF eyF => ?_)
                          refine lv_lstore_n (lv' := [(2, .long yF), (9, .int 0), (8, .int (nI (v21 % 2 ^ 7 / 2 ^ 4))), (7, .int 5), (6, .int (nI v21)), (5, .int 4), (10, .int 28), (4, .int 5), (0, .ref m0), (1, .int 33)]) hx hb d_Md_takeSigned_148 rfl hl (by decide) rfl (fun ls hl => ?_)
                          refine lv_bipush (v := 7) hx hb d_Md_takeSigned_149 (by decide) ?_
                          refine lv_iload hx hb d_Md_takeSigned_151 (lv_at hl 5 rfl) ?_
                          refine lv_imul hx hb d_Md_takeSigned_153 ?_
                          refine W.eq (g2 := F0 m 154 ls [.int 28]) (by rw [show (7 : Int32) * 4 = 28 from by decide +kernel]) ?_
                          refine lv_bipush (v := 7) hx hb d_Md_takeSigned_154 (by decide) ?_
                          refine lv_iadd hx hb d_Md_takeSigned_156 ?_
                          refine W.eq (g2 := F0 m 157 ls [.int 35]) (by rw [show (28 : Int32) + 7 = 35 from by decide +kernel]) ?_
                          refine lv_istore (lv' := [(10, .int 35), (2, .long yF), (9, .int 0), (8, .int (nI (v21 % 2 ^ 7 / 2 ^ 4))), (7, .int 5), (6, .int (nI v21)), (5, .int 4), (4, .int 5), (0, .ref m0), (1, .int 33)]) hx hb d_Md_takeSigned_157 hl (by decide) rfl (fun ls hl => ?_)
                          refine lv_iload hx hb d_Md_takeSigned_159 (lv_at hl 5 rfl) ?_
                          refine lv_sipush (v := 128) hx hb d_Md_takeSigned_161 (by decide) ?_
                          refine lv_icmp_ge (tgt := 192) hx hb d_Md_takeSigned_164 (by decide) (fun c_164 => ?_) (fun c_164 => ?_)
                          · refine lv_iinc (v := 5) (lv' := [(5, .int 5), (10, .int 35), (2, .long yF), (9, .int 0), (8, .int (nI (v21 % 2 ^ 7 / 2 ^ 4))), (7, .int 5), (6, .int (nI v21)), (4, .int 5), (0, .ref m0), (1, .int 33)]) hx hb d_Md_takeSigned_192 hl (k := 6) rfl (by decide) (by decide) rfl (fun ls hl => ?_)
                            refine lv_goto (tgt := 14) hx hb d_Md_takeSigned_195 (by decide) ?_
                            refine lv_iload hx hb d_Md_takeSigned_14 (lv_at hl 0 rfl) ?_
                            refine lv_iload hx hb d_Md_takeSigned_16 (lv_at hl 7 rfl) ?_
                            refine lv_icmp_ge (tgt := 198) hx hb d_Md_takeSigned_18 (by decide) (fun c_18 => ?_) (fun c_18 => absurd (by decide) c_18)
                            refine lv_lload_n hx hb d_Md_takeSigned_198 rfl (lv_at hl 2 rfl) ?_
                            exact cRl ((nI (((((a + 1) + 1) + 1) + 1) + 1), nI 4, nI ((((a + 1) + 1) + 1) + 1)) : A3) hx hb hr hlocks d_Md_takeSigned_199 hS hP hD (Or.inl ⟨4, ((((a + 1) + 1) + 1) + 1), by rw [show pS33 b lm a = pSg b lm 5 33 a from rfl, hU4, pSg_F hr21 (by decide) hbad], ⟨by decide, by decide⟩, rfl, ⟨_, rfl⟩, (((((a + 1) + 1) + 1) + 1) + 1), by omega, rfl⟩) (Nat.le_refl _) (Nat.le_refl _)
                          · refine lv_iload hx hb d_Md_takeSigned_167 (lv_at hl 0 rfl) ?_
                            refine lv_bipush (v := 64) hx hb d_Md_takeSigned_169 (by decide) ?_
                            refine lv_icmp_ge (tgt := 190) hx hb d_Md_takeSigned_171 (by decide) (fun c_171 => absurd c_171 (by decide)) (fun c_171 => ?_)
                            refine lv_lload_n hx hb d_Md_takeSigned_174 rfl (lv_at hl 1 rfl) ?_
                            refine lv_bipush (v := 64) hx hb d_Md_takeSigned_175 (by decide) ?_
                            refine lv_iload hx hb d_Md_takeSigned_177 (lv_at hl 0 rfl) ?_
                            refine lv_isub hx hb d_Md_takeSigned_179 ?_
                            refine W.eq (g2 := F0 m 180 ls [.int 29, .long yF]) (by rw [show (64 : Int32) - 35 = 29 from by decide +kernel]) ?_
                            refine lv_lshl hx hb d_Md_takeSigned_180 rfl ?_
                            refine lv_bipush (v := 64) hx hb d_Md_takeSigned_181 (by decide) ?_
                            refine lv_iload hx hb d_Md_takeSigned_183 (lv_at hl 0 rfl) ?_
                            refine lv_isub hx hb d_Md_takeSigned_185 ?_
                            refine W.eq (g2 := F0 m 186 ls [.int 29, .long (yF <<< ((29 : Int32).toInt64 &&& 63))]) (by rw [show (64 : Int32) - 35 = 29 from by decide +kernel]) ?_
                            refine lv_lshr hx hb d_Md_takeSigned_186 rfl ?_
                            refine lv_goto (tgt := 191) hx hb d_Md_takeSigned_187 (by decide) ?_
                            exact cRl ((nI (((((a + 1) + 1) + 1) + 1) + 1), nI 4, nI ((((a + 1) + 1) + 1) + 1)) : A3) hx hb hr hlocks d_Md_takeSigned_191 hS hP hD (Or.inl ⟨4, ((((a + 1) + 1) + 1) + 1), by rw [show pS33 b lm a = pSg b lm 5 33 a from rfl, hU4, pSg_F hr21 (by decide) hbad], ⟨by decide, by decide⟩, rfl, ⟨_, rfl⟩, (((((a + 1) + 1) + 1) + 1) + 1), by omega, rfl⟩) (Nat.le_refl _) (Nat.le_refl _)
                      · refine lv_iconst (v := 1) hx hb d_Md_takeSigned_90 (by decide) ?_
                        refine lv_goto (tgt := 95) hx hb d_Md_takeSigned_91 (by decide) ?_
                        refine lv_istore (lv' := [(9, .int 1), (8, .int (nI (v21 % 2 ^ 7 / 2 ^ 4))), (7, .int 5), (6, .int (nI v21)), (5, .int 4), (10, .int 28), (2, .long (lN V4)), (4, .int 5), (0, .ref m0), (1, .int 33)]) hx hb d_Md_takeSigned_95 hl (by decide) rfl (fun ls hl => ?_)
                        refine lv_aload_n hx hb d_Md_takeSigned_97 rfl (lv_at hl 8 rfl) ?_
                        refine va_get (D := D) (ci := 6) (v := .int 0) (C := R_Md) (T := F_Md) (N := 44) hx hb hts (fun w h => List.mem_cons_of_mem _ (i_Md w h)) hown hE.1 hP 0 rfl rfl 3 (by decide) (hts _ (List.mem_cons_of_mem _ iw3_57)) (fun _ h9 => h9) rfl d_Md_takeSigned_98 ?_
                        refine lv_if_ne (tgt := 134) hx hb d_Md_takeSigned_101 (by decide) (fun c_101 => absurd (by decide) c_101) (fun c_101 => ?_)
                        refine lv_iload hx hb d_Md_takeSigned_104 (lv_at hl 2 rfl) ?_
                        refine lv_bipush (v := 8) hx hb d_Md_takeSigned_106 (by decide) ?_
                        refine lv_icmp_ge (tgt := 134) hx hb d_Md_takeSigned_108 (by decide) (fun c_108 => absurd c_108 (by decide)) (fun c_108 => ?_)
                        refine lv_iload hx hb d_Md_takeSigned_111 (lv_at hl 3 rfl) ?_
                        refine lv_bipush (v := 127) hx hb d_Md_takeSigned_113 (by decide) ?_
                        refine lv_icmp_gt (tgt := 123) hx hb d_Md_takeSigned_115 (by decide) (fun c_115 => ?_) (fun c_115 => ?_)
                        · have hbad : sTop 5 v21 = false := sTop_big 4 (by decide) v21 (by omega) (by have := (nI_ltI (a := 127) (b := v21) (by omega) (by omega)).mp c_115; omega)
                          refine lv_aload_n hx hb d_Md_takeSigned_123 rfl (lv_at hl 8 rfl) ?_
                          refine lv_iconst (v := 4) hx hb d_Md_takeSigned_124 (by decide) ?_
                          refine lv_aload_n hx hb d_Md_takeSigned_125 rfl (lv_at hl 8 rfl) ?_
                          refine va_get (D := D) (ci := 6) (v := .int (nI (((((a + 1) + 1) + 1) + 1) + 1))) (C := R_Md) (T := F_Md) (N := 44) hx hb hts (fun w h => List.mem_cons_of_mem _ (i_Md w h)) hown hE.1 hP 0 rfl rfl 2 (by decide) (hts _ (List.mem_cons_of_mem _ iw3_56)) (fun _ h9 => h9) rfl d_Md_takeSigned_126 ?_
                          refine lv_iconst (v := 1) hx hb d_Md_takeSigned_129 (by decide) ?_
                          refine lv_isub hx hb d_Md_takeSigned_130 ?_
                          rw [nI_pred]
                          refine cV (As := [.int 4, .int (nI ((((a + 1) + 1) + 1) + 1))]) (rest := []) (n := 2) (wc := [(m0, .inr (6, mF g K (nI (((((a + 1) + 1) + 1) + 1) + 1), 0, p) e (nI np) B))]) (wr := [((g 0), .inl (cA 3, 2000, .inl fd)), ((g 10), .inl (cA 3, 4, .inl pe))]) ⟨hx, hb, hml, hown, hts⟩ hno hlocks hl.1 (c_Md_stop l hl9 D cA ad H.size m0 g K e (nI np) B (nI (((((a + 1) + 1) + 1) + 1) + 1)) p (4 : Int32) (nI ((((a + 1) + 1) + 1) + 1))) iw3_216 iw3_218 sel_Md_stop iw1_7 iw3_219 (by decide +kernel) rfl ⟨Nat.le_of_ble_eq_true rfl, Nat.le_of_ble_eq_true rfl⟩ ⟨Nat.le_of_ble_eq_true rfl, Nat.le_of_ble_eq_true rfl⟩ rfl (Nat.le_of_ble_eq_true rfl) d_Md_takeSigned_131 hE hP hD hS hA [0] [1, 2] rfl rfl rfl rfl (by decide) (ci := 6) rfl rfl 0 rfl (fun _ h => h.elim) (fun v_131 u_131 H locs hp_131 hP hD hS => ?_)
                          obtain rfl := hp_131
                          have hP : va_P D cls [(m0, .inr (6, mF g K (nI (((((a + 1) + 1) + 1) + 1) + 1), 4, nI ((((a + 1) + 1) + 1) + 1)) e (nI np) B)), ((g 0), .inl (cA 3, 2000, .inl fd)), ((g 10), .inl (cA 3, 4, .inl pe))] H := hP.sub [2, 0, 1] rfl
                          have hD : va_D A [(m0, .inr (6, mF g K (nI (((((a + 1) + 1) + 1) + 1) + 1), 4, nI ((((a + 1) + 1) + 1) + 1)) e (nI np) B)), ((g 0), .inl (cA 3, 2000, .inl fd)), ((g 10), .inl (cA 3, 4, .inl pe))] := hD.sub [2, 0, 1] (by decide) rfl
                          refine W.cs (cells' := 0) (slots' := 0) rfl rfl ?_
                          refine W.eq (g2 := F0 m 134 ls []) rfl ?_
                          refine lv_lload_n hx hb d_Md_takeSigned_134 rfl (lv_at hl 6 rfl) ?_
                          refine lv_iload hx hb d_Md_takeSigned_135 (lv_at hl 3 rfl) ?_
                          refine lv_bipush (v := 127) hx hb d_Md_takeSigned_137 (by decide) ?_
                          refine lv_iand hx hb d_Md_takeSigned_139 ?_
                          refine lv_i2l hx hb d_Md_takeSigned_140 rfl ?_
                          refine lv_bipush (v := 7) hx hb d_Md_takeSigned_141 (by decide) ?_
                          refine lv_iload hx hb d_Md_takeSigned_143 (lv_at hl 4 rfl) ?_
                          refine lv_imul hx hb d_Md_takeSigned_145 ?_
                          refine W.eq (g2 := F0 m 146 ls [.int 28, .long (((nI v21) &&& 127).toInt64), .long (lN V4)]) (by rw [show (7 : Int32) * 4 = 28 from by decide +kernel]) ?_
                          refine lv_lshl hx hb d_Md_takeSigned_146 rfl ?_
                          refine lv_lor hx hb d_Md_takeSigned_147 ?_
                          refine lv_topl (fun yF eyF => ?_)
                          refine lv_lstore_n (lv' := [(2, .long yF), (9, .int 1), (8, .int (nI (v21 % 2 ^ 7 / 2 ^ 4))), (7, .int 5), (6, .int (nI v21)), (5, .int 4), (10, .int 28), (4, .int 5), (0, .ref m0), (1, .int 33)]) hx hb d_Md_takeSigned_148 rfl hl (by decide) rfl (fun ls hl => ?_)
                          refine lv_bipush (v := 7) hx hb d_Md_takeSigned_149 (by decide) ?_
                          refine lv_iload hx hb d_Md_takeSigned_151 (lv_at hl 5 rfl) ?_
                          refine lv_imul hx hb d_Md_takeSigned_153 ?_
                          refine W.eq (g2 := F0 m 154 ls [.int 28]) (by rw [show (7 : Int32) * 4 = 28 from by decide +kernel]) ?_
                          refine lv_bipush (v := 7) hx hb d_Md_takeSigned_154 (by decide) ?_
                          refine lv_iadd hx hb d_Md_takeSigned_156 ?_
                          refine W.eq (g2 := F0 m 157 ls [.int 35]) (by rw [show (28 : Int32) + 7 = 35 from by decide +kernel]) ?_
                          refine lv_istore (lv' := [(10, .int 35), (2, .long yF), (9, .int 1), (8, .int (nI (v21 % 2 ^ 7 / 2 ^ 4))), (7, .int 5), (6, .int (nI v21)), (5, .int 4), (4, .int 5), (0, .ref m0), (1, .int 33)]) hx hb d_Md_takeSigned_157 hl (by decide) rfl (fun ls hl => ?_)
                          refine lv_iload hx hb d_Md_takeSigned_159 (lv_at hl 5 rfl) ?_
                          refine lv_sipush (v := 128) hx hb d_Md_takeSigned_161 (by decide) ?_
                          refine lv_icmp_ge (tgt := 192) hx hb d_Md_takeSigned_164 (by decide) (fun c_164 => ?_) (fun c_164 => ?_)
                          · refine lv_iinc (v := 5) (lv' := [(5, .int 5), (10, .int 35), (2, .long yF), (9, .int 1), (8, .int (nI (v21 % 2 ^ 7 / 2 ^ 4))), (7, .int 5), (6, .int (nI v21)), (4, .int 5), (0, .ref m0), (1, .int 33)]) hx hb d_Md_takeSigned_192 hl (k := 6) rfl (by decide) (by decide) rfl (fun ls hl => ?_)
                            refine lv_goto (tgt := 14) hx hb d_Md_takeSigned_195 (by decide) ?_
                            refine lv_iload hx hb d_Md_takeSigned_14 (lv_at hl 0 rfl) ?_
                            refine lv_iload hx hb d_Md_takeSigned_16 (lv_at hl 7 rfl) ?_
                            refine lv_icmp_ge (tgt := 198) hx hb d_Md_takeSigned_18 (by decide) (fun c_18 => ?_) (fun c_18 => absurd (by decide) c_18)
                            refine lv_lload_n hx hb d_Md_takeSigned_198 rfl (lv_at hl 2 rfl) ?_
                            exact cRl ((nI (((((a + 1) + 1) + 1) + 1) + 1), nI 4, nI ((((a + 1) + 1) + 1) + 1)) : A3) hx hb hr hlocks d_Md_takeSigned_199 hS hP hD (Or.inl ⟨4, ((((a + 1) + 1) + 1) + 1), by rw [show pS33 b lm a = pSg b lm 5 33 a from rfl, hU4, pSg_F hr21 (by decide) hbad], ⟨by decide, by decide⟩, rfl, ⟨_, rfl⟩, (((((a + 1) + 1) + 1) + 1) + 1), by omega, rfl⟩) (Nat.le_refl _) (Nat.le_refl _)
                          · refine lv_iload hx hb d_Md_takeSigned_167 (lv_at hl 0 rfl) ?_
                            refine lv_bipush (v := 64) hx hb d_Md_takeSigned_169 (by decide) ?_
                            refine lv_icmp_ge (tgt := 190) hx hb d_Md_takeSigned_171 (by decide) (fun c_171 => absurd c_171 (by decide)) (fun c_171 => ?_)
                            refine lv_lload_n hx hb d_Md_takeSigned_174 rfl (lv_at hl 1 rfl) ?_
                            refine lv_bipush (v := 64) hx hb d_Md_takeSigned_175 (by decide) ?_
                            refine lv_iload hx hb d_Md_takeSigned_177 (lv_at hl 0 rfl) ?_
                            refine lv_isub hx hb d_Md_takeSigned_179 ?_
                            refine W.eq (g2 := F0 m 180 ls [.int 29, .long yF]) (by rw [show (64 : Int32) - 35 = 29 from by decide +kernel]) ?_
                            refine lv_lshl hx hb d_Md_takeSigned_180 rfl ?_
                            refine lv_bipush (v := 64) hx hb d_Md_takeSigned_181 (by decide) ?_
                            refine lv_iload hx hb d_Md_takeSigned_183 (lv_at hl 0 rfl) ?_
                            refine lv_isub hx hb d_Md_takeSigned_185 ?_
                            refine W.eq (g2 := F0 m 186 ls [.int 29, .long (yF <<< ((29 : Int32).toInt64 &&& 63))]) (by rw [show (64 : Int32) - 35 = 29 from by decide +kernel]) ?_
                            refine lv_lshr hx hb d_Md_takeSigned_186 rfl ?_
                            refine lv_goto (tgt := 191) hx hb d_Md_takeSigned_187 (by decide) ?_
                            exact cRl ((nI (((((a + 1) + 1) + 1) + 1) + 1), nI 4, nI ((((a + 1) + 1) + 1) + 1)) : A3) hx hb hr hlocks d_Md_takeSigned_191 hS hP hD (Or.inl ⟨4, ((((a + 1) + 1) + 1) + 1), by rw [show pS33 b lm a = pSg b lm 5 33 a from rfl, hU4, pSg_F hr21 (by decide) hbad], ⟨by decide, by decide⟩, rfl, ⟨_, rfl⟩, (((((a + 1) + 1) + 1) + 1) + 1), by omega, rfl⟩) (Nat.le_refl _) (Nat.le_refl _)
                        · have hle : v21 ≤ 127 := Nat.le_of_not_lt (fun q => c_115 (nI_lt (a := 127) (b := v21) q (by omega)))
                          refine lv_iload hx hb d_Md_takeSigned_118 (lv_at hl 0 rfl) ?_
                          refine lv_if_ne (tgt := 134) hx hb d_Md_takeSigned_120 (by decide) (fun c_120 => ?_) (fun c_120 => absurd c_120 (by decide))
                          have hst : sTop 5 v21 = true := sT5t hle (by first | exact Or.inl c_75 | exact Or.inr c_87)
                          have ho4 : ¬ (5 ≤ 7 ∧ sTop 5 v21 = false) := fun q => by rw [hst] at q; exact absurd q.2 (by decide)
                          refine lv_lload_n hx hb d_Md_takeSigned_134 rfl (lv_at hl 6 rfl) ?_
                          refine lv_iload hx hb d_Md_takeSigned_135 (lv_at hl 3 rfl) ?_
                          refine lv_bipush (v := 127) hx hb d_Md_takeSigned_137 (by decide) ?_
                          refine lv_iand hx hb d_Md_takeSigned_139 ?_
                          refine lv_i2l hx hb d_Md_takeSigned_140 rfl ?_
                          refine lv_bipush (v := 7) hx hb d_Md_takeSigned_141 (by decide) ?_
                          refine lv_iload hx hb d_Md_takeSigned_143 (lv_at hl 4 rfl) ?_
                          refine lv_imul hx hb d_Md_takeSigned_145 ?_
                          refine W.eq (g2 := F0 m 146 ls [.int 28, .long (((nI v21) &&& 127).toInt64), .long (lN V4)]) (by rw [show (7 : Int32) * 4 = 28 from by decide +kernel]) ?_
                          refine lv_lshl hx hb d_Md_takeSigned_146 rfl ?_
                          refine lv_lor hx hb d_Md_takeSigned_147 ?_
                          refine lv_topl (fun y4_ ey4_ => ?_)
                          have hy4_ : y4_ = lN (V4 + v21 % 128 * 2 ^ 28) := ey4_.trans (u_step 28 (by decide) (by decide) (v := V4) hV4 hbd21)
                          have hW4 : V4 + v21 % 128 * 2 ^ 28 < 2 ^ 35 := u_bd (k := 28) hV4
                          have hsg4 : v21 < 128 → ((lN (V4 + v21 % 128 * 2 ^ 28) <<< ((29 : Int32).toInt64 &&& 63)) >>> ((29 : Int32).toInt64 &&& 63) < 0 ↔ ¬ v21 / 64 % 2 = 0) := fun q => by rw [Nat.mod_eq_of_lt q]; exact sg_neg (o := V4) (g := v21) (sh := 28) hV4 q (by decide)
                          generalize V4 + v21 % 128 * 2 ^ 28 = V5 at hy4_ hW4 hsg4
                          subst hy4_
                          refine lv_lstore_n (lv' := [(2, .long (lN V5)), (9, .int 1), (8, .int (nI (v21 % 2 ^ 7 / 2 ^ 4))), (7, .int 5), (6, .int (nI v21)), (5, .int 4), (10, .int 28), (4, .int 5), (0, .ref m0), (1, .int 33)]) hx hb d_Md_takeSigned_148 rfl hl (by decide) rfl (fun ls hl => ?_)
                          refine lv_bipush (v := 7) hx hb d_Md_takeSigned_149 (by decide) ?_
                          refine lv_iload hx hb d_Md_takeSigned_151 (lv_at hl 5 rfl) ?_
                          refine lv_imul hx hb d_Md_takeSigned_153 ?_
                          refine W.eq (g2 := F0 m 154 ls [.int 28]) (by rw [show (7 : Int32) * 4 = 28 from by decide +kernel]) ?_
                          refine lv_bipush (v := 7) hx hb d_Md_takeSigned_154 (by decide) ?_
                          refine lv_iadd hx hb d_Md_takeSigned_156 ?_
                          refine W.eq (g2 := F0 m 157 ls [.int 35]) (by rw [show (28 : Int32) + 7 = 35 from by decide +kernel]) ?_
                          refine lv_istore (lv' := [(10, .int 35), (2, .long (lN V5)), (9, .int 1), (8, .int (nI (v21 % 2 ^ 7 / 2 ^ 4))), (7, .int 5), (6, .int (nI v21)), (5, .int 4), (4, .int 5), (0, .ref m0), (1, .int 33)]) hx hb d_Md_takeSigned_157 hl (by decide) rfl (fun ls hl => ?_)
                          refine lv_iload hx hb d_Md_takeSigned_159 (lv_at hl 5 rfl) ?_
                          refine lv_sipush (v := 128) hx hb d_Md_takeSigned_161 (by decide) ?_
                          refine lv_icmp_ge (tgt := 192) hx hb d_Md_takeSigned_164 (by decide) (fun c_164 => ?_) (fun c_164 => ?_)
                          · have hd4 : ¬ v21 < 128 := fun q => absurd ((nI_leI (a := 128) (b := v21) (by omega) (by omega)).mp c_164) (by omega)
                            exact absurd hle (by omega)
                          · have hd4 : v21 < 128 := Nat.lt_of_not_le (fun q => c_164 (nI_le (a := 128) (b := v21) q (by omega)))
                            refine lv_iload hx hb d_Md_takeSigned_167 (lv_at hl 0 rfl) ?_
                            refine lv_bipush (v := 64) hx hb d_Md_takeSigned_169 (by decide) ?_
                            refine lv_icmp_ge (tgt := 190) hx hb d_Md_takeSigned_171 (by decide) (fun c_171 => absurd c_171 (by decide)) (fun c_171 => ?_)
                            refine lv_lload_n hx hb d_Md_takeSigned_174 rfl (lv_at hl 1 rfl) ?_
                            refine lv_bipush (v := 64) hx hb d_Md_takeSigned_175 (by decide) ?_
                            refine lv_iload hx hb d_Md_takeSigned_177 (lv_at hl 0 rfl) ?_
                            refine lv_isub hx hb d_Md_takeSigned_179 ?_
                            refine W.eq (g2 := F0 m 180 ls [.int 29, .long (lN V5)]) (by rw [show (64 : Int32) - 35 = 29 from by decide +kernel]) ?_
                            refine lv_lshl hx hb d_Md_takeSigned_180 rfl ?_
                            refine lv_bipush (v := 64) hx hb d_Md_takeSigned_181 (by decide) ?_
                            refine lv_iload hx hb d_Md_takeSigned_183 (lv_at hl 0 rfl) ?_
                            refine lv_isub hx hb d_Md_takeSigned_185 ?_
                            refine W.eq (g2 := F0 m 186 ls [.int 29, .long ((lN V5) <<< ((29 : Int32).toInt64 &&& 63))]) (by rw [show (64 : Int32) - 35 = 29 from by decide +kernel]) ?_
                            refine lv_lshr hx hb d_Md_takeSigned_186 rfl ?_
                            refine lv_goto (tgt := 191) hx hb d_Md_takeSigned_187 (by decide) ?_
                            exact cRl ((nI (((((a + 1) + 1) + 1) + 1) + 1), 0, p) : A3) hx hb hr hlocks d_Md_takeSigned_191 hS hP hD (Or.inr ⟨v21 / 64 % 2, (((((a + 1) + 1) + 1) + 1) + 1), hU4.trans (pSg_E hr21 ho4 hd4), rfl, _, rfl, hsg4 hd4⟩) (Nat.le_refl _) (Nat.le_refl _)
                · have hd3 : v20 < 128 := Nat.lt_of_not_le (fun q => c_164 (nI_le (a := 128) (b := v20) q (by omega)))
                  refine lv_iload hx hb d_Md_takeSigned_167 (lv_at hl 0 rfl) ?_
                  refine lv_bipush (v := 64) hx hb d_Md_takeSigned_169 (by decide) ?_
                  refine lv_icmp_ge (tgt := 190) hx hb d_Md_takeSigned_171 (by decide) (fun c_171 => absurd c_171 (by decide)) (fun c_171 => ?_)
                  refine lv_lload_n hx hb d_Md_takeSigned_174 rfl (lv_at hl 1 rfl) ?_
                  refine lv_bipush (v := 64) hx hb d_Md_takeSigned_175 (by decide) ?_
                  refine lv_iload hx hb d_Md_takeSigned_177 (lv_at hl 0 rfl) ?_
                  refine lv_isub hx hb d_Md_takeSigned_179 ?_
                  refine W.eq (g2 := F0 m 180 ls [.int 36, .long (lN V4)]) (by rw [show (64 : Int32) - 28 = 36 from by decide +kernel]) ?_
                  refine lv_lshl hx hb d_Md_takeSigned_180 rfl ?_
                  refine lv_bipush (v := 64) hx hb d_Md_takeSigned_181 (by decide) ?_
                  refine lv_iload hx hb d_Md_takeSigned_183 (lv_at hl 0 rfl) ?_
                  refine lv_isub hx hb d_Md_takeSigned_185 ?_
                  refine W.eq (g2 := F0 m 186 ls [.int 36, .long ((lN V4) <<< ((36 : Int32).toInt64 &&& 63))]) (by rw [show (64 : Int32) - 28 = 36 from by decide +kernel]) ?_
                  refine lv_lshr hx hb d_Md_takeSigned_186 rfl ?_
                  refine lv_goto (tgt := 191) hx hb d_Md_takeSigned_187 (by decide) ?_
                  exact cRl ((nI ((((a + 1) + 1) + 1) + 1), 0, p) : A3) hx hb hr hlocks d_Md_takeSigned_191 hS hP hD (Or.inr ⟨v20 / 64 % 2, ((((a + 1) + 1) + 1) + 1), hU3.trans (pSg_E hr20 ho3 hd3), rfl, _, rfl, hsg3 hd3⟩) (Nat.le_refl _) (Nat.le_refl _)
            · have hd2 : v19 < 128 := Nat.lt_of_not_le (fun q => c_164 (nI_le (a := 128) (b := v19) q (by omega)))
              refine lv_iload hx hb d_Md_takeSigned_167 (lv_at hl 0 rfl) ?_
              refine lv_bipush (v := 64) hx hb d_Md_takeSigned_169 (by decide) ?_
              refine lv_icmp_ge (tgt := 190) hx hb d_Md_takeSigned_171 (by decide) (fun c_171 => absurd c_171 (by decide)) (fun c_171 => ?_)
              refine lv_lload_n hx hb d_Md_takeSigned_174 rfl (lv_at hl 1 rfl) ?_
              refine lv_bipush (v := 64) hx hb d_Md_takeSigned_175 (by decide) ?_
              refine lv_iload hx hb d_Md_takeSigned_177 (lv_at hl 0 rfl) ?_
              refine lv_isub hx hb d_Md_takeSigned_179 ?_
              refine W.eq (g2 := F0 m 180 ls [.int 43, .long (lN V3)]) (by rw [show (64 : Int32) - 21 = 43 from by decide +kernel]) ?_
              refine lv_lshl hx hb d_Md_takeSigned_180 rfl ?_
              refine lv_bipush (v := 64) hx hb d_Md_takeSigned_181 (by decide) ?_
              refine lv_iload hx hb d_Md_takeSigned_183 (lv_at hl 0 rfl) ?_
              refine lv_isub hx hb d_Md_takeSigned_185 ?_
              refine W.eq (g2 := F0 m 186 ls [.int 43, .long ((lN V3) <<< ((43 : Int32).toInt64 &&& 63))]) (by rw [show (64 : Int32) - 21 = 43 from by decide +kernel]) ?_
              refine lv_lshr hx hb d_Md_takeSigned_186 rfl ?_
              refine lv_goto (tgt := 191) hx hb d_Md_takeSigned_187 (by decide) ?_
              exact cRl ((nI (((a + 1) + 1) + 1), 0, p) : A3) hx hb hr hlocks d_Md_takeSigned_191 hS hP hD (Or.inr ⟨v19 / 64 % 2, (((a + 1) + 1) + 1), hU2.trans (pSg_E hr19 ho2 hd2), rfl, _, rfl, hsg2 hd2⟩) (Nat.le_refl _) (Nat.le_refl _)
        · have hd1 : v18 < 128 := Nat.lt_of_not_le (fun q => c_164 (nI_le (a := 128) (b := v18) q (by omega)))
          refine lv_iload hx hb d_Md_takeSigned_167 (lv_at hl 0 rfl) ?_
          refine lv_bipush (v := 64) hx hb d_Md_takeSigned_169 (by decide) ?_
          refine lv_icmp_ge (tgt := 190) hx hb d_Md_takeSigned_171 (by decide) (fun c_171 => absurd c_171 (by decide)) (fun c_171 => ?_)
          refine lv_lload_n hx hb d_Md_takeSigned_174 rfl (lv_at hl 1 rfl) ?_
          refine lv_bipush (v := 64) hx hb d_Md_takeSigned_175 (by decide) ?_
          refine lv_iload hx hb d_Md_takeSigned_177 (lv_at hl 0 rfl) ?_
          refine lv_isub hx hb d_Md_takeSigned_179 ?_
          refine W.eq (g2 := F0 m 180 ls [.int 50, .long (lN V2)]) (by rw [show (64 : Int32) - 14 = 50 from by decide +kernel]) ?_
          refine lv_lshl hx hb d_Md_takeSigned_180 rfl ?_
          refine lv_bipush (v := 64) hx hb d_Md_takeSigned_181 (by decide) ?_
          refine lv_iload hx hb d_Md_takeSigned_183 (lv_at hl 0 rfl) ?_
          refine lv_isub hx hb d_Md_takeSigned_185 ?_
          refine W.eq (g2 := F0 m 186 ls [.int 50, .long ((lN V2) <<< ((50 : Int32).toInt64 &&& 63))]) (by rw [show (64 : Int32) - 14 = 50 from by decide +kernel]) ?_
          refine lv_lshr hx hb d_Md_takeSigned_186 rfl ?_
          refine lv_goto (tgt := 191) hx hb d_Md_takeSigned_187 (by decide) ?_
          exact cRl ((nI ((a + 1) + 1), 0, p) : A3) hx hb hr hlocks d_Md_takeSigned_191 hS hP hD (Or.inr ⟨v18 / 64 % 2, ((a + 1) + 1), hU1.trans (pSg_E hr18 ho1 hd1), rfl, _, rfl, hsg1 hd1⟩) (Nat.le_refl _) (Nat.le_refl _)
    · have hd0 : v17 < 128 := Nat.lt_of_not_le (fun q => c_164 (nI_le (a := 128) (b := v17) q (by omega)))
      refine lv_iload hx hb d_Md_takeSigned_167 (lv_at hl 0 rfl) ?_
      refine lv_bipush (v := 64) hx hb d_Md_takeSigned_169 (by decide) ?_
      refine lv_icmp_ge (tgt := 190) hx hb d_Md_takeSigned_171 (by decide) (fun c_171 => absurd c_171 (by decide)) (fun c_171 => ?_)
      refine lv_lload_n hx hb d_Md_takeSigned_174 rfl (lv_at hl 1 rfl) ?_
      refine lv_bipush (v := 64) hx hb d_Md_takeSigned_175 (by decide) ?_
      refine lv_iload hx hb d_Md_takeSigned_177 (lv_at hl 0 rfl) ?_
      refine lv_isub hx hb d_Md_takeSigned_179 ?_
      refine W.eq (g2 := F0 m 180 ls [.int 57, .long (lN V1)]) (by rw [show (64 : Int32) - 7 = 57 from by decide +kernel]) ?_
      refine lv_lshl hx hb d_Md_takeSigned_180 rfl ?_
      refine lv_bipush (v := 64) hx hb d_Md_takeSigned_181 (by decide) ?_
      refine lv_iload hx hb d_Md_takeSigned_183 (lv_at hl 0 rfl) ?_
      refine lv_isub hx hb d_Md_takeSigned_185 ?_
      refine W.eq (g2 := F0 m 186 ls [.int 57, .long ((lN V1) <<< ((57 : Int32).toInt64 &&& 63))]) (by rw [show (64 : Int32) - 7 = 57 from by decide +kernel]) ?_
      refine lv_lshr hx hb d_Md_takeSigned_186 rfl ?_
      refine lv_goto (tgt := 191) hx hb d_Md_takeSigned_187 (by decide) ?_
      exact cRl ((nI (a + 1), 0, p) : A3) hx hb hr hlocks d_Md_takeSigned_191 hS hP hD (Or.inr ⟨v17 / 64 % 2, (a + 1), hU0.trans (pSg_E hr17 ho0 hd0), rfl, _, rfl, hsg0 hd0⟩) (Nat.le_refl _) (Nat.le_refl _)
set_option maxHeartbeats 4000000 in
set_option maxRecDepth 100000 in
/-- takeSigned(64) -/
theorem c_Md_takeSigned64 (l : Launch) (hl9 : l.stackTraces = false) (D : va_G) (cA : Nat → ClassId) (ad : Nat → Nat) (sz : Nat) (m0 : Nat) (g : Nat → Nat) (K : MK) (e : Int32) (np : Nat) (B : MB) (fd pe : Nat → Int32) (b : Nat → Nat) (N lm : Nat) (hnp : 1 ≤ np ∧ np ≤ 4) (hpe : pe (np - 1) = nI lm) (hlm : lm ≤ N) (hN : N ≤ 2000) (hfd : ∀ i, i < N → fd i = nI (b i)) (hb9 : ∀ i, b i < 256) (a : Nat) (p : Int32) (ha : a ≤ lm)  :
    cM l y_Md_takeSigned (.code y_Md_takeSigned b_Md_takeSigned 11 (some .long) :: wAll) ({ frames := 2, cells := 0, slots := 0, locals := 42 }) D cA ad [.ref m0, .int 64] [(m0, .inr (6, mF g K (nI a, 0, p) e (nI np) B)), ((g 0), .inl (cA 3, 2000, .inl fd)), ((g 10), .inl (cA 3, 4, .inl pe))] sz (oP (pS64 b lm a) p fL vS) (fun _ => False) (fun (u : A3) => [(m0, .inr (6, mF g K u e (nI np) B)), ((g 0), .inl (cA 3, 2000, .inl fd)), ((g 10), .inl (cA 3, 4, .inl pe))]) (fun _ => (0, 0)) := by
  refine cM.ofW (cc := b_Md_takeSigned) (maxL := 11) (ret := (some .long)) (by decide) (Nat.le_of_ble_eq_true rfl) ?_
  intro pg ev s m bw meth cdx A ls hF hsz hA hE hP hD hl
  obtain ⟨⟨hx, hb, hml, hown, hts⟩, hr, hno, hlocks, hin⟩ := hF
  subst hsz
  have hown : s.vm.findClass "ModuleBytesModel" = some m.cls := hown
  have hS : va_S A s.heap s.heap [] := va_S.rf
  have hl : lv_has ls 11 [(0, .ref m0), (1, .int 64)] := hl
  have hP : va_P D cls [(m0, .inr (6, mF g K (nI a, 0, p) e (nI np) B)), ((g 0), .inl (cA 3, 2000, .inl fd)), ((g 10), .inl (cA 3, 4, .inl pe))] s.heap := hP
  have hD : va_D A [(m0, .inr (6, mF g K (nI a, 0, p) e (nI np) B)), ((g 0), .inl (cA 3, 2000, .inl fd)), ((g 10), .inl (cA 3, 4, .inl pe))] := hD
  have hU0 : pSg b lm 10 64 a = pSg b lm 10 64 a := rfl
  refine lv_lconst (v := 0) hx hb d_Md_takeSigned_0 (by decide) ?_
  refine lv_lstore_n (lv' := [(2, .long 0), (0, .ref m0), (1, .int 64)]) hx hb d_Md_takeSigned_1 rfl hl (by decide) rfl (fun ls hl => ?_)
  refine lv_iload_n hx hb d_Md_takeSigned_2 rfl (lv_at hl 2 rfl) ?_
  refine lv_bipush (v := 6) hx hb d_Md_takeSigned_3 (by decide) ?_
  refine lv_iadd hx hb d_Md_takeSigned_5 ?_
  refine W.eq (g2 := F0 m 6 ls [.int 70]) (by rw [show (64 : Int32) + 6 = 70 from by decide +kernel]) ?_
  refine lv_bipush (v := 7) hx hb d_Md_takeSigned_6 (by decide) ?_
  refine lv_idiv hx hb d_Md_takeSigned_8 (by decide) ?_
  refine W.eq (g2 := F0 m 9 ls [.int 10]) (by rw [show (70 : Int32) / 7 = 10 from by decide +kernel]) ?_
  refine lv_istore (lv' := [(4, .int 10), (2, .long 0), (0, .ref m0), (1, .int 64)]) hx hb d_Md_takeSigned_9 hl (by decide) rfl (fun ls hl => ?_)
  refine lv_iconst (v := 0) hx hb d_Md_takeSigned_11 (by decide) ?_
  refine lv_istore (lv' := [(5, .int 0), (4, .int 10), (2, .long 0), (0, .ref m0), (1, .int 64)]) hx hb d_Md_takeSigned_12 hl (by decide) rfl (fun ls hl => ?_)
  refine lv_iload hx hb d_Md_takeSigned_14 (lv_at hl 0 rfl) ?_
  refine lv_iload hx hb d_Md_takeSigned_16 (lv_at hl 1 rfl) ?_
  refine lv_icmp_ge (tgt := 198) hx hb d_Md_takeSigned_18 (by decide) (fun c_18 => absurd c_18 (by decide)) (fun c_18 => ?_)
  refine lv_aload_n hx hb d_Md_takeSigned_21 rfl (lv_at hl 3 rfl) ?_
  refine va_get (D := D) (ci := 6) (v := .int 0) (C := R_Md) (T := F_Md) (N := 44) hx hb hts (fun w h => List.mem_cons_of_mem _ (i_Md w h)) hown hE.1 hP 0 rfl rfl 3 (by decide) (hts _ (List.mem_cons_of_mem _ iw3_57)) (fun _ h9 => h9) rfl d_Md_takeSigned_22 ?_
  refine lv_if_ne (tgt := 198) hx hb d_Md_takeSigned_25 (by decide) (fun c_25 => absurd (by decide) c_25) (fun c_25 => ?_)
  refine lv_aload_n hx hb d_Md_takeSigned_28 rfl (lv_at hl 3 rfl) ?_
  refine cV (As := []) (rest := []) (n := 0) (wc := [(m0, .inr (6, mF g K (nI a, 0, p) e (nI np) B)), ((g 0), .inl (cA 3, 2000, .inl fd)), ((g 10), .inl (cA 3, 4, .inl pe))]) (wr := []) ⟨hx, hb, hml, hown, hts⟩ hno hlocks hl.1 (c_Md_take l hl9 D cA ad s.heap.size m0 g K e np B fd pe b N lm hnp hpe hlm hN hfd hb9 a p (by omega) ) iw3_212 iw3_214 sel_Md_take iw1_7 iw3_215 (by decide +kernel) rfl ⟨Nat.le_of_ble_eq_true rfl, Nat.le_of_ble_eq_true rfl⟩ ⟨Nat.le_of_ble_eq_true rfl, Nat.le_of_ble_eq_true rfl⟩ rfl (Nat.le_of_ble_eq_true rfl) d_Md_takeSigned_29 hE hP hD hS hA [0, 1, 2] [] rfl rfl rfl rfl (by decide) (ci := 6) rfl rfl 0 rfl (fun _ h => h.elim) (fun v_29 u_29 H locs hp_29 hP hD hS => ?_)
  rcases hp_29 with ⟨f22, q22, hr22, hf22, hB22, rfl, zz22, hzz22, hzx22⟩ | ⟨v22, a22, hr22, rfl, rfl⟩
  · obtain ⟨x22, y22, z22⟩ := u_29
    cases hB22
    have hzx22 : x22 = nI zz22 := hzx22
    subst hzx22
    have hP : va_P D cls [(m0, .inr (6, mF g K (nI zz22, nI f22, nI q22) e (nI np) B)), ((g 0), .inl (cA 3, 2000, .inl fd)), ((g 10), .inl (cA 3, 4, .inl pe))] H := hP
    have hD : va_D A [(m0, .inr (6, mF g K (nI zz22, nI f22, nI q22) e (nI np) B)), ((g 0), .inl (cA 3, 2000, .inl fd)), ((g 10), .inl (cA 3, 4, .inl pe))] := hD
    refine W.cs (cells' := 0) (slots' := 0) rfl rfl ?_
    refine W.eq (g2 := F0 m 32 ls [.int 0]) rfl ?_
    refine lv_istore (lv' := [(6, .int 0), (5, .int 0), (4, .int 10), (2, .long 0), (0, .ref m0), (1, .int 64)]) hx hb d_Md_takeSigned_32 hl (by decide) rfl (fun ls hl => ?_)
    refine lv_iload_n hx hb d_Md_takeSigned_34 rfl (lv_at hl 5 rfl) ?_
    refine lv_bipush (v := 7) hx hb d_Md_takeSigned_35 (by decide) ?_
    refine lv_iload hx hb d_Md_takeSigned_37 (lv_at hl 1 rfl) ?_
    refine lv_imul hx hb d_Md_takeSigned_39 ?_
    refine W.eq (g2 := F0 m 40 ls [.int 0, .int 64]) (by rw [show (7 : Int32) * 0 = 0 from by decide +kernel]) ?_
    refine lv_isub hx hb d_Md_takeSigned_40 ?_
    refine W.eq (g2 := F0 m 41 ls [.int 64]) (by rw [show (64 : Int32) - 0 = 64 from by decide +kernel]) ?_
    refine lv_istore (lv' := [(7, .int 64), (6, .int 0), (5, .int 0), (4, .int 10), (2, .long 0), (0, .ref m0), (1, .int 64)]) hx hb d_Md_takeSigned_41 hl (by decide) rfl (fun ls hl => ?_)
    refine lv_iload hx hb d_Md_takeSigned_43 (lv_at hl 0 rfl) ?_
    refine lv_bipush (v := 7) hx hb d_Md_takeSigned_45 (by decide) ?_
    refine lv_icmp_ge (tgt := 63) hx hb d_Md_takeSigned_47 (by decide) (fun c_47 => ?_) (fun c_47 => absurd (by decide) c_47)
    refine lv_iconst (v := 0) hx hb d_Md_takeSigned_63 (by decide) ?_
    refine lv_istore (lv' := [(8, .int 0), (7, .int 64), (6, .int 0), (5, .int 0), (4, .int 10), (2, .long 0), (0, .ref m0), (1, .int 64)]) hx hb d_Md_takeSigned_64 hl (by decide) rfl (fun ls hl => ?_)
    refine lv_iload hx hb d_Md_takeSigned_66 (lv_at hl 1 rfl) ?_
    refine lv_bipush (v := 7) hx hb d_Md_takeSigned_68 (by decide) ?_
    refine lv_icmp_ge (tgt := 90) hx hb d_Md_takeSigned_70 (by decide) (fun c_70 => ?_) (fun c_70 => absurd (by decide) c_70)
    refine lv_iconst (v := 1) hx hb d_Md_takeSigned_90 (by decide) ?_
    refine lv_goto (tgt := 95) hx hb d_Md_takeSigned_91 (by decide) ?_
    refine lv_istore (lv' := [(9, .int 1), (8, .int 0), (7, .int 64), (6, .int 0), (5, .int 0), (4, .int 10), (2, .long 0), (0, .ref m0), (1, .int 64)]) hx hb d_Md_takeSigned_95 hl (by decide) rfl (fun ls hl => ?_)
    refine lv_aload_n hx hb d_Md_takeSigned_97 rfl (lv_at hl 7 rfl) ?_
    refine va_get (D := D) (ci := 6) (v := .int (nI f22)) (C := R_Md) (T := F_Md) (N := 44) hx hb hts (fun w h => List.mem_cons_of_mem _ (i_Md w h)) hown hE.1 hP 0 rfl rfl 3 (by decide) (hts _ (List.mem_cons_of_mem _ iw3_57)) (fun _ h9 => h9) rfl d_Md_takeSigned_98 ?_
    refine lv_if_ne (tgt := 134) hx hb d_Md_takeSigned_101 (by decide) (fun c_101 => ?_) (fun c_101 => absurd c_101 (hf22.n0))
    refine lv_lload_n hx hb d_Md_takeSigned_134 rfl (lv_at hl 6 rfl) ?_
    refine lv_iload hx hb d_Md_takeSigned_135 (lv_at hl 3 rfl) ?_
    refine lv_bipush (v := 127) hx hb d_Md_takeSigned_137 (by decide) ?_
    refine lv_iand hx hb d_Md_takeSigned_139 ?_
    refine W.eq (g2 := F0 m 140 ls [.int 0, .long 0]) (by rw [show (0 : Int32) &&& 127 = 0 from by decide +kernel]) ?_
    refine lv_i2l hx hb d_Md_takeSigned_140 rfl ?_
    refine lv_bipush (v := 7) hx hb d_Md_takeSigned_141 (by decide) ?_
    refine lv_iload hx hb d_Md_takeSigned_143 (lv_at hl 4 rfl) ?_
    refine lv_imul hx hb d_Md_takeSigned_145 ?_
    refine W.eq (g2 := F0 m 146 ls [.int 0, .long ((0 : Int32).toInt64), .long 0]) (by rw [show (7 : Int32) * 0 = 0 from by decide +kernel]) ?_
    refine lv_lshl hx hb d_Md_takeSigned_146 rfl ?_
    refine lv_lor hx hb d_Md_takeSigned_147 ?_
    refine lv_topl (fun yF eyF => ?_)
    refine lv_lstore_n (lv' := [(2, .long yF), (9, .int 1), (8, .int 0), (7, .int 64), (6, .int 0), (5, .int 0), (4, .int 10), (0, .ref m0), (1, .int 64)]) hx hb d_Md_takeSigned_148 rfl hl (by decide) rfl (fun ls hl => ?_)
    refine lv_bipush (v := 7) hx hb d_Md_takeSigned_149 (by decide) ?_
    refine lv_iload hx hb d_Md_takeSigned_151 (lv_at hl 5 rfl) ?_
    refine lv_imul hx hb d_Md_takeSigned_153 ?_
    refine W.eq (g2 := F0 m 154 ls [.int 0]) (by rw [show (7 : Int32) * 0 = 0 from by decide +kernel]) ?_
    refine lv_bipush (v := 7) hx hb d_Md_takeSigned_154 (by decide) ?_
    refine lv_iadd hx hb d_Md_takeSigned_156 ?_
    refine W.eq (g2 := F0 m 157 ls [.int 7]) (by rw [show (0 : Int32) + 7 = 7 from by decide +kernel]) ?_
    refine lv_istore (lv' := [(10, .int 7), (2, .long yF), (9, .int 1), (8, .int 0), (7, .int 64), (6, .int 0), (5, .int 0), (4, .int 10), (0, .ref m0), (1, .int 64)]) hx hb d_Md_takeSigned_157 hl (by decide) rfl (fun ls hl => ?_)
    refine lv_iload hx hb d_Md_takeSigned_159 (lv_at hl 5 rfl) ?_
    refine lv_sipush (v := 128) hx hb d_Md_takeSigned_161 (by decide) ?_
    refine lv_icmp_ge (tgt := 192) hx hb d_Md_takeSigned_164 (by decide) (fun c_164 => absurd c_164 (by decide)) (fun c_164 => ?_)
    refine lv_iload hx hb d_Md_takeSigned_167 (lv_at hl 0 rfl) ?_
    refine lv_bipush (v := 64) hx hb d_Md_takeSigned_169 (by decide) ?_
    refine lv_icmp_ge (tgt := 190) hx hb d_Md_takeSigned_171 (by decide) (fun c_171 => absurd c_171 (by decide)) (fun c_171 => ?_)
    refine lv_lload_n hx hb d_Md_takeSigned_174 rfl (lv_at hl 1 rfl) ?_
    refine lv_bipush (v := 64) hx hb d_Md_takeSigned_175 (by decide) ?_
    refine lv_iload hx hb d_Md_takeSigned_177 (lv_at hl 0 rfl) ?_
    refine lv_isub hx hb d_Md_takeSigned_179 ?_
    refine W.eq (g2 := F0 m 180 ls [.int 57, .long yF]) (by rw [show (64 : Int32) - 7 = 57 from by decide +kernel]) ?_
    refine lv_lshl hx hb d_Md_takeSigned_180 rfl ?_
    refine lv_bipush (v := 64) hx hb d_Md_takeSigned_181 (by decide) ?_
    refine lv_iload hx hb d_Md_takeSigned_183 (lv_at hl 0 rfl) ?_
    refine lv_isub hx hb d_Md_takeSigned_185 ?_
    refine W.eq (g2 := F0 m 186 ls [.int 57, .long (yF <<< ((57 : Int32).toInt64 &&& 63))]) (by rw [show (64 : Int32) - 7 = 57 from by decide +kernel]) ?_
    refine lv_lshr hx hb d_Md_takeSigned_186 rfl ?_
    refine lv_goto (tgt := 191) hx hb d_Md_takeSigned_187 (by decide) ?_
    exact cRl ((nI zz22, nI f22, nI q22) : A3) hx hb hr hlocks d_Md_takeSigned_191 hS hP hD (Or.inl ⟨f22, q22, by rw [show pS64 b lm a = pSg b lm 10 64 a from rfl, hU0, pSg_T hr22], hf22, rfl, ⟨_, rfl⟩, zz22, by omega, rfl⟩) (Nat.le_refl _) (Nat.le_refl _)
  · obtain ⟨hla22, hgt22, hv22, hbd22⟩ := (pNext_ok2 hr22 hb9)
    have hP : va_P D cls [(m0, .inr (6, mF g K (nI a22, 0, p) e (nI np) B)), ((g 0), .inl (cA 3, 2000, .inl fd)), ((g 10), .inl (cA 3, 4, .inl pe))] H := hP
    have hD : va_D A [(m0, .inr (6, mF g K (nI a22, 0, p) e (nI np) B)), ((g 0), .inl (cA 3, 2000, .inl fd)), ((g 10), .inl (cA 3, 4, .inl pe))] := hD
    refine W.cs (cells' := 0) (slots' := 0) rfl rfl ?_
    refine W.eq (g2 := F0 m 32 ls [.int (nI v22)]) rfl ?_
    obtain ⟨hbd22, ean22⟩ := hbd22
    subst ean22
    have hP : va_P D cls [(m0, .inr (6, mF g K (nI (a + 1), 0, p) e (nI np) B)), ((g 0), .inl (cA 3, 2000, .inl fd)), ((g 10), .inl (cA 3, 4, .inl pe))] H := hP
    have hD : va_D A [(m0, .inr (6, mF g K (nI (a + 1), 0, p) e (nI np) B)), ((g 0), .inl (cA 3, 2000, .inl fd)), ((g 10), .inl (cA 3, 4, .inl pe))] := hD
    refine lv_istore (lv' := [(6, .int (nI v22)), (5, .int 0), (4, .int 10), (2, .long 0), (0, .ref m0), (1, .int 64)]) hx hb d_Md_takeSigned_32 hl (by decide) rfl (fun ls hl => ?_)
    refine lv_iload_n hx hb d_Md_takeSigned_34 rfl (lv_at hl 5 rfl) ?_
    refine lv_bipush (v := 7) hx hb d_Md_takeSigned_35 (by decide) ?_
    refine lv_iload hx hb d_Md_takeSigned_37 (lv_at hl 1 rfl) ?_
    refine lv_imul hx hb d_Md_takeSigned_39 ?_
    refine W.eq (g2 := F0 m 40 ls [.int 0, .int 64]) (by rw [show (7 : Int32) * 0 = 0 from by decide +kernel]) ?_
    refine lv_isub hx hb d_Md_takeSigned_40 ?_
    refine W.eq (g2 := F0 m 41 ls [.int 64]) (by rw [show (64 : Int32) - 0 = 64 from by decide +kernel]) ?_
    refine lv_istore (lv' := [(7, .int 64), (6, .int (nI v22)), (5, .int 0), (4, .int 10), (2, .long 0), (0, .ref m0), (1, .int 64)]) hx hb d_Md_takeSigned_41 hl (by decide) rfl (fun ls hl => ?_)
    refine lv_iload hx hb d_Md_takeSigned_43 (lv_at hl 0 rfl) ?_
    refine lv_bipush (v := 7) hx hb d_Md_takeSigned_45 (by decide) ?_
    refine lv_icmp_ge (tgt := 63) hx hb d_Md_takeSigned_47 (by decide) (fun c_47 => ?_) (fun c_47 => absurd (by decide) c_47)
    refine lv_iconst (v := 0) hx hb d_Md_takeSigned_63 (by decide) ?_
    refine lv_istore (lv' := [(8, .int 0), (7, .int 64), (6, .int (nI v22)), (5, .int 0), (4, .int 10), (2, .long 0), (0, .ref m0), (1, .int 64)]) hx hb d_Md_takeSigned_64 hl (by decide) rfl (fun ls hl => ?_)
    refine lv_iload hx hb d_Md_takeSigned_66 (lv_at hl 1 rfl) ?_
    refine lv_bipush (v := 7) hx hb d_Md_takeSigned_68 (by decide) ?_
    refine lv_icmp_ge (tgt := 90) hx hb d_Md_takeSigned_70 (by decide) (fun c_70 => ?_) (fun c_70 => absurd (by decide) c_70)
    refine lv_iconst (v := 1) hx hb d_Md_takeSigned_90 (by decide) ?_
    refine lv_goto (tgt := 95) hx hb d_Md_takeSigned_91 (by decide) ?_
    refine lv_istore (lv' := [(9, .int 1), (8, .int 0), (7, .int 64), (6, .int (nI v22)), (5, .int 0), (4, .int 10), (2, .long 0), (0, .ref m0), (1, .int 64)]) hx hb d_Md_takeSigned_95 hl (by decide) rfl (fun ls hl => ?_)
    refine lv_aload_n hx hb d_Md_takeSigned_97 rfl (lv_at hl 7 rfl) ?_
    refine va_get (D := D) (ci := 6) (v := .int 0) (C := R_Md) (T := F_Md) (N := 44) hx hb hts (fun w h => List.mem_cons_of_mem _ (i_Md w h)) hown hE.1 hP 0 rfl rfl 3 (by decide) (hts _ (List.mem_cons_of_mem _ iw3_57)) (fun _ h9 => h9) rfl d_Md_takeSigned_98 ?_
    refine lv_if_ne (tgt := 134) hx hb d_Md_takeSigned_101 (by decide) (fun c_101 => absurd (by decide) c_101) (fun c_101 => ?_)
    refine lv_iload hx hb d_Md_takeSigned_104 (lv_at hl 2 rfl) ?_
    refine lv_bipush (v := 8) hx hb d_Md_takeSigned_106 (by decide) ?_
    refine lv_icmp_ge (tgt := 134) hx hb d_Md_takeSigned_108 (by decide) (fun c_108 => ?_) (fun c_108 => absurd (by decide) c_108)
    have ho0 : ¬ (64 ≤ 7 ∧ sTop 64 v22 = false) := fun q => absurd q.1 (by decide)
    refine lv_lload_n hx hb d_Md_takeSigned_134 rfl (lv_at hl 6 rfl) ?_
    refine lv_iload hx hb d_Md_takeSigned_135 (lv_at hl 3 rfl) ?_
    refine lv_bipush (v := 127) hx hb d_Md_takeSigned_137 (by decide) ?_
    refine lv_iand hx hb d_Md_takeSigned_139 ?_
    refine lv_i2l hx hb d_Md_takeSigned_140 rfl ?_
    refine lv_bipush (v := 7) hx hb d_Md_takeSigned_141 (by decide) ?_
    refine lv_iload hx hb d_Md_takeSigned_143 (lv_at hl 4 rfl) ?_
    refine lv_imul hx hb d_Md_takeSigned_145 ?_
    refine W.eq (g2 := F0 m 146 ls [.int 0, .long (((nI v22) &&& 127).toInt64), .long 0]) (by rw [show (7 : Int32) * 0 = 0 from by decide +kernel]) ?_
    refine lv_lshl hx hb d_Md_takeSigned_146 rfl ?_
    refine lv_lor hx hb d_Md_takeSigned_147 ?_
    refine lv_topl (fun yF eyF => ?_)
    refine lv_lstore_n (lv' := [(2, .long yF), (9, .int 1), (8, .int 0), (7, .int 64), (6, .int (nI v22)), (5, .int 0), (4, .int 10), (0, .ref m0), (1, .int 64)]) hx hb d_Md_takeSigned_148 rfl hl (by decide) rfl (fun ls hl => ?_)
    refine lv_bipush (v := 7) hx hb d_Md_takeSigned_149 (by decide) ?_
    refine lv_iload hx hb d_Md_takeSigned_151 (lv_at hl 5 rfl) ?_
    refine lv_imul hx hb d_Md_takeSigned_153 ?_
    refine W.eq (g2 := F0 m 154 ls [.int 0]) (by rw [show (7 : Int32) * 0 = 0 from by decide +kernel]) ?_
    refine lv_bipush (v := 7) hx hb d_Md_takeSigned_154 (by decide) ?_
    refine lv_iadd hx hb d_Md_takeSigned_156 ?_
    refine W.eq (g2 := F0 m 157 ls [.int 7]) (by rw [show (0 : Int32) + 7 = 7 from by decide +kernel]) ?_
    refine lv_istore (lv' := [(10, .int 7), (2, .long yF), (9, .int 1), (8, .int 0), (7, .int 64), (6, .int (nI v22)), (5, .int 0), (4, .int 10), (0, .ref m0), (1, .int 64)]) hx hb d_Md_takeSigned_157 hl (by decide) rfl (fun ls hl => ?_)
    refine lv_iload hx hb d_Md_takeSigned_159 (lv_at hl 5 rfl) ?_
    refine lv_sipush (v := 128) hx hb d_Md_takeSigned_161 (by decide) ?_
    refine lv_icmp_ge (tgt := 192) hx hb d_Md_takeSigned_164 (by decide) (fun c_164 => ?_) (fun c_164 => ?_)
    · have hd0 : ¬ v22 < 128 := fun q => absurd ((nI_leI (a := 128) (b := v22) (by omega) (by omega)).mp c_164) (by omega)
      have hU1 : pSg b lm 10 64 a = pSg b lm 9 57 (a + 1) := hU0.trans (pSg_C hr22 ho0 hd0)
      refine lv_iinc (v := 1) (lv' := [(5, .int 1), (10, .int 7), (2, .long yF), (9, .int 1), (8, .int 0), (7, .int 64), (6, .int (nI v22)), (4, .int 10), (0, .ref m0), (1, .int 64)]) hx hb d_Md_takeSigned_192 hl (k := 6) rfl (by decide) (by decide) rfl (fun ls hl => ?_)
      refine lv_goto (tgt := 14) hx hb d_Md_takeSigned_195 (by decide) ?_
      refine lv_iload hx hb d_Md_takeSigned_14 (lv_at hl 0 rfl) ?_
      refine lv_iload hx hb d_Md_takeSigned_16 (lv_at hl 7 rfl) ?_
      refine lv_icmp_ge (tgt := 198) hx hb d_Md_takeSigned_18 (by decide) (fun c_18 => absurd c_18 (by decide)) (fun c_18 => ?_)
      refine lv_aload_n hx hb d_Md_takeSigned_21 rfl (lv_at hl 8 rfl) ?_
      refine va_get (D := D) (ci := 6) (v := .int 0) (C := R_Md) (T := F_Md) (N := 44) hx hb hts (fun w h => List.mem_cons_of_mem _ (i_Md w h)) hown hE.1 hP 0 rfl rfl 3 (by decide) (hts _ (List.mem_cons_of_mem _ iw3_57)) (fun _ h9 => h9) rfl d_Md_takeSigned_22 ?_
      refine lv_if_ne (tgt := 198) hx hb d_Md_takeSigned_25 (by decide) (fun c_25 => absurd (by decide) c_25) (fun c_25 => ?_)
      refine lv_aload_n hx hb d_Md_takeSigned_28 rfl (lv_at hl 8 rfl) ?_
      refine cV (As := []) (rest := []) (n := 0) (wc := [(m0, .inr (6, mF g K (nI (a + 1), 0, p) e (nI np) B)), ((g 0), .inl (cA 3, 2000, .inl fd)), ((g 10), .inl (cA 3, 4, .inl pe))]) (wr := []) ⟨hx, hb, hml, hown, hts⟩ hno hlocks hl.1 (c_Md_take l hl9 D cA ad H.size m0 g K e np B fd pe b N lm hnp hpe hlm hN hfd hb9 (a + 1) p (by omega) ) iw3_212 iw3_214 sel_Md_take iw1_7 iw3_215 (by decide +kernel) rfl ⟨Nat.le_of_ble_eq_true rfl, Nat.le_of_ble_eq_true rfl⟩ ⟨Nat.le_of_ble_eq_true rfl, Nat.le_of_ble_eq_true rfl⟩ rfl (Nat.le_of_ble_eq_true rfl) d_Md_takeSigned_29 hE hP hD hS hA [0, 1, 2] [] rfl rfl rfl rfl (by decide) (ci := 6) rfl rfl 0 rfl (fun _ h => h.elim) (fun v_29 u_29 H locs hp_29 hP hD hS => ?_)
      rcases hp_29 with ⟨f23, q23, hr23, hf23, hB23, rfl, zz23, hzz23, hzx23⟩ | ⟨v23, a23, hr23, rfl, rfl⟩
      · obtain ⟨x23, y23, z23⟩ := u_29
        cases hB23
        have hzx23 : x23 = nI zz23 := hzx23
        subst hzx23
        have hP : va_P D cls [(m0, .inr (6, mF g K (nI zz23, nI f23, nI q23) e (nI np) B)), ((g 0), .inl (cA 3, 2000, .inl fd)), ((g 10), .inl (cA 3, 4, .inl pe))] H := hP
        have hD : va_D A [(m0, .inr (6, mF g K (nI zz23, nI f23, nI q23) e (nI np) B)), ((g 0), .inl (cA 3, 2000, .inl fd)), ((g 10), .inl (cA 3, 4, .inl pe))] := hD
        refine W.cs (cells' := 0) (slots' := 0) rfl rfl ?_
        refine W.eq (g2 := F0 m 32 ls [.int 0]) rfl ?_
        refine lv_istore (lv' := [(6, .int 0), (5, .int 1), (10, .int 7), (2, .long yF), (9, .int 1), (8, .int 0), (7, .int 64), (4, .int 10), (0, .ref m0), (1, .int 64)]) hx hb d_Md_takeSigned_32 hl (by decide) rfl (fun ls hl => ?_)
        refine lv_iload_n hx hb d_Md_takeSigned_34 rfl (lv_at hl 9 rfl) ?_
        refine lv_bipush (v := 7) hx hb d_Md_takeSigned_35 (by decide) ?_
        refine lv_iload hx hb d_Md_takeSigned_37 (lv_at hl 1 rfl) ?_
        refine lv_imul hx hb d_Md_takeSigned_39 ?_
        refine W.eq (g2 := F0 m 40 ls [.int 7, .int 64]) (by rw [show (7 : Int32) * 1 = 7 from by decide +kernel]) ?_
        refine lv_isub hx hb d_Md_takeSigned_40 ?_
        refine W.eq (g2 := F0 m 41 ls [.int 57]) (by rw [show (64 : Int32) - 7 = 57 from by decide +kernel]) ?_
        refine lv_istore (lv' := [(7, .int 57), (6, .int 0), (5, .int 1), (10, .int 7), (2, .long yF), (9, .int 1), (8, .int 0), (4, .int 10), (0, .ref m0), (1, .int 64)]) hx hb d_Md_takeSigned_41 hl (by decide) rfl (fun ls hl => ?_)
        refine lv_iload hx hb d_Md_takeSigned_43 (lv_at hl 0 rfl) ?_
        refine lv_bipush (v := 7) hx hb d_Md_takeSigned_45 (by decide) ?_
        refine lv_icmp_ge (tgt := 63) hx hb d_Md_takeSigned_47 (by decide) (fun c_47 => ?_) (fun c_47 => absurd (by decide) c_47)
        refine lv_iconst (v := 0) hx hb d_Md_takeSigned_63 (by decide) ?_
        refine lv_istore (lv' := [(8, .int 0), (7, .int 57), (6, .int 0), (5, .int 1), (10, .int 7), (2, .long yF), (9, .int 1), (4, .int 10), (0, .ref m0), (1, .int 64)]) hx hb d_Md_takeSigned_64 hl (by decide) rfl (fun ls hl => ?_)
        refine lv_iload hx hb d_Md_takeSigned_66 (lv_at hl 1 rfl) ?_
        refine lv_bipush (v := 7) hx hb d_Md_takeSigned_68 (by decide) ?_
        refine lv_icmp_ge (tgt := 90) hx hb d_Md_takeSigned_70 (by decide) (fun c_70 => ?_) (fun c_70 => absurd (by decide) c_70)
        refine lv_iconst (v := 1) hx hb d_Md_takeSigned_90 (by decide) ?_
        refine lv_goto (tgt := 95) hx hb d_Md_takeSigned_91 (by decide) ?_
        refine lv_istore (lv' := [(9, .int 1), (8, .int 0), (7, .int 57), (6, .int 0), (5, .int 1), (10, .int 7), (2, .long yF), (4, .int 10), (0, .ref m0), (1, .int 64)]) hx hb d_Md_takeSigned_95 hl (by decide) rfl (fun ls hl => ?_)
        refine lv_aload_n hx hb d_Md_takeSigned_97 rfl (lv_at hl 8 rfl) ?_
        refine va_get (D := D) (ci := 6) (v := .int (nI f23)) (C := R_Md) (T := F_Md) (N := 44) hx hb hts (fun w h => List.mem_cons_of_mem _ (i_Md w h)) hown hE.1 hP 0 rfl rfl 3 (by decide) (hts _ (List.mem_cons_of_mem _ iw3_57)) (fun _ h9 => h9) rfl d_Md_takeSigned_98 ?_
        refine lv_if_ne (tgt := 134) hx hb d_Md_takeSigned_101 (by decide) (fun c_101 => ?_) (fun c_101 => absurd c_101 (hf23.n0))
        refine lv_lload_n hx hb d_Md_takeSigned_134 rfl (lv_at hl 6 rfl) ?_
        refine lv_iload hx hb d_Md_takeSigned_135 (lv_at hl 3 rfl) ?_
        refine lv_bipush (v := 127) hx hb d_Md_takeSigned_137 (by decide) ?_
        refine lv_iand hx hb d_Md_takeSigned_139 ?_
        refine W.eq (g2 := F0 m 140 ls [.int 0, .long yF]) (by rw [show (0 : Int32) &&& 127 = 0 from by decide +kernel]) ?_
        refine lv_i2l hx hb d_Md_takeSigned_140 rfl ?_
        refine lv_bipush (v := 7) hx hb d_Md_takeSigned_141 (by decide) ?_
        refine lv_iload hx hb d_Md_takeSigned_143 (lv_at hl 4 rfl) ?_
        refine lv_imul hx hb d_Md_takeSigned_145 ?_
        refine W.eq (g2 := F0 m 146 ls [.int 7, .long ((0 : Int32).toInt64), .long yF]) (by rw [show (7 : Int32) * 1 = 7 from by decide +kernel]) ?_
        refine lv_lshl hx hb d_Md_takeSigned_146 rfl ?_
        refine lv_lor hx hb d_Md_takeSigned_147 ?_
        refine lv_topl (fun yF eyF => ?_)
        refine lv_lstore_n (lv' := [(2, .long yF), (9, .int 1), (8, .int 0), (7, .int 57), (6, .int 0), (5, .int 1), (10, .int 7), (4, .int 10), (0, .ref m0), (1, .int 64)]) hx hb d_Md_takeSigned_148 rfl hl (by decide) rfl (fun ls hl => ?_)
        refine lv_bipush (v := 7) hx hb d_Md_takeSigned_149 (by decide) ?_
        refine lv_iload hx hb d_Md_takeSigned_151 (lv_at hl 5 rfl) ?_
        refine lv_imul hx hb d_Md_takeSigned_153 ?_
        refine W.eq (g2 := F0 m 154 ls [.int 7]) (by rw [show (7 : Int32) * 1 = 7 from by decide +kernel]) ?_
        refine lv_bipush (v := 7) hx hb d_Md_takeSigned_154 (by decide) ?_
        refine lv_iadd hx hb d_Md_takeSigned_156 ?_
        refine W.eq (g2 := F0 m 157 ls [.int 14]) (by rw [show (7 : Int32) + 7 = 14 from by decide +kernel]) ?_
        refine lv_istore (lv' := [(10, .int 14), (2, .long yF), (9, .int 1), (8, .int 0), (7, .int 57), (6, .int 0), (5, .int 1), (4, .int 10), (0, .ref m0), (1, .int 64)]) hx hb d_Md_takeSigned_157 hl (by decide) rfl (fun ls hl => ?_)
        refine lv_iload hx hb d_Md_takeSigned_159 (lv_at hl 5 rfl) ?_
        refine lv_sipush (v := 128) hx hb d_Md_takeSigned_161 (by decide) ?_
        refine lv_icmp_ge (tgt := 192) hx hb d_Md_takeSigned_164 (by decide) (fun c_164 => absurd c_164 (by decide)) (fun c_164 => ?_)
        refine lv_iload hx hb d_Md_takeSigned_167 (lv_at hl 0 rfl) ?_
        refine lv_bipush (v := 64) hx hb d_Md_takeSigned_169 (by decide) ?_
        refine lv_icmp_ge (tgt := 190) hx hb d_Md_takeSigned_171 (by decide) (fun c_171 => absurd c_171 (by decide)) (fun c_171 => ?_)
        refine lv_lload_n hx hb d_Md_takeSigned_174 rfl (lv_at hl 1 rfl) ?_
        refine lv_bipush (v := 64) hx hb d_Md_takeSigned_175 (by decide) ?_
        refine lv_iload hx hb d_Md_takeSigned_177 (lv_at hl 0 rfl) ?_
        refine lv_isub hx hb d_Md_takeSigned_179 ?_
        refine W.eq (g2 := F0 m 180 ls [.int 50, .long yF]) (by rw [show (64 : Int32) - 14 = 50 from by decide +kernel]) ?_
        refine lv_lshl hx hb d_Md_takeSigned_180 rfl ?_
        refine lv_bipush (v := 64) hx hb d_Md_takeSigned_181 (by decide) ?_
        refine lv_iload hx hb d_Md_takeSigned_183 (lv_at hl 0 rfl) ?_
        refine lv_isub hx hb d_Md_takeSigned_185 ?_
        refine W.eq (g2 := F0 m 186 ls [.int 50, .long (yF <<< ((50 : Int32).toInt64 &&& 63))]) (by rw [show (64 : Int32) - 14 = 50 from by decide +kernel]) ?_
        refine lv_lshr hx hb d_Md_takeSigned_186 rfl ?_
        refine lv_goto (tgt := 191) hx hb d_Md_takeSigned_187 (by decide) ?_
        exact cRl ((nI zz23, nI f23, nI q23) : A3) hx hb hr hlocks d_Md_takeSigned_191 hS hP hD (Or.inl ⟨f23, q23, by rw [show pS64 b lm a = pSg b lm 10 64 a from rfl, hU1, pSg_T hr23], hf23, rfl, ⟨_, rfl⟩, zz23, by omega, rfl⟩) (Nat.le_refl _) (Nat.le_refl _)
      · obtain ⟨hla23, hgt23, hv23, hbd23⟩ := (pNext_ok2 hr23 hb9)
        have hP : va_P D cls [(m0, .inr (6, mF g K (nI a23, 0, p) e (nI np) B)), ((g 0), .inl (cA 3, 2000, .inl fd)), ((g 10), .inl (cA 3, 4, .inl pe))] H := hP
        have hD : va_D A [(m0, .inr (6, mF g K (nI a23, 0, p) e (nI np) B)), ((g 0), .inl (cA 3, 2000, .inl fd)), ((g 10), .inl (cA 3, 4, .inl pe))] := hD
        refine W.cs (cells' := 0) (slots' := 0) rfl rfl ?_
        refine W.eq (g2 := F0 m 32 ls [.int (nI v23)]) rfl ?_
        obtain ⟨hbd23, ean23⟩ := hbd23
        subst ean23
        have hP : va_P D cls [(m0, .inr (6, mF g K (nI ((a + 1) + 1), 0, p) e (nI np) B)), ((g 0), .inl (cA 3, 2000, .inl fd)), ((g 10), .inl (cA 3, 4, .inl pe))] H := hP
        have hD : va_D A [(m0, .inr (6, mF g K (nI ((a + 1) + 1), 0, p) e (nI np) B)), ((g 0), .inl (cA 3, 2000, .inl fd)), ((g 10), .inl (cA 3, 4, .inl pe))] := hD
        refine lv_istore (lv' := [(6, .int (nI v23)), (5, .int 1), (10, .int 7), (2, .long yF), (9, .int 1), (8, .int 0), (7, .int 64), (4, .int 10), (0, .ref m0), (1, .int 64)]) hx hb d_Md_takeSigned_32 hl (by decide) rfl (fun ls hl => ?_)
        refine lv_iload_n hx hb d_Md_takeSigned_34 rfl (lv_at hl 9 rfl) ?_
        refine lv_bipush (v := 7) hx hb d_Md_takeSigned_35 (by decide) ?_
        refine lv_iload hx hb d_Md_takeSigned_37 (lv_at hl 1 rfl) ?_
        refine lv_imul hx hb d_Md_takeSigned_39 ?_
        refine W.eq (g2 := F0 m 40 ls [.int 7, .int 64]) (by rw [show (7 : Int32) * 1 = 7 from by decide +kernel]) ?_
        refine lv_isub hx hb d_Md_takeSigned_40 ?_
        refine W.eq (g2 := F0 m 41 ls [.int 57]) (by rw [show (64 : Int32) - 7 = 57 from by decide +kernel]) ?_
        refine lv_istore (lv' := [(7, .int 57), (6, .int (nI v23)), (5, .int 1), (10, .int 7), (2, .long yF), (9, .int 1), (8, .int 0), (4, .int 10), (0, .ref m0), (1, .int 64)]) hx hb d_Md_takeSigned_41 hl (by decide) rfl (fun ls hl => ?_)
        refine lv_iload hx hb d_Md_takeSigned_43 (lv_at hl 0 rfl) ?_
        refine lv_bipush (v := 7) hx hb d_Md_takeSigned_45 (by decide) ?_
        refine lv_icmp_ge (tgt := 63) hx hb d_Md_takeSigned_47 (by decide) (fun c_47 => ?_) (fun c_47 => absurd (by decide) c_47)
        refine lv_iconst (v := 0) hx hb d_Md_takeSigned_63 (by decide) ?_
        refine lv_istore (lv' := [(8, .int 0), (7, .int 57), (6, .int (nI v23)), (5, .int 1), (10, .int 7), (2, .long yF), (9, .int 1), (4, .int 10), (0, .ref m0), (1, .int 64)]) hx hb d_Md_takeSigned_64 hl (by decide) rfl (fun ls hl => ?_)
        refine lv_iload hx hb d_Md_takeSigned_66 (lv_at hl 1 rfl) ?_
        refine lv_bipush (v := 7) hx hb d_Md_takeSigned_68 (by decide) ?_
        refine lv_icmp_ge (tgt := 90) hx hb d_Md_takeSigned_70 (by decide) (fun c_70 => ?_) (fun c_70 => absurd (by decide) c_70)
        refine lv_iconst (v := 1) hx hb d_Md_takeSigned_90 (by decide) ?_
        refine lv_goto (tgt := 95) hx hb d_Md_takeSigned_91 (by decide) ?_
        refine lv_istore (lv' := [(9, .int 1), (8, .int 0), (7, .int 57), (6, .int (nI v23)), (5, .int 1), (10, .int 7), (2, .long yF), (4, .int 10), (0, .ref m0), (1, .int 64)]) hx hb d_Md_takeSigned_95 hl (by decide) rfl (fun ls hl => ?_)
        refine lv_aload_n hx hb d_Md_takeSigned_97 rfl (lv_at hl 8 rfl) ?_
        refine va_get (D := D) (ci := 6) (v := .int 0) (C := R_Md) (T := F_Md) (N := 44) hx hb hts (fun w h => List.mem_cons_of_mem _ (i_Md w h)) hown hE.1 hP 0 rfl rfl 3 (by decide) (hts _ (List.mem_cons_of_mem _ iw3_57)) (fun _ h9 => h9) rfl d_Md_takeSigned_98 ?_
        refine lv_if_ne (tgt := 134) hx hb d_Md_takeSigned_101 (by decide) (fun c_101 => absurd (by decide) c_101) (fun c_101 => ?_)
        refine lv_iload hx hb d_Md_takeSigned_104 (lv_at hl 2 rfl) ?_
        refine lv_bipush (v := 8) hx hb d_Md_takeSigned_106 (by decide) ?_
        refine lv_icmp_ge (tgt := 134) hx hb d_Md_takeSigned_108 (by decide) (fun c_108 => ?_) (fun c_108 => absurd (by decide) c_108)
        have ho1 : ¬ (57 ≤ 7 ∧ sTop 57 v23 = false) := fun q => absurd q.1 (by decide)
        refine lv_lload_n hx hb d_Md_takeSigned_134 rfl (lv_at hl 6 rfl) ?_
        refine lv_iload hx hb d_Md_takeSigned_135 (lv_at hl 3 rfl) ?_
        refine lv_bipush (v := 127) hx hb d_Md_takeSigned_137 (by decide) ?_
        refine lv_iand hx hb d_Md_takeSigned_139 ?_
        refine lv_i2l hx hb d_Md_takeSigned_140 rfl ?_
        refine lv_bipush (v := 7) hx hb d_Md_takeSigned_141 (by decide) ?_
        refine lv_iload hx hb d_Md_takeSigned_143 (lv_at hl 4 rfl) ?_
        refine lv_imul hx hb d_Md_takeSigned_145 ?_
        refine W.eq (g2 := F0 m 146 ls [.int 7, .long (((nI v23) &&& 127).toInt64), .long yF]) (by rw [show (7 : Int32) * 1 = 7 from by decide +kernel]) ?_
        refine lv_lshl hx hb d_Md_takeSigned_146 rfl ?_
        refine lv_lor hx hb d_Md_takeSigned_147 ?_
        refine lv_topl (fun yF eyF => ?_)
        refine lv_lstore_n (lv' := [(2, .long yF), (9, .int 1), (8, .int 0), (7, .int 57), (6, .int (nI v23)), (5, .int 1), (10, .int 7), (4, .int 10), (0, .ref m0), (1, .int 64)]) hx hb d_Md_takeSigned_148 rfl hl (by decide) rfl (fun ls hl => ?_)
        refine lv_bipush (v := 7) hx hb d_Md_takeSigned_149 (by decide) ?_
        refine lv_iload hx hb d_Md_takeSigned_151 (lv_at hl 5 rfl) ?_
        refine lv_imul hx hb d_Md_takeSigned_153 ?_
        refine W.eq (g2 := F0 m 154 ls [.int 7]) (by rw [show (7 : Int32) * 1 = 7 from by decide +kernel]) ?_
        refine lv_bipush (v := 7) hx hb d_Md_takeSigned_154 (by decide) ?_
        refine lv_iadd hx hb d_Md_takeSigned_156 ?_
        refine W.eq (g2 := F0 m 157 ls [.int 14]) (by rw [show (7 : Int32) + 7 = 14 from by decide +kernel]) ?_
        refine lv_istore (lv' := [(10, .int 14), (2, .long yF), (9, .int 1), (8, .int 0), (7, .int 57), (6, .int (nI v23)), (5, .int 1), (4, .int 10), (0, .ref m0), (1, .int 64)]) hx hb d_Md_takeSigned_157 hl (by decide) rfl (fun ls hl => ?_)
        refine lv_iload hx hb d_Md_takeSigned_159 (lv_at hl 5 rfl) ?_
        refine lv_sipush (v := 128) hx hb d_Md_takeSigned_161 (by decide) ?_
        refine lv_icmp_ge (tgt := 192) hx hb d_Md_takeSigned_164 (by decide) (fun c_164 => ?_) (fun c_164 => ?_)
        · have hd1 : ¬ v23 < 128 := fun q => absurd ((nI_leI (a := 128) (b := v23) (by omega) (by omega)).mp c_164) (by omega)
          have hU2 : pSg b lm 10 64 a = pSg b lm 8 50 ((a + 1) + 1) := hU1.trans (pSg_C hr23 ho1 hd1)
          refine lv_iinc (v := 2) (lv' := [(5, .int 2), (10, .int 14), (2, .long yF), (9, .int 1), (8, .int 0), (7, .int 57), (6, .int (nI v23)), (4, .int 10), (0, .ref m0), (1, .int 64)]) hx hb d_Md_takeSigned_192 hl (k := 6) rfl (by decide) (by decide) rfl (fun ls hl => ?_)
          refine lv_goto (tgt := 14) hx hb d_Md_takeSigned_195 (by decide) ?_
          refine lv_iload hx hb d_Md_takeSigned_14 (lv_at hl 0 rfl) ?_
          refine lv_iload hx hb d_Md_takeSigned_16 (lv_at hl 7 rfl) ?_
          refine lv_icmp_ge (tgt := 198) hx hb d_Md_takeSigned_18 (by decide) (fun c_18 => absurd c_18 (by decide)) (fun c_18 => ?_)
          refine lv_aload_n hx hb d_Md_takeSigned_21 rfl (lv_at hl 8 rfl) ?_
          refine va_get (D := D) (ci := 6) (v := .int 0) (C := R_Md) (T := F_Md) (N := 44) hx hb hts (fun w h => List.mem_cons_of_mem _ (i_Md w h)) hown hE.1 hP 0 rfl rfl 3 (by decide) (hts _ (List.mem_cons_of_mem _ iw3_57)) (fun _ h9 => h9) rfl d_Md_takeSigned_22 ?_
          refine lv_if_ne (tgt := 198) hx hb d_Md_takeSigned_25 (by decide) (fun c_25 => absurd (by decide) c_25) (fun c_25 => ?_)
          refine lv_aload_n hx hb d_Md_takeSigned_28 rfl (lv_at hl 8 rfl) ?_
          refine cV (As := []) (rest := []) (n := 0) (wc := [(m0, .inr (6, mF g K (nI ((a + 1) + 1), 0, p) e (nI np) B)), ((g 0), .inl (cA 3, 2000, .inl fd)), ((g 10), .inl (cA 3, 4, .inl pe))]) (wr := []) ⟨hx, hb, hml, hown, hts⟩ hno hlocks hl.1 (c_Md_take l hl9 D cA ad H.size m0 g K e np B fd pe b N lm hnp hpe hlm hN hfd hb9 ((a + 1) + 1) p (by omega) ) iw3_212 iw3_214 sel_Md_take iw1_7 iw3_215 (by decide +kernel) rfl ⟨Nat.le_of_ble_eq_true rfl, Nat.le_of_ble_eq_true rfl⟩ ⟨Nat.le_of_ble_eq_true rfl, Nat.le_of_ble_eq_true rfl⟩ rfl (Nat.le_of_ble_eq_true rfl) d_Md_takeSigned_29 hE hP hD hS hA [0, 1, 2] [] rfl rfl rfl rfl (by decide) (ci := 6) rfl rfl 0 rfl (fun _ h => h.elim) (fun v_29 u_29 H locs hp_29 hP hD hS => ?_)
          rcases hp_29 with ⟨f24, q24, hr24, hf24, hB24, rfl, zz24, hzz24, hzx24⟩ | ⟨v24, a24, hr24, rfl, rfl⟩
          · obtain ⟨x24, y24, z24⟩ := u_29
            cases hB24
            have hzx24 : x24 = nI zz24 := hzx24
            subst hzx24
            have hP : va_P D cls [(m0, .inr (6, mF g K (nI zz24, nI f24, nI q24) e (nI np) B)), ((g 0), .inl (cA 3, 2000, .inl fd)), ((g 10), .inl (cA 3, 4, .inl pe))] H := hP
            have hD : va_D A [(m0, .inr (6, mF g K (nI zz24, nI f24, nI q24) e (nI np) B)), ((g 0), .inl (cA 3, 2000, .inl fd)), ((g 10), .inl (cA 3, 4, .inl pe))] := hD
            refine W.cs (cells' := 0) (slots' := 0) rfl rfl ?_
            refine W.eq (g2 := F0 m 32 ls [.int 0]) rfl ?_
            refine lv_istore (lv' := [(6, .int 0), (5, .int 2), (10, .int 14), (2, .long yF), (9, .int 1), (8, .int 0), (7, .int 57), (4, .int 10), (0, .ref m0), (1, .int 64)]) hx hb d_Md_takeSigned_32 hl (by decide) rfl (fun ls hl => ?_)
            refine lv_iload_n hx hb d_Md_takeSigned_34 rfl (lv_at hl 9 rfl) ?_
            refine lv_bipush (v := 7) hx hb d_Md_takeSigned_35 (by decide) ?_
            refine lv_iload hx hb d_Md_takeSigned_37 (lv_at hl 1 rfl) ?_
            refine lv_imul hx hb d_Md_takeSigned_39 ?_
            refine W.eq (g2 := F0 m 40 ls [.int 14, .int 64]) (by rw [show (7 : Int32) * 2 = 14 from by decide +kernel]) ?_
            refine lv_isub hx hb d_Md_takeSigned_40 ?_
            refine W.eq (g2 := F0 m 41 ls [.int 50]) (by rw [show (64 : Int32) - 14 = 50 from by decide +kernel]) ?_
            refine lv_istore (lv' := [(7, .int 50), (6, .int 0), (5, .int 2), (10, .int 14), (2, .long yF), (9, .int 1), (8, .int 0), (4, .int 10), (0, .ref m0), (1, .int 64)]) hx hb d_Md_takeSigned_41 hl (by decide) rfl (fun ls hl => ?_)
            refine lv_iload hx hb d_Md_takeSigned_43 (lv_at hl 0 rfl) ?_
            refine lv_bipush (v := 7) hx hb d_Md_takeSigned_45 (by decide) ?_
            refine lv_icmp_ge (tgt := 63) hx hb d_Md_takeSigned_47 (by decide) (fun c_47 => ?_) (fun c_47 => absurd (by decide) c_47)
            refine lv_iconst (v := 0) hx hb d_Md_takeSigned_63 (by decide) ?_
            refine lv_istore (lv' := [(8, .int 0), (7, .int 50), (6, .int 0), (5, .int 2), (10, .int 14), (2, .long yF), (9, .int 1), (4, .int 10), (0, .ref m0), (1, .int 64)]) hx hb d_Md_takeSigned_64 hl (by decide) rfl (fun ls hl => ?_)
            refine lv_iload hx hb d_Md_takeSigned_66 (lv_at hl 1 rfl) ?_
            refine lv_bipush (v := 7) hx hb d_Md_takeSigned_68 (by decide) ?_
            refine lv_icmp_ge (tgt := 90) hx hb d_Md_takeSigned_70 (by decide) (fun c_70 => ?_) (fun c_70 => absurd (by decide) c_70)
            refine lv_iconst (v := 1) hx hb d_Md_takeSigned_90 (by decide) ?_
            refine lv_goto (tgt := 95) hx hb d_Md_takeSigned_91 (by decide) ?_
            refine lv_istore (lv' := [(9, .int 1), (8, .int 0), (7, .int 50), (6, .int 0), (5, .int 2), (10, .int 14), (2, .long yF), (4, .int 10), (0, .ref m0), (1, .int 64)]) hx hb d_Md_takeSigned_95 hl (by decide) rfl (fun ls hl => ?_)
            refine lv_aload_n hx hb d_Md_takeSigned_97 rfl (lv_at hl 8 rfl) ?_
            refine va_get (D := D) (ci := 6) (v := .int (nI f24)) (C := R_Md) (T := F_Md) (N := 44) hx hb hts (fun w h => List.mem_cons_of_mem _ (i_Md w h)) hown hE.1 hP 0 rfl rfl 3 (by decide) (hts _ (List.mem_cons_of_mem _ iw3_57)) (fun _ h9 => h9) rfl d_Md_takeSigned_98 ?_
            refine lv_if_ne (tgt := 134) hx hb d_Md_takeSigned_101 (by decide) (fun c_101 => ?_) (fun c_101 => absurd c_101 (hf24.n0))
            refine lv_lload_n hx hb d_Md_takeSigned_134 rfl (lv_at hl 6 rfl) ?_
            refine lv_iload hx hb d_Md_takeSigned_135 (lv_at hl 3 rfl) ?_
            refine lv_bipush (v := 127) hx hb d_Md_takeSigned_137 (by decide) ?_
            refine lv_iand hx hb d_Md_takeSigned_139 ?_
            refine W.eq (g2 := F0 m 140 ls [.int 0, .long yF]) (by rw [show (0 : Int32) &&& 127 = 0 from by decide +kernel]) ?_
            refine lv_i2l hx hb d_Md_takeSigned_140 rfl ?_
            refine lv_bipush (v := 7) hx hb d_Md_takeSigned_141 (by decide) ?_
            refine lv_iload hx hb d_Md_takeSigned_143 (lv_at hl 4 rfl) ?_
            refine lv_imul hx hb d_Md_takeSigned_145 ?_
            refine W.eq (g2 := F0 m 146 ls [.int 14, .long ((0 : Int32).toInt64), .long yF]) (by rw [show (7 : Int32) * 2 = 14 from by decide +kernel]) ?_
            refine lv_lshl hx hb d_Md_takeSigned_146 rfl ?_
            refine lv_lor hx hb d_Md_takeSigned_147 ?_
            refine lv_topl (fun yF eyF => ?_)
            refine lv_lstore_n (lv' := [(2, .long yF), (9, .int 1), (8, .int 0), (7, .int 50), (6, .int 0), (5, .int 2), (10, .int 14), (4, .int 10), (0, .ref m0), (1, .int 64)]) hx hb d_Md_takeSigned_148 rfl hl (by decide) rfl (fun ls hl => ?_)
            refine lv_bipush (v := 7) hx hb d_Md_takeSigned_149 (by decide) ?_
            refine lv_iload hx hb d_Md_takeSigned_151 (lv_at hl 5 rfl) ?_
            refine lv_imul hx hb d_Md_takeSigned_153 ?_
            refine W.eq (g2 := F0 m 154 ls [.int 14]) (by rw [show (7 : Int32) * 2 = 14 from by decide +kernel]) ?_
            refine lv_bipush (v := 7) hx hb d_Md_takeSigned_154 (by decide) ?_
            refine lv_iadd hx hb d_Md_takeSigned_156 ?_
            refine W.eq (g2 := F0 m 157 ls [.int 21]) (by rw [show (14 : Int32) + 7 = 21 from by decide +kernel]) ?_
            refine lv_istore (lv' := [(10, .int 21), (2, .long yF), (9, .int 1), (8, .int 0), (7, .int 50), (6, .int 0), (5, .int 2), (4, .int 10), (0, .ref m0), (1, .int 64)]) hx hb d_Md_takeSigned_157 hl (by decide) rfl (fun ls hl => ?_)
            refine lv_iload hx hb d_Md_takeSigned_159 (lv_at hl 5 rfl) ?_
            refine lv_sipush (v := 128) hx hb d_Md_takeSigned_161 (by decide) ?_
            refine lv_icmp_ge (tgt := 192) hx hb d_Md_takeSigned_164 (by decide) (fun c_164 => absurd c_164 (by decide)) (fun c_164 => ?_)
            refine lv_iload hx hb d_Md_takeSigned_167 (lv_at hl 0 rfl) ?_
            refine lv_bipush (v := 64) hx hb d_Md_takeSigned_169 (by decide) ?_
            refine lv_icmp_ge (tgt := 190) hx hb d_Md_takeSigned_171 (by decide) (fun c_171 => absurd c_171 (by decide)) (fun c_171 => ?_)
            refine lv_lload_n hx hb d_Md_takeSigned_174 rfl (lv_at hl 1 rfl) ?_
            refine lv_bipush (v := 64) hx hb d_Md_takeSigned_175 (by decide) ?_
            refine lv_iload hx hb d_Md_takeSigned_177 (lv_at hl 0 rfl) ?_
            refine lv_isub hx hb d_Md_takeSigned_179 ?_
            refine W.eq (g2 := F0 m 180 ls [.int 43, .long yF]) (by rw [show (64 : Int32) - 21 = 43 from by decide +kernel]) ?_
            refine lv_lshl hx hb d_Md_takeSigned_180 rfl ?_
            refine lv_bipush (v := 64) hx hb d_Md_takeSigned_181 (by decide) ?_
            refine lv_iload hx hb d_Md_takeSigned_183 (lv_at hl 0 rfl) ?_
            refine lv_isub hx hb d_Md_takeSigned_185 ?_
            refine W.eq (g2 := F0 m 186 ls [.int 43, .long (yF <<< ((43 : Int32).toInt64 &&& 63))]) (by rw [show (64 : Int32) - 21 = 43 from by decide +kernel]) ?_
            refine lv_lshr hx hb d_Md_takeSigned_186 rfl ?_
            refine lv_goto (tgt := 191) hx hb d_Md_takeSigned_187 (by decide) ?_
            exact cRl ((nI zz24, nI f24, nI q24) : A3) hx hb hr hlocks d_Md_takeSigned_191 hS hP hD (Or.inl ⟨f24, q24, by rw [show pS64 b lm a = pSg b lm 10 64 a from rfl, hU2, pSg_T hr24], hf24, rfl, ⟨_, rfl⟩, zz24, by omega, rfl⟩) (Nat.le_refl _) (Nat.le_refl _)
          · obtain ⟨hla24, hgt24, hv24, hbd24⟩ := (pNext_ok2 hr24 hb9)
            have hP : va_P D cls [(m0, .inr (6, mF g K (nI a24, 0, p) e (nI np) B)), ((g 0), .inl (cA 3, 2000, .inl fd)), ((g 10), .inl (cA 3, 4, .inl pe))] H := hP
            have hD : va_D A [(m0, .inr (6, mF g K (nI a24, 0, p) e (nI np) B)), ((g 0), .inl (cA 3, 2000, .inl fd)), ((g 10), .inl (cA 3, 4, .inl pe))] := hD
            refine W.cs (cells' := 0) (slots' := 0) rfl rfl ?_
            refine W.eq (g2 := F0 m 32 ls [.int (nI v24)]) rfl ?_
            obtain ⟨hbd24, ean24⟩ := hbd24
            subst ean24
            have hP : va_P D cls [(m0, .inr (6, mF g K (nI (((a + 1) + 1) + 1), 0, p) e (nI np) B)), ((g 0), .inl (cA 3, 2000, .inl fd)), ((g 10), .inl (cA 3, 4, .inl pe))] H := hP
            have hD : va_D A [(m0, .inr (6, mF g K (nI (((a + 1) + 1) + 1), 0, p) e (nI np) B)), ((g 0), .inl (cA 3, 2000, .inl fd)), ((g 10), .inl (cA 3, 4, .inl pe))] := hD
            refine lv_istore (lv' := [(6, .int (nI v24)), (5, .int 2), (10, .int 14), (2, .long yF), (9, .int 1), (8, .int 0), (7, .int 57), (4, .int 10), (0, .ref m0), (1, .int 64)]) hx hb d_Md_takeSigned_32 hl (by decide) rfl (fun ls hl => ?_)
            refine lv_iload_n hx hb d_Md_takeSigned_34 rfl (lv_at hl 9 rfl) ?_
            refine lv_bipush (v := 7) hx hb d_Md_takeSigned_35 (by decide) ?_
            refine lv_iload hx hb d_Md_takeSigned_37 (lv_at hl 1 rfl) ?_
            refine lv_imul hx hb d_Md_takeSigned_39 ?_
            refine W.eq (g2 := F0 m 40 ls [.int 14, .int 64]) (by rw [show (7 : Int32) * 2 = 14 from by decide +kernel]) ?_
            refine lv_isub hx hb d_Md_takeSigned_40 ?_
            refine W.eq (g2 := F0 m 41 ls [.int 50]) (by rw [show (64 : Int32) - 14 = 50 from by decide +kernel]) ?_
            refine lv_istore (lv' := [(7, .int 50), (6, .int (nI v24)), (5, .int 2), (10, .int 14), (2, .long yF), (9, .int 1), (8, .int 0), (4, .int 10), (0, .ref m0), (1, .int 64)]) hx hb d_Md_takeSigned_41 hl (by decide) rfl (fun ls hl => ?_)
            refine lv_iload hx hb d_Md_takeSigned_43 (lv_at hl 0 rfl) ?_
            refine lv_bipush (v := 7) hx hb d_Md_takeSigned_45 (by decide) ?_
            refine lv_icmp_ge (tgt := 63) hx hb d_Md_takeSigned_47 (by decide) (fun c_47 => ?_) (fun c_47 => absurd (by decide) c_47)
            refine lv_iconst (v := 0) hx hb d_Md_takeSigned_63 (by decide) ?_
            refine lv_istore (lv' := [(8, .int 0), (7, .int 50), (6, .int (nI v24)), (5, .int 2), (10, .int 14), (2, .long yF), (9, .int 1), (4, .int 10), (0, .ref m0), (1, .int 64)]) hx hb d_Md_takeSigned_64 hl (by decide) rfl (fun ls hl => ?_)
            refine lv_iload hx hb d_Md_takeSigned_66 (lv_at hl 1 rfl) ?_
            refine lv_bipush (v := 7) hx hb d_Md_takeSigned_68 (by decide) ?_
            refine lv_icmp_ge (tgt := 90) hx hb d_Md_takeSigned_70 (by decide) (fun c_70 => ?_) (fun c_70 => absurd (by decide) c_70)
            refine lv_iconst (v := 1) hx hb d_Md_takeSigned_90 (by decide) ?_
            refine lv_goto (tgt := 95) hx hb d_Md_takeSigned_91 (by decide) ?_
            refine lv_istore (lv' := [(9, .int 1), (8, .int 0), (7, .int 50), (6, .int (nI v24)), (5, .int 2), (10, .int 14), (2, .long yF), (4, .int 10), (0, .ref m0), (1, .int 64)]) hx hb d_Md_takeSigned_95 hl (by decide) rfl (fun ls hl => ?_)
            refine lv_aload_n hx hb d_Md_takeSigned_97 rfl (lv_at hl 8 rfl) ?_
            refine va_get (D := D) (ci := 6) (v := .int 0) (C := R_Md) (T := F_Md) (N := 44) hx hb hts (fun w h => List.mem_cons_of_mem _ (i_Md w h)) hown hE.1 hP 0 rfl rfl 3 (by decide) (hts _ (List.mem_cons_of_mem _ iw3_57)) (fun _ h9 => h9) rfl d_Md_takeSigned_98 ?_
            refine lv_if_ne (tgt := 134) hx hb d_Md_takeSigned_101 (by decide) (fun c_101 => absurd (by decide) c_101) (fun c_101 => ?_)
            refine lv_iload hx hb d_Md_takeSigned_104 (lv_at hl 2 rfl) ?_
            refine lv_bipush (v := 8) hx hb d_Md_takeSigned_106 (by decide) ?_
            refine lv_icmp_ge (tgt := 134) hx hb d_Md_takeSigned_108 (by decide) (fun c_108 => ?_) (fun c_108 => absurd (by decide) c_108)
            have ho2 : ¬ (50 ≤ 7 ∧ sTop 50 v24 = false) := fun q => absurd q.1 (by decide)
            refine lv_lload_n hx hb d_Md_takeSigned_134 rfl (lv_at hl 6 rfl) ?_
            refine lv_iload hx hb d_Md_takeSigned_135 (lv_at hl 3 rfl) ?_
            refine lv_bipush (v := 127) hx hb d_Md_takeSigned_137 (by decide) ?_
            refine lv_iand hx hb d_Md_takeSigned_139 ?_
            refine lv_i2l hx hb d_Md_takeSigned_140 rfl ?_
            refine lv_bipush (v := 7) hx hb d_Md_takeSigned_141 (by decide) ?_
            refine lv_iload hx hb d_Md_takeSigned_143 (lv_at hl 4 rfl) ?_
            refine lv_imul hx hb d_Md_takeSigned_145 ?_
            refine W.eq (g2 := F0 m 146 ls [.int 14, .long (((nI v24) &&& 127).toInt64), .long yF]) (by rw [show (7 : Int32) * 2 = 14 from by decide +kernel]) ?_
            refine lv_lshl hx hb d_Md_takeSigned_146 rfl ?_
            refine lv_lor hx hb d_Md_takeSigned_147 ?_
            refine lv_topl (fun yF eyF => ?_)
            refine lv_lstore_n (lv' := [(2, .long yF), (9, .int 1), (8, .int 0), (7, .int 50), (6, .int (nI v24)), (5, .int 2), (10, .int 14), (4, .int 10), (0, .ref m0), (1, .int 64)]) hx hb d_Md_takeSigned_148 rfl hl (by decide) rfl (fun ls hl => ?_)
            refine lv_bipush (v := 7) hx hb d_Md_takeSigned_149 (by decide) ?_
            refine lv_iload hx hb d_Md_takeSigned_151 (lv_at hl 5 rfl) ?_
            refine lv_imul hx hb d_Md_takeSigned_153 ?_
            refine W.eq (g2 := F0 m 154 ls [.int 14]) (by rw [show (7 : Int32) * 2 = 14 from by decide +kernel]) ?_
            refine lv_bipush (v := 7) hx hb d_Md_takeSigned_154 (by decide) ?_
            refine lv_iadd hx hb d_Md_takeSigned_156 ?_
            refine W.eq (g2 := F0 m 157 ls [.int 21]) (by rw [show (14 : Int32) + 7 = 21 from by decide +kernel]) ?_
            refine lv_istore (lv' := [(10, .int 21), (2, .long yF), (9, .int 1), (8, .int 0), (7, .int 50), (6, .int (nI v24)), (5, .int 2), (4, .int 10), (0, .ref m0), (1, .int 64)]) hx hb d_Md_takeSigned_157 hl (by decide) rfl (fun ls hl => ?_)
            refine lv_iload hx hb d_Md_takeSigned_159 (lv_at hl 5 rfl) ?_
            refine lv_sipush (v := 128) hx hb d_Md_takeSigned_161 (by decide) ?_
            refine lv_icmp_ge (tgt := 192) hx hb d_Md_takeSigned_164 (by decide) (fun c_164 => ?_) (fun c_164 => ?_)
            · have hd2 : ¬ v24 < 128 := fun q => absurd ((nI_leI (a := 128) (b := v24) (by omega) (by omega)).mp c_164) (by omega)
              have hU3 : pSg b lm 10 64 a = pSg b lm 7 43 (((a + 1) + 1) + 1) := hU2.trans (pSg_C hr24 ho2 hd2)
              refine lv_iinc (v := 3) (lv' := [(5, .int 3), (10, .int 21), (2, .long yF), (9, .int 1), (8, .int 0), (7, .int 50), (6, .int (nI v24)), (4, .int 10), (0, .ref m0), (1, .int 64)]) hx hb d_Md_takeSigned_192 hl (k := 6) rfl (by decide) (by decide) rfl (fun ls hl => ?_)
              refine lv_goto (tgt := 14) hx hb d_Md_takeSigned_195 (by decide) ?_
              refine lv_iload hx hb d_Md_takeSigned_14 (lv_at hl 0 rfl) ?_
              refine lv_iload hx hb d_Md_takeSigned_16 (lv_at hl 7 rfl) ?_
              refine lv_icmp_ge (tgt := 198) hx hb d_Md_takeSigned_18 (by decide) (fun c_18 => absurd c_18 (by decide)) (fun c_18 => ?_)
              refine lv_aload_n hx hb d_Md_takeSigned_21 rfl (lv_at hl 8 rfl) ?_
              refine va_get (D := D) (ci := 6) (v := .int 0) (C := R_Md) (T := F_Md) (N := 44) hx hb hts (fun w h => List.mem_cons_of_mem _ (i_Md w h)) hown hE.1 hP 0 rfl rfl 3 (by decide) (hts _ (List.mem_cons_of_mem _ iw3_57)) (fun _ h9 => h9) rfl d_Md_takeSigned_22 ?_
              refine lv_if_ne (tgt := 198) hx hb d_Md_takeSigned_25 (by decide) (fun c_25 => absurd (by decide) c_25) (fun c_25 => ?_)
              refine lv_aload_n hx hb d_Md_takeSigned_28 rfl (lv_at hl 8 rfl) ?_
              refine cV (As := []) (rest := []) (n := 0) (wc := [(m0, .inr (6, mF g K (nI (((a + 1) + 1) + 1), 0, p) e (nI np) B)), ((g 0), .inl (cA 3, 2000, .inl fd)), ((g 10), .inl (cA 3, 4, .inl pe))]) (wr := []) ⟨hx, hb, hml, hown, hts⟩ hno hlocks hl.1 (c_Md_take l hl9 D cA ad H.size m0 g K e np B fd pe b N lm hnp hpe hlm hN hfd hb9 (((a + 1) + 1) + 1) p (by omega) ) iw3_212 iw3_214 sel_Md_take iw1_7 iw3_215 (by decide +kernel) rfl ⟨Nat.le_of_ble_eq_true rfl, Nat.le_of_ble_eq_true rfl⟩ ⟨Nat.le_of_ble_eq_true rfl, Nat.le_of_ble_eq_true rfl⟩ rfl (Nat.le_of_ble_eq_true rfl) d_Md_takeSigned_29 hE hP hD hS hA [0, 1, 2] [] rfl rfl rfl rfl (by decide) (ci := 6) rfl rfl 0 rfl (fun _ h => h.elim) (fun v_29 u_29 H locs hp_29 hP hD hS => ?_)
              rcases hp_29 with ⟨f25, q25, hr25, hf25, hB25, rfl, zz25, hzz25, hzx25⟩ | ⟨v25, a25, hr25, rfl, rfl⟩
              · obtain ⟨x25, y25, z25⟩ := u_29
                cases hB25
                have hzx25 : x25 = nI zz25 := hzx25
                subst hzx25
                have hP : va_P D cls [(m0, .inr (6, mF g K (nI zz25, nI f25, nI q25) e (nI np) B)), ((g 0), .inl (cA 3, 2000, .inl fd)), ((g 10), .inl (cA 3, 4, .inl pe))] H := hP
                have hD : va_D A [(m0, .inr (6, mF g K (nI zz25, nI f25, nI q25) e (nI np) B)), ((g 0), .inl (cA 3, 2000, .inl fd)), ((g 10), .inl (cA 3, 4, .inl pe))] := hD
                refine W.cs (cells' := 0) (slots' := 0) rfl rfl ?_
                refine W.eq (g2 := F0 m 32 ls [.int 0]) rfl ?_
                refine lv_istore (lv' := [(6, .int 0), (5, .int 3), (10, .int 21), (2, .long yF), (9, .int 1), (8, .int 0), (7, .int 50), (4, .int 10), (0, .ref m0), (1, .int 64)]) hx hb d_Md_takeSigned_32 hl (by decide) rfl (fun ls hl => ?_)
                refine lv_iload_n hx hb d_Md_takeSigned_34 rfl (lv_at hl 9 rfl) ?_
                refine lv_bipush (v := 7) hx hb d_Md_takeSigned_35 (by decide) ?_
                refine lv_iload hx hb d_Md_takeSigned_37 (lv_at hl 1 rfl) ?_
                refine lv_imul hx hb d_Md_takeSigned_39 ?_
                refine W.eq (g2 := F0 m 40 ls [.int 21, .int 64]) (by rw [show (7 : Int32) * 3 = 21 from by decide +kernel]) ?_
                refine lv_isub hx hb d_Md_takeSigned_40 ?_
                refine W.eq (g2 := F0 m 41 ls [.int 43]) (by rw [show (64 : Int32) - 21 = 43 from by decide +kernel]) ?_
                refine lv_istore (lv' := [(7, .int 43), (6, .int 0), (5, .int 3), (10, .int 21), (2, .long yF), (9, .int 1), (8, .int 0), (4, .int 10), (0, .ref m0), (1, .int 64)]) hx hb d_Md_takeSigned_41 hl (by decide) rfl (fun ls hl => ?_)
                refine lv_iload hx hb d_Md_takeSigned_43 (lv_at hl 0 rfl) ?_
                refine lv_bipush (v := 7) hx hb d_Md_takeSigned_45 (by decide) ?_
                refine lv_icmp_ge (tgt := 63) hx hb d_Md_takeSigned_47 (by decide) (fun c_47 => ?_) (fun c_47 => absurd (by decide) c_47)
                refine lv_iconst (v := 0) hx hb d_Md_takeSigned_63 (by decide) ?_
                refine lv_istore (lv' := [(8, .int 0), (7, .int 43), (6, .int 0), (5, .int 3), (10, .int 21), (2, .long yF), (9, .int 1), (4, .int 10), (0, .ref m0), (1, .int 64)]) hx hb d_Md_takeSigned_64 hl (by decide) rfl (fun ls hl => ?_)
                refine lv_iload hx hb d_Md_takeSigned_66 (lv_at hl 1 rfl) ?_
                refine lv_bipush (v := 7) hx hb d_Md_takeSigned_68 (by decide) ?_
                refine lv_icmp_ge (tgt := 90) hx hb d_Md_takeSigned_70 (by decide) (fun c_70 => ?_) (fun c_70 => absurd (by decide) c_70)
                refine lv_iconst (v := 1) hx hb d_Md_takeSigned_90 (by decide) ?_
                refine lv_goto (tgt := 95) hx hb d_Md_takeSigned_91 (by decide) ?_
                refine lv_istore (lv' := [(9, .int 1), (8, .int 0), (7, .int 43), (6, .int 0), (5, .int 3), (10, .int 21), (2, .long yF), (4, .int 10), (0, .ref m0), (1, .int 64)]) hx hb d_Md_takeSigned_95 hl (by decide) rfl (fun ls hl => ?_)
                refine lv_aload_n hx hb d_Md_takeSigned_97 rfl (lv_at hl 8 rfl) ?_
                refine va_get (D := D) (ci := 6) (v := .int (nI f25)) (C := R_Md) (T := F_Md) (N := 44) hx hb hts (fun w h => List.mem_cons_of_mem _ (i_Md w h)) hown hE.1 hP 0 rfl rfl 3 (by decide) (hts _ (List.mem_cons_of_mem _ iw3_57)) (fun _ h9 => h9) rfl d_Md_takeSigned_98 ?_
                refine lv_if_ne (tgt := 134) hx hb d_Md_takeSigned_101 (by decide) (fun c_101 => ?_) (fun c_101 => absurd c_101 (hf25.n0))
                refine lv_lload_n hx hb d_Md_takeSigned_134 rfl (lv_at hl 6 rfl) ?_
                refine lv_iload hx hb d_Md_takeSigned_135 (lv_at hl 3 rfl) ?_
                refine lv_bipush (v := 127) hx hb d_Md_takeSigned_137 (by decide) ?_
                refine lv_iand hx hb d_Md_takeSigned_139 ?_
                refine W.eq (g2 := F0 m 140 ls [.int 0, .long yF]) (by rw [show (0 : Int32) &&& 127 = 0 from by decide +kernel]) ?_
                refine lv_i2l hx hb d_Md_takeSigned_140 rfl ?_
                refine lv_bipush (v := 7) hx hb d_Md_takeSigned_141 (by decide) ?_
                refine lv_iload hx hb d_Md_takeSigned_143 (lv_at hl 4 rfl) ?_
                refine lv_imul hx hb d_Md_takeSigned_145 ?_
                refine W.eq (g2 := F0 m 146 ls [.int 21, .long ((0 : Int32).toInt64), .long yF]) (by rw [show (7 : Int32) * 3 = 21 from by decide +kernel]) ?_
                refine lv_lshl hx hb d_Md_takeSigned_146 rfl ?_
                refine lv_lor hx hb d_Md_takeSigned_147 ?_
                refine lv_topl (fun yF eyF => ?_)
                refine lv_lstore_n (lv' := [(2, .long yF), (9, .int 1), (8, .int 0), (7, .int 43), (6, .int 0), (5, .int 3), (10, .int 21), (4, .int 10), (0, .ref m0), (1, .int 64)]) hx hb d_Md_takeSigned_148 rfl hl (by decide) rfl (fun ls hl => ?_)
                refine lv_bipush (v := 7) hx hb d_Md_takeSigned_149 (by decide) ?_
                refine lv_iload hx hb d_Md_takeSigned_151 (lv_at hl 5 rfl) ?_
                refine lv_imul hx hb d_Md_takeSigned_153 ?_
                refine W.eq (g2 := F0 m 154 ls [.int 21]) (by rw [show (7 : Int32) * 3 = 21 from by decide +kernel]) ?_
                refine lv_bipush (v := 7) hx hb d_Md_takeSigned_154 (by decide) ?_
                refine lv_iadd hx hb d_Md_takeSigned_156 ?_
                refine W.eq (g2 := F0 m 157 ls [.int 28]) (by rw [show (21 : Int32) + 7 = 28 from by decide +kernel]) ?_
                refine lv_istore (lv' := [(10, .int 28), (2, .long yF), (9, .int 1), (8, .int 0), (7, .int 43), (6, .int 0), (5, .int 3), (4, .int 10), (0, .ref m0), (1, .int 64)]) hx hb d_Md_takeSigned_157 hl (by decide) rfl (fun ls hl => ?_)
                refine lv_iload hx hb d_Md_takeSigned_159 (lv_at hl 5 rfl) ?_
                refine lv_sipush (v := 128) hx hb d_Md_takeSigned_161 (by decide) ?_
                refine lv_icmp_ge (tgt := 192) hx hb d_Md_takeSigned_164 (by decide) (fun c_164 => absurd c_164 (by decide)) (fun c_164 => ?_)
                refine lv_iload hx hb d_Md_takeSigned_167 (lv_at hl 0 rfl) ?_
                refine lv_bipush (v := 64) hx hb d_Md_takeSigned_169 (by decide) ?_
                refine lv_icmp_ge (tgt := 190) hx hb d_Md_takeSigned_171 (by decide) (fun c_171 => absurd c_171 (by decide)) (fun c_171 => ?_)
                refine lv_lload_n hx hb d_Md_takeSigned_174 rfl (lv_at hl 1 rfl) ?_
                refine lv_bipush (v := 64) hx hb d_Md_takeSigned_175 (by decide) ?_
                refine lv_iload hx hb d_Md_takeSigned_177 (lv_at hl 0 rfl) ?_
                refine lv_isub hx hb d_Md_takeSigned_179 ?_
                refine W.eq (g2 := F0 m 180 ls [.int 36, .long yF]) (by rw [show (64 : Int32) - 28 = 36 from by decide +kernel]) ?_
                refine lv_lshl hx hb d_Md_takeSigned_180 rfl ?_
                refine lv_bipush (v := 64) hx hb d_Md_takeSigned_181 (by decide) ?_
                refine lv_iload hx hb d_Md_takeSigned_183 (lv_at hl 0 rfl) ?_
                refine lv_isub hx hb d_Md_takeSigned_185 ?_
                refine W.eq (g2 := F0 m 186 ls [.int 36, .long (yF <<< ((36 : Int32).toInt64 &&& 63))]) (by rw [show (64 : Int32) - 28 = 36 from by decide +kernel]) ?_
                refine lv_lshr hx hb d_Md_takeSigned_186 rfl ?_
                refine lv_goto (tgt := 191) hx hb d_Md_takeSigned_187 (by decide) ?_
                exact cRl ((nI zz25, nI f25, nI q25) : A3) hx hb hr hlocks d_Md_takeSigned_191 hS hP hD (Or.inl ⟨f25, q25, by rw [show pS64 b lm a = pSg b lm 10 64 a from rfl, hU3, pSg_T hr25], hf25, rfl, ⟨_, rfl⟩, zz25, by omega, rfl⟩) (Nat.le_refl _) (Nat.le_refl _)
              · obtain ⟨hla25, hgt25, hv25, hbd25⟩ := (pNext_ok2 hr25 hb9)
                have hP : va_P D cls [(m0, .inr (6, mF g K (nI a25, 0, p) e (nI np) B)), ((g 0), .inl (cA 3, 2000, .inl fd)), ((g 10), .inl (cA 3, 4, .inl pe))] H := hP
                have hD : va_D A [(m0, .inr (6, mF g K (nI a25, 0, p) e (nI np) B)), ((g 0), .inl (cA 3, 2000, .inl fd)), ((g 10), .inl (cA 3, 4, .inl pe))] := hD
                refine W.cs (cells' := 0) (slots' := 0) rfl rfl ?_
                refine W.eq (g2 := F0 m 32 ls [.int (nI v25)]) rfl ?_
                obtain ⟨hbd25, ean25⟩ := hbd25
                subst ean25
                have hP : va_P D cls [(m0, .inr (6, mF g K (nI ((((a + 1) + 1) + 1) + 1), 0, p) e (nI np) B)), ((g 0), .inl (cA 3, 2000, .inl fd)), ((g 10), .inl (cA 3, 4, .inl pe))] H := hP
                have hD : va_D A [(m0, .inr (6, mF g K (nI ((((a + 1) + 1) + 1) + 1), 0, p) e (nI np) B)), ((g 0), .inl (cA 3, 2000, .inl fd)), ((g 10), .inl (cA 3, 4, .inl pe))] := hD
                refine lv_istore (lv' := [(6, .int (nI v25)), (5, .int 3), (10, .int 21), (2, .long yF), (9, .int 1), (8, .int 0), (7, .int 50), (4, .int 10), (0, .ref m0), (1, .int 64)]) hx hb d_Md_takeSigned_32 hl (by decide) rfl (fun ls hl => ?_)
                refine lv_iload_n hx hb d_Md_takeSigned_34 rfl (lv_at hl 9 rfl) ?_
                refine lv_bipush (v := 7) hx hb d_Md_takeSigned_35 (by decide) ?_
                refine lv_iload hx hb d_Md_takeSigned_37 (lv_at hl 1 rfl) ?_
                refine lv_imul hx hb d_Md_takeSigned_39 ?_
                refine W.eq (g2 := F0 m 40 ls [.int 21, .int 64]) (by rw [show (7 : Int32) * 3 = 21 from by decide +kernel]) ?_
                refine lv_isub hx hb d_Md_takeSigned_40 ?_
                refine W.eq (g2 := F0 m 41 ls [.int 43]) (by rw [show (64 : Int32) - 21 = 43 from by decide +kernel]) ?_
                refine lv_istore (lv' := [(7, .int 43), (6, .int (nI v25)), (5, .int 3), (10, .int 21), (2, .long yF), (9, .int 1), (8, .int 0), (4, .int 10), (0, .ref m0), (1, .int 64)]) hx hb d_Md_takeSigned_41 hl (by decide) rfl (fun ls hl => ?_)
                refine lv_iload hx hb d_Md_takeSigned_43 (lv_at hl 0 rfl) ?_
                refine lv_bipush (v := 7) hx hb d_Md_takeSigned_45 (by decide) ?_
                refine lv_icmp_ge (tgt := 63) hx hb d_Md_takeSigned_47 (by decide) (fun c_47 => ?_) (fun c_47 => absurd (by decide) c_47)
                refine lv_iconst (v := 0) hx hb d_Md_takeSigned_63 (by decide) ?_
                refine lv_istore (lv' := [(8, .int 0), (7, .int 43), (6, .int (nI v25)), (5, .int 3), (10, .int 21), (2, .long yF), (9, .int 1), (4, .int 10), (0, .ref m0), (1, .int 64)]) hx hb d_Md_takeSigned_64 hl (by decide) rfl (fun ls hl => ?_)
                refine lv_iload hx hb d_Md_takeSigned_66 (lv_at hl 1 rfl) ?_
                refine lv_bipush (v := 7) hx hb d_Md_takeSigned_68 (by decide) ?_
                refine lv_icmp_ge (tgt := 90) hx hb d_Md_takeSigned_70 (by decide) (fun c_70 => ?_) (fun c_70 => absurd (by decide) c_70)
                refine lv_iconst (v := 1) hx hb d_Md_takeSigned_90 (by decide) ?_
                refine lv_goto (tgt := 95) hx hb d_Md_takeSigned_91 (by decide) ?_
                refine lv_istore (lv' := [(9, .int 1), (8, .int 0), (7, .int 43), (6, .int (nI v25)), (5, .int 3), (10, .int 21), (2, .long yF), (4, .int 10), (0, .ref m0), (1, .int 64)]) hx hb d_Md_takeSigned_95 hl (by decide) rfl (fun ls hl => ?_)
                refine lv_aload_n hx hb d_Md_takeSigned_97 rfl (lv_at hl 8 rfl) ?_
                refine va_get (D := D) (ci := 6) (v := .int 0) (C := R_Md) (T := F_Md) (N := 44) hx hb hts (fun w h => List.mem_cons_of_mem _ (i_Md w h)) hown hE.1 hP 0 rfl rfl 3 (by decide) (hts _ (List.mem_cons_of_mem _ iw3_57)) (fun _ h9 => h9) rfl d_Md_takeSigned_98 ?_
                refine lv_if_ne (tgt := 134) hx hb d_Md_takeSigned_101 (by decide) (fun c_101 => absurd (by decide) c_101) (fun c_101 => ?_)
                refine lv_iload hx hb d_Md_takeSigned_104 (lv_at hl 2 rfl) ?_
                refine lv_bipush (v := 8) hx hb d_Md_takeSigned_106 (by decide) ?_
                refine lv_icmp_ge (tgt := 134) hx hb d_Md_takeSigned_108 (by decide) (fun c_108 => ?_) (fun c_108 => absurd (by decide) c_108)
                have ho3 : ¬ (43 ≤ 7 ∧ sTop 43 v25 = false) := fun q => absurd q.1 (by decide)
                refine lv_lload_n hx hb d_Md_takeSigned_134 rfl (lv_at hl 6 rfl) ?_
                refine lv_iload hx hb d_Md_takeSigned_135 (lv_at hl 3 rfl) ?_
                refine lv_bipush (v := 127) hx hb d_Md_takeSigned_137 (by decide) ?_
                refine lv_iand hx hb d_Md_takeSigned_139 ?_
                refine lv_i2l hx hb d_Md_takeSigned_140 rfl ?_
                refine lv_bipush (v := 7) hx hb d_Md_takeSigned_141 (by decide) ?_
                refine lv_iload hx hb d_Md_takeSigned_143 (lv_at hl 4 rfl) ?_
                refine lv_imul hx hb d_Md_takeSigned_145 ?_
                refine W.eq (g2 := F0 m 146 ls [.int 21, .long (((nI v25) &&& 127).toInt64), .long yF]) (by rw [show (7 : Int32) * 3 = 21 from by decide +kernel]) ?_
                refine lv_lshl hx hb d_Md_takeSigned_146 rfl ?_
                refine lv_lor hx hb d_Md_takeSigned_147 ?_
                refine lv_topl (fun yF eyF => ?_)
                refine lv_lstore_n (lv' := [(2, .long yF), (9, .int 1), (8, .int 0), (7, .int 43), (6, .int (nI v25)), (5, .int 3), (10, .int 21), (4, .int 10), (0, .ref m0), (1, .int 64)]) hx hb d_Md_takeSigned_148 rfl hl (by decide) rfl (fun ls hl => ?_)
                refine lv_bipush (v := 7) hx hb d_Md_takeSigned_149 (by decide) ?_
                refine lv_iload hx hb d_Md_takeSigned_151 (lv_at hl 5 rfl) ?_
                refine lv_imul hx hb d_Md_takeSigned_153 ?_
                refine W.eq (g2 := F0 m 154 ls [.int 21]) (by rw [show (7 : Int32) * 3 = 21 from by decide +kernel]) ?_
                refine lv_bipush (v := 7) hx hb d_Md_takeSigned_154 (by decide) ?_
                refine lv_iadd hx hb d_Md_takeSigned_156 ?_
                refine W.eq (g2 := F0 m 157 ls [.int 28]) (by rw [show (21 : Int32) + 7 = 28 from by decide +kernel]) ?_
                refine lv_istore (lv' := [(10, .int 28), (2, .long yF), (9, .int 1), (8, .int 0), (7, .int 43), (6, .int (nI v25)), (5, .int 3), (4, .int 10), (0, .ref m0), (1, .int 64)]) hx hb d_Md_takeSigned_157 hl (by decide) rfl (fun ls hl => ?_)
                refine lv_iload hx hb d_Md_takeSigned_159 (lv_at hl 5 rfl) ?_
                refine lv_sipush (v := 128) hx hb d_Md_takeSigned_161 (by decide) ?_
                refine lv_icmp_ge (tgt := 192) hx hb d_Md_takeSigned_164 (by decide) (fun c_164 => ?_) (fun c_164 => ?_)
                · have hd3 : ¬ v25 < 128 := fun q => absurd ((nI_leI (a := 128) (b := v25) (by omega) (by omega)).mp c_164) (by omega)
                  have hU4 : pSg b lm 10 64 a = pSg b lm 6 36 ((((a + 1) + 1) + 1) + 1) := hU3.trans (pSg_C hr25 ho3 hd3)
                  refine lv_iinc (v := 4) (lv' := [(5, .int 4), (10, .int 28), (2, .long yF), (9, .int 1), (8, .int 0), (7, .int 43), (6, .int (nI v25)), (4, .int 10), (0, .ref m0), (1, .int 64)]) hx hb d_Md_takeSigned_192 hl (k := 6) rfl (by decide) (by decide) rfl (fun ls hl => ?_)
                  refine lv_goto (tgt := 14) hx hb d_Md_takeSigned_195 (by decide) ?_
                  refine lv_iload hx hb d_Md_takeSigned_14 (lv_at hl 0 rfl) ?_
                  refine lv_iload hx hb d_Md_takeSigned_16 (lv_at hl 7 rfl) ?_
                  refine lv_icmp_ge (tgt := 198) hx hb d_Md_takeSigned_18 (by decide) (fun c_18 => absurd c_18 (by decide)) (fun c_18 => ?_)
                  refine lv_aload_n hx hb d_Md_takeSigned_21 rfl (lv_at hl 8 rfl) ?_
                  refine va_get (D := D) (ci := 6) (v := .int 0) (C := R_Md) (T := F_Md) (N := 44) hx hb hts (fun w h => List.mem_cons_of_mem _ (i_Md w h)) hown hE.1 hP 0 rfl rfl 3 (by decide) (hts _ (List.mem_cons_of_mem _ iw3_57)) (fun _ h9 => h9) rfl d_Md_takeSigned_22 ?_
                  refine lv_if_ne (tgt := 198) hx hb d_Md_takeSigned_25 (by decide) (fun c_25 => absurd (by decide) c_25) (fun c_25 => ?_)
                  refine lv_aload_n hx hb d_Md_takeSigned_28 rfl (lv_at hl 8 rfl) ?_
                  refine cV (As := []) (rest := []) (n := 0) (wc := [(m0, .inr (6, mF g K (nI ((((a + 1) + 1) + 1) + 1), 0, p) e (nI np) B)), ((g 0), .inl (cA 3, 2000, .inl fd)), ((g 10), .inl (cA 3, 4, .inl pe))]) (wr := []) ⟨hx, hb, hml, hown, hts⟩ hno hlocks hl.1 (c_Md_take l hl9 D cA ad H.size m0 g K e np B fd pe b N lm hnp hpe hlm hN hfd hb9 ((((a + 1) + 1) + 1) + 1) p (by omega) ) iw3_212 iw3_214 sel_Md_take iw1_7 iw3_215 (by decide +kernel) rfl ⟨Nat.le_of_ble_eq_true rfl, Nat.le_of_ble_eq_true rfl⟩ ⟨Nat.le_of_ble_eq_true rfl, Nat.le_of_ble_eq_true rfl⟩ rfl (Nat.le_of_ble_eq_true rfl) d_Md_takeSigned_29 hE hP hD hS hA [0, 1, 2] [] rfl rfl rfl rfl (by decide) (ci := 6) rfl rfl 0 rfl (fun _ h => h.elim) (fun v_29 u_29 H locs hp_29 hP hD hS => ?_)
                  rcases hp_29 with ⟨f26, q26, hr26, hf26, hB26, rfl, zz26, hzz26, hzx26⟩ | ⟨v26, a26, hr26, rfl, rfl⟩
                  · obtain ⟨x26, y26, z26⟩ := u_29
                    cases hB26
                    have hzx26 : x26 = nI zz26 := hzx26
                    subst hzx26
                    have hP : va_P D cls [(m0, .inr (6, mF g K (nI zz26, nI f26, nI q26) e (nI np) B)), ((g 0), .inl (cA 3, 2000, .inl fd)), ((g 10), .inl (cA 3, 4, .inl pe))] H := hP
                    have hD : va_D A [(m0, .inr (6, mF g K (nI zz26, nI f26, nI q26) e (nI np) B)), ((g 0), .inl (cA 3, 2000, .inl fd)), ((g 10), .inl (cA 3, 4, .inl pe))] := hD
                    refine W.cs (cells' := 0) (slots' := 0) rfl rfl ?_
                    refine W.eq (g2 := F0 m 32 ls [.int 0]) rfl ?_
                    refine lv_istore (lv' := [(6, .int 0), (5, .int 4), (10, .int 28), (2, .long yF), (9, .int 1), (8, .int 0), (7, .int 43), (4, .int 10), (0, .ref m0), (1, .int 64)]) hx hb d_Md_takeSigned_32 hl (by decide) rfl (fun ls hl => ?_)
                    refine lv_iload_n hx hb d_Md_takeSigned_34 rfl (lv_at hl 9 rfl) ?_
                    refine lv_bipush (v := 7) hx hb d_Md_takeSigned_35 (by decide) ?_
                    refine lv_iload hx hb d_Md_takeSigned_37 (lv_at hl 1 rfl) ?_
                    refine lv_imul hx hb d_Md_takeSigned_39 ?_
                    refine W.eq (g2 := F0 m 40 ls [.int 28, .int 64]) (by rw [show (7 : Int32) * 4 = 28 from by decide +kernel]) ?_
                    refine lv_isub hx hb d_Md_takeSigned_40 ?_
                    refine W.eq (g2 := F0 m 41 ls [.int 36]) (by rw [show (64 : Int32) - 28 = 36 from by decide +kernel]) ?_
                    refine lv_istore (lv' := [(7, .int 36), (6, .int 0), (5, .int 4), (10, .int 28), (2, .long yF), (9, .int 1), (8, .int 0), (4, .int 10), (0, .ref m0), (1, .int 64)]) hx hb d_Md_takeSigned_41 hl (by decide) rfl (fun ls hl => ?_)
                    refine lv_iload hx hb d_Md_takeSigned_43 (lv_at hl 0 rfl) ?_
                    refine lv_bipush (v := 7) hx hb d_Md_takeSigned_45 (by decide) ?_
                    refine lv_icmp_ge (tgt := 63) hx hb d_Md_takeSigned_47 (by decide) (fun c_47 => ?_) (fun c_47 => absurd (by decide) c_47)
                    refine lv_iconst (v := 0) hx hb d_Md_takeSigned_63 (by decide) ?_
                    refine lv_istore (lv' := [(8, .int 0), (7, .int 36), (6, .int 0), (5, .int 4), (10, .int 28), (2, .long yF), (9, .int 1), (4, .int 10), (0, .ref m0), (1, .int 64)]) hx hb d_Md_takeSigned_64 hl (by decide) rfl (fun ls hl => ?_)
                    refine lv_iload hx hb d_Md_takeSigned_66 (lv_at hl 1 rfl) ?_
                    refine lv_bipush (v := 7) hx hb d_Md_takeSigned_68 (by decide) ?_
                    refine lv_icmp_ge (tgt := 90) hx hb d_Md_takeSigned_70 (by decide) (fun c_70 => ?_) (fun c_70 => absurd (by decide) c_70)
                    refine lv_iconst (v := 1) hx hb d_Md_takeSigned_90 (by decide) ?_
                    refine lv_goto (tgt := 95) hx hb d_Md_takeSigned_91 (by decide) ?_
                    refine lv_istore (lv' := [(9, .int 1), (8, .int 0), (7, .int 36), (6, .int 0), (5, .int 4), (10, .int 28), (2, .long yF), (4, .int 10), (0, .ref m0), (1, .int 64)]) hx hb d_Md_takeSigned_95 hl (by decide) rfl (fun ls hl => ?_)
                    refine lv_aload_n hx hb d_Md_takeSigned_97 rfl (lv_at hl 8 rfl) ?_
                    refine va_get (D := D) (ci := 6) (v := .int (nI f26)) (C := R_Md) (T := F_Md) (N := 44) hx hb hts (fun w h => List.mem_cons_of_mem _ (i_Md w h)) hown hE.1 hP 0 rfl rfl 3 (by decide) (hts _ (List.mem_cons_of_mem _ iw3_57)) (fun _ h9 => h9) rfl d_Md_takeSigned_98 ?_
                    refine lv_if_ne (tgt := 134) hx hb d_Md_takeSigned_101 (by decide) (fun c_101 => ?_) (fun c_101 => absurd c_101 (hf26.n0))
                    refine lv_lload_n hx hb d_Md_takeSigned_134 rfl (lv_at hl 6 rfl) ?_
                    refine lv_iload hx hb d_Md_takeSigned_135 (lv_at hl 3 rfl) ?_
                    refine lv_bipush (v := 127) hx hb d_Md_takeSigned_137 (by decide) ?_
                    refine lv_iand hx hb d_Md_takeSigned_139 ?_
                    refine W.eq (g2 := F0 m 140 ls [.int 0, .long yF]) (by rw [show (0 : Int32) &&& 127 = 0 from by decide +kernel]) ?_
                    refine lv_i2l hx hb d_Md_takeSigned_140 rfl ?_
                    refine lv_bipush (v := 7) hx hb d_Md_takeSigned_141 (by decide) ?_
                    refine lv_iload hx hb d_Md_takeSigned_143 (lv_at hl 4 rfl) ?_
                    refine lv_imul hx hb d_Md_takeSigned_145 ?_
                    refine W.eq (g2 := F0 m 146 ls [.int 28, .long ((0 : Int32).toInt64), .long yF]) (by rw [show (7 : Int32) * 4 = 28 from by decide +kernel]) ?_
                    refine lv_lshl hx hb d_Md_takeSigned_146 rfl ?_
                    refine lv_lor hx hb d_Md_takeSigned_147 ?_
                    refine lv_topl (fun yF eyF => ?_)
                    refine lv_lstore_n (lv' := [(2, .long yF), (9, .int 1), (8, .int 0), (7, .int 36), (6, .int 0), (5, .int 4), (10, .int 28), (4, .int 10), (0, .ref m0), (1, .int 64)]) hx hb d_Md_takeSigned_148 rfl hl (by decide) rfl (fun ls hl => ?_)
                    refine lv_bipush (v := 7) hx hb d_Md_takeSigned_149 (by decide) ?_
                    refine lv_iload hx hb d_Md_takeSigned_151 (lv_at hl 5 rfl) ?_
                    refine lv_imul hx hb d_Md_takeSigned_153 ?_
                    refine W.eq (g2 := F0 m 154 ls [.int 28]) (by rw [show (7 : Int32) * 4 = 28 from by decide +kernel]) ?_
                    refine lv_bipush (v := 7) hx hb d_Md_takeSigned_154 (by decide) ?_
                    refine lv_iadd hx hb d_Md_takeSigned_156 ?_
                    refine W.eq (g2 := F0 m 157 ls [.int 35]) (by rw [show (28 : Int32) + 7 = 35 from by decide +kernel]) ?_
                    refine lv_istore (lv' := [(10, .int 35), (2, .long yF), (9, .int 1), (8, .int 0), (7, .int 36), (6, .int 0), (5, .int 4), (4, .int 10), (0, .ref m0), (1, .int 64)]) hx hb d_Md_takeSigned_157 hl (by decide) rfl (fun ls hl => ?_)
                    refine lv_iload hx hb d_Md_takeSigned_159 (lv_at hl 5 rfl) ?_
                    refine lv_sipush (v := 128) hx hb d_Md_takeSigned_161 (by decide) ?_
                    refine lv_icmp_ge (tgt := 192) hx hb d_Md_takeSigned_164 (by decide) (fun c_164 => absurd c_164 (by decide)) (fun c_164 => ?_)
                    refine lv_iload hx hb d_Md_takeSigned_167 (lv_at hl 0 rfl) ?_
                    refine lv_bipush (v := 64) hx hb d_Md_takeSigned_169 (by decide) ?_
                    refine lv_icmp_ge (tgt := 190) hx hb d_Md_takeSigned_171 (by decide) (fun c_171 => absurd c_171 (by decide)) (fun c_171 => ?_)
                    refine lv_lload_n hx hb d_Md_takeSigned_174 rfl (lv_at hl 1 rfl) ?_
                    refine lv_bipush (v := 64) hx hb d_Md_takeSigned_175 (by decide) ?_
                    refine lv_iload hx hb d_Md_takeSigned_177 (lv_at hl 0 rfl) ?_
                    refine lv_isub hx hb d_Md_takeSigned_179 ?_
                    refine W.eq (g2 := F0 m 180 ls [.int 29, .long yF]) (by rw [show (64 : Int32) - 35 = 29 from by decide +kernel]) ?_
                    refine lv_lshl hx hb d_Md_takeSigned_180 rfl ?_
                    refine lv_bipush (v := 64) hx hb d_Md_takeSigned_181 (by decide) ?_
                    refine lv_iload hx hb d_Md_takeSigned_183 (lv_at hl 0 rfl) ?_
                    refine lv_isub hx hb d_Md_takeSigned_185 ?_
                    refine W.eq (g2 := F0 m 186 ls [.int 29, .long (yF <<< ((29 : Int32).toInt64 &&& 63))]) (by rw [show (64 : Int32) - 35 = 29 from by decide +kernel]) ?_
                    refine lv_lshr hx hb d_Md_takeSigned_186 rfl ?_
                    refine lv_goto (tgt := 191) hx hb d_Md_takeSigned_187 (by decide) ?_
                    exact cRl ((nI zz26, nI f26, nI q26) : A3) hx hb hr hlocks d_Md_takeSigned_191 hS hP hD (Or.inl ⟨f26, q26, by rw [show pS64 b lm a = pSg b lm 10 64 a from rfl, hU4, pSg_T hr26], hf26, rfl, ⟨_, rfl⟩, zz26, by omega, rfl⟩) (Nat.le_refl _) (Nat.le_refl _)
                  · obtain ⟨hla26, hgt26, hv26, hbd26⟩ := (pNext_ok2 hr26 hb9)
                    have hP : va_P D cls [(m0, .inr (6, mF g K (nI a26, 0, p) e (nI np) B)), ((g 0), .inl (cA 3, 2000, .inl fd)), ((g 10), .inl (cA 3, 4, .inl pe))] H := hP
                    have hD : va_D A [(m0, .inr (6, mF g K (nI a26, 0, p) e (nI np) B)), ((g 0), .inl (cA 3, 2000, .inl fd)), ((g 10), .inl (cA 3, 4, .inl pe))] := hD
                    refine W.cs (cells' := 0) (slots' := 0) rfl rfl ?_
                    refine W.eq (g2 := F0 m 32 ls [.int (nI v26)]) rfl ?_
                    obtain ⟨hbd26, ean26⟩ := hbd26
                    subst ean26
                    have hP : va_P D cls [(m0, .inr (6, mF g K (nI (((((a + 1) + 1) + 1) + 1) + 1), 0, p) e (nI np) B)), ((g 0), .inl (cA 3, 2000, .inl fd)), ((g 10), .inl (cA 3, 4, .inl pe))] H := hP
                    have hD : va_D A [(m0, .inr (6, mF g K (nI (((((a + 1) + 1) + 1) + 1) + 1), 0, p) e (nI np) B)), ((g 0), .inl (cA 3, 2000, .inl fd)), ((g 10), .inl (cA 3, 4, .inl pe))] := hD
                    refine lv_istore (lv' := [(6, .int (nI v26)), (5, .int 4), (10, .int 28), (2, .long yF), (9, .int 1), (8, .int 0), (7, .int 43), (4, .int 10), (0, .ref m0), (1, .int 64)]) hx hb d_Md_takeSigned_32 hl (by decide) rfl (fun ls hl => ?_)
                    refine lv_iload_n hx hb d_Md_takeSigned_34 rfl (lv_at hl 9 rfl) ?_
                    refine lv_bipush (v := 7) hx hb d_Md_takeSigned_35 (by decide) ?_
                    refine lv_iload hx hb d_Md_takeSigned_37 (lv_at hl 1 rfl) ?_
                    refine lv_imul hx hb d_Md_takeSigned_39 ?_
                    refine W.eq (g2 := F0 m 40 ls [.int 28, .int 64]) (by rw [show (7 : Int32) * 4 = 28 from by decide +kernel]) ?_
                    refine lv_isub hx hb d_Md_takeSigned_40 ?_
                    refine W.eq (g2 := F0 m 41 ls [.int 36]) (by rw [show (64 : Int32) - 28 = 36 from by decide +kernel]) ?_
                    refine lv_istore (lv' := [(7, .int 36), (6, .int (nI v26)), (5, .int 4), (10, .int 28), (2, .long yF), (9, .int 1), (8, .int 0), (4, .int 10), (0, .ref m0), (1, .int 64)]) hx hb d_Md_takeSigned_41 hl (by decide) rfl (fun ls hl => ?_)
                    refine lv_iload hx hb d_Md_takeSigned_43 (lv_at hl 0 rfl) ?_
                    refine lv_bipush (v := 7) hx hb d_Md_takeSigned_45 (by decide) ?_
                    refine lv_icmp_ge (tgt := 63) hx hb d_Md_takeSigned_47 (by decide) (fun c_47 => ?_) (fun c_47 => absurd (by decide) c_47)
                    refine lv_iconst (v := 0) hx hb d_Md_takeSigned_63 (by decide) ?_
                    refine lv_istore (lv' := [(8, .int 0), (7, .int 36), (6, .int (nI v26)), (5, .int 4), (10, .int 28), (2, .long yF), (9, .int 1), (4, .int 10), (0, .ref m0), (1, .int 64)]) hx hb d_Md_takeSigned_64 hl (by decide) rfl (fun ls hl => ?_)
                    refine lv_iload hx hb d_Md_takeSigned_66 (lv_at hl 1 rfl) ?_
                    refine lv_bipush (v := 7) hx hb d_Md_takeSigned_68 (by decide) ?_
                    refine lv_icmp_ge (tgt := 90) hx hb d_Md_takeSigned_70 (by decide) (fun c_70 => ?_) (fun c_70 => absurd (by decide) c_70)
                    refine lv_iconst (v := 1) hx hb d_Md_takeSigned_90 (by decide) ?_
                    refine lv_goto (tgt := 95) hx hb d_Md_takeSigned_91 (by decide) ?_
                    refine lv_istore (lv' := [(9, .int 1), (8, .int 0), (7, .int 36), (6, .int (nI v26)), (5, .int 4), (10, .int 28), (2, .long yF), (4, .int 10), (0, .ref m0), (1, .int 64)]) hx hb d_Md_takeSigned_95 hl (by decide) rfl (fun ls hl => ?_)
                    refine lv_aload_n hx hb d_Md_takeSigned_97 rfl (lv_at hl 8 rfl) ?_
                    refine va_get (D := D) (ci := 6) (v := .int 0) (C := R_Md) (T := F_Md) (N := 44) hx hb hts (fun w h => List.mem_cons_of_mem _ (i_Md w h)) hown hE.1 hP 0 rfl rfl 3 (by decide) (hts _ (List.mem_cons_of_mem _ iw3_57)) (fun _ h9 => h9) rfl d_Md_takeSigned_98 ?_
                    refine lv_if_ne (tgt := 134) hx hb d_Md_takeSigned_101 (by decide) (fun c_101 => absurd (by decide) c_101) (fun c_101 => ?_)
                    refine lv_iload hx hb d_Md_takeSigned_104 (lv_at hl 2 rfl) ?_
                    refine lv_bipush (v := 8) hx hb d_Md_takeSigned_106 (by decide) ?_
                    refine lv_icmp_ge (tgt := 134) hx hb d_Md_takeSigned_108 (by decide) (fun c_108 => ?_) (fun c_108 => absurd (by decide) c_108)
                    have ho4 : ¬ (36 ≤ 7 ∧ sTop 36 v26 = false) := fun q => absurd q.1 (by decide)
                    refine lv_lload_n hx hb d_Md_takeSigned_134 rfl (lv_at hl 6 rfl) ?_
                    refine lv_iload hx hb d_Md_takeSigned_135 (lv_at hl 3 rfl) ?_
                    refine lv_bipush (v := 127) hx hb d_Md_takeSigned_137 (by decide) ?_
                    refine lv_iand hx hb d_Md_takeSigned_139 ?_
                    refine lv_i2l hx hb d_Md_takeSigned_140 rfl ?_
                    refine lv_bipush (v := 7) hx hb d_Md_takeSigned_141 (by decide) ?_
                    refine lv_iload hx hb d_Md_takeSigned_143 (lv_at hl 4 rfl) ?_
                    refine lv_imul hx hb d_Md_takeSigned_145 ?_
                    refine W.eq (g2 := F0 m 146 ls [.int 28, .long (((nI v26) &&& 127).toInt64), .long yF]) (by rw [show (7 : Int32) * 4 = 28 from by decide +kernel]) ?_
                    refine lv_lshl hx hb d_Md_takeSigned_146 rfl ?_
                    refine lv_lor hx hb d_Md_takeSigned_147 ?_
                    refine lv_topl (fun yF eyF => ?_)
                    refine lv_lstore_n (lv' := [(2, .long yF), (9, .int 1), (8, .int 0), (7, .int 36), (6, .int (nI v26)), (5, .int 4), (10, .int 28), (4, .int 10), (0, .ref m0), (1, .int 64)]) hx hb d_Md_takeSigned_148 rfl hl (by decide) rfl (fun ls hl => ?_)
                    refine lv_bipush (v := 7) hx hb d_Md_takeSigned_149 (by decide) ?_
                    refine lv_iload hx hb d_Md_takeSigned_151 (lv_at hl 5 rfl) ?_
                    refine lv_imul hx hb d_Md_takeSigned_153 ?_
                    refine W.eq (g2 := F0 m 154 ls [.int 28]) (by rw [show (7 : Int32) * 4 = 28 from by decide +kernel]) ?_
                    refine lv_bipush (v := 7) hx hb d_Md_takeSigned_154 (by decide) ?_
                    refine lv_iadd hx hb d_Md_takeSigned_156 ?_
                    refine W.eq (g2 := F0 m 157 ls [.int 35]) (by rw [show (28 : Int32) + 7 = 35 from by decide +kernel]) ?_
                    refine lv_istore (lv' := [(10, .int 35), (2, .long yF), (9, .int 1), (8, .int 0), (7, .int 36), (6, .int (nI v26)), (5, .int 4), (4, .int 10), (0, .ref m0), (1, .int 64)]) hx hb d_Md_takeSigned_157 hl (by decide) rfl (fun ls hl => ?_)
                    refine lv_iload hx hb d_Md_takeSigned_159 (lv_at hl 5 rfl) ?_
                    refine lv_sipush (v := 128) hx hb d_Md_takeSigned_161 (by decide) ?_
                    refine lv_icmp_ge (tgt := 192) hx hb d_Md_takeSigned_164 (by decide) (fun c_164 => ?_) (fun c_164 => ?_)
                    · have hd4 : ¬ v26 < 128 := fun q => absurd ((nI_leI (a := 128) (b := v26) (by omega) (by omega)).mp c_164) (by omega)
                      have hU5 : pSg b lm 10 64 a = pSg b lm 5 29 (((((a + 1) + 1) + 1) + 1) + 1) := hU4.trans (pSg_C hr26 ho4 hd4)
                      refine lv_iinc (v := 5) (lv' := [(5, .int 5), (10, .int 35), (2, .long yF), (9, .int 1), (8, .int 0), (7, .int 36), (6, .int (nI v26)), (4, .int 10), (0, .ref m0), (1, .int 64)]) hx hb d_Md_takeSigned_192 hl (k := 6) rfl (by decide) (by decide) rfl (fun ls hl => ?_)
                      refine lv_goto (tgt := 14) hx hb d_Md_takeSigned_195 (by decide) ?_
                      refine lv_iload hx hb d_Md_takeSigned_14 (lv_at hl 0 rfl) ?_
                      refine lv_iload hx hb d_Md_takeSigned_16 (lv_at hl 7 rfl) ?_
                      refine lv_icmp_ge (tgt := 198) hx hb d_Md_takeSigned_18 (by decide) (fun c_18 => absurd c_18 (by decide)) (fun c_18 => ?_)
                      refine lv_aload_n hx hb d_Md_takeSigned_21 rfl (lv_at hl 8 rfl) ?_
                      refine va_get (D := D) (ci := 6) (v := .int 0) (C := R_Md) (T := F_Md) (N := 44) hx hb hts (fun w h => List.mem_cons_of_mem _ (i_Md w h)) hown hE.1 hP 0 rfl rfl 3 (by decide) (hts _ (List.mem_cons_of_mem _ iw3_57)) (fun _ h9 => h9) rfl d_Md_takeSigned_22 ?_
                      refine lv_if_ne (tgt := 198) hx hb d_Md_takeSigned_25 (by decide) (fun c_25 => absurd (by decide) c_25) (fun c_25 => ?_)
                      refine lv_aload_n hx hb d_Md_takeSigned_28 rfl (lv_at hl 8 rfl) ?_
                      refine cV (As := []) (rest := []) (n := 0) (wc := [(m0, .inr (6, mF g K (nI (((((a + 1) + 1) + 1) + 1) + 1), 0, p) e (nI np) B)), ((g 0), .inl (cA 3, 2000, .inl fd)), ((g 10), .inl (cA 3, 4, .inl pe))]) (wr := []) ⟨hx, hb, hml, hown, hts⟩ hno hlocks hl.1 (c_Md_take l hl9 D cA ad H.size m0 g K e np B fd pe b N lm hnp hpe hlm hN hfd hb9 (((((a + 1) + 1) + 1) + 1) + 1) p (by omega) ) iw3_212 iw3_214 sel_Md_take iw1_7 iw3_215 (by decide +kernel) rfl ⟨Nat.le_of_ble_eq_true rfl, Nat.le_of_ble_eq_true rfl⟩ ⟨Nat.le_of_ble_eq_true rfl, Nat.le_of_ble_eq_true rfl⟩ rfl (Nat.le_of_ble_eq_true rfl) d_Md_takeSigned_29 hE hP hD hS hA [0, 1, 2] [] rfl rfl rfl rfl (by decide) (ci := 6) rfl rfl 0 rfl (fun _ h => h.elim) (fun v_29 u_29 H locs hp_29 hP hD hS => ?_)
                      rcases hp_29 with ⟨f27, q27, hr27, hf27, hB27, rfl, zz27, hzz27, hzx27⟩ | ⟨v27, a27, hr27, rfl, rfl⟩
                      · obtain ⟨x27, y27, z27⟩ := u_29
                        cases hB27
                        have hzx27 : x27 = nI zz27 := hzx27
                        subst hzx27
                        have hP : va_P D cls [(m0, .inr (6, mF g K (nI zz27, nI f27, nI q27) e (nI np) B)), ((g 0), .inl (cA 3, 2000, .inl fd)), ((g 10), .inl (cA 3, 4, .inl pe))] H := hP
                        have hD : va_D A [(m0, .inr (6, mF g K (nI zz27, nI f27, nI q27) e (nI np) B)), ((g 0), .inl (cA 3, 2000, .inl fd)), ((g 10), .inl (cA 3, 4, .inl pe))] := hD
                        refine W.cs (cells' := 0) (slots' := 0) rfl rfl ?_
                        refine W.eq (g2 := F0 m 32 ls [.int 0]) rfl ?_
                        refine lv_istore (lv' := [(6, .int 0), (5, .int 5), (10, .int 35), (2, .long yF), (9, .int 1), (8, .int 0), (7, .int 36), (4, .int 10), (0, .ref m0), (1, .int 64)]) hx hb d_Md_takeSigned_32 hl (by decide) rfl (fun ls hl => ?_)
                        refine lv_iload_n hx hb d_Md_takeSigned_34 rfl (lv_at hl 9 rfl) ?_
                        refine lv_bipush (v := 7) hx hb d_Md_takeSigned_35 (by decide) ?_
                        refine lv_iload hx hb d_Md_takeSigned_37 (lv_at hl 1 rfl) ?_
                        refine lv_imul hx hb d_Md_takeSigned_39 ?_
                        refine W.eq (g2 := F0 m 40 ls [.int 35, .int 64]) (by rw [show (7 : Int32) * 5 = 35 from by decide +kernel]) ?_
                        refine lv_isub hx hb d_Md_takeSigned_40 ?_
                        refine W.eq (g2 := F0 m 41 ls [.int 29]) (by rw [show (64 : Int32) - 35 = 29 from by decide +kernel]) ?_
                        refine lv_istore (lv' := [(7, .int 29), (6, .int 0), (5, .int 5), (10, .int 35), (2, .long yF), (9, .int 1), (8, .int 0), (4, .int 10), (0, .ref m0), (1, .int 64)]) hx hb d_Md_takeSigned_41 hl (by decide) rfl (fun ls hl => ?_)
                        refine lv_iload hx hb d_Md_takeSigned_43 (lv_at hl 0 rfl) ?_
                        refine lv_bipush (v := 7) hx hb d_Md_takeSigned_45 (by decide) ?_
                        refine lv_icmp_ge (tgt := 63) hx hb d_Md_takeSigned_47 (by decide) (fun c_47 => ?_) (fun c_47 => absurd (by decide) c_47)
                        refine lv_iconst (v := 0) hx hb d_Md_takeSigned_63 (by decide) ?_
                        refine lv_istore (lv' := [(8, .int 0), (7, .int 29), (6, .int 0), (5, .int 5), (10, .int 35), (2, .long yF), (9, .int 1), (4, .int 10), (0, .ref m0), (1, .int 64)]) hx hb d_Md_takeSigned_64 hl (by decide) rfl (fun ls hl => ?_)
                        refine lv_iload hx hb d_Md_takeSigned_66 (lv_at hl 1 rfl) ?_
                        refine lv_bipush (v := 7) hx hb d_Md_takeSigned_68 (by decide) ?_
                        refine lv_icmp_ge (tgt := 90) hx hb d_Md_takeSigned_70 (by decide) (fun c_70 => ?_) (fun c_70 => absurd (by decide) c_70)
                        refine lv_iconst (v := 1) hx hb d_Md_takeSigned_90 (by decide) ?_
                        refine lv_goto (tgt := 95) hx hb d_Md_takeSigned_91 (by decide) ?_
                        refine lv_istore (lv' := [(9, .int 1), (8, .int 0), (7, .int 29), (6, .int 0), (5, .int 5), (10, .int 35), (2, .long yF), (4, .int 10), (0, .ref m0), (1, .int 64)]) hx hb d_Md_takeSigned_95 hl (by decide) rfl (fun ls hl => ?_)
                        refine lv_aload_n hx hb d_Md_takeSigned_97 rfl (lv_at hl 8 rfl) ?_
                        refine va_get (D := D) (ci := 6) (v := .int (nI f27)) (C := R_Md) (T := F_Md) (N := 44) hx hb hts (fun w h => List.mem_cons_of_mem _ (i_Md w h)) hown hE.1 hP 0 rfl rfl 3 (by decide) (hts _ (List.mem_cons_of_mem _ iw3_57)) (fun _ h9 => h9) rfl d_Md_takeSigned_98 ?_
                        refine lv_if_ne (tgt := 134) hx hb d_Md_takeSigned_101 (by decide) (fun c_101 => ?_) (fun c_101 => absurd c_101 (hf27.n0))
                        refine lv_lload_n hx hb d_Md_takeSigned_134 rfl (lv_at hl 6 rfl) ?_
                        refine lv_iload hx hb d_Md_takeSigned_135 (lv_at hl 3 rfl) ?_
                        refine lv_bipush (v := 127) hx hb d_Md_takeSigned_137 (by decide) ?_
                        refine lv_iand hx hb d_Md_takeSigned_139 ?_
                        refine W.eq (g2 := F0 m 140 ls [.int 0, .long yF]) (by rw [show (0 : Int32) &&& 127 = 0 from by decide +kernel]) ?_
                        refine lv_i2l hx hb d_Md_takeSigned_140 rfl ?_
                        refine lv_bipush (v := 7) hx hb d_Md_takeSigned_141 (by decide) ?_
                        refine lv_iload hx hb d_Md_takeSigned_143 (lv_at hl 4 rfl) ?_
                        refine lv_imul hx hb d_Md_takeSigned_145 ?_
                        refine W.eq (g2 := F0 m 146 ls [.int 35, .long ((0 : Int32).toInt64), .long yF]) (by rw [show (7 : Int32) * 5 = 35 from by decide +kernel]) ?_
                        refine lv_lshl hx hb d_Md_takeSigned_146 rfl ?_
                        refine lv_lor hx hb d_Md_takeSigned_147 ?_
                        refine lv_topl (fun yF eyF => ?_)
                        refine lv_lstore_n (lv' := [(2, .long yF), (9, .int 1), (8, .int 0), (7, .int 29), (6, .int 0), (5, .int 5), (10, .int 35), (4, .int 10), (0, .ref m0), (1, .int 64)]) hx hb d_Md_takeSigned_148 rfl hl (by decide) rfl (fun ls hl => ?_)
                        refine lv_bipush (v := 7) hx hb d_Md_takeSigned_149 (by decide) ?_
                        refine lv_iload hx hb d_Md_takeSigned_151 (lv_at hl 5 rfl) ?_
                        refine lv_imul hx hb d_Md_takeSigned_153 ?_
                        refine W.eq (g2 := F0 m 154 ls [.int 35]) (by rw [show (7 : Int32) * 5 = 35 from by decide +kernel]) ?_
                        refine lv_bipush (v := 7) hx hb d_Md_takeSigned_154 (by decide) ?_
                        refine lv_iadd hx hb d_Md_takeSigned_156 ?_
                        refine W.eq (g2 := F0 m 157 ls [.int 42]) (by rw [show (35 : Int32) + 7 = 42 from by decide +kernel]) ?_
                        refine lv_istore (lv' := [(10, .int 42), (2, .long yF), (9, .int 1), (8, .int 0), (7, .int 29), (6, .int 0), (5, .int 5), (4, .int 10), (0, .ref m0), (1, .int 64)]) hx hb d_Md_takeSigned_157 hl (by decide) rfl (fun ls hl => ?_)
                        refine lv_iload hx hb d_Md_takeSigned_159 (lv_at hl 5 rfl) ?_
                        refine lv_sipush (v := 128) hx hb d_Md_takeSigned_161 (by decide) ?_
                        refine lv_icmp_ge (tgt := 192) hx hb d_Md_takeSigned_164 (by decide) (fun c_164 => absurd c_164 (by decide)) (fun c_164 => ?_)
                        refine lv_iload hx hb d_Md_takeSigned_167 (lv_at hl 0 rfl) ?_
                        refine lv_bipush (v := 64) hx hb d_Md_takeSigned_169 (by decide) ?_
                        refine lv_icmp_ge (tgt := 190) hx hb d_Md_takeSigned_171 (by decide) (fun c_171 => absurd c_171 (by decide)) (fun c_171 => ?_)
                        refine lv_lload_n hx hb d_Md_takeSigned_174 rfl (lv_at hl 1 rfl) ?_
                        refine lv_bipush (v := 64) hx hb d_Md_takeSigned_175 (by decide) ?_
                        refine lv_iload hx hb d_Md_takeSigned_177 (lv_at hl 0 rfl) ?_
                        refine lv_isub hx hb d_Md_takeSigned_179 ?_
                        refine W.eq (g2 := F0 m 180 ls [.int 22, .long yF]) (by rw [show (64 : Int32) - 42 = 22 from by decide +kernel]) ?_
                        refine lv_lshl hx hb d_Md_takeSigned_180 rfl ?_
                        refine lv_bipush (v := 64) hx hb d_Md_takeSigned_181 (by decide) ?_
                        refine lv_iload hx hb d_Md_takeSigned_183 (lv_at hl 0 rfl) ?_
                        refine lv_isub hx hb d_Md_takeSigned_185 ?_
                        refine W.eq (g2 := F0 m 186 ls [.int 22, .long (yF <<< ((22 : Int32).toInt64 &&& 63))]) (by rw [show (64 : Int32) - 42 = 22 from by decide +kernel]) ?_
                        refine lv_lshr hx hb d_Md_takeSigned_186 rfl ?_
                        refine lv_goto (tgt := 191) hx hb d_Md_takeSigned_187 (by decide) ?_
                        exact cRl ((nI zz27, nI f27, nI q27) : A3) hx hb hr hlocks d_Md_takeSigned_191 hS hP hD (Or.inl ⟨f27, q27, by rw [show pS64 b lm a = pSg b lm 10 64 a from rfl, hU5, pSg_T hr27], hf27, rfl, ⟨_, rfl⟩, zz27, by omega, rfl⟩) (Nat.le_refl _) (Nat.le_refl _)
                      · obtain ⟨hla27, hgt27, hv27, hbd27⟩ := (pNext_ok2 hr27 hb9)
                        have hP : va_P D cls [(m0, .inr (6, mF g K (nI a27, 0, p) e (nI np) B)), ((g 0), .inl (cA 3, 2000, .inl fd)), ((g 10), .inl (cA 3, 4, .inl pe))] H := hP
                        have hD : va_D A [(m0, .inr (6, mF g K (nI a27, 0, p) e (nI np) B)), ((g 0), .inl (cA 3, 2000, .inl fd)), ((g 10), .inl (cA 3, 4, .inl pe))] := hD
                        refine W.cs (cells' := 0) (slots' := 0) rfl rfl ?_
                        refine W.eq (g2 := F0 m 32 ls [.int (nI v27)]) rfl ?_
                        obtain ⟨hbd27, ean27⟩ := hbd27
                        subst ean27
                        have hP : va_P D cls [(m0, .inr (6, mF g K (nI ((((((a + 1) + 1) + 1) + 1) + 1) + 1), 0, p) e (nI np) B)), ((g 0), .inl (cA 3, 2000, .inl fd)), ((g 10), .inl (cA 3, 4, .inl pe))] H := hP
                        have hD : va_D A [(m0, .inr (6, mF g K (nI ((((((a + 1) + 1) + 1) + 1) + 1) + 1), 0, p) e (nI np) B)), ((g 0), .inl (cA 3, 2000, .inl fd)), ((g 10), .inl (cA 3, 4, .inl pe))] := hD
                        refine lv_istore (lv' := [(6, .int (nI v27)), (5, .int 5), (10, .int 35), (2, .long yF), (9, .int 1), (8, .int 0), (7, .int 36), (4, .int 10), (0, .ref m0), (1, .int 64)]) hx hb d_Md_takeSigned_32 hl (by decide) rfl (fun ls hl => ?_)
                        refine lv_iload_n hx hb d_Md_takeSigned_34 rfl (lv_at hl 9 rfl) ?_
                        refine lv_bipush (v := 7) hx hb d_Md_takeSigned_35 (by decide) ?_
                        refine lv_iload hx hb d_Md_takeSigned_37 (lv_at hl 1 rfl) ?_
                        refine lv_imul hx hb d_Md_takeSigned_39 ?_
                        refine W.eq (g2 := F0 m 40 ls [.int 35, .int 64]) (by rw [show (7 : Int32) * 5 = 35 from by decide +kernel]) ?_
                        refine lv_isub hx hb d_Md_takeSigned_40 ?_
                        refine W.eq (g2 := F0 m 41 ls [.int 29]) (by rw [show (64 : Int32) - 35 = 29 from by decide +kernel]) ?_
                        refine lv_istore (lv' := [(7, .int 29), (6, .int (nI v27)), (5, .int 5), (10, .int 35), (2, .long yF), (9, .int 1), (8, .int 0), (4, .int 10), (0, .ref m0), (1, .int 64)]) hx hb d_Md_takeSigned_41 hl (by decide) rfl (fun ls hl => ?_)
                        refine lv_iload hx hb d_Md_takeSigned_43 (lv_at hl 0 rfl) ?_
                        refine lv_bipush (v := 7) hx hb d_Md_takeSigned_45 (by decide) ?_
                        refine lv_icmp_ge (tgt := 63) hx hb d_Md_takeSigned_47 (by decide) (fun c_47 => ?_) (fun c_47 => absurd (by decide) c_47)
                        refine lv_iconst (v := 0) hx hb d_Md_takeSigned_63 (by decide) ?_
                        refine lv_istore (lv' := [(8, .int 0), (7, .int 29), (6, .int (nI v27)), (5, .int 5), (10, .int 35), (2, .long yF), (9, .int 1), (4, .int 10), (0, .ref m0), (1, .int 64)]) hx hb d_Md_takeSigned_64 hl (by decide) rfl (fun ls hl => ?_)
                        refine lv_iload hx hb d_Md_takeSigned_66 (lv_at hl 1 rfl) ?_
                        refine lv_bipush (v := 7) hx hb d_Md_takeSigned_68 (by decide) ?_
                        refine lv_icmp_ge (tgt := 90) hx hb d_Md_takeSigned_70 (by decide) (fun c_70 => ?_) (fun c_70 => absurd (by decide) c_70)
                        refine lv_iconst (v := 1) hx hb d_Md_takeSigned_90 (by decide) ?_
                        refine lv_goto (tgt := 95) hx hb d_Md_takeSigned_91 (by decide) ?_
                        refine lv_istore (lv' := [(9, .int 1), (8, .int 0), (7, .int 29), (6, .int (nI v27)), (5, .int 5), (10, .int 35), (2, .long yF), (4, .int 10), (0, .ref m0), (1, .int 64)]) hx hb d_Md_takeSigned_95 hl (by decide) rfl (fun ls hl => ?_)
                        refine lv_aload_n hx hb d_Md_takeSigned_97 rfl (lv_at hl 8 rfl) ?_
                        refine va_get (D := D) (ci := 6) (v := .int 0) (C := R_Md) (T := F_Md) (N := 44) hx hb hts (fun w h => List.mem_cons_of_mem _ (i_Md w h)) hown hE.1 hP 0 rfl rfl 3 (by decide) (hts _ (List.mem_cons_of_mem _ iw3_57)) (fun _ h9 => h9) rfl d_Md_takeSigned_98 ?_
                        refine lv_if_ne (tgt := 134) hx hb d_Md_takeSigned_101 (by decide) (fun c_101 => absurd (by decide) c_101) (fun c_101 => ?_)
                        refine lv_iload hx hb d_Md_takeSigned_104 (lv_at hl 2 rfl) ?_
                        refine lv_bipush (v := 8) hx hb d_Md_takeSigned_106 (by decide) ?_
                        refine lv_icmp_ge (tgt := 134) hx hb d_Md_takeSigned_108 (by decide) (fun c_108 => ?_) (fun c_108 => absurd (by decide) c_108)
                        have ho5 : ¬ (29 ≤ 7 ∧ sTop 29 v27 = false) := fun q => absurd q.1 (by decide)
                        refine lv_lload_n hx hb d_Md_takeSigned_134 rfl (lv_at hl 6 rfl) ?_
                        refine lv_iload hx hb d_Md_takeSigned_135 (lv_at hl 3 rfl) ?_
                        refine lv_bipush (v := 127) hx hb d_Md_takeSigned_137 (by decide) ?_
                        refine lv_iand hx hb d_Md_takeSigned_139 ?_
                        refine lv_i2l hx hb d_Md_takeSigned_140 rfl ?_
                        refine lv_bipush (v := 7) hx hb d_Md_takeSigned_141 (by decide) ?_
                        refine lv_iload hx hb d_Md_takeSigned_143 (lv_at hl 4 rfl) ?_
                        refine lv_imul hx hb d_Md_takeSigned_145 ?_
                        refine W.eq (g2 := F0 m 146 ls [.int 35, .long (((nI v27) &&& 127).toInt64), .long yF]) (by rw [show (7 : Int32) * 5 = 35 from by decide +kernel]) ?_
                        refine lv_lshl hx hb d_Md_takeSigned_146 rfl ?_
                        refine lv_lor hx hb d_Md_takeSigned_147 ?_
                        refine lv_topl (fun yF eyF => ?_)
                        refine lv_lstore_n (lv' := [(2, .long yF), (9, .int 1), (8, .int 0), (7, .int 29), (6, .int (nI v27)), (5, .int 5), (10, .int 35), (4, .int 10), (0, .ref m0), (1, .int 64)]) hx hb d_Md_takeSigned_148 rfl hl (by decide) rfl (fun ls hl => ?_)
                        refine lv_bipush (v := 7) hx hb d_Md_takeSigned_149 (by decide) ?_
                        refine lv_iload hx hb d_Md_takeSigned_151 (lv_at hl 5 rfl) ?_
                        refine lv_imul hx hb d_Md_takeSigned_153 ?_
                        refine W.eq (g2 := F0 m 154 ls [.int 35]) (by rw [show (7 : Int32) * 5 = 35 from by decide +kernel]) ?_
                        refine lv_bipush (v := 7) hx hb d_Md_takeSigned_154 (by decide) ?_
                        refine lv_iadd hx hb d_Md_takeSigned_156 ?_
                        refine W.eq (g2 := F0 m 157 ls [.int 42]) (by rw [show (35 : Int32) + 7 = 42 from by decide +kernel]) ?_
                        refine lv_istore (lv' := [(10, .int 42), (2, .long yF), (9, .int 1), (8, .int 0), (7, .int 29), (6, .int (nI v27)), (5, .int 5), (4, .int 10), (0, .ref m0), (1, .int 64)]) hx hb d_Md_takeSigned_157 hl (by decide) rfl (fun ls hl => ?_)
                        refine lv_iload hx hb d_Md_takeSigned_159 (lv_at hl 5 rfl) ?_
                        refine lv_sipush (v := 128) hx hb d_Md_takeSigned_161 (by decide) ?_
                        refine lv_icmp_ge (tgt := 192) hx hb d_Md_takeSigned_164 (by decide) (fun c_164 => ?_) (fun c_164 => ?_)
                        · have hd5 : ¬ v27 < 128 := fun q => absurd ((nI_leI (a := 128) (b := v27) (by omega) (by omega)).mp c_164) (by omega)
                          have hU6 : pSg b lm 10 64 a = pSg b lm 4 22 ((((((a + 1) + 1) + 1) + 1) + 1) + 1) := hU5.trans (pSg_C hr27 ho5 hd5)
                          refine lv_iinc (v := 6) (lv' := [(5, .int 6), (10, .int 42), (2, .long yF), (9, .int 1), (8, .int 0), (7, .int 29), (6, .int (nI v27)), (4, .int 10), (0, .ref m0), (1, .int 64)]) hx hb d_Md_takeSigned_192 hl (k := 6) rfl (by decide) (by decide) rfl (fun ls hl => ?_)
                          refine lv_goto (tgt := 14) hx hb d_Md_takeSigned_195 (by decide) ?_
                          refine lv_iload hx hb d_Md_takeSigned_14 (lv_at hl 0 rfl) ?_
                          refine lv_iload hx hb d_Md_takeSigned_16 (lv_at hl 7 rfl) ?_
                          refine lv_icmp_ge (tgt := 198) hx hb d_Md_takeSigned_18 (by decide) (fun c_18 => absurd c_18 (by decide)) (fun c_18 => ?_)
                          refine lv_aload_n hx hb d_Md_takeSigned_21 rfl (lv_at hl 8 rfl) ?_
                          refine va_get (D := D) (ci := 6) (v := .int 0) (C := R_Md) (T := F_Md) (N := 44) hx hb hts (fun w h => List.mem_cons_of_mem _ (i_Md w h)) hown hE.1 hP 0 rfl rfl 3 (by decide) (hts _ (List.mem_cons_of_mem _ iw3_57)) (fun _ h9 => h9) rfl d_Md_takeSigned_22 ?_
                          refine lv_if_ne (tgt := 198) hx hb d_Md_takeSigned_25 (by decide) (fun c_25 => absurd (by decide) c_25) (fun c_25 => ?_)
                          refine lv_aload_n hx hb d_Md_takeSigned_28 rfl (lv_at hl 8 rfl) ?_
                          refine cV (As := []) (rest := []) (n := 0) (wc := [(m0, .inr (6, mF g K (nI ((((((a + 1) + 1) + 1) + 1) + 1) + 1), 0, p) e (nI np) B)), ((g 0), .inl (cA 3, 2000, .inl fd)), ((g 10), .inl (cA 3, 4, .inl pe))]) (wr := []) ⟨hx, hb, hml, hown, hts⟩ hno hlocks hl.1 (c_Md_take l hl9 D cA ad H.size m0 g K e np B fd pe b N lm hnp hpe hlm hN hfd hb9 ((((((a + 1) + 1) + 1) + 1) + 1) + 1) p (by omega) ) iw3_212 iw3_214 sel_Md_take iw1_7 iw3_215 (by decide +kernel) rfl ⟨Nat.le_of_ble_eq_true rfl, Nat.le_of_ble_eq_true rfl⟩ ⟨Nat.le_of_ble_eq_true rfl, Nat.le_of_ble_eq_true rfl⟩ rfl (Nat.le_of_ble_eq_true rfl) d_Md_takeSigned_29 hE hP hD hS hA [0, 1, 2] [] rfl rfl rfl rfl (by decide) (ci := 6) rfl rfl 0 rfl (fun _ h => h.elim) (fun v_29 u_29 H locs hp_29 hP hD hS => ?_)
                          rcases hp_29 with ⟨f28, q28, hr28, hf28, hB28, rfl, zz28, hzz28, hzx28⟩ | ⟨v28, a28, hr28, rfl, rfl⟩
                          · obtain ⟨x28, y28, z28⟩ := u_29
                            cases hB28
                            have hzx28 : x28 = nI zz28 := hzx28
                            subst hzx28
                            have hP : va_P D cls [(m0, .inr (6, mF g K (nI zz28, nI f28, nI q28) e (nI np) B)), ((g 0), .inl (cA 3, 2000, .inl fd)), ((g 10), .inl (cA 3, 4, .inl pe))] H := hP
                            have hD : va_D A [(m0, .inr (6, mF g K (nI zz28, nI f28, nI q28) e (nI np) B)), ((g 0), .inl (cA 3, 2000, .inl fd)), ((g 10), .inl (cA 3, 4, .inl pe))] := hD
                            refine W.cs (cells' := 0) (slots' := 0) rfl rfl ?_
                            refine W.eq (g2 := F0 m 32 ls [.int 0]) rfl ?_
                            refine lv_istore (lv' := [(6, .int 0), (5, .int 6), (10, .int 42), (2, .long yF), (9, .int 1), (8, .int 0), (7, .int 29), (4, .int 10), (0, .ref m0), (1, .int 64)]) hx hb d_Md_takeSigned_32 hl (by decide) rfl (fun ls hl => ?_)
                            refine lv_iload_n hx hb d_Md_takeSigned_34 rfl (lv_at hl 9 rfl) ?_
                            refine lv_bipush (v := 7) hx hb d_Md_takeSigned_35 (by decide) ?_
                            refine lv_iload hx hb d_Md_takeSigned_37 (lv_at hl 1 rfl) ?_
                            refine lv_imul hx hb d_Md_takeSigned_39 ?_
                            refine W.eq (g2 := F0 m 40 ls [.int 42, .int 64]) (by rw [show (7 : Int32) * 6 = 42 from by decide +kernel]) ?_
                            refine lv_isub hx hb d_Md_takeSigned_40 ?_
                            refine W.eq (g2 := F0 m 41 ls [.int 22]) (by rw [show (64 : Int32) - 42 = 22 from by decide +kernel]) ?_
                            refine lv_istore (lv' := [(7, .int 22), (6, .int 0), (5, .int 6), (10, .int 42), (2, .long yF), (9, .int 1), (8, .int 0), (4, .int 10), (0, .ref m0), (1, .int 64)]) hx hb d_Md_takeSigned_41 hl (by decide) rfl (fun ls hl => ?_)
                            refine lv_iload hx hb d_Md_takeSigned_43 (lv_at hl 0 rfl) ?_
                            refine lv_bipush (v := 7) hx hb d_Md_takeSigned_45 (by decide) ?_
                            refine lv_icmp_ge (tgt := 63) hx hb d_Md_takeSigned_47 (by decide) (fun c_47 => ?_) (fun c_47 => absurd (by decide) c_47)
                            refine lv_iconst (v := 0) hx hb d_Md_takeSigned_63 (by decide) ?_
                            refine lv_istore (lv' := [(8, .int 0), (7, .int 22), (6, .int 0), (5, .int 6), (10, .int 42), (2, .long yF), (9, .int 1), (4, .int 10), (0, .ref m0), (1, .int 64)]) hx hb d_Md_takeSigned_64 hl (by decide) rfl (fun ls hl => ?_)
                            refine lv_iload hx hb d_Md_takeSigned_66 (lv_at hl 1 rfl) ?_
                            refine lv_bipush (v := 7) hx hb d_Md_takeSigned_68 (by decide) ?_
                            refine lv_icmp_ge (tgt := 90) hx hb d_Md_takeSigned_70 (by decide) (fun c_70 => ?_) (fun c_70 => absurd (by decide) c_70)
                            refine lv_iconst (v := 1) hx hb d_Md_takeSigned_90 (by decide) ?_
                            refine lv_goto (tgt := 95) hx hb d_Md_takeSigned_91 (by decide) ?_
                            refine lv_istore (lv' := [(9, .int 1), (8, .int 0), (7, .int 22), (6, .int 0), (5, .int 6), (10, .int 42), (2, .long yF), (4, .int 10), (0, .ref m0), (1, .int 64)]) hx hb d_Md_takeSigned_95 hl (by decide) rfl (fun ls hl => ?_)
                            refine lv_aload_n hx hb d_Md_takeSigned_97 rfl (lv_at hl 8 rfl) ?_
                            refine va_get (D := D) (ci := 6) (v := .int (nI f28)) (C := R_Md) (T := F_Md) (N := 44) hx hb hts (fun w h => List.mem_cons_of_mem _ (i_Md w h)) hown hE.1 hP 0 rfl rfl 3 (by decide) (hts _ (List.mem_cons_of_mem _ iw3_57)) (fun _ h9 => h9) rfl d_Md_takeSigned_98 ?_
                            refine lv_if_ne (tgt := 134) hx hb d_Md_takeSigned_101 (by decide) (fun c_101 => ?_) (fun c_101 => absurd c_101 (hf28.n0))
                            refine lv_lload_n hx hb d_Md_takeSigned_134 rfl (lv_at hl 6 rfl) ?_
                            refine lv_iload hx hb d_Md_takeSigned_135 (lv_at hl 3 rfl) ?_
                            refine lv_bipush (v := 127) hx hb d_Md_takeSigned_137 (by decide) ?_
                            refine lv_iand hx hb d_Md_takeSigned_139 ?_
                            refine W.eq (g2 := F0 m 140 ls [.int 0, .long yF]) (by rw [show (0 : Int32) &&& 127 = 0 from by decide +kernel]) ?_
                            refine lv_i2l hx hb d_Md_takeSigned_140 rfl ?_
                            refine lv_bipush (v := 7) hx hb d_Md_takeSigned_141 (by decide) ?_
                            refine lv_iload hx hb d_Md_takeSigned_143 (lv_at hl 4 rfl) ?_
                            refine lv_imul hx hb d_Md_takeSigned_145 ?_
                            refine W.eq (g2 := F0 m 146 ls [.int 42, .long ((0 : Int32).toInt64), .long yF]) (by rw [show (7 : Int32) * 6 = 42 from by decide +kernel]) ?_
                            refine lv_lshl hx hb d_Md_takeSigned_146 rfl ?_
                            refine lv_lor hx hb d_Md_takeSigned_147 ?_
                            refine lv_topl (fun yF eyF => ?_)
                            refine lv_lstore_n (lv' := [(2, .long yF), (9, .int 1), (8, .int 0), (7, .int 22), (6, .int 0), (5, .int 6), (10, .int 42), (4, .int 10), (0, .ref m0), (1, .int 64)]) hx hb d_Md_takeSigned_148 rfl hl (by decide) rfl (fun ls hl => ?_)
                            refine lv_bipush (v := 7) hx hb d_Md_takeSigned_149 (by decide) ?_
                            refine lv_iload hx hb d_Md_takeSigned_151 (lv_at hl 5 rfl) ?_
                            refine lv_imul hx hb d_Md_takeSigned_153 ?_
                            refine W.eq (g2 := F0 m 154 ls [.int 42]) (by rw [show (7 : Int32) * 6 = 42 from by decide +kernel]) ?_
                            refine lv_bipush (v := 7) hx hb d_Md_takeSigned_154 (by decide) ?_
                            refine lv_iadd hx hb d_Md_takeSigned_156 ?_
                            refine W.eq (g2 := F0 m 157 ls [.int 49]) (by rw [show (42 : Int32) + 7 = 49 from by decide +kernel]) ?_
                            refine lv_istore (lv' := [(10, .int 49), (2, .long yF), (9, .int 1), (8, .int 0), (7, .int 22), (6, .int 0), (5, .int 6), (4, .int 10), (0, .ref m0), (1, .int 64)]) hx hb d_Md_takeSigned_157 hl (by decide) rfl (fun ls hl => ?_)
                            refine lv_iload hx hb d_Md_takeSigned_159 (lv_at hl 5 rfl) ?_
                            refine lv_sipush (v := 128) hx hb d_Md_takeSigned_161 (by decide) ?_
                            refine lv_icmp_ge (tgt := 192) hx hb d_Md_takeSigned_164 (by decide) (fun c_164 => absurd c_164 (by decide)) (fun c_164 => ?_)
                            refine lv_iload hx hb d_Md_takeSigned_167 (lv_at hl 0 rfl) ?_
                            refine lv_bipush (v := 64) hx hb d_Md_takeSigned_169 (by decide) ?_
                            refine lv_icmp_ge (tgt := 190) hx hb d_Md_takeSigned_171 (by decide) (fun c_171 => absurd c_171 (by decide)) (fun c_171 => ?_)
                            refine lv_lload_n hx hb d_Md_takeSigned_174 rfl (lv_at hl 1 rfl) ?_
                            refine lv_bipush (v := 64) hx hb d_Md_takeSigned_175 (by decide) ?_
                            refine lv_iload hx hb d_Md_takeSigned_177 (lv_at hl 0 rfl) ?_
                            refine lv_isub hx hb d_Md_takeSigned_179 ?_
                            refine W.eq (g2 := F0 m 180 ls [.int 15, .long yF]) (by rw [show (64 : Int32) - 49 = 15 from by decide +kernel]) ?_
                            refine lv_lshl hx hb d_Md_takeSigned_180 rfl ?_
                            refine lv_bipush (v := 64) hx hb d_Md_takeSigned_181 (by decide) ?_
                            refine lv_iload hx hb d_Md_takeSigned_183 (lv_at hl 0 rfl) ?_
                            refine lv_isub hx hb d_Md_takeSigned_185 ?_
                            refine W.eq (g2 := F0 m 186 ls [.int 15, .long (yF <<< ((15 : Int32).toInt64 &&& 63))]) (by rw [show (64 : Int32) - 49 = 15 from by decide +kernel]) ?_
                            refine lv_lshr hx hb d_Md_takeSigned_186 rfl ?_
                            refine lv_goto (tgt := 191) hx hb d_Md_takeSigned_187 (by decide) ?_
                            exact cRl ((nI zz28, nI f28, nI q28) : A3) hx hb hr hlocks d_Md_takeSigned_191 hS hP hD (Or.inl ⟨f28, q28, by rw [show pS64 b lm a = pSg b lm 10 64 a from rfl, hU6, pSg_T hr28], hf28, rfl, ⟨_, rfl⟩, zz28, by omega, rfl⟩) (Nat.le_refl _) (Nat.le_refl _)
                          · obtain ⟨hla28, hgt28, hv28, hbd28⟩ := (pNext_ok2 hr28 hb9)
                            have hP : va_P D cls [(m0, .inr (6, mF g K (nI a28, 0, p) e (nI np) B)), ((g 0), .inl (cA 3, 2000, .inl fd)), ((g 10), .inl (cA 3, 4, .inl pe))] H := hP
                            have hD : va_D A [(m0, .inr (6, mF g K (nI a28, 0, p) e (nI np) B)), ((g 0), .inl (cA 3, 2000, .inl fd)), ((g 10), .inl (cA 3, 4, .inl pe))] := hD
                            refine W.cs (cells' := 0) (slots' := 0) rfl rfl ?_
                            refine W.eq (g2 := F0 m 32 ls [.int (nI v28)]) rfl ?_
                            obtain ⟨hbd28, ean28⟩ := hbd28
                            subst ean28
                            have hP : va_P D cls [(m0, .inr (6, mF g K (nI (((((((a + 1) + 1) + 1) + 1) + 1) + 1) + 1), 0, p) e (nI np) B)), ((g 0), .inl (cA 3, 2000, .inl fd)), ((g 10), .inl (cA 3, 4, .inl pe))] H := hP
                            have hD : va_D A [(m0, .inr (6, mF g K (nI (((((((a + 1) + 1) + 1) + 1) + 1) + 1) + 1), 0, p) e (nI np) B)), ((g 0), .inl (cA 3, 2000, .inl fd)), ((g 10), .inl (cA 3, 4, .inl pe))] := hD
                            refine lv_istore (lv' := [(6, .int (nI v28)), (5, .int 6), (10, .int 42), (2, .long yF), (9, .int 1), (8, .int 0), (7, .int 29), (4, .int 10), (0, .ref m0), (1, .int 64)]) hx hb d_Md_takeSigned_32 hl (by decide) rfl (fun ls hl => ?_)
                            refine lv_iload_n hx hb d_Md_takeSigned_34 rfl (lv_at hl 9 rfl) ?_
                            refine lv_bipush (v := 7) hx hb d_Md_takeSigned_35 (by decide) ?_
                            refine lv_iload hx hb d_Md_takeSigned_37 (lv_at hl 1 rfl) ?_
                            refine lv_imul hx hb d_Md_takeSigned_39 ?_
                            refine W.eq (g2 := F0 m 40 ls [.int 42, .int 64]) (by rw [show (7 : Int32) * 6 = 42 from by decide +kernel]) ?_
                            refine lv_isub hx hb d_Md_takeSigned_40 ?_
                            refine W.eq (g2 := F0 m 41 ls [.int 22]) (by rw [show (64 : Int32) - 42 = 22 from by decide +kernel]) ?_
                            refine lv_istore (lv' := [(7, .int 22), (6, .int (nI v28)), (5, .int 6), (10, .int 42), (2, .long yF), (9, .int 1), (8, .int 0), (4, .int 10), (0, .ref m0), (1, .int 64)]) hx hb d_Md_takeSigned_41 hl (by decide) rfl (fun ls hl => ?_)
                            refine lv_iload hx hb d_Md_takeSigned_43 (lv_at hl 0 rfl) ?_
                            refine lv_bipush (v := 7) hx hb d_Md_takeSigned_45 (by decide) ?_
                            refine lv_icmp_ge (tgt := 63) hx hb d_Md_takeSigned_47 (by decide) (fun c_47 => ?_) (fun c_47 => absurd (by decide) c_47)
                            refine lv_iconst (v := 0) hx hb d_Md_takeSigned_63 (by decide) ?_
                            refine lv_istore (lv' := [(8, .int 0), (7, .int 22), (6, .int (nI v28)), (5, .int 6), (10, .int 42), (2, .long yF), (9, .int 1), (4, .int 10), (0, .ref m0), (1, .int 64)]) hx hb d_Md_takeSigned_64 hl (by decide) rfl (fun ls hl => ?_)
                            refine lv_iload hx hb d_Md_takeSigned_66 (lv_at hl 1 rfl) ?_
                            refine lv_bipush (v := 7) hx hb d_Md_takeSigned_68 (by decide) ?_
                            refine lv_icmp_ge (tgt := 90) hx hb d_Md_takeSigned_70 (by decide) (fun c_70 => ?_) (fun c_70 => absurd (by decide) c_70)
                            refine lv_iconst (v := 1) hx hb d_Md_takeSigned_90 (by decide) ?_
                            refine lv_goto (tgt := 95) hx hb d_Md_takeSigned_91 (by decide) ?_
                            refine lv_istore (lv' := [(9, .int 1), (8, .int 0), (7, .int 22), (6, .int (nI v28)), (5, .int 6), (10, .int 42), (2, .long yF), (4, .int 10), (0, .ref m0), (1, .int 64)]) hx hb d_Md_takeSigned_95 hl (by decide) rfl (fun ls hl => ?_)
                            refine lv_aload_n hx hb d_Md_takeSigned_97 rfl (lv_at hl 8 rfl) ?_
                            refine va_get (D := D) (ci := 6) (v := .int 0) (C := R_Md) (T := F_Md) (N := 44) hx hb hts (fun w h => List.mem_cons_of_mem _ (i_Md w h)) hown hE.1 hP 0 rfl rfl 3 (by decide) (hts _ (List.mem_cons_of_mem _ iw3_57)) (fun _ h9 => h9) rfl d_Md_takeSigned_98 ?_
                            refine lv_if_ne (tgt := 134) hx hb d_Md_takeSigned_101 (by decide) (fun c_101 => absurd (by decide) c_101) (fun c_101 => ?_)
                            refine lv_iload hx hb d_Md_takeSigned_104 (lv_at hl 2 rfl) ?_
                            refine lv_bipush (v := 8) hx hb d_Md_takeSigned_106 (by decide) ?_
                            refine lv_icmp_ge (tgt := 134) hx hb d_Md_takeSigned_108 (by decide) (fun c_108 => ?_) (fun c_108 => absurd (by decide) c_108)
                            have ho6 : ¬ (22 ≤ 7 ∧ sTop 22 v28 = false) := fun q => absurd q.1 (by decide)
                            refine lv_lload_n hx hb d_Md_takeSigned_134 rfl (lv_at hl 6 rfl) ?_
                            refine lv_iload hx hb d_Md_takeSigned_135 (lv_at hl 3 rfl) ?_
                            refine lv_bipush (v := 127) hx hb d_Md_takeSigned_137 (by decide) ?_
                            refine lv_iand hx hb d_Md_takeSigned_139 ?_
                            refine lv_i2l hx hb d_Md_takeSigned_140 rfl ?_
                            refine lv_bipush (v := 7) hx hb d_Md_takeSigned_141 (by decide) ?_
                            refine lv_iload hx hb d_Md_takeSigned_143 (lv_at hl 4 rfl) ?_
                            refine lv_imul hx hb d_Md_takeSigned_145 ?_
                            refine W.eq (g2 := F0 m 146 ls [.int 42, .long (((nI v28) &&& 127).toInt64), .long yF]) (by rw [show (7 : Int32) * 6 = 42 from by decide +kernel]) ?_
                            refine lv_lshl hx hb d_Md_takeSigned_146 rfl ?_
                            refine lv_lor hx hb d_Md_takeSigned_147 ?_
                            refine lv_topl (fun yF eyF => ?_)
                            refine lv_lstore_n (lv' := [(2, .long yF), (9, .int 1), (8, .int 0), (7, .int 22), (6, .int (nI v28)), (5, .int 6), (10, .int 42), (4, .int 10), (0, .ref m0), (1, .int 64)]) hx hb d_Md_takeSigned_148 rfl hl (by decide) rfl (fun ls hl => ?_)
                            refine lv_bipush (v := 7) hx hb d_Md_takeSigned_149 (by decide) ?_
                            refine lv_iload hx hb d_Md_takeSigned_151 (lv_at hl 5 rfl) ?_
                            refine lv_imul hx hb d_Md_takeSigned_153 ?_
                            refine W.eq (g2 := F0 m 154 ls [.int 42]) (by rw [show (7 : Int32) * 6 = 42 from by decide +kernel]) ?_
                            refine lv_bipush (v := 7) hx hb d_Md_takeSigned_154 (by decide) ?_
                            refine lv_iadd hx hb d_Md_takeSigned_156 ?_
                            refine W.eq (g2 := F0 m 157 ls [.int 49]) (by rw [show (42 : Int32) + 7 = 49 from by decide +kernel]) ?_
                            refine lv_istore (lv' := [(10, .int 49), (2, .long yF), (9, .int 1), (8, .int 0), (7, .int 22), (6, .int (nI v28)), (5, .int 6), (4, .int 10), (0, .ref m0), (1, .int 64)]) hx hb d_Md_takeSigned_157 hl (by decide) rfl (fun ls hl => ?_)
                            refine lv_iload hx hb d_Md_takeSigned_159 (lv_at hl 5 rfl) ?_
                            refine lv_sipush (v := 128) hx hb d_Md_takeSigned_161 (by decide) ?_
                            refine lv_icmp_ge (tgt := 192) hx hb d_Md_takeSigned_164 (by decide) (fun c_164 => ?_) (fun c_164 => ?_)
                            · have hd6 : ¬ v28 < 128 := fun q => absurd ((nI_leI (a := 128) (b := v28) (by omega) (by omega)).mp c_164) (by omega)
                              have hU7 : pSg b lm 10 64 a = pSg b lm 3 15 (((((((a + 1) + 1) + 1) + 1) + 1) + 1) + 1) := hU6.trans (pSg_C hr28 ho6 hd6)
                              refine lv_iinc (v := 7) (lv' := [(5, .int 7), (10, .int 49), (2, .long yF), (9, .int 1), (8, .int 0), (7, .int 22), (6, .int (nI v28)), (4, .int 10), (0, .ref m0), (1, .int 64)]) hx hb d_Md_takeSigned_192 hl (k := 6) rfl (by decide) (by decide) rfl (fun ls hl => ?_)
                              refine lv_goto (tgt := 14) hx hb d_Md_takeSigned_195 (by decide) ?_
                              refine lv_iload hx hb d_Md_takeSigned_14 (lv_at hl 0 rfl) ?_
                              refine lv_iload hx hb d_Md_takeSigned_16 (lv_at hl 7 rfl) ?_
                              refine lv_icmp_ge (tgt := 198) hx hb d_Md_takeSigned_18 (by decide) (fun c_18 => absurd c_18 (by decide)) (fun c_18 => ?_)
                              refine lv_aload_n hx hb d_Md_takeSigned_21 rfl (lv_at hl 8 rfl) ?_
                              refine va_get (D := D) (ci := 6) (v := .int 0) (C := R_Md) (T := F_Md) (N := 44) hx hb hts (fun w h => List.mem_cons_of_mem _ (i_Md w h)) hown hE.1 hP 0 rfl rfl 3 (by decide) (hts _ (List.mem_cons_of_mem _ iw3_57)) (fun _ h9 => h9) rfl d_Md_takeSigned_22 ?_
                              refine lv_if_ne (tgt := 198) hx hb d_Md_takeSigned_25 (by decide) (fun c_25 => absurd (by decide) c_25) (fun c_25 => ?_)
                              refine lv_aload_n hx hb d_Md_takeSigned_28 rfl (lv_at hl 8 rfl) ?_
                              refine cV (As := []) (rest := []) (n := 0) (wc := [(m0, .inr (6, mF g K (nI (((((((a + 1) + 1) + 1) + 1) + 1) + 1) + 1), 0, p) e (nI np) B)), ((g 0), .inl (cA 3, 2000, .inl fd)), ((g 10), .inl (cA 3, 4, .inl pe))]) (wr := []) ⟨hx, hb, hml, hown, hts⟩ hno hlocks hl.1 (c_Md_take l hl9 D cA ad H.size m0 g K e np B fd pe b N lm hnp hpe hlm hN hfd hb9 (((((((a + 1) + 1) + 1) + 1) + 1) + 1) + 1) p (by omega) ) iw3_212 iw3_214 sel_Md_take iw1_7 iw3_215 (by decide +kernel) rfl ⟨Nat.le_of_ble_eq_true rfl, Nat.le_of_ble_eq_true rfl⟩ ⟨Nat.le_of_ble_eq_true rfl, Nat.le_of_ble_eq_true rfl⟩ rfl (Nat.le_of_ble_eq_true rfl) d_Md_takeSigned_29 hE hP hD hS hA [0, 1, 2] [] rfl rfl rfl rfl (by decide) (ci := 6) rfl rfl 0 rfl (fun _ h => h.elim) (fun v_29 u_29 H locs hp_29 hP hD hS => ?_)
                              rcases hp_29 with ⟨f29, q29, hr29, hf29, hB29, rfl, zz29, hzz29, hzx29⟩ | ⟨v29, a29, hr29, rfl, rfl⟩
                              · obtain ⟨x29, y29, z29⟩ := u_29
                                cases hB29
                                have hzx29 : x29 = nI zz29 := hzx29
                                subst hzx29
                                have hP : va_P D cls [(m0, .inr (6, mF g K (nI zz29, nI f29, nI q29) e (nI np) B)), ((g 0), .inl (cA 3, 2000, .inl fd)), ((g 10), .inl (cA 3, 4, .inl pe))] H := hP
                                have hD : va_D A [(m0, .inr (6, mF g K (nI zz29, nI f29, nI q29) e (nI np) B)), ((g 0), .inl (cA 3, 2000, .inl fd)), ((g 10), .inl (cA 3, 4, .inl pe))] := hD
                                refine W.cs (cells' := 0) (slots' := 0) rfl rfl ?_
                                refine W.eq (g2 := F0 m 32 ls [.int 0]) rfl ?_
                                refine lv_istore (lv' := [(6, .int 0), (5, .int 7), (10, .int 49), (2, .long yF), (9, .int 1), (8, .int 0), (7, .int 22), (4, .int 10), (0, .ref m0), (1, .int 64)]) hx hb d_Md_takeSigned_32 hl (by decide) rfl (fun ls hl => ?_)
                                refine lv_iload_n hx hb d_Md_takeSigned_34 rfl (lv_at hl 9 rfl) ?_
                                refine lv_bipush (v := 7) hx hb d_Md_takeSigned_35 (by decide) ?_
                                refine lv_iload hx hb d_Md_takeSigned_37 (lv_at hl 1 rfl) ?_
                                refine lv_imul hx hb d_Md_takeSigned_39 ?_
                                refine W.eq (g2 := F0 m 40 ls [.int 49, .int 64]) (by rw [show (7 : Int32) * 7 = 49 from by decide +kernel]) ?_
                                refine lv_isub hx hb d_Md_takeSigned_40 ?_
                                refine W.eq (g2 := F0 m 41 ls [.int 15]) (by rw [show (64 : Int32) - 49 = 15 from by decide +kernel]) ?_
                                refine lv_istore (lv' := [(7, .int 15), (6, .int 0), (5, .int 7), (10, .int 49), (2, .long yF), (9, .int 1), (8, .int 0), (4, .int 10), (0, .ref m0), (1, .int 64)]) hx hb d_Md_takeSigned_41 hl (by decide) rfl (fun ls hl => ?_)
                                refine lv_iload hx hb d_Md_takeSigned_43 (lv_at hl 0 rfl) ?_
                                refine lv_bipush (v := 7) hx hb d_Md_takeSigned_45 (by decide) ?_
                                refine lv_icmp_ge (tgt := 63) hx hb d_Md_takeSigned_47 (by decide) (fun c_47 => ?_) (fun c_47 => absurd (by decide) c_47)
                                refine lv_iconst (v := 0) hx hb d_Md_takeSigned_63 (by decide) ?_
                                refine lv_istore (lv' := [(8, .int 0), (7, .int 15), (6, .int 0), (5, .int 7), (10, .int 49), (2, .long yF), (9, .int 1), (4, .int 10), (0, .ref m0), (1, .int 64)]) hx hb d_Md_takeSigned_64 hl (by decide) rfl (fun ls hl => ?_)
                                refine lv_iload hx hb d_Md_takeSigned_66 (lv_at hl 1 rfl) ?_
                                refine lv_bipush (v := 7) hx hb d_Md_takeSigned_68 (by decide) ?_
                                refine lv_icmp_ge (tgt := 90) hx hb d_Md_takeSigned_70 (by decide) (fun c_70 => ?_) (fun c_70 => absurd (by decide) c_70)
                                refine lv_iconst (v := 1) hx hb d_Md_takeSigned_90 (by decide) ?_
                                refine lv_goto (tgt := 95) hx hb d_Md_takeSigned_91 (by decide) ?_
                                refine lv_istore (lv' := [(9, .int 1), (8, .int 0), (7, .int 15), (6, .int 0), (5, .int 7), (10, .int 49), (2, .long yF), (4, .int 10), (0, .ref m0), (1, .int 64)]) hx hb d_Md_takeSigned_95 hl (by decide) rfl (fun ls hl => ?_)
                                refine lv_aload_n hx hb d_Md_takeSigned_97 rfl (lv_at hl 8 rfl) ?_
                                refine va_get (D := D) (ci := 6) (v := .int (nI f29)) (C := R_Md) (T := F_Md) (N := 44) hx hb hts (fun w h => List.mem_cons_of_mem _ (i_Md w h)) hown hE.1 hP 0 rfl rfl 3 (by decide) (hts _ (List.mem_cons_of_mem _ iw3_57)) (fun _ h9 => h9) rfl d_Md_takeSigned_98 ?_
                                refine lv_if_ne (tgt := 134) hx hb d_Md_takeSigned_101 (by decide) (fun c_101 => ?_) (fun c_101 => absurd c_101 (hf29.n0))
                                refine lv_lload_n hx hb d_Md_takeSigned_134 rfl (lv_at hl 6 rfl) ?_
                                refine lv_iload hx hb d_Md_takeSigned_135 (lv_at hl 3 rfl) ?_
                                refine lv_bipush (v := 127) hx hb d_Md_takeSigned_137 (by decide) ?_
                                refine lv_iand hx hb d_Md_takeSigned_139 ?_
                                refine W.eq (g2 := F0 m 140 ls [.int 0, .long yF]) (by rw [show (0 : Int32) &&& 127 = 0 from by decide +kernel]) ?_
                                refine lv_i2l hx hb d_Md_takeSigned_140 rfl ?_
                                refine lv_bipush (v := 7) hx hb d_Md_takeSigned_141 (by decide) ?_
                                refine lv_iload hx hb d_Md_takeSigned_143 (lv_at hl 4 rfl) ?_
                                refine lv_imul hx hb d_Md_takeSigned_145 ?_
                                refine W.eq (g2 := F0 m 146 ls [.int 49, .long ((0 : Int32).toInt64), .long yF]) (by rw [show (7 : Int32) * 7 = 49 from by decide +kernel]) ?_
                                refine lv_lshl hx hb d_Md_takeSigned_146 rfl ?_
                                refine lv_lor hx hb d_Md_takeSigned_147 ?_
                                refine lv_topl (fun yF eyF => ?_)
                                refine lv_lstore_n (lv' := [(2, .long yF), (9, .int 1), (8, .int 0), (7, .int 15), (6, .int 0), (5, .int 7), (10, .int 49), (4, .int 10), (0, .ref m0), (1, .int 64)]) hx hb d_Md_takeSigned_148 rfl hl (by decide) rfl (fun ls hl => ?_)
                                refine lv_bipush (v := 7) hx hb d_Md_takeSigned_149 (by decide) ?_
                                refine lv_iload hx hb d_Md_takeSigned_151 (lv_at hl 5 rfl) ?_
                                refine lv_imul hx hb d_Md_takeSigned_153 ?_
                                refine W.eq (g2 := F0 m 154 ls [.int 49]) (by rw [show (7 : Int32) * 7 = 49 from by decide +kernel]) ?_
                                refine lv_bipush (v := 7) hx hb d_Md_takeSigned_154 (by decide) ?_
                                refine lv_iadd hx hb d_Md_takeSigned_156 ?_
                                refine W.eq (g2 := F0 m 157 ls [.int 56]) (by rw [show (49 : Int32) + 7 = 56 from by decide +kernel]) ?_
                                refine lv_istore (lv' := [(10, .int 56), (2, .long yF), (9, .int 1), (8, .int 0), (7, .int 15), (6, .int 0), (5, .int 7), (4, .int 10), (0, .ref m0), (1, .int 64)]) hx hb d_Md_takeSigned_157 hl (by decide) rfl (fun ls hl => ?_)
                                refine lv_iload hx hb d_Md_takeSigned_159 (lv_at hl 5 rfl) ?_
                                refine lv_sipush (v := 128) hx hb d_Md_takeSigned_161 (by decide) ?_
                                refine lv_icmp_ge (tgt := 192) hx hb d_Md_takeSigned_164 (by decide) (fun c_164 => absurd c_164 (by decide)) (fun c_164 => ?_)
                                refine lv_iload hx hb d_Md_takeSigned_167 (lv_at hl 0 rfl) ?_
                                refine lv_bipush (v := 64) hx hb d_Md_takeSigned_169 (by decide) ?_
                                refine lv_icmp_ge (tgt := 190) hx hb d_Md_takeSigned_171 (by decide) (fun c_171 => absurd c_171 (by decide)) (fun c_171 => ?_)
                                refine lv_lload_n hx hb d_Md_takeSigned_174 rfl (lv_at hl 1 rfl) ?_
                                refine lv_bipush (v := 64) hx hb d_Md_takeSigned_175 (by decide) ?_
                                refine lv_iload hx hb d_Md_takeSigned_177 (lv_at hl 0 rfl) ?_
                                refine lv_isub hx hb d_Md_takeSigned_179 ?_
                                refine W.eq (g2 := F0 m 180 ls [.int 8, .long yF]) (by rw [show (64 : Int32) - 56 = 8 from by decide +kernel]) ?_
                                refine lv_lshl hx hb d_Md_takeSigned_180 rfl ?_
                                refine lv_bipush (v := 64) hx hb d_Md_takeSigned_181 (by decide) ?_
                                refine lv_iload hx hb d_Md_takeSigned_183 (lv_at hl 0 rfl) ?_
                                refine lv_isub hx hb d_Md_takeSigned_185 ?_
                                refine W.eq (g2 := F0 m 186 ls [.int 8, .long (yF <<< ((8 : Int32).toInt64 &&& 63))]) (by rw [show (64 : Int32) - 56 = 8 from by decide +kernel]) ?_
                                refine lv_lshr hx hb d_Md_takeSigned_186 rfl ?_
                                refine lv_goto (tgt := 191) hx hb d_Md_takeSigned_187 (by decide) ?_
                                exact cRl ((nI zz29, nI f29, nI q29) : A3) hx hb hr hlocks d_Md_takeSigned_191 hS hP hD (Or.inl ⟨f29, q29, by rw [show pS64 b lm a = pSg b lm 10 64 a from rfl, hU7, pSg_T hr29], hf29, rfl, ⟨_, rfl⟩, zz29, by omega, rfl⟩) (Nat.le_refl _) (Nat.le_refl _)
                              · obtain ⟨hla29, hgt29, hv29, hbd29⟩ := (pNext_ok2 hr29 hb9)
                                have hP : va_P D cls [(m0, .inr (6, mF g K (nI a29, 0, p) e (nI np) B)), ((g 0), .inl (cA 3, 2000, .inl fd)), ((g 10), .inl (cA 3, 4, .inl pe))] H := hP
                                have hD : va_D A [(m0, .inr (6, mF g K (nI a29, 0, p) e (nI np) B)), ((g 0), .inl (cA 3, 2000, .inl fd)), ((g 10), .inl (cA 3, 4, .inl pe))] := hD
                                refine W.cs (cells' := 0) (slots' := 0) rfl rfl ?_
                                refine W.eq (g2 := F0 m 32 ls [.int (nI v29)]) rfl ?_
                                obtain ⟨hbd29, ean29⟩ := hbd29
                                subst ean29
                                have hP : va_P D cls [(m0, .inr (6, mF g K (nI ((((((((a + 1) + 1) + 1) + 1) + 1) + 1) + 1) + 1), 0, p) e (nI np) B)), ((g 0), .inl (cA 3, 2000, .inl fd)), ((g 10), .inl (cA 3, 4, .inl pe))] H := hP
                                have hD : va_D A [(m0, .inr (6, mF g K (nI ((((((((a + 1) + 1) + 1) + 1) + 1) + 1) + 1) + 1), 0, p) e (nI np) B)), ((g 0), .inl (cA 3, 2000, .inl fd)), ((g 10), .inl (cA 3, 4, .inl pe))] := hD
                                refine lv_istore (lv' := [(6, .int (nI v29)), (5, .int 7), (10, .int 49), (2, .long yF), (9, .int 1), (8, .int 0), (7, .int 22), (4, .int 10), (0, .ref m0), (1, .int 64)]) hx hb d_Md_takeSigned_32 hl (by decide) rfl (fun ls hl => ?_)
                                refine lv_iload_n hx hb d_Md_takeSigned_34 rfl (lv_at hl 9 rfl) ?_
                                refine lv_bipush (v := 7) hx hb d_Md_takeSigned_35 (by decide) ?_
                                refine lv_iload hx hb d_Md_takeSigned_37 (lv_at hl 1 rfl) ?_
                                refine lv_imul hx hb d_Md_takeSigned_39 ?_
                                refine W.eq (g2 := F0 m 40 ls [.int 49, .int 64]) (by rw [show (7 : Int32) * 7 = 49 from by decide +kernel]) ?_
                                refine lv_isub hx hb d_Md_takeSigned_40 ?_
                                refine W.eq (g2 := F0 m 41 ls [.int 15]) (by rw [show (64 : Int32) - 49 = 15 from by decide +kernel]) ?_
                                refine lv_istore (lv' := [(7, .int 15), (6, .int (nI v29)), (5, .int 7), (10, .int 49), (2, .long yF), (9, .int 1), (8, .int 0), (4, .int 10), (0, .ref m0), (1, .int 64)]) hx hb d_Md_takeSigned_41 hl (by decide) rfl (fun ls hl => ?_)
                                refine lv_iload hx hb d_Md_takeSigned_43 (lv_at hl 0 rfl) ?_
                                refine lv_bipush (v := 7) hx hb d_Md_takeSigned_45 (by decide) ?_
                                refine lv_icmp_ge (tgt := 63) hx hb d_Md_takeSigned_47 (by decide) (fun c_47 => ?_) (fun c_47 => absurd (by decide) c_47)
                                refine lv_iconst (v := 0) hx hb d_Md_takeSigned_63 (by decide) ?_
                                refine lv_istore (lv' := [(8, .int 0), (7, .int 15), (6, .int (nI v29)), (5, .int 7), (10, .int 49), (2, .long yF), (9, .int 1), (4, .int 10), (0, .ref m0), (1, .int 64)]) hx hb d_Md_takeSigned_64 hl (by decide) rfl (fun ls hl => ?_)
                                refine lv_iload hx hb d_Md_takeSigned_66 (lv_at hl 1 rfl) ?_
                                refine lv_bipush (v := 7) hx hb d_Md_takeSigned_68 (by decide) ?_
                                refine lv_icmp_ge (tgt := 90) hx hb d_Md_takeSigned_70 (by decide) (fun c_70 => ?_) (fun c_70 => absurd (by decide) c_70)
                                refine lv_iconst (v := 1) hx hb d_Md_takeSigned_90 (by decide) ?_
                                refine lv_goto (tgt := 95) hx hb d_Md_takeSigned_91 (by decide) ?_
                                refine lv_istore (lv' := [(9, .int 1), (8, .int 0), (7, .int 15), (6, .int (nI v29)), (5, .int 7), (10, .int 49), (2, .long yF), (4, .int 10), (0, .ref m0), (1, .int 64)]) hx hb d_Md_takeSigned_95 hl (by decide) rfl (fun ls hl => ?_)
                                refine lv_aload_n hx hb d_Md_takeSigned_97 rfl (lv_at hl 8 rfl) ?_
                                refine va_get (D := D) (ci := 6) (v := .int 0) (C := R_Md) (T := F_Md) (N := 44) hx hb hts (fun w h => List.mem_cons_of_mem _ (i_Md w h)) hown hE.1 hP 0 rfl rfl 3 (by decide) (hts _ (List.mem_cons_of_mem _ iw3_57)) (fun _ h9 => h9) rfl d_Md_takeSigned_98 ?_
                                refine lv_if_ne (tgt := 134) hx hb d_Md_takeSigned_101 (by decide) (fun c_101 => absurd (by decide) c_101) (fun c_101 => ?_)
                                refine lv_iload hx hb d_Md_takeSigned_104 (lv_at hl 2 rfl) ?_
                                refine lv_bipush (v := 8) hx hb d_Md_takeSigned_106 (by decide) ?_
                                refine lv_icmp_ge (tgt := 134) hx hb d_Md_takeSigned_108 (by decide) (fun c_108 => ?_) (fun c_108 => absurd (by decide) c_108)
                                have ho7 : ¬ (15 ≤ 7 ∧ sTop 15 v29 = false) := fun q => absurd q.1 (by decide)
                                refine lv_lload_n hx hb d_Md_takeSigned_134 rfl (lv_at hl 6 rfl) ?_
                                refine lv_iload hx hb d_Md_takeSigned_135 (lv_at hl 3 rfl) ?_
                                refine lv_bipush (v := 127) hx hb d_Md_takeSigned_137 (by decide) ?_
                                refine lv_iand hx hb d_Md_takeSigned_139 ?_
                                refine lv_i2l hx hb d_Md_takeSigned_140 rfl ?_
                                refine lv_bipush (v := 7) hx hb d_Md_takeSigned_141 (by decide) ?_
                                refine lv_iload hx hb d_Md_takeSigned_143 (lv_at hl 4 rfl) ?_
                                refine lv_imul hx hb d_Md_takeSigned_145 ?_
                                refine W.eq (g2 := F0 m 146 ls [.int 49, .long (((nI v29) &&& 127).toInt64), .long yF]) (by rw [show (7 : Int32) * 7 = 49 from by decide +kernel]) ?_
                                refine lv_lshl hx hb d_Md_takeSigned_146 rfl ?_
                                refine lv_lor hx hb d_Md_takeSigned_147 ?_
                                refine lv_topl (fun yF eyF => ?_)
                                refine lv_lstore_n (lv' := [(2, .long yF), (9, .int 1), (8, .int 0), (7, .int 15), (6, .int (nI v29)), (5, .int 7), (10, .int 49), (4, .int 10), (0, .ref m0), (1, .int 64)]) hx hb d_Md_takeSigned_148 rfl hl (by decide) rfl (fun ls hl => ?_)
                                refine lv_bipush (v := 7) hx hb d_Md_takeSigned_149 (by decide) ?_
                                refine lv_iload hx hb d_Md_takeSigned_151 (lv_at hl 5 rfl) ?_
                                refine lv_imul hx hb d_Md_takeSigned_153 ?_
                                refine W.eq (g2 := F0 m 154 ls [.int 49]) (by rw [show (7 : Int32) * 7 = 49 from by decide +kernel]) ?_
                                refine lv_bipush (v := 7) hx hb d_Md_takeSigned_154 (by decide) ?_
                                refine lv_iadd hx hb d_Md_takeSigned_156 ?_
                                refine W.eq (g2 := F0 m 157 ls [.int 56]) (by rw [show (49 : Int32) + 7 = 56 from by decide +kernel]) ?_
                                refine lv_istore (lv' := [(10, .int 56), (2, .long yF), (9, .int 1), (8, .int 0), (7, .int 15), (6, .int (nI v29)), (5, .int 7), (4, .int 10), (0, .ref m0), (1, .int 64)]) hx hb d_Md_takeSigned_157 hl (by decide) rfl (fun ls hl => ?_)
                                refine lv_iload hx hb d_Md_takeSigned_159 (lv_at hl 5 rfl) ?_
                                refine lv_sipush (v := 128) hx hb d_Md_takeSigned_161 (by decide) ?_
                                refine lv_icmp_ge (tgt := 192) hx hb d_Md_takeSigned_164 (by decide) (fun c_164 => ?_) (fun c_164 => ?_)
                                · have hd7 : ¬ v29 < 128 := fun q => absurd ((nI_leI (a := 128) (b := v29) (by omega) (by omega)).mp c_164) (by omega)
                                  have hU8 : pSg b lm 10 64 a = pSg b lm 2 8 ((((((((a + 1) + 1) + 1) + 1) + 1) + 1) + 1) + 1) := hU7.trans (pSg_C hr29 ho7 hd7)
                                  refine lv_iinc (v := 8) (lv' := [(5, .int 8), (10, .int 56), (2, .long yF), (9, .int 1), (8, .int 0), (7, .int 15), (6, .int (nI v29)), (4, .int 10), (0, .ref m0), (1, .int 64)]) hx hb d_Md_takeSigned_192 hl (k := 6) rfl (by decide) (by decide) rfl (fun ls hl => ?_)
                                  refine lv_goto (tgt := 14) hx hb d_Md_takeSigned_195 (by decide) ?_
                                  refine lv_iload hx hb d_Md_takeSigned_14 (lv_at hl 0 rfl) ?_
                                  refine lv_iload hx hb d_Md_takeSigned_16 (lv_at hl 7 rfl) ?_
                                  refine lv_icmp_ge (tgt := 198) hx hb d_Md_takeSigned_18 (by decide) (fun c_18 => absurd c_18 (by decide)) (fun c_18 => ?_)
                                  refine lv_aload_n hx hb d_Md_takeSigned_21 rfl (lv_at hl 8 rfl) ?_
                                  refine va_get (D := D) (ci := 6) (v := .int 0) (C := R_Md) (T := F_Md) (N := 44) hx hb hts (fun w h => List.mem_cons_of_mem _ (i_Md w h)) hown hE.1 hP 0 rfl rfl 3 (by decide) (hts _ (List.mem_cons_of_mem _ iw3_57)) (fun _ h9 => h9) rfl d_Md_takeSigned_22 ?_
                                  refine lv_if_ne (tgt := 198) hx hb d_Md_takeSigned_25 (by decide) (fun c_25 => absurd (by decide) c_25) (fun c_25 => ?_)
                                  refine lv_aload_n hx hb d_Md_takeSigned_28 rfl (lv_at hl 8 rfl) ?_
                                  refine cV (As := []) (rest := []) (n := 0) (wc := [(m0, .inr (6, mF g K (nI ((((((((a + 1) + 1) + 1) + 1) + 1) + 1) + 1) + 1), 0, p) e (nI np) B)), ((g 0), .inl (cA 3, 2000, .inl fd)), ((g 10), .inl (cA 3, 4, .inl pe))]) (wr := []) ⟨hx, hb, hml, hown, hts⟩ hno hlocks hl.1 (c_Md_take l hl9 D cA ad H.size m0 g K e np B fd pe b N lm hnp hpe hlm hN hfd hb9 ((((((((a + 1) + 1) + 1) + 1) + 1) + 1) + 1) + 1) p (by omega) ) iw3_212 iw3_214 sel_Md_take iw1_7 iw3_215 (by decide +kernel) rfl ⟨Nat.le_of_ble_eq_true rfl, Nat.le_of_ble_eq_true rfl⟩ ⟨Nat.le_of_ble_eq_true rfl, Nat.le_of_ble_eq_true rfl⟩ rfl (Nat.le_of_ble_eq_true rfl) d_Md_takeSigned_29 hE hP hD hS hA [0, 1, 2] [] rfl rfl rfl rfl (by decide) (ci := 6) rfl rfl 0 rfl (fun _ h => h.elim) (fun v_29 u_29 H locs hp_29 hP hD hS => ?_)
                                  rcases hp_29 with ⟨f30, q30, hr30, hf30, hB30, rfl, zz30, hzz30, hzx30⟩ | ⟨v30, a30, hr30, rfl, rfl⟩
                                  · obtain ⟨x30, y30, z30⟩ := u_29
                                    cases hB30
                                    have hzx30 : x30 = nI zz30 := hzx30
                                    subst hzx30
                                    have hP : va_P D cls [(m0, .inr (6, mF g K (nI zz30, nI f30, nI q30) e (nI np) B)), ((g 0), .inl (cA 3, 2000, .inl fd)), ((g 10), .inl (cA 3, 4, .inl pe))] H := hP
                                    have hD : va_D A [(m0, .inr (6, mF g K (nI zz30, nI f30, nI q30) e (nI np) B)), ((g 0), .inl (cA 3, 2000, .inl fd)), ((g 10), .inl (cA 3, 4, .inl pe))] := hD
                                    refine W.cs (cells' := 0) (slots' := 0) rfl rfl ?_
                                    refine W.eq (g2 := F0 m 32 ls [.int 0]) rfl ?_
                                    refine lv_istore (lv' := [(6, .int 0), (5, .int 8), (10, .int 56), (2, .long yF), (9, .int 1), (8, .int 0), (7, .int 15), (4, .int 10), (0, .ref m0), (1, .int 64)]) hx hb d_Md_takeSigned_32 hl (by decide) rfl (fun ls hl => ?_)
                                    refine lv_iload_n hx hb d_Md_takeSigned_34 rfl (lv_at hl 9 rfl) ?_
                                    refine lv_bipush (v := 7) hx hb d_Md_takeSigned_35 (by decide) ?_
                                    refine lv_iload hx hb d_Md_takeSigned_37 (lv_at hl 1 rfl) ?_
                                    refine lv_imul hx hb d_Md_takeSigned_39 ?_
                                    refine W.eq (g2 := F0 m 40 ls [.int 56, .int 64]) (by rw [show (7 : Int32) * 8 = 56 from by decide +kernel]) ?_
                                    refine lv_isub hx hb d_Md_takeSigned_40 ?_
                                    refine W.eq (g2 := F0 m 41 ls [.int 8]) (by rw [show (64 : Int32) - 56 = 8 from by decide +kernel]) ?_
                                    refine lv_istore (lv' := [(7, .int 8), (6, .int 0), (5, .int 8), (10, .int 56), (2, .long yF), (9, .int 1), (8, .int 0), (4, .int 10), (0, .ref m0), (1, .int 64)]) hx hb d_Md_takeSigned_41 hl (by decide) rfl (fun ls hl => ?_)
                                    refine lv_iload hx hb d_Md_takeSigned_43 (lv_at hl 0 rfl) ?_
                                    refine lv_bipush (v := 7) hx hb d_Md_takeSigned_45 (by decide) ?_
                                    refine lv_icmp_ge (tgt := 63) hx hb d_Md_takeSigned_47 (by decide) (fun c_47 => ?_) (fun c_47 => absurd (by decide) c_47)
                                    refine lv_iconst (v := 0) hx hb d_Md_takeSigned_63 (by decide) ?_
                                    refine lv_istore (lv' := [(8, .int 0), (7, .int 8), (6, .int 0), (5, .int 8), (10, .int 56), (2, .long yF), (9, .int 1), (4, .int 10), (0, .ref m0), (1, .int 64)]) hx hb d_Md_takeSigned_64 hl (by decide) rfl (fun ls hl => ?_)
                                    refine lv_iload hx hb d_Md_takeSigned_66 (lv_at hl 1 rfl) ?_
                                    refine lv_bipush (v := 7) hx hb d_Md_takeSigned_68 (by decide) ?_
                                    refine lv_icmp_ge (tgt := 90) hx hb d_Md_takeSigned_70 (by decide) (fun c_70 => ?_) (fun c_70 => absurd (by decide) c_70)
                                    refine lv_iconst (v := 1) hx hb d_Md_takeSigned_90 (by decide) ?_
                                    refine lv_goto (tgt := 95) hx hb d_Md_takeSigned_91 (by decide) ?_
                                    refine lv_istore (lv' := [(9, .int 1), (8, .int 0), (7, .int 8), (6, .int 0), (5, .int 8), (10, .int 56), (2, .long yF), (4, .int 10), (0, .ref m0), (1, .int 64)]) hx hb d_Md_takeSigned_95 hl (by decide) rfl (fun ls hl => ?_)
                                    refine lv_aload_n hx hb d_Md_takeSigned_97 rfl (lv_at hl 8 rfl) ?_
                                    refine va_get (D := D) (ci := 6) (v := .int (nI f30)) (C := R_Md) (T := F_Md) (N := 44) hx hb hts (fun w h => List.mem_cons_of_mem _ (i_Md w h)) hown hE.1 hP 0 rfl rfl 3 (by decide) (hts _ (List.mem_cons_of_mem _ iw3_57)) (fun _ h9 => h9) rfl d_Md_takeSigned_98 ?_
                                    refine lv_if_ne (tgt := 134) hx hb d_Md_takeSigned_101 (by decide) (fun c_101 => ?_) (fun c_101 => absurd c_101 (hf30.n0))
                                    refine lv_lload_n hx hb d_Md_takeSigned_134 rfl (lv_at hl 6 rfl) ?_
                                    refine lv_iload hx hb d_Md_takeSigned_135 (lv_at hl 3 rfl) ?_
                                    refine lv_bipush (v := 127) hx hb d_Md_takeSigned_137 (by decide) ?_
                                    refine lv_iand hx hb d_Md_takeSigned_139 ?_
                                    refine W.eq (g2 := F0 m 140 ls [.int 0, .long yF]) (by rw [show (0 : Int32) &&& 127 = 0 from by decide +kernel]) ?_
                                    refine lv_i2l hx hb d_Md_takeSigned_140 rfl ?_
                                    refine lv_bipush (v := 7) hx hb d_Md_takeSigned_141 (by decide) ?_
                                    refine lv_iload hx hb d_Md_takeSigned_143 (lv_at hl 4 rfl) ?_
                                    refine lv_imul hx hb d_Md_takeSigned_145 ?_
                                    refine W.eq (g2 := F0 m 146 ls [.int 56, .long ((0 : Int32).toInt64), .long yF]) (by rw [show (7 : Int32) * 8 = 56 from by decide +kernel]) ?_
                                    refine lv_lshl hx hb d_Md_takeSigned_146 rfl ?_
                                    refine lv_lor hx hb d_Md_takeSigned_147 ?_
                                    refine lv_topl (fun yF eyF => ?_)
                                    refine lv_lstore_n (lv' := [(2, .long yF), (9, .int 1), (8, .int 0), (7, .int 8), (6, .int 0), (5, .int 8), (10, .int 56), (4, .int 10), (0, .ref m0), (1, .int 64)]) hx hb d_Md_takeSigned_148 rfl hl (by decide) rfl (fun ls hl => ?_)
                                    refine lv_bipush (v := 7) hx hb d_Md_takeSigned_149 (by decide) ?_
                                    refine lv_iload hx hb d_Md_takeSigned_151 (lv_at hl 5 rfl) ?_
                                    refine lv_imul hx hb d_Md_takeSigned_153 ?_
                                    refine W.eq (g2 := F0 m 154 ls [.int 56]) (by rw [show (7 : Int32) * 8 = 56 from by decide +kernel]) ?_
                                    refine lv_bipush (v := 7) hx hb d_Md_takeSigned_154 (by decide) ?_
                                    refine lv_iadd hx hb d_Md_takeSigned_156 ?_
                                    refine W.eq (g2 := F0 m 157 ls [.int 63]) (by rw [show (56 : Int32) + 7 = 63 from by decide +kernel]) ?_
                                    refine lv_istore (lv' := [(10, .int 63), (2, .long yF), (9, .int 1), (8, .int 0), (7, .int 8), (6, .int 0), (5, .int 8), (4, .int 10), (0, .ref m0), (1, .int 64)]) hx hb d_Md_takeSigned_157 hl (by decide) rfl (fun ls hl => ?_)
                                    refine lv_iload hx hb d_Md_takeSigned_159 (lv_at hl 5 rfl) ?_
                                    refine lv_sipush (v := 128) hx hb d_Md_takeSigned_161 (by decide) ?_
                                    refine lv_icmp_ge (tgt := 192) hx hb d_Md_takeSigned_164 (by decide) (fun c_164 => absurd c_164 (by decide)) (fun c_164 => ?_)
                                    refine lv_iload hx hb d_Md_takeSigned_167 (lv_at hl 0 rfl) ?_
                                    refine lv_bipush (v := 64) hx hb d_Md_takeSigned_169 (by decide) ?_
                                    refine lv_icmp_ge (tgt := 190) hx hb d_Md_takeSigned_171 (by decide) (fun c_171 => absurd c_171 (by decide)) (fun c_171 => ?_)
                                    refine lv_lload_n hx hb d_Md_takeSigned_174 rfl (lv_at hl 1 rfl) ?_
                                    refine lv_bipush (v := 64) hx hb d_Md_takeSigned_175 (by decide) ?_
                                    refine lv_iload hx hb d_Md_takeSigned_177 (lv_at hl 0 rfl) ?_
                                    refine lv_isub hx hb d_Md_takeSigned_179 ?_
                                    refine W.eq (g2 := F0 m 180 ls [.int 1, .long yF]) (by rw [show (64 : Int32) - 63 = 1 from by decide +kernel]) ?_
                                    refine lv_lshl hx hb d_Md_takeSigned_180 rfl ?_
                                    refine lv_bipush (v := 64) hx hb d_Md_takeSigned_181 (by decide) ?_
                                    refine lv_iload hx hb d_Md_takeSigned_183 (lv_at hl 0 rfl) ?_
                                    refine lv_isub hx hb d_Md_takeSigned_185 ?_
                                    refine W.eq (g2 := F0 m 186 ls [.int 1, .long (yF <<< ((1 : Int32).toInt64 &&& 63))]) (by rw [show (64 : Int32) - 63 = 1 from by decide +kernel]) ?_
                                    refine lv_lshr hx hb d_Md_takeSigned_186 rfl ?_
                                    refine lv_goto (tgt := 191) hx hb d_Md_takeSigned_187 (by decide) ?_
                                    exact cRl ((nI zz30, nI f30, nI q30) : A3) hx hb hr hlocks d_Md_takeSigned_191 hS hP hD (Or.inl ⟨f30, q30, by rw [show pS64 b lm a = pSg b lm 10 64 a from rfl, hU8, pSg_T hr30], hf30, rfl, ⟨_, rfl⟩, zz30, by omega, rfl⟩) (Nat.le_refl _) (Nat.le_refl _)
                                  · obtain ⟨hla30, hgt30, hv30, hbd30⟩ := (pNext_ok2 hr30 hb9)
                                    have hP : va_P D cls [(m0, .inr (6, mF g K (nI a30, 0, p) e (nI np) B)), ((g 0), .inl (cA 3, 2000, .inl fd)), ((g 10), .inl (cA 3, 4, .inl pe))] H := hP
                                    have hD : va_D A [(m0, .inr (6, mF g K (nI a30, 0, p) e (nI np) B)), ((g 0), .inl (cA 3, 2000, .inl fd)), ((g 10), .inl (cA 3, 4, .inl pe))] := hD
                                    refine W.cs (cells' := 0) (slots' := 0) rfl rfl ?_
                                    refine W.eq (g2 := F0 m 32 ls [.int (nI v30)]) rfl ?_
                                    obtain ⟨hbd30, ean30⟩ := hbd30
                                    subst ean30
                                    have hP : va_P D cls [(m0, .inr (6, mF g K (nI (((((((((a + 1) + 1) + 1) + 1) + 1) + 1) + 1) + 1) + 1), 0, p) e (nI np) B)), ((g 0), .inl (cA 3, 2000, .inl fd)), ((g 10), .inl (cA 3, 4, .inl pe))] H := hP
                                    have hD : va_D A [(m0, .inr (6, mF g K (nI (((((((((a + 1) + 1) + 1) + 1) + 1) + 1) + 1) + 1) + 1), 0, p) e (nI np) B)), ((g 0), .inl (cA 3, 2000, .inl fd)), ((g 10), .inl (cA 3, 4, .inl pe))] := hD
                                    refine lv_istore (lv' := [(6, .int (nI v30)), (5, .int 8), (10, .int 56), (2, .long yF), (9, .int 1), (8, .int 0), (7, .int 15), (4, .int 10), (0, .ref m0), (1, .int 64)]) hx hb d_Md_takeSigned_32 hl (by decide) rfl (fun ls hl => ?_)
                                    refine lv_iload_n hx hb d_Md_takeSigned_34 rfl (lv_at hl 9 rfl) ?_
                                    refine lv_bipush (v := 7) hx hb d_Md_takeSigned_35 (by decide) ?_
                                    refine lv_iload hx hb d_Md_takeSigned_37 (lv_at hl 1 rfl) ?_
                                    refine lv_imul hx hb d_Md_takeSigned_39 ?_
                                    refine W.eq (g2 := F0 m 40 ls [.int 56, .int 64]) (by rw [show (7 : Int32) * 8 = 56 from by decide +kernel]) ?_
                                    refine lv_isub hx hb d_Md_takeSigned_40 ?_
                                    refine W.eq (g2 := F0 m 41 ls [.int 8]) (by rw [show (64 : Int32) - 56 = 8 from by decide +kernel]) ?_
                                    refine lv_istore (lv' := [(7, .int 8), (6, .int (nI v30)), (5, .int 8), (10, .int 56), (2, .long yF), (9, .int 1), (8, .int 0), (4, .int 10), (0, .ref m0), (1, .int 64)]) hx hb d_Md_takeSigned_41 hl (by decide) rfl (fun ls hl => ?_)
                                    refine lv_iload hx hb d_Md_takeSigned_43 (lv_at hl 0 rfl) ?_
                                    refine lv_bipush (v := 7) hx hb d_Md_takeSigned_45 (by decide) ?_
                                    refine lv_icmp_ge (tgt := 63) hx hb d_Md_takeSigned_47 (by decide) (fun c_47 => ?_) (fun c_47 => absurd (by decide) c_47)
                                    refine lv_iconst (v := 0) hx hb d_Md_takeSigned_63 (by decide) ?_
                                    refine lv_istore (lv' := [(8, .int 0), (7, .int 8), (6, .int (nI v30)), (5, .int 8), (10, .int 56), (2, .long yF), (9, .int 1), (4, .int 10), (0, .ref m0), (1, .int 64)]) hx hb d_Md_takeSigned_64 hl (by decide) rfl (fun ls hl => ?_)
                                    refine lv_iload hx hb d_Md_takeSigned_66 (lv_at hl 1 rfl) ?_
                                    refine lv_bipush (v := 7) hx hb d_Md_takeSigned_68 (by decide) ?_
                                    refine lv_icmp_ge (tgt := 90) hx hb d_Md_takeSigned_70 (by decide) (fun c_70 => ?_) (fun c_70 => absurd (by decide) c_70)
                                    refine lv_iconst (v := 1) hx hb d_Md_takeSigned_90 (by decide) ?_
                                    refine lv_goto (tgt := 95) hx hb d_Md_takeSigned_91 (by decide) ?_
                                    refine lv_istore (lv' := [(9, .int 1), (8, .int 0), (7, .int 8), (6, .int (nI v30)), (5, .int 8), (10, .int 56), (2, .long yF), (4, .int 10), (0, .ref m0), (1, .int 64)]) hx hb d_Md_takeSigned_95 hl (by decide) rfl (fun ls hl => ?_)
                                    refine lv_aload_n hx hb d_Md_takeSigned_97 rfl (lv_at hl 8 rfl) ?_
                                    refine va_get (D := D) (ci := 6) (v := .int 0) (C := R_Md) (T := F_Md) (N := 44) hx hb hts (fun w h => List.mem_cons_of_mem _ (i_Md w h)) hown hE.1 hP 0 rfl rfl 3 (by decide) (hts _ (List.mem_cons_of_mem _ iw3_57)) (fun _ h9 => h9) rfl d_Md_takeSigned_98 ?_
                                    refine lv_if_ne (tgt := 134) hx hb d_Md_takeSigned_101 (by decide) (fun c_101 => absurd (by decide) c_101) (fun c_101 => ?_)
                                    refine lv_iload hx hb d_Md_takeSigned_104 (lv_at hl 2 rfl) ?_
                                    refine lv_bipush (v := 8) hx hb d_Md_takeSigned_106 (by decide) ?_
                                    refine lv_icmp_ge (tgt := 134) hx hb d_Md_takeSigned_108 (by decide) (fun c_108 => ?_) (fun c_108 => absurd (by decide) c_108)
                                    have ho8 : ¬ (8 ≤ 7 ∧ sTop 8 v30 = false) := fun q => absurd q.1 (by decide)
                                    refine lv_lload_n hx hb d_Md_takeSigned_134 rfl (lv_at hl 6 rfl) ?_
                                    refine lv_iload hx hb d_Md_takeSigned_135 (lv_at hl 3 rfl) ?_
                                    refine lv_bipush (v := 127) hx hb d_Md_takeSigned_137 (by decide) ?_
                                    refine lv_iand hx hb d_Md_takeSigned_139 ?_
                                    refine lv_i2l hx hb d_Md_takeSigned_140 rfl ?_
                                    refine lv_bipush (v := 7) hx hb d_Md_takeSigned_141 (by decide) ?_
                                    refine lv_iload hx hb d_Md_takeSigned_143 (lv_at hl 4 rfl) ?_
                                    refine lv_imul hx hb d_Md_takeSigned_145 ?_
                                    refine W.eq (g2 := F0 m 146 ls [.int 56, .long (((nI v30) &&& 127).toInt64), .long yF]) (by rw [show (7 : Int32) * 8 = 56 from by decide +kernel]) ?_
                                    refine lv_lshl hx hb d_Md_takeSigned_146 rfl ?_
                                    refine lv_lor hx hb d_Md_takeSigned_147 ?_
                                    refine lv_topl (fun yF eyF => ?_)
                                    refine lv_lstore_n (lv' := [(2, .long yF), (9, .int 1), (8, .int 0), (7, .int 8), (6, .int (nI v30)), (5, .int 8), (10, .int 56), (4, .int 10), (0, .ref m0), (1, .int 64)]) hx hb d_Md_takeSigned_148 rfl hl (by decide) rfl (fun ls hl => ?_)
                                    refine lv_bipush (v := 7) hx hb d_Md_takeSigned_149 (by decide) ?_
                                    refine lv_iload hx hb d_Md_takeSigned_151 (lv_at hl 5 rfl) ?_
                                    refine lv_imul hx hb d_Md_takeSigned_153 ?_
                                    refine W.eq (g2 := F0 m 154 ls [.int 56]) (by rw [show (7 : Int32) * 8 = 56 from by decide +kernel]) ?_
                                    refine lv_bipush (v := 7) hx hb d_Md_takeSigned_154 (by decide) ?_
                                    refine lv_iadd hx hb d_Md_takeSigned_156 ?_
                                    refine W.eq (g2 := F0 m 157 ls [.int 63]) (by rw [show (56 : Int32) + 7 = 63 from by decide +kernel]) ?_
                                    refine lv_istore (lv' := [(10, .int 63), (2, .long yF), (9, .int 1), (8, .int 0), (7, .int 8), (6, .int (nI v30)), (5, .int 8), (4, .int 10), (0, .ref m0), (1, .int 64)]) hx hb d_Md_takeSigned_157 hl (by decide) rfl (fun ls hl => ?_)
                                    refine lv_iload hx hb d_Md_takeSigned_159 (lv_at hl 5 rfl) ?_
                                    refine lv_sipush (v := 128) hx hb d_Md_takeSigned_161 (by decide) ?_
                                    refine lv_icmp_ge (tgt := 192) hx hb d_Md_takeSigned_164 (by decide) (fun c_164 => ?_) (fun c_164 => ?_)
                                    · have hd8 : ¬ v30 < 128 := fun q => absurd ((nI_leI (a := 128) (b := v30) (by omega) (by omega)).mp c_164) (by omega)
                                      have hU9 : pSg b lm 10 64 a = pSg b lm 1 1 (((((((((a + 1) + 1) + 1) + 1) + 1) + 1) + 1) + 1) + 1) := hU8.trans (pSg_C hr30 ho8 hd8)
                                      refine lv_iinc (v := 9) (lv' := [(5, .int 9), (10, .int 63), (2, .long yF), (9, .int 1), (8, .int 0), (7, .int 8), (6, .int (nI v30)), (4, .int 10), (0, .ref m0), (1, .int 64)]) hx hb d_Md_takeSigned_192 hl (k := 6) rfl (by decide) (by decide) rfl (fun ls hl => ?_)
                                      refine lv_goto (tgt := 14) hx hb d_Md_takeSigned_195 (by decide) ?_
                                      refine lv_iload hx hb d_Md_takeSigned_14 (lv_at hl 0 rfl) ?_
                                      refine lv_iload hx hb d_Md_takeSigned_16 (lv_at hl 7 rfl) ?_
                                      refine lv_icmp_ge (tgt := 198) hx hb d_Md_takeSigned_18 (by decide) (fun c_18 => absurd c_18 (by decide)) (fun c_18 => ?_)
                                      refine lv_aload_n hx hb d_Md_takeSigned_21 rfl (lv_at hl 8 rfl) ?_
                                      refine va_get (D := D) (ci := 6) (v := .int 0) (C := R_Md) (T := F_Md) (N := 44) hx hb hts (fun w h => List.mem_cons_of_mem _ (i_Md w h)) hown hE.1 hP 0 rfl rfl 3 (by decide) (hts _ (List.mem_cons_of_mem _ iw3_57)) (fun _ h9 => h9) rfl d_Md_takeSigned_22 ?_
                                      refine lv_if_ne (tgt := 198) hx hb d_Md_takeSigned_25 (by decide) (fun c_25 => absurd (by decide) c_25) (fun c_25 => ?_)
                                      refine lv_aload_n hx hb d_Md_takeSigned_28 rfl (lv_at hl 8 rfl) ?_
                                      refine cV (As := []) (rest := []) (n := 0) (wc := [(m0, .inr (6, mF g K (nI (((((((((a + 1) + 1) + 1) + 1) + 1) + 1) + 1) + 1) + 1), 0, p) e (nI np) B)), ((g 0), .inl (cA 3, 2000, .inl fd)), ((g 10), .inl (cA 3, 4, .inl pe))]) (wr := []) ⟨hx, hb, hml, hown, hts⟩ hno hlocks hl.1 (c_Md_take l hl9 D cA ad H.size m0 g K e np B fd pe b N lm hnp hpe hlm hN hfd hb9 (((((((((a + 1) + 1) + 1) + 1) + 1) + 1) + 1) + 1) + 1) p (by omega) ) iw3_212 iw3_214 sel_Md_take iw1_7 iw3_215 (by decide +kernel) rfl ⟨Nat.le_of_ble_eq_true rfl, Nat.le_of_ble_eq_true rfl⟩ ⟨Nat.le_of_ble_eq_true rfl, Nat.le_of_ble_eq_true rfl⟩ rfl (Nat.le_of_ble_eq_true rfl) d_Md_takeSigned_29 hE hP hD hS hA [0, 1, 2] [] rfl rfl rfl rfl (by decide) (ci := 6) rfl rfl 0 rfl (fun _ h => h.elim) (fun v_29 u_29 H locs hp_29 hP hD hS => ?_)
                                      rcases hp_29 with ⟨f31, q31, hr31, hf31, hB31, rfl, zz31, hzz31, hzx31⟩ | ⟨v31, a31, hr31, rfl, rfl⟩
                                      · obtain ⟨x31, y31, z31⟩ := u_29
                                        cases hB31
                                        have hzx31 : x31 = nI zz31 := hzx31
                                        subst hzx31
                                        have hP : va_P D cls [(m0, .inr (6, mF g K (nI zz31, nI f31, nI q31) e (nI np) B)), ((g 0), .inl (cA 3, 2000, .inl fd)), ((g 10), .inl (cA 3, 4, .inl pe))] H := hP
                                        have hD : va_D A [(m0, .inr (6, mF g K (nI zz31, nI f31, nI q31) e (nI np) B)), ((g 0), .inl (cA 3, 2000, .inl fd)), ((g 10), .inl (cA 3, 4, .inl pe))] := hD
                                        refine W.cs (cells' := 0) (slots' := 0) rfl rfl ?_
                                        refine W.eq (g2 := F0 m 32 ls [.int 0]) rfl ?_
                                        refine lv_istore (lv' := [(6, .int 0), (5, .int 9), (10, .int 63), (2, .long yF), (9, .int 1), (8, .int 0), (7, .int 8), (4, .int 10), (0, .ref m0), (1, .int 64)]) hx hb d_Md_takeSigned_32 hl (by decide) rfl (fun ls hl => ?_)
                                        refine lv_iload_n hx hb d_Md_takeSigned_34 rfl (lv_at hl 9 rfl) ?_
                                        refine lv_bipush (v := 7) hx hb d_Md_takeSigned_35 (by decide) ?_
                                        refine lv_iload hx hb d_Md_takeSigned_37 (lv_at hl 1 rfl) ?_
                                        refine lv_imul hx hb d_Md_takeSigned_39 ?_
                                        refine W.eq (g2 := F0 m 40 ls [.int 63, .int 64]) (by rw [show (7 : Int32) * 9 = 63 from by decide +kernel]) ?_
                                        refine lv_isub hx hb d_Md_takeSigned_40 ?_
                                        refine W.eq (g2 := F0 m 41 ls [.int 1]) (by rw [show (64 : Int32) - 63 = 1 from by decide +kernel]) ?_
                                        refine lv_istore (lv' := [(7, .int 1), (6, .int 0), (5, .int 9), (10, .int 63), (2, .long yF), (9, .int 1), (8, .int 0), (4, .int 10), (0, .ref m0), (1, .int 64)]) hx hb d_Md_takeSigned_41 hl (by decide) rfl (fun ls hl => ?_)
                                        refine lv_iload hx hb d_Md_takeSigned_43 (lv_at hl 0 rfl) ?_
                                        refine lv_bipush (v := 7) hx hb d_Md_takeSigned_45 (by decide) ?_
                                        refine lv_icmp_ge (tgt := 63) hx hb d_Md_takeSigned_47 (by decide) (fun c_47 => absurd c_47 (by decide)) (fun c_47 => ?_)
                                        refine lv_iload hx hb d_Md_takeSigned_50 (lv_at hl 1 rfl) ?_
                                        refine lv_bipush (v := 127) hx hb d_Md_takeSigned_52 (by decide) ?_
                                        refine lv_iand hx hb d_Md_takeSigned_54 ?_
                                        refine W.eq (g2 := F0 m 55 ls [.int 0]) (by rw [show (0 : Int32) &&& 127 = 0 from by decide +kernel]) ?_
                                        refine lv_iload hx hb d_Md_takeSigned_55 (lv_at hl 0 rfl) ?_
                                        refine lv_iconst (v := 1) hx hb d_Md_takeSigned_57 (by decide) ?_
                                        refine lv_isub hx hb d_Md_takeSigned_58 ?_
                                        refine W.eq (g2 := F0 m 59 ls [.int 0, .int 0]) (by rw [show (1 : Int32) - 1 = 0 from by decide +kernel]) ?_
                                        refine lv_ishr hx hb d_Md_takeSigned_59 ?_
                                        refine W.eq (g2 := F0 m 60 ls [.int 0]) (by rw [show (0 : Int32) >>> (0 &&& 31) = 0 from by decide +kernel]) ?_
                                        refine lv_goto (tgt := 64) hx hb d_Md_takeSigned_60 (by decide) ?_
                                        refine lv_istore (lv' := [(8, .int 0), (7, .int 1), (6, .int 0), (5, .int 9), (10, .int 63), (2, .long yF), (9, .int 1), (4, .int 10), (0, .ref m0), (1, .int 64)]) hx hb d_Md_takeSigned_64 hl (by decide) rfl (fun ls hl => ?_)
                                        refine lv_iload hx hb d_Md_takeSigned_66 (lv_at hl 1 rfl) ?_
                                        refine lv_bipush (v := 7) hx hb d_Md_takeSigned_68 (by decide) ?_
                                        refine lv_icmp_ge (tgt := 90) hx hb d_Md_takeSigned_70 (by decide) (fun c_70 => absurd c_70 (by decide)) (fun c_70 => ?_)
                                        refine lv_iload hx hb d_Md_takeSigned_73 (lv_at hl 0 rfl) ?_
                                        refine lv_if_eq (tgt := 90) hx hb d_Md_takeSigned_75 (by decide) (fun c_75 => ?_) (fun c_75 => absurd (by decide) c_75)
                                        refine lv_iconst (v := 1) hx hb d_Md_takeSigned_90 (by decide) ?_
                                        refine lv_goto (tgt := 95) hx hb d_Md_takeSigned_91 (by decide) ?_
                                        refine lv_istore (lv' := [(9, .int 1), (8, .int 0), (7, .int 1), (6, .int 0), (5, .int 9), (10, .int 63), (2, .long yF), (4, .int 10), (0, .ref m0), (1, .int 64)]) hx hb d_Md_takeSigned_95 hl (by decide) rfl (fun ls hl => ?_)
                                        refine lv_aload_n hx hb d_Md_takeSigned_97 rfl (lv_at hl 8 rfl) ?_
                                        refine va_get (D := D) (ci := 6) (v := .int (nI f31)) (C := R_Md) (T := F_Md) (N := 44) hx hb hts (fun w h => List.mem_cons_of_mem _ (i_Md w h)) hown hE.1 hP 0 rfl rfl 3 (by decide) (hts _ (List.mem_cons_of_mem _ iw3_57)) (fun _ h9 => h9) rfl d_Md_takeSigned_98 ?_
                                        refine lv_if_ne (tgt := 134) hx hb d_Md_takeSigned_101 (by decide) (fun c_101 => ?_) (fun c_101 => absurd c_101 (hf31.n0))
                                        refine lv_lload_n hx hb d_Md_takeSigned_134 rfl (lv_at hl 6 rfl) ?_
                                        refine lv_iload hx hb d_Md_takeSigned_135 (lv_at hl 3 rfl) ?_
                                        refine lv_bipush (v := 127) hx hb d_Md_takeSigned_137 (by decide) ?_
                                        refine lv_iand hx hb d_Md_takeSigned_139 ?_
                                        refine W.eq (g2 := F0 m 140 ls [.int 0, .long yF]) (by rw [show (0 : Int32) &&& 127 = 0 from by decide +kernel]) ?_
                                        refine lv_i2l hx hb d_Md_takeSigned_140 rfl ?_
                                        refine lv_bipush (v := 7) hx hb d_Md_takeSigned_141 (by decide) ?_
                                        refine lv_iload hx hb d_Md_takeSigned_143 (lv_at hl 4 rfl) ?_
                                        refine lv_imul hx hb d_Md_takeSigned_145 ?_
                                        refine W.eq (g2 := F0 m 146 ls [.int 63, .long ((0 : Int32).toInt64), .long yF]) (by rw [show (7 : Int32) * 9 = 63 from by decide +kernel]) ?_
                                        refine lv_lshl hx hb d_Md_takeSigned_146 rfl ?_
                                        refine lv_lor hx hb d_Md_takeSigned_147 ?_
                                        refine lv_topl (fun yF eyF => ?_)
                                        refine lv_lstore_n (lv' := [(2, .long yF), (9, .int 1), (8, .int 0), (7, .int 1), (6, .int 0), (5, .int 9), (10, .int 63), (4, .int 10), (0, .ref m0), (1, .int 64)]) hx hb d_Md_takeSigned_148 rfl hl (by decide) rfl (fun ls hl => ?_)
                                        refine lv_bipush (v := 7) hx hb d_Md_takeSigned_149 (by decide) ?_
                                        refine lv_iload hx hb d_Md_takeSigned_151 (lv_at hl 5 rfl) ?_
                                        refine lv_imul hx hb d_Md_takeSigned_153 ?_
                                        refine W.eq (g2 := F0 m 154 ls [.int 63]) (by rw [show (7 : Int32) * 9 = 63 from by decide +kernel]) ?_
                                        refine lv_bipush (v := 7) hx hb d_Md_takeSigned_154 (by decide) ?_
                                        refine lv_iadd hx hb d_Md_takeSigned_156 ?_
                                        refine W.eq (g2 := F0 m 157 ls [.int 70]) (by rw [show (63 : Int32) + 7 = 70 from by decide +kernel]) ?_
                                        refine lv_istore (lv' := [(10, .int 70), (2, .long yF), (9, .int 1), (8, .int 0), (7, .int 1), (6, .int 0), (5, .int 9), (4, .int 10), (0, .ref m0), (1, .int 64)]) hx hb d_Md_takeSigned_157 hl (by decide) rfl (fun ls hl => ?_)
                                        refine lv_iload hx hb d_Md_takeSigned_159 (lv_at hl 5 rfl) ?_
                                        refine lv_sipush (v := 128) hx hb d_Md_takeSigned_161 (by decide) ?_
                                        refine lv_icmp_ge (tgt := 192) hx hb d_Md_takeSigned_164 (by decide) (fun c_164 => absurd c_164 (by decide)) (fun c_164 => ?_)
                                        refine lv_iload hx hb d_Md_takeSigned_167 (lv_at hl 0 rfl) ?_
                                        refine lv_bipush (v := 64) hx hb d_Md_takeSigned_169 (by decide) ?_
                                        refine lv_icmp_ge (tgt := 190) hx hb d_Md_takeSigned_171 (by decide) (fun c_171 => ?_) (fun c_171 => absurd (by decide) c_171)
                                        refine lv_lload_n hx hb d_Md_takeSigned_190 rfl (lv_at hl 1 rfl) ?_
                                        exact cRl ((nI zz31, nI f31, nI q31) : A3) hx hb hr hlocks d_Md_takeSigned_191 hS hP hD (Or.inl ⟨f31, q31, by rw [show pS64 b lm a = pSg b lm 10 64 a from rfl, hU9, pSg_T hr31], hf31, rfl, ⟨_, rfl⟩, zz31, by omega, rfl⟩) (Nat.le_refl _) (Nat.le_refl _)
                                      · obtain ⟨hla31, hgt31, hv31, hbd31⟩ := (pNext_ok2 hr31 hb9)
                                        have hP : va_P D cls [(m0, .inr (6, mF g K (nI a31, 0, p) e (nI np) B)), ((g 0), .inl (cA 3, 2000, .inl fd)), ((g 10), .inl (cA 3, 4, .inl pe))] H := hP
                                        have hD : va_D A [(m0, .inr (6, mF g K (nI a31, 0, p) e (nI np) B)), ((g 0), .inl (cA 3, 2000, .inl fd)), ((g 10), .inl (cA 3, 4, .inl pe))] := hD
                                        refine W.cs (cells' := 0) (slots' := 0) rfl rfl ?_
                                        refine W.eq (g2 := F0 m 32 ls [.int (nI v31)]) rfl ?_
                                        obtain ⟨hbd31, ean31⟩ := hbd31
                                        subst ean31
                                        have hP : va_P D cls [(m0, .inr (6, mF g K (nI ((((((((((a + 1) + 1) + 1) + 1) + 1) + 1) + 1) + 1) + 1) + 1), 0, p) e (nI np) B)), ((g 0), .inl (cA 3, 2000, .inl fd)), ((g 10), .inl (cA 3, 4, .inl pe))] H := hP
                                        have hD : va_D A [(m0, .inr (6, mF g K (nI ((((((((((a + 1) + 1) + 1) + 1) + 1) + 1) + 1) + 1) + 1) + 1), 0, p) e (nI np) B)), ((g 0), .inl (cA 3, 2000, .inl fd)), ((g 10), .inl (cA 3, 4, .inl pe))] := hD
                                        refine lv_istore (lv' := [(6, .int (nI v31)), (5, .int 9), (10, .int 63), (2, .long yF), (9, .int 1), (8, .int 0), (7, .int 8), (4, .int 10), (0, .ref m0), (1, .int 64)]) hx hb d_Md_takeSigned_32 hl (by decide) rfl (fun ls hl => ?_)
                                        refine lv_iload_n hx hb d_Md_takeSigned_34 rfl (lv_at hl 9 rfl) ?_
                                        refine lv_bipush (v := 7) hx hb d_Md_takeSigned_35 (by decide) ?_
                                        refine lv_iload hx hb d_Md_takeSigned_37 (lv_at hl 1 rfl) ?_
                                        refine lv_imul hx hb d_Md_takeSigned_39 ?_
                                        refine W.eq (g2 := F0 m 40 ls [.int 63, .int 64]) (by rw [show (7 : Int32) * 9 = 63 from by decide +kernel]) ?_
                                        refine lv_isub hx hb d_Md_takeSigned_40 ?_
                                        refine W.eq (g2 := F0 m 41 ls [.int 1]) (by rw [show (64 : Int32) - 63 = 1 from by decide +kernel]) ?_
                                        refine lv_istore (lv' := [(7, .int 1), (6, .int (nI v31)), (5, .int 9), (10, .int 63), (2, .long yF), (9, .int 1), (8, .int 0), (4, .int 10), (0, .ref m0), (1, .int 64)]) hx hb d_Md_takeSigned_41 hl (by decide) rfl (fun ls hl => ?_)
                                        refine lv_iload hx hb d_Md_takeSigned_43 (lv_at hl 0 rfl) ?_
                                        refine lv_bipush (v := 7) hx hb d_Md_takeSigned_45 (by decide) ?_
                                        refine lv_icmp_ge (tgt := 63) hx hb d_Md_takeSigned_47 (by decide) (fun c_47 => absurd c_47 (by decide)) (fun c_47 => ?_)
                                        refine lv_iload hx hb d_Md_takeSigned_50 (lv_at hl 1 rfl) ?_
                                        refine lv_bipush (v := 127) hx hb d_Md_takeSigned_52 (by decide) ?_
                                        refine lv_iand hx hb d_Md_takeSigned_54 ?_
                                        rw [pk_andN (n := v31) (by omega) 7 (by decide +kernel)]
                                        refine lv_iload hx hb d_Md_takeSigned_55 (lv_at hl 0 rfl) ?_
                                        refine lv_iconst (v := 1) hx hb d_Md_takeSigned_57 (by decide) ?_
                                        refine lv_isub hx hb d_Md_takeSigned_58 ?_
                                        refine W.eq (g2 := F0 m 59 ls [.int 0, .int (nI (v31 % 2 ^ 7))]) (by rw [show (1 : Int32) - 1 = 0 from by decide +kernel]) ?_
                                        refine lv_ishr hx hb d_Md_takeSigned_59 ?_
                                        rw [pk_shrN (n := v31 % 2 ^ 7) (by omega) _ 0 (by decide +kernel)]
                                        refine lv_goto (tgt := 64) hx hb d_Md_takeSigned_60 (by decide) ?_
                                        refine lv_istore (lv' := [(8, .int (nI (v31 % 2 ^ 7 / 2 ^ 0))), (7, .int 1), (6, .int (nI v31)), (5, .int 9), (10, .int 63), (2, .long yF), (9, .int 1), (4, .int 10), (0, .ref m0), (1, .int 64)]) hx hb d_Md_takeSigned_64 hl (by decide) rfl (fun ls hl => ?_)
                                        refine lv_iload hx hb d_Md_takeSigned_66 (lv_at hl 1 rfl) ?_
                                        refine lv_bipush (v := 7) hx hb d_Md_takeSigned_68 (by decide) ?_
                                        refine lv_icmp_ge (tgt := 90) hx hb d_Md_takeSigned_70 (by decide) (fun c_70 => absurd c_70 (by decide)) (fun c_70 => ?_)
                                        refine lv_iload hx hb d_Md_takeSigned_73 (lv_at hl 0 rfl) ?_
                                        refine lv_if_eq (tgt := 90) hx hb d_Md_takeSigned_75 (by decide) (fun c_75 => ?_) (fun c_75 => ?_)
                                        · refine lv_iconst (v := 1) hx hb d_Md_takeSigned_90 (by decide) ?_
                                          refine lv_goto (tgt := 95) hx hb d_Md_takeSigned_91 (by decide) ?_
                                          refine lv_istore (lv' := [(9, .int 1), (8, .int (nI (v31 % 2 ^ 7 / 2 ^ 0))), (7, .int 1), (6, .int (nI v31)), (5, .int 9), (10, .int 63), (2, .long yF), (4, .int 10), (0, .ref m0), (1, .int 64)]) hx hb d_Md_takeSigned_95 hl (by decide) rfl (fun ls hl => ?_)
                                          refine lv_aload_n hx hb d_Md_takeSigned_97 rfl (lv_at hl 8 rfl) ?_
                                          refine va_get (D := D) (ci := 6) (v := .int 0) (C := R_Md) (T := F_Md) (N := 44) hx hb hts (fun w h => List.mem_cons_of_mem _ (i_Md w h)) hown hE.1 hP 0 rfl rfl 3 (by decide) (hts _ (List.mem_cons_of_mem _ iw3_57)) (fun _ h9 => h9) rfl d_Md_takeSigned_98 ?_
                                          refine lv_if_ne (tgt := 134) hx hb d_Md_takeSigned_101 (by decide) (fun c_101 => absurd (by decide) c_101) (fun c_101 => ?_)
                                          refine lv_iload hx hb d_Md_takeSigned_104 (lv_at hl 2 rfl) ?_
                                          refine lv_bipush (v := 8) hx hb d_Md_takeSigned_106 (by decide) ?_
                                          refine lv_icmp_ge (tgt := 134) hx hb d_Md_takeSigned_108 (by decide) (fun c_108 => absurd c_108 (by decide)) (fun c_108 => ?_)
                                          refine lv_iload hx hb d_Md_takeSigned_111 (lv_at hl 3 rfl) ?_
                                          refine lv_bipush (v := 127) hx hb d_Md_takeSigned_113 (by decide) ?_
                                          refine lv_icmp_gt (tgt := 123) hx hb d_Md_takeSigned_115 (by decide) (fun c_115 => ?_) (fun c_115 => ?_)
                                          · have hbad : sTop 1 v31 = false := sTop_big 0 (by decide) v31 (by omega) (by have := (nI_ltI (a := 127) (b := v31) (by omega) (by omega)).mp c_115; omega)
                                            refine lv_aload_n hx hb d_Md_takeSigned_123 rfl (lv_at hl 8 rfl) ?_
                                            refine lv_iconst (v := 4) hx hb d_Md_takeSigned_124 (by decide) ?_
                                            refine lv_aload_n hx hb d_Md_takeSigned_125 rfl (lv_at hl 8 rfl) ?_
                                            refine va_get (D := D) (ci := 6) (v := .int (nI ((((((((((a + 1) + 1) + 1) + 1) + 1) + 1) + 1) + 1) + 1) + 1))) (C := R_Md) (T := F_Md) (N := 44) hx hb hts (fun w h => List.mem_cons_of_mem _ (i_Md w h)) hown hE.1 hP 0 rfl rfl 2 (by decide) (hts _ (List.mem_cons_of_mem _ iw3_56)) (fun _ h9 => h9) rfl d_Md_takeSigned_126 ?_
                                            refine lv_iconst (v := 1) hx hb d_Md_takeSigned_129 (by decide) ?_
                                            refine lv_isub hx hb d_Md_takeSigned_130 ?_
                                            rw [nI_pred]
                                            refine cV (As := [.int 4, .int (nI (((((((((a + 1) + 1) + 1) + 1) + 1) + 1) + 1) + 1) + 1))]) (rest := []) (n := 2) (wc := [(m0, .inr (6, mF g K (nI ((((((((((a + 1) + 1) + 1) + 1) + 1) + 1) + 1) + 1) + 1) + 1), 0, p) e (nI np) B))]) (wr := [((g 0), .inl (cA 3, 2000, .inl fd)), ((g 10), .inl (cA 3, 4, .inl pe))]) ⟨hx, hb, hml, hown, hts⟩ hno hlocks hl.1 (c_Md_stop l hl9 D cA ad H.size m0 g K e (nI np) B (nI ((((((((((a + 1) + 1) + 1) + 1) + 1) + 1) + 1) + 1) + 1) + 1)) p (4 : Int32) (nI (((((((((a + 1) + 1) + 1) + 1) + 1) + 1) + 1) + 1) + 1))) iw3_216 iw3_218 sel_Md_stop iw1_7 iw3_219 (by decide +kernel) rfl ⟨Nat.le_of_ble_eq_true rfl, Nat.le_of_ble_eq_true rfl⟩ ⟨Nat.le_of_ble_eq_true rfl, Nat.le_of_ble_eq_true rfl⟩ rfl (Nat.le_of_ble_eq_true rfl) d_Md_takeSigned_131 hE hP hD hS hA [0] [1, 2] rfl rfl rfl rfl (by decide) (ci := 6) rfl rfl 0 rfl (fun _ h => h.elim) (fun v_131 u_131 H locs hp_131 hP hD hS => ?_)
                                            obtain rfl := hp_131
                                            have hP : va_P D cls [(m0, .inr (6, mF g K (nI ((((((((((a + 1) + 1) + 1) + 1) + 1) + 1) + 1) + 1) + 1) + 1), 4, nI (((((((((a + 1) + 1) + 1) + 1) + 1) + 1) + 1) + 1) + 1)) e (nI np) B)), ((g 0), .inl (cA 3, 2000, .inl fd)), ((g 10), .inl (cA 3, 4, .inl pe))] H := hP.sub [2, 0, 1] rfl
                                            have hD : va_D A [(m0, .inr (6, mF g K (nI ((((((((((a + 1) + 1) + 1) + 1) + 1) + 1) + 1) + 1) + 1) + 1), 4, nI (((((((((a + 1) + 1) + 1) + 1) + 1) + 1) + 1) + 1) + 1)) e (nI np) B)), ((g 0), .inl (cA 3, 2000, .inl fd)), ((g 10), .inl (cA 3, 4, .inl pe))] := hD.sub [2, 0, 1] (by decide) rfl
                                            refine W.cs (cells' := 0) (slots' := 0) rfl rfl ?_
                                            refine W.eq (g2 := F0 m 134 ls []) rfl ?_
                                            refine lv_lload_n hx hb d_Md_takeSigned_134 rfl (lv_at hl 6 rfl) ?_
                                            refine lv_iload hx hb d_Md_takeSigned_135 (lv_at hl 3 rfl) ?_
                                            refine lv_bipush (v := 127) hx hb d_Md_takeSigned_137 (by decide) ?_
                                            refine lv_iand hx hb d_Md_takeSigned_139 ?_
                                            refine lv_i2l hx hb d_Md_takeSigned_140 rfl ?_
                                            refine lv_bipush (v := 7) hx hb d_Md_takeSigned_141 (by decide) ?_
                                            refine lv_iload hx hb d_Md_takeSigned_143 (lv_at hl 4 rfl) ?_
                                            refine lv_imul hx hb d_Md_takeSigned_145 ?_
                                            refine W.eq (g2 := F0 m 146 ls [.int 63, .long (((nI v31) &&& 127).toInt64), .long yF]) (by rw [show (7 : Int32) * 9 = 63 from by decide +kernel]) ?_
                                            refine lv_lshl hx hb d_Md_takeSigned_146 rfl ?_
                                            refine lv_lor hx hb d_Md_takeSigned_147 ?_
                                            refine lv_topl (fun yF eyF => ?_)
                                            refine lv_lstore_n (lv' := [(2, .long yF), (9, .int 1), (8, .int (nI (v31 % 2 ^ 7 / 2 ^ 0))), (7, .int 1), (6, .int (nI v31)), (5, .int 9), (10, .int 63), (4, .int 10), (0, .ref m0), (1, .int 64)]) hx hb d_Md_takeSigned_148 rfl hl (by decide) rfl (fun ls hl => ?_)
                                            refine lv_bipush (v := 7) hx hb d_Md_takeSigned_149 (by decide) ?_
                                            refine lv_iload hx hb d_Md_takeSigned_151 (lv_at hl 5 rfl) ?_
                                            refine lv_imul hx hb d_Md_takeSigned_153 ?_
                                            refine W.eq (g2 := F0 m 154 ls [.int 63]) (by rw [show (7 : Int32) * 9 = 63 from by decide +kernel]) ?_
                                            refine lv_bipush (v := 7) hx hb d_Md_takeSigned_154 (by decide) ?_
                                            refine lv_iadd hx hb d_Md_takeSigned_156 ?_
                                            refine W.eq (g2 := F0 m 157 ls [.int 70]) (by rw [show (63 : Int32) + 7 = 70 from by decide +kernel]) ?_
                                            refine lv_istore (lv' := [(10, .int 70), (2, .long yF), (9, .int 1), (8, .int (nI (v31 % 2 ^ 7 / 2 ^ 0))), (7, .int 1), (6, .int (nI v31)), (5, .int 9), (4, .int 10), (0, .ref m0), (1, .int 64)]) hx hb d_Md_takeSigned_157 hl (by decide) rfl (fun ls hl => ?_)
                                            refine lv_iload hx hb d_Md_takeSigned_159 (lv_at hl 5 rfl) ?_
                                            refine lv_sipush (v := 128) hx hb d_Md_takeSigned_161 (by decide) ?_
                                            refine lv_icmp_ge (tgt := 192) hx hb d_Md_takeSigned_164 (by decide) (fun c_164 => ?_) (fun c_164 => ?_)
                                            · refine lv_iinc (v := 10) (lv' := [(5, .int 10), (10, .int 70), (2, .long yF), (9, .int 1), (8, .int (nI (v31 % 2 ^ 7 / 2 ^ 0))), (7, .int 1), (6, .int (nI v31)), (4, .int 10), (0, .ref m0), (1, .int 64)]) hx hb d_Md_takeSigned_192 hl (k := 6) rfl (by decide) (by decide) rfl (fun ls hl => ?_)
                                              refine lv_goto (tgt := 14) hx hb d_Md_takeSigned_195 (by decide) ?_
                                              refine lv_iload hx hb d_Md_takeSigned_14 (lv_at hl 0 rfl) ?_
                                              refine lv_iload hx hb d_Md_takeSigned_16 (lv_at hl 7 rfl) ?_
                                              refine lv_icmp_ge (tgt := 198) hx hb d_Md_takeSigned_18 (by decide) (fun c_18 => ?_) (fun c_18 => absurd (by decide) c_18)
                                              refine lv_lload_n hx hb d_Md_takeSigned_198 rfl (lv_at hl 2 rfl) ?_
                                              exact cRl ((nI ((((((((((a + 1) + 1) + 1) + 1) + 1) + 1) + 1) + 1) + 1) + 1), nI 4, nI (((((((((a + 1) + 1) + 1) + 1) + 1) + 1) + 1) + 1) + 1)) : A3) hx hb hr hlocks d_Md_takeSigned_199 hS hP hD (Or.inl ⟨4, (((((((((a + 1) + 1) + 1) + 1) + 1) + 1) + 1) + 1) + 1), by rw [show pS64 b lm a = pSg b lm 10 64 a from rfl, hU9, pSg_F hr31 (by decide) hbad], ⟨by decide, by decide⟩, rfl, ⟨_, rfl⟩, ((((((((((a + 1) + 1) + 1) + 1) + 1) + 1) + 1) + 1) + 1) + 1), by omega, rfl⟩) (Nat.le_refl _) (Nat.le_refl _)
                                            · refine lv_iload hx hb d_Md_takeSigned_167 (lv_at hl 0 rfl) ?_
                                              refine lv_bipush (v := 64) hx hb d_Md_takeSigned_169 (by decide) ?_
                                              refine lv_icmp_ge (tgt := 190) hx hb d_Md_takeSigned_171 (by decide) (fun c_171 => ?_) (fun c_171 => absurd (by decide) c_171)
                                              refine lv_lload_n hx hb d_Md_takeSigned_190 rfl (lv_at hl 1 rfl) ?_
                                              exact cRl ((nI ((((((((((a + 1) + 1) + 1) + 1) + 1) + 1) + 1) + 1) + 1) + 1), nI 4, nI (((((((((a + 1) + 1) + 1) + 1) + 1) + 1) + 1) + 1) + 1)) : A3) hx hb hr hlocks d_Md_takeSigned_191 hS hP hD (Or.inl ⟨4, (((((((((a + 1) + 1) + 1) + 1) + 1) + 1) + 1) + 1) + 1), by rw [show pS64 b lm a = pSg b lm 10 64 a from rfl, hU9, pSg_F hr31 (by decide) hbad], ⟨by decide, by decide⟩, rfl, ⟨_, rfl⟩, ((((((((((a + 1) + 1) + 1) + 1) + 1) + 1) + 1) + 1) + 1) + 1), by omega, rfl⟩) (Nat.le_refl _) (Nat.le_refl _)
                                          · have hle : v31 ≤ 127 := Nat.le_of_not_lt (fun q => c_115 (nI_lt (a := 127) (b := v31) q (by omega)))
                                            refine lv_iload hx hb d_Md_takeSigned_118 (lv_at hl 0 rfl) ?_
                                            refine lv_if_ne (tgt := 134) hx hb d_Md_takeSigned_120 (by decide) (fun c_120 => ?_) (fun c_120 => absurd c_120 (by decide))
                                            have hst : sTop 1 v31 = true := sT1t hle (by first | exact Or.inl c_75 | exact Or.inr c_87)
                                            have ho9 : ¬ (1 ≤ 7 ∧ sTop 1 v31 = false) := fun q => by rw [hst] at q; exact absurd q.2 (by decide)
                                            refine lv_lload_n hx hb d_Md_takeSigned_134 rfl (lv_at hl 6 rfl) ?_
                                            refine lv_iload hx hb d_Md_takeSigned_135 (lv_at hl 3 rfl) ?_
                                            refine lv_bipush (v := 127) hx hb d_Md_takeSigned_137 (by decide) ?_
                                            refine lv_iand hx hb d_Md_takeSigned_139 ?_
                                            refine lv_i2l hx hb d_Md_takeSigned_140 rfl ?_
                                            refine lv_bipush (v := 7) hx hb d_Md_takeSigned_141 (by decide) ?_
                                            refine lv_iload hx hb d_Md_takeSigned_143 (lv_at hl 4 rfl) ?_
                                            refine lv_imul hx hb d_Md_takeSigned_145 ?_
                                            refine W.eq (g2 := F0 m 146 ls [.int 63, .long (((nI v31) &&& 127).toInt64), .long yF]) (by rw [show (7 : Int32) * 9 = 63 from by decide +kernel]) ?_
                                            refine lv_lshl hx hb d_Md_takeSigned_146 rfl ?_
                                            refine lv_lor hx hb d_Md_takeSigned_147 ?_
                                            refine lv_topl (fun yF eyF => ?_)
                                            refine lv_lstore_n (lv' := [(2, .long yF), (9, .int 1), (8, .int (nI (v31 % 2 ^ 7 / 2 ^ 0))), (7, .int 1), (6, .int (nI v31)), (5, .int 9), (10, .int 63), (4, .int 10), (0, .ref m0), (1, .int 64)]) hx hb d_Md_takeSigned_148 rfl hl (by decide) rfl (fun ls hl => ?_)
                                            refine lv_bipush (v := 7) hx hb d_Md_takeSigned_149 (by decide) ?_
                                            refine lv_iload hx hb d_Md_takeSigned_151 (lv_at hl 5 rfl) ?_
                                            refine lv_imul hx hb d_Md_takeSigned_153 ?_
                                            refine W.eq (g2 := F0 m 154 ls [.int 63]) (by rw [show (7 : Int32) * 9 = 63 from by decide +kernel]) ?_
                                            refine lv_bipush (v := 7) hx hb d_Md_takeSigned_154 (by decide) ?_
                                            refine lv_iadd hx hb d_Md_takeSigned_156 ?_
                                            refine W.eq (g2 := F0 m 157 ls [.int 70]) (by rw [show (63 : Int32) + 7 = 70 from by decide +kernel]) ?_
                                            refine lv_istore (lv' := [(10, .int 70), (2, .long yF), (9, .int 1), (8, .int (nI (v31 % 2 ^ 7 / 2 ^ 0))), (7, .int 1), (6, .int (nI v31)), (5, .int 9), (4, .int 10), (0, .ref m0), (1, .int 64)]) hx hb d_Md_takeSigned_157 hl (by decide) rfl (fun ls hl => ?_)
                                            refine lv_iload hx hb d_Md_takeSigned_159 (lv_at hl 5 rfl) ?_
                                            refine lv_sipush (v := 128) hx hb d_Md_takeSigned_161 (by decide) ?_
                                            refine lv_icmp_ge (tgt := 192) hx hb d_Md_takeSigned_164 (by decide) (fun c_164 => ?_) (fun c_164 => ?_)
                                            · have hd9 : ¬ v31 < 128 := fun q => absurd ((nI_leI (a := 128) (b := v31) (by omega) (by omega)).mp c_164) (by omega)
                                              exact absurd hle (by omega)
                                            · have hd9 : v31 < 128 := Nat.lt_of_not_le (fun q => c_164 (nI_le (a := 128) (b := v31) q (by omega)))
                                              refine lv_iload hx hb d_Md_takeSigned_167 (lv_at hl 0 rfl) ?_
                                              refine lv_bipush (v := 64) hx hb d_Md_takeSigned_169 (by decide) ?_
                                              refine lv_icmp_ge (tgt := 190) hx hb d_Md_takeSigned_171 (by decide) (fun c_171 => ?_) (fun c_171 => absurd (by decide) c_171)
                                              refine lv_lload_n hx hb d_Md_takeSigned_190 rfl (lv_at hl 1 rfl) ?_
                                              exact cRl ((nI ((((((((((a + 1) + 1) + 1) + 1) + 1) + 1) + 1) + 1) + 1) + 1), 0, p) : A3) hx hb hr hlocks d_Md_takeSigned_191 hS hP hD (Or.inr ⟨v31 / 64 % 2, ((((((((((a + 1) + 1) + 1) + 1) + 1) + 1) + 1) + 1) + 1) + 1), hU9.trans (pSg_E hr31 ho9 hd9), rfl, _, rfl⟩) (Nat.le_refl _) (Nat.le_refl _)
                                        · refine lv_iload hx hb d_Md_takeSigned_78 (lv_at hl 0 rfl) ?_
                                          refine lv_bipush (v := 127) hx hb d_Md_takeSigned_80 (by decide) ?_
                                          refine lv_iload hx hb d_Md_takeSigned_82 (lv_at hl 1 rfl) ?_
                                          refine lv_iconst (v := 1) hx hb d_Md_takeSigned_84 (by decide) ?_
                                          refine lv_isub hx hb d_Md_takeSigned_85 ?_
                                          refine W.eq (g2 := F0 m 86 ls [.int 0, .int 127, .int (nI (v31 % 2 ^ 7 / 2 ^ 0))]) (by rw [show (1 : Int32) - 1 = 0 from by decide +kernel]) ?_
                                          refine lv_ishr hx hb d_Md_takeSigned_86 ?_
                                          refine W.eq (g2 := F0 m 87 ls [.int 127, .int (nI (v31 % 2 ^ 7 / 2 ^ 0))]) (by rw [show (127 : Int32) >>> (0 &&& 31) = 127 from by decide +kernel]) ?_
                                          refine lv_icmp_ne (tgt := 94) hx hb d_Md_takeSigned_87 (by decide) (fun c_87 => ?_) (fun c_87 => ?_)
                                          · refine lv_iconst (v := 0) hx hb d_Md_takeSigned_94 (by decide) ?_
                                            refine lv_istore (lv' := [(9, .int 0), (8, .int (nI (v31 % 2 ^ 7 / 2 ^ 0))), (7, .int 1), (6, .int (nI v31)), (5, .int 9), (10, .int 63), (2, .long yF), (4, .int 10), (0, .ref m0), (1, .int 64)]) hx hb d_Md_takeSigned_95 hl (by decide) rfl (fun ls hl => ?_)
                                            refine lv_aload_n hx hb d_Md_takeSigned_97 rfl (lv_at hl 8 rfl) ?_
                                            refine va_get (D := D) (ci := 6) (v := .int 0) (C := R_Md) (T := F_Md) (N := 44) hx hb hts (fun w h => List.mem_cons_of_mem _ (i_Md w h)) hown hE.1 hP 0 rfl rfl 3 (by decide) (hts _ (List.mem_cons_of_mem _ iw3_57)) (fun _ h9 => h9) rfl d_Md_takeSigned_98 ?_
                                            refine lv_if_ne (tgt := 134) hx hb d_Md_takeSigned_101 (by decide) (fun c_101 => absurd (by decide) c_101) (fun c_101 => ?_)
                                            refine lv_iload hx hb d_Md_takeSigned_104 (lv_at hl 2 rfl) ?_
                                            refine lv_bipush (v := 8) hx hb d_Md_takeSigned_106 (by decide) ?_
                                            refine lv_icmp_ge (tgt := 134) hx hb d_Md_takeSigned_108 (by decide) (fun c_108 => absurd c_108 (by decide)) (fun c_108 => ?_)
                                            refine lv_iload hx hb d_Md_takeSigned_111 (lv_at hl 3 rfl) ?_
                                            refine lv_bipush (v := 127) hx hb d_Md_takeSigned_113 (by decide) ?_
                                            refine lv_icmp_gt (tgt := 123) hx hb d_Md_takeSigned_115 (by decide) (fun c_115 => ?_) (fun c_115 => ?_)
                                            · have hbad : sTop 1 v31 = false := sTop_big 0 (by decide) v31 (by omega) (by have := (nI_ltI (a := 127) (b := v31) (by omega) (by omega)).mp c_115; omega)
                                              refine lv_aload_n hx hb d_Md_takeSigned_123 rfl (lv_at hl 8 rfl) ?_
                                              refine lv_iconst (v := 4) hx hb d_Md_takeSigned_124 (by decide) ?_
                                              refine lv_aload_n hx hb d_Md_takeSigned_125 rfl (lv_at hl 8 rfl) ?_
                                              refine va_get (D := D) (ci := 6) (v := .int (nI ((((((((((a + 1) + 1) + 1) + 1) + 1) + 1) + 1) + 1) + 1) + 1))) (C := R_Md) (T := F_Md) (N := 44) hx hb hts (fun w h => List.mem_cons_of_mem _ (i_Md w h)) hown hE.1 hP 0 rfl rfl 2 (by decide) (hts _ (List.mem_cons_of_mem _ iw3_56)) (fun _ h9 => h9) rfl d_Md_takeSigned_126 ?_
                                              refine lv_iconst (v := 1) hx hb d_Md_takeSigned_129 (by decide) ?_
                                              refine lv_isub hx hb d_Md_takeSigned_130 ?_
                                              rw [nI_pred]
                                              refine cV (As := [.int 4, .int (nI (((((((((a + 1) + 1) + 1) + 1) + 1) + 1) + 1) + 1) + 1))]) (rest := []) (n := 2) (wc := [(m0, .inr (6, mF g K (nI ((((((((((a + 1) + 1) + 1) + 1) + 1) + 1) + 1) + 1) + 1) + 1), 0, p) e (nI np) B))]) (wr := [((g 0), .inl (cA 3, 2000, .inl fd)), ((g 10), .inl (cA 3, 4, .inl pe))]) ⟨hx, hb, hml, hown, hts⟩ hno hlocks hl.1 (c_Md_stop l hl9 D cA ad H.size m0 g K e (nI np) B (nI ((((((((((a + 1) + 1) + 1) + 1) + 1) + 1) + 1) + 1) + 1) + 1)) p (4 : Int32) (nI (((((((((a + 1) + 1) + 1) + 1) + 1) + 1) + 1) + 1) + 1))) iw3_216 iw3_218 sel_Md_stop iw1_7 iw3_219 (by decide +kernel) rfl ⟨Nat.le_of_ble_eq_true rfl, Nat.le_of_ble_eq_true rfl⟩ ⟨Nat.le_of_ble_eq_true rfl, Nat.le_of_ble_eq_true rfl⟩ rfl (Nat.le_of_ble_eq_true rfl) d_Md_takeSigned_131 hE hP hD hS hA [0] [1, 2] rfl rfl rfl rfl (by decide) (ci := 6) rfl rfl 0 rfl (fun _ h => h.elim) (fun v_131 u_131 H locs hp_131 hP hD hS => ?_)
                                              obtain rfl := hp_131
                                              have hP : va_P D cls [(m0, .inr (6, mF g K (nI ((((((((((a + 1) + 1) + 1) + 1) + 1) + 1) + 1) + 1) + 1) + 1), 4, nI (((((((((a + 1) + 1) + 1) + 1) + 1) + 1) + 1) + 1) + 1)) e (nI np) B)), ((g 0), .inl (cA 3, 2000, .inl fd)), ((g 10), .inl (cA 3, 4, .inl pe))] H := hP.sub [2, 0, 1] rfl
                                              have hD : va_D A [(m0, .inr (6, mF g K (nI ((((((((((a + 1) + 1) + 1) + 1) + 1) + 1) + 1) + 1) + 1) + 1), 4, nI (((((((((a + 1) + 1) + 1) + 1) + 1) + 1) + 1) + 1) + 1)) e (nI np) B)), ((g 0), .inl (cA 3, 2000, .inl fd)), ((g 10), .inl (cA 3, 4, .inl pe))] := hD.sub [2, 0, 1] (by decide) rfl
                                              refine W.cs (cells' := 0) (slots' := 0) rfl rfl ?_
                                              refine W.eq (g2 := F0 m 134 ls []) rfl ?_
                                              refine lv_lload_n hx hb d_Md_takeSigned_134 rfl (lv_at hl 6 rfl) ?_
                                              refine lv_iload hx hb d_Md_takeSigned_135 (lv_at hl 3 rfl) ?_
                                              refine lv_bipush (v := 127) hx hb d_Md_takeSigned_137 (by decide) ?_
                                              refine lv_iand hx hb d_Md_takeSigned_139 ?_
                                              refine lv_i2l hx hb d_Md_takeSigned_140 rfl ?_
                                              refine lv_bipush (v := 7) hx hb d_Md_takeSigned_141 (by decide) ?_
                                              refine lv_iload hx hb d_Md_takeSigned_143 (lv_at hl 4 rfl) ?_
                                              refine lv_imul hx hb d_Md_takeSigned_145 ?_
                                              refine W.eq (g2 := F0 m 146 ls [.int 63, .long (((nI v31) &&& 127).toInt64), .long yF]) (by rw [show (7 : Int32) * 9 = 63 from by decide +kernel]) ?_
                                              refine lv_lshl hx hb d_Md_takeSigned_146 rfl ?_
                                              refine lv_lor hx hb d_Md_takeSigned_147 ?_
                                              refine lv_topl (fun yF eyF => ?_)
                                              refine lv_lstore_n (lv' := [(2, .long yF), (9, .int 0), (8, .int (nI (v31 % 2 ^ 7 / 2 ^ 0))), (7, .int 1), (6, .int (nI v31)), (5, .int 9), (10, .int 63), (4, .int 10), (0, .ref m0), (1, .int 64)]) hx hb d_Md_takeSigned_148 rfl hl (by decide) rfl (fun ls hl => ?_)
                                              refine lv_bipush (v := 7) hx hb d_Md_takeSigned_149 (by decide) ?_
                                              refine lv_iload hx hb d_Md_takeSigned_151 (lv_at hl 5 rfl) ?_
                                              refine lv_imul hx hb d_Md_takeSigned_153 ?_
                                              refine W.eq (g2 := F0 m 154 ls [.int 63]) (by rw [show (7 : Int32) * 9 = 63 from by decide +kernel]) ?_
                                              refine lv_bipush (v := 7) hx hb d_Md_takeSigned_154 (by decide) ?_
                                              refine lv_iadd hx hb d_Md_takeSigned_156 ?_
                                              refine W.eq (g2 := F0 m 157 ls [.int 70]) (by rw [show (63 : Int32) + 7 = 70 from by decide +kernel]) ?_
                                              refine lv_istore (lv' := [(10, .int 70), (2, .long yF), (9, .int 0), (8, .int (nI (v31 % 2 ^ 7 / 2 ^ 0))), (7, .int 1), (6, .int (nI v31)), (5, .int 9), (4, .int 10), (0, .ref m0), (1, .int 64)]) hx hb d_Md_takeSigned_157 hl (by decide) rfl (fun ls hl => ?_)
                                              refine lv_iload hx hb d_Md_takeSigned_159 (lv_at hl 5 rfl) ?_
                                              refine lv_sipush (v := 128) hx hb d_Md_takeSigned_161 (by decide) ?_
                                              refine lv_icmp_ge (tgt := 192) hx hb d_Md_takeSigned_164 (by decide) (fun c_164 => ?_) (fun c_164 => ?_)
                                              · refine lv_iinc (v := 10) (lv' := [(5, .int 10), (10, .int 70), (2, .long yF), (9, .int 0), (8, .int (nI (v31 % 2 ^ 7 / 2 ^ 0))), (7, .int 1), (6, .int (nI v31)), (4, .int 10), (0, .ref m0), (1, .int 64)]) hx hb d_Md_takeSigned_192 hl (k := 6) rfl (by decide) (by decide) rfl (fun ls hl => ?_)
                                                refine lv_goto (tgt := 14) hx hb d_Md_takeSigned_195 (by decide) ?_
                                                refine lv_iload hx hb d_Md_takeSigned_14 (lv_at hl 0 rfl) ?_
                                                refine lv_iload hx hb d_Md_takeSigned_16 (lv_at hl 7 rfl) ?_
                                                refine lv_icmp_ge (tgt := 198) hx hb d_Md_takeSigned_18 (by decide) (fun c_18 => ?_) (fun c_18 => absurd (by decide) c_18)
                                                refine lv_lload_n hx hb d_Md_takeSigned_198 rfl (lv_at hl 2 rfl) ?_
                                                exact cRl ((nI ((((((((((a + 1) + 1) + 1) + 1) + 1) + 1) + 1) + 1) + 1) + 1), nI 4, nI (((((((((a + 1) + 1) + 1) + 1) + 1) + 1) + 1) + 1) + 1)) : A3) hx hb hr hlocks d_Md_takeSigned_199 hS hP hD (Or.inl ⟨4, (((((((((a + 1) + 1) + 1) + 1) + 1) + 1) + 1) + 1) + 1), by rw [show pS64 b lm a = pSg b lm 10 64 a from rfl, hU9, pSg_F hr31 (by decide) hbad], ⟨by decide, by decide⟩, rfl, ⟨_, rfl⟩, ((((((((((a + 1) + 1) + 1) + 1) + 1) + 1) + 1) + 1) + 1) + 1), by omega, rfl⟩) (Nat.le_refl _) (Nat.le_refl _)
                                              · refine lv_iload hx hb d_Md_takeSigned_167 (lv_at hl 0 rfl) ?_
                                                refine lv_bipush (v := 64) hx hb d_Md_takeSigned_169 (by decide) ?_
                                                refine lv_icmp_ge (tgt := 190) hx hb d_Md_takeSigned_171 (by decide) (fun c_171 => ?_) (fun c_171 => absurd (by decide) c_171)
                                                refine lv_lload_n hx hb d_Md_takeSigned_190 rfl (lv_at hl 1 rfl) ?_
                                                exact cRl ((nI ((((((((((a + 1) + 1) + 1) + 1) + 1) + 1) + 1) + 1) + 1) + 1), nI 4, nI (((((((((a + 1) + 1) + 1) + 1) + 1) + 1) + 1) + 1) + 1)) : A3) hx hb hr hlocks d_Md_takeSigned_191 hS hP hD (Or.inl ⟨4, (((((((((a + 1) + 1) + 1) + 1) + 1) + 1) + 1) + 1) + 1), by rw [show pS64 b lm a = pSg b lm 10 64 a from rfl, hU9, pSg_F hr31 (by decide) hbad], ⟨by decide, by decide⟩, rfl, ⟨_, rfl⟩, ((((((((((a + 1) + 1) + 1) + 1) + 1) + 1) + 1) + 1) + 1) + 1), by omega, rfl⟩) (Nat.le_refl _) (Nat.le_refl _)
                                            · have hle : v31 ≤ 127 := Nat.le_of_not_lt (fun q => c_115 (nI_lt (a := 127) (b := v31) q (by omega)))
                                              refine lv_iload hx hb d_Md_takeSigned_118 (lv_at hl 0 rfl) ?_
                                              refine lv_if_ne (tgt := 134) hx hb d_Md_takeSigned_120 (by decide) (fun c_120 => absurd (by decide) c_120) (fun c_120 => ?_)
                                              have hbad : sTop 1 v31 = false := sT1f hle c_75 c_87
                                              refine lv_aload_n hx hb d_Md_takeSigned_123 rfl (lv_at hl 8 rfl) ?_
                                              refine lv_iconst (v := 4) hx hb d_Md_takeSigned_124 (by decide) ?_
                                              refine lv_aload_n hx hb d_Md_takeSigned_125 rfl (lv_at hl 8 rfl) ?_
                                              refine va_get (D := D) (ci := 6) (v := .int (nI ((((((((((a + 1) + 1) + 1) + 1) + 1) + 1) + 1) + 1) + 1) + 1))) (C := R_Md) (T := F_Md) (N := 44) hx hb hts (fun w h => List.mem_cons_of_mem _ (i_Md w h)) hown hE.1 hP 0 rfl rfl 2 (by decide) (hts _ (List.mem_cons_of_mem _ iw3_56)) (fun _ h9 => h9) rfl d_Md_takeSigned_126 ?_
                                              refine lv_iconst (v := 1) hx hb d_Md_takeSigned_129 (by decide) ?_
                                              refine lv_isub hx hb d_Md_takeSigned_130 ?_
                                              rw [nI_pred]
                                              refine cV (As := [.int 4, .int (nI (((((((((a + 1) + 1) + 1) + 1) + 1) + 1) + 1) + 1) + 1))]) (rest := []) (n := 2) (wc := [(m0, .inr (6, mF g K (nI ((((((((((a + 1) + 1) + 1) + 1) + 1) + 1) + 1) + 1) + 1) + 1), 0, p) e (nI np) B))]) (wr := [((g 0), .inl (cA 3, 2000, .inl fd)), ((g 10), .inl (cA 3, 4, .inl pe))]) ⟨hx, hb, hml, hown, hts⟩ hno hlocks hl.1 (c_Md_stop l hl9 D cA ad H.size m0 g K e (nI np) B (nI ((((((((((a + 1) + 1) + 1) + 1) + 1) + 1) + 1) + 1) + 1) + 1)) p (4 : Int32) (nI (((((((((a + 1) + 1) + 1) + 1) + 1) + 1) + 1) + 1) + 1))) iw3_216 iw3_218 sel_Md_stop iw1_7 iw3_219 (by decide +kernel) rfl ⟨Nat.le_of_ble_eq_true rfl, Nat.le_of_ble_eq_true rfl⟩ ⟨Nat.le_of_ble_eq_true rfl, Nat.le_of_ble_eq_true rfl⟩ rfl (Nat.le_of_ble_eq_true rfl) d_Md_takeSigned_131 hE hP hD hS hA [0] [1, 2] rfl rfl rfl rfl (by decide) (ci := 6) rfl rfl 0 rfl (fun _ h => h.elim) (fun v_131 u_131 H locs hp_131 hP hD hS => ?_)
                                              obtain rfl := hp_131
                                              have hP : va_P D cls [(m0, .inr (6, mF g K (nI ((((((((((a + 1) + 1) + 1) + 1) + 1) + 1) + 1) + 1) + 1) + 1), 4, nI (((((((((a + 1) + 1) + 1) + 1) + 1) + 1) + 1) + 1) + 1)) e (nI np) B)), ((g 0), .inl (cA 3, 2000, .inl fd)), ((g 10), .inl (cA 3, 4, .inl pe))] H := hP.sub [2, 0, 1] rfl
                                              have hD : va_D A [(m0, .inr (6, mF g K (nI ((((((((((a + 1) + 1) + 1) + 1) + 1) + 1) + 1) + 1) + 1) + 1), 4, nI (((((((((a + 1) + 1) + 1) + 1) + 1) + 1) + 1) + 1) + 1)) e (nI np) B)), ((g 0), .inl (cA 3, 2000, .inl fd)), ((g 10), .inl (cA 3, 4, .inl pe))] := hD.sub [2, 0, 1] (by decide) rfl
                                              refine W.cs (cells' := 0) (slots' := 0) rfl rfl ?_
                                              refine W.eq (g2 := F0 m 134 ls []) rfl ?_
                                              refine lv_lload_n hx hb d_Md_takeSigned_134 rfl (lv_at hl 6 rfl) ?_
                                              refine lv_iload hx hb d_Md_takeSigned_135 (lv_at hl 3 rfl) ?_
                                              refine lv_bipush (v := 127) hx hb d_Md_takeSigned_137 (by decide) ?_
                                              refine lv_iand hx hb d_Md_takeSigned_139 ?_
                                              refine lv_i2l hx hb d_Md_takeSigned_140 rfl ?_
                                              refine lv_bipush (v := 7) hx hb d_Md_takeSigned_141 (by decide) ?_
                                              refine lv_iload hx hb d_Md_takeSigned_143 (lv_at hl 4 rfl) ?_
                                              refine lv_imul hx hb d_Md_takeSigned_145 ?_
                                              refine W.eq (g2 := F0 m 146 ls [.int 63, .long (((nI v31) &&& 127).toInt64), .long yF]) (by rw [show (7 : Int32) * 9 = 63 from by decide +kernel]) ?_
                                              refine lv_lshl hx hb d_Md_takeSigned_146 rfl ?_
                                              refine lv_lor hx hb d_Md_takeSigned_147 ?_
                                              refine lv_topl (fun yF eyF => ?_)
                                              refine lv_lstore_n (lv' := [(2, .long yF), (9, .int 0), (8, .int (nI (v31 % 2 ^ 7 / 2 ^ 0))), (7, .int 1), (6, .int (nI v31)), (5, .int 9), (10, .int 63), (4, .int 10), (0, .ref m0), (1, .int 64)]) hx hb d_Md_takeSigned_148 rfl hl (by decide) rfl (fun ls hl => ?_)
                                              refine lv_bipush (v := 7) hx hb d_Md_takeSigned_149 (by decide) ?_
                                              refine lv_iload hx hb d_Md_takeSigned_151 (lv_at hl 5 rfl) ?_
                                              refine lv_imul hx hb d_Md_takeSigned_153 ?_
                                              refine W.eq (g2 := F0 m 154 ls [.int 63]) (by rw [show (7 : Int32) * 9 = 63 from by decide +kernel]) ?_
                                              refine lv_bipush (v := 7) hx hb d_Md_takeSigned_154 (by decide) ?_
                                              refine lv_iadd hx hb d_Md_takeSigned_156 ?_
                                              refine W.eq (g2 := F0 m 157 ls [.int 70]) (by rw [show (63 : Int32) + 7 = 70 from by decide +kernel]) ?_
                                              refine lv_istore (lv' := [(10, .int 70), (2, .long yF), (9, .int 0), (8, .int (nI (v31 % 2 ^ 7 / 2 ^ 0))), (7, .int 1), (6, .int (nI v31)), (5, .int 9), (4, .int 10), (0, .ref m0), (1, .int 64)]) hx hb d_Md_takeSigned_157 hl (by decide) rfl (fun ls hl => ?_)
                                              refine lv_iload hx hb d_Md_takeSigned_159 (lv_at hl 5 rfl) ?_
                                              refine lv_sipush (v := 128) hx hb d_Md_takeSigned_161 (by decide) ?_
                                              refine lv_icmp_ge (tgt := 192) hx hb d_Md_takeSigned_164 (by decide) (fun c_164 => ?_) (fun c_164 => ?_)
                                              · refine lv_iinc (v := 10) (lv' := [(5, .int 10), (10, .int 70), (2, .long yF), (9, .int 0), (8, .int (nI (v31 % 2 ^ 7 / 2 ^ 0))), (7, .int 1), (6, .int (nI v31)), (4, .int 10), (0, .ref m0), (1, .int 64)]) hx hb d_Md_takeSigned_192 hl (k := 6) rfl (by decide) (by decide) rfl (fun ls hl => ?_)
                                                refine lv_goto (tgt := 14) hx hb d_Md_takeSigned_195 (by decide) ?_
                                                refine lv_iload hx hb d_Md_takeSigned_14 (lv_at hl 0 rfl) ?_
                                                refine lv_iload hx hb d_Md_takeSigned_16 (lv_at hl 7 rfl) ?_
                                                refine lv_icmp_ge (tgt := 198) hx hb d_Md_takeSigned_18 (by decide) (fun c_18 => ?_) (fun c_18 => absurd (by decide) c_18)
                                                refine lv_lload_n hx hb d_Md_takeSigned_198 rfl (lv_at hl 2 rfl) ?_
                                                exact cRl ((nI ((((((((((a + 1) + 1) + 1) + 1) + 1) + 1) + 1) + 1) + 1) + 1), nI 4, nI (((((((((a + 1) + 1) + 1) + 1) + 1) + 1) + 1) + 1) + 1)) : A3) hx hb hr hlocks d_Md_takeSigned_199 hS hP hD (Or.inl ⟨4, (((((((((a + 1) + 1) + 1) + 1) + 1) + 1) + 1) + 1) + 1), by rw [show pS64 b lm a = pSg b lm 10 64 a from rfl, hU9, pSg_F hr31 (by decide) hbad], ⟨by decide, by decide⟩, rfl, ⟨_, rfl⟩, ((((((((((a + 1) + 1) + 1) + 1) + 1) + 1) + 1) + 1) + 1) + 1), by omega, rfl⟩) (Nat.le_refl _) (Nat.le_refl _)
                                              · refine lv_iload hx hb d_Md_takeSigned_167 (lv_at hl 0 rfl) ?_
                                                refine lv_bipush (v := 64) hx hb d_Md_takeSigned_169 (by decide) ?_
                                                refine lv_icmp_ge (tgt := 190) hx hb d_Md_takeSigned_171 (by decide) (fun c_171 => ?_) (fun c_171 => absurd (by decide) c_171)
                                                refine lv_lload_n hx hb d_Md_takeSigned_190 rfl (lv_at hl 1 rfl) ?_
                                                exact cRl ((nI ((((((((((a + 1) + 1) + 1) + 1) + 1) + 1) + 1) + 1) + 1) + 1), nI 4, nI (((((((((a + 1) + 1) + 1) + 1) + 1) + 1) + 1) + 1) + 1)) : A3) hx hb hr hlocks d_Md_takeSigned_191 hS hP hD (Or.inl ⟨4, (((((((((a + 1) + 1) + 1) + 1) + 1) + 1) + 1) + 1) + 1), by rw [show pS64 b lm a = pSg b lm 10 64 a from rfl, hU9, pSg_F hr31 (by decide) hbad], ⟨by decide, by decide⟩, rfl, ⟨_, rfl⟩, ((((((((((a + 1) + 1) + 1) + 1) + 1) + 1) + 1) + 1) + 1) + 1), by omega, rfl⟩) (Nat.le_refl _) (Nat.le_refl _)
                                          · refine lv_iconst (v := 1) hx hb d_Md_takeSigned_90 (by decide) ?_
                                            refine lv_goto (tgt := 95) hx hb d_Md_takeSigned_91 (by decide) ?_
                                            refine lv_istore (lv' := [(9, .int 1), (8, .int (nI (v31 % 2 ^ 7 / 2 ^ 0))), (7, .int 1), (6, .int (nI v31)), (5, .int 9), (10, .int 63), (2, .long yF), (4, .int 10), (0, .ref m0), (1, .int 64)]) hx hb d_Md_takeSigned_95 hl (by decide) rfl (fun ls hl => ?_)
                                            refine lv_aload_n hx hb d_Md_takeSigned_97 rfl (lv_at hl 8 rfl) ?_
                                            refine va_get (D := D) (ci := 6) (v := .int 0) (C := R_Md) (T := F_Md) (N := 44) hx hb hts (fun w h => List.mem_cons_of_mem _ (i_Md w h)) hown hE.1 hP 0 rfl rfl 3 (by decide) (hts _ (List.mem_cons_of_mem _ iw3_57)) (fun _ h9 => h9) rfl d_Md_takeSigned_98 ?_
                                            refine lv_if_ne (tgt := 134) hx hb d_Md_takeSigned_101 (by decide) (fun c_101 => absurd (by decide) c_101) (fun c_101 => ?_)
                                            refine lv_iload hx hb d_Md_takeSigned_104 (lv_at hl 2 rfl) ?_
                                            refine lv_bipush (v := 8) hx hb d_Md_takeSigned_106 (by decide) ?_
                                            refine lv_icmp_ge (tgt := 134) hx hb d_Md_takeSigned_108 (by decide) (fun c_108 => absurd c_108 (by decide)) (fun c_108 => ?_)
                                            refine lv_iload hx hb d_Md_takeSigned_111 (lv_at hl 3 rfl) ?_
                                            refine lv_bipush (v := 127) hx hb d_Md_takeSigned_113 (by decide) ?_
                                            refine lv_icmp_gt (tgt := 123) hx hb d_Md_takeSigned_115 (by decide) (fun c_115 => ?_) (fun c_115 => ?_)
                                            · have hbad : sTop 1 v31 = false := sTop_big 0 (by decide) v31 (by omega) (by have := (nI_ltI (a := 127) (b := v31) (by omega) (by omega)).mp c_115; omega)
                                              refine lv_aload_n hx hb d_Md_takeSigned_123 rfl (lv_at hl 8 rfl) ?_
                                              refine lv_iconst (v := 4) hx hb d_Md_takeSigned_124 (by decide) ?_
                                              refine lv_aload_n hx hb d_Md_takeSigned_125 rfl (lv_at hl 8 rfl) ?_
                                              refine va_get (D := D) (ci := 6) (v := .int (nI ((((((((((a + 1) + 1) + 1) + 1) + 1) + 1) + 1) + 1) + 1) + 1))) (C := R_Md) (T := F_Md) (N := 44) hx hb hts (fun w h => List.mem_cons_of_mem _ (i_Md w h)) hown hE.1 hP 0 rfl rfl 2 (by decide) (hts _ (List.mem_cons_of_mem _ iw3_56)) (fun _ h9 => h9) rfl d_Md_takeSigned_126 ?_
                                              refine lv_iconst (v := 1) hx hb d_Md_takeSigned_129 (by decide) ?_
                                              refine lv_isub hx hb d_Md_takeSigned_130 ?_
                                              rw [nI_pred]
                                              refine cV (As := [.int 4, .int (nI (((((((((a + 1) + 1) + 1) + 1) + 1) + 1) + 1) + 1) + 1))]) (rest := []) (n := 2) (wc := [(m0, .inr (6, mF g K (nI ((((((((((a + 1) + 1) + 1) + 1) + 1) + 1) + 1) + 1) + 1) + 1), 0, p) e (nI np) B))]) (wr := [((g 0), .inl (cA 3, 2000, .inl fd)), ((g 10), .inl (cA 3, 4, .inl pe))]) ⟨hx, hb, hml, hown, hts⟩ hno hlocks hl.1 (c_Md_stop l hl9 D cA ad H.size m0 g K e (nI np) B (nI ((((((((((a + 1) + 1) + 1) + 1) + 1) + 1) + 1) + 1) + 1) + 1)) p (4 : Int32) (nI (((((((((a + 1) + 1) + 1) + 1) + 1) + 1) + 1) + 1) + 1))) iw3_216 iw3_218 sel_Md_stop iw1_7 iw3_219 (by decide +kernel) rfl ⟨Nat.le_of_ble_eq_true rfl, Nat.le_of_ble_eq_true rfl⟩ ⟨Nat.le_of_ble_eq_true rfl, Nat.le_of_ble_eq_true rfl⟩ rfl (Nat.le_of_ble_eq_true rfl) d_Md_takeSigned_131 hE hP hD hS hA [0] [1, 2] rfl rfl rfl rfl (by decide) (ci := 6) rfl rfl 0 rfl (fun _ h => h.elim) (fun v_131 u_131 H locs hp_131 hP hD hS => ?_)
                                              obtain rfl := hp_131
                                              have hP : va_P D cls [(m0, .inr (6, mF g K (nI ((((((((((a + 1) + 1) + 1) + 1) + 1) + 1) + 1) + 1) + 1) + 1), 4, nI (((((((((a + 1) + 1) + 1) + 1) + 1) + 1) + 1) + 1) + 1)) e (nI np) B)), ((g 0), .inl (cA 3, 2000, .inl fd)), ((g 10), .inl (cA 3, 4, .inl pe))] H := hP.sub [2, 0, 1] rfl
                                              have hD : va_D A [(m0, .inr (6, mF g K (nI ((((((((((a + 1) + 1) + 1) + 1) + 1) + 1) + 1) + 1) + 1) + 1), 4, nI (((((((((a + 1) + 1) + 1) + 1) + 1) + 1) + 1) + 1) + 1)) e (nI np) B)), ((g 0), .inl (cA 3, 2000, .inl fd)), ((g 10), .inl (cA 3, 4, .inl pe))] := hD.sub [2, 0, 1] (by decide) rfl
                                              refine W.cs (cells' := 0) (slots' := 0) rfl rfl ?_
                                              refine W.eq (g2 := F0 m 134 ls []) rfl ?_
                                              refine lv_lload_n hx hb d_Md_takeSigned_134 rfl (lv_at hl 6 rfl) ?_
                                              refine lv_iload hx hb d_Md_takeSigned_135 (lv_at hl 3 rfl) ?_
                                              refine lv_bipush (v := 127) hx hb d_Md_takeSigned_137 (by decide) ?_
                                              refine lv_iand hx hb d_Md_takeSigned_139 ?_
                                              refine lv_i2l hx hb d_Md_takeSigned_140 rfl ?_
                                              refine lv_bipush (v := 7) hx hb d_Md_takeSigned_141 (by decide) ?_
                                              refine lv_iload hx hb d_Md_takeSigned_143 (lv_at hl 4 rfl) ?_
                                              refine lv_imul hx hb d_Md_takeSigned_145 ?_
                                              refine W.eq (g2 := F0 m 146 ls [.int 63, .long (((nI v31) &&& 127).toInt64), .long yF]) (by rw [show (7 : Int32) * 9 = 63 from by decide +kernel]) ?_
                                              refine lv_lshl hx hb d_Md_takeSigned_146 rfl ?_
                                              refine lv_lor hx hb d_Md_takeSigned_147 ?_
                                              refine lv_topl (fun yF eyF => ?_)
                                              refine lv_lstore_n (lv' := [(2, .long yF), (9, .int 1), (8, .int (nI (v31 % 2 ^ 7 / 2 ^ 0))), (7, .int 1), (6, .int (nI v31)), (5, .int 9), (10, .int 63), (4, .int 10), (0, .ref m0), (1, .int 64)]) hx hb d_Md_takeSigned_148 rfl hl (by decide) rfl (fun ls hl => ?_)
                                              refine lv_bipush (v := 7) hx hb d_Md_takeSigned_149 (by decide) ?_
                                              refine lv_iload hx hb d_Md_takeSigned_151 (lv_at hl 5 rfl) ?_
                                              refine lv_imul hx hb d_Md_takeSigned_153 ?_
                                              refine W.eq (g2 := F0 m 154 ls [.int 63]) (by rw [show (7 : Int32) * 9 = 63 from by decide +kernel]) ?_
                                              refine lv_bipush (v := 7) hx hb d_Md_takeSigned_154 (by decide) ?_
                                              refine lv_iadd hx hb d_Md_takeSigned_156 ?_
                                              refine W.eq (g2 := F0 m 157 ls [.int 70]) (by rw [show (63 : Int32) + 7 = 70 from by decide +kernel]) ?_
                                              refine lv_istore (lv' := [(10, .int 70), (2, .long yF), (9, .int 1), (8, .int (nI (v31 % 2 ^ 7 / 2 ^ 0))), (7, .int 1), (6, .int (nI v31)), (5, .int 9), (4, .int 10), (0, .ref m0), (1, .int 64)]) hx hb d_Md_takeSigned_157 hl (by decide) rfl (fun ls hl => ?_)
                                              refine lv_iload hx hb d_Md_takeSigned_159 (lv_at hl 5 rfl) ?_
                                              refine lv_sipush (v := 128) hx hb d_Md_takeSigned_161 (by decide) ?_
                                              refine lv_icmp_ge (tgt := 192) hx hb d_Md_takeSigned_164 (by decide) (fun c_164 => ?_) (fun c_164 => ?_)
                                              · refine lv_iinc (v := 10) (lv' := [(5, .int 10), (10, .int 70), (2, .long yF), (9, .int 1), (8, .int (nI (v31 % 2 ^ 7 / 2 ^ 0))), (7, .int 1), (6, .int (nI v31)), (4, .int 10), (0, .ref m0), (1, .int 64)]) hx hb d_Md_takeSigned_192 hl (k := 6) rfl (by decide) (by decide) rfl (fun ls hl => ?_)
                                                refine lv_goto (tgt := 14) hx hb d_Md_takeSigned_195 (by decide) ?_
                                                refine lv_iload hx hb d_Md_takeSigned_14 (lv_at hl 0 rfl) ?_
                                                refine lv_iload hx hb d_Md_takeSigned_16 (lv_at hl 7 rfl) ?_
                                                refine lv_icmp_ge (tgt := 198) hx hb d_Md_takeSigned_18 (by decide) (fun c_18 => ?_) (fun c_18 => absurd (by decide) c_18)
                                                refine lv_lload_n hx hb d_Md_takeSigned_198 rfl (lv_at hl 2 rfl) ?_
                                                exact cRl ((nI ((((((((((a + 1) + 1) + 1) + 1) + 1) + 1) + 1) + 1) + 1) + 1), nI 4, nI (((((((((a + 1) + 1) + 1) + 1) + 1) + 1) + 1) + 1) + 1)) : A3) hx hb hr hlocks d_Md_takeSigned_199 hS hP hD (Or.inl ⟨4, (((((((((a + 1) + 1) + 1) + 1) + 1) + 1) + 1) + 1) + 1), by rw [show pS64 b lm a = pSg b lm 10 64 a from rfl, hU9, pSg_F hr31 (by decide) hbad], ⟨by decide, by decide⟩, rfl, ⟨_, rfl⟩, ((((((((((a + 1) + 1) + 1) + 1) + 1) + 1) + 1) + 1) + 1) + 1), by omega, rfl⟩) (Nat.le_refl _) (Nat.le_refl _)
                                              · refine lv_iload hx hb d_Md_takeSigned_167 (lv_at hl 0 rfl) ?_
                                                refine lv_bipush (v := 64) hx hb d_Md_takeSigned_169 (by decide) ?_
                                                refine lv_icmp_ge (tgt := 190) hx hb d_Md_takeSigned_171 (by decide) (fun c_171 => ?_) (fun c_171 => absurd (by decide) c_171)
                                                refine lv_lload_n hx hb d_Md_takeSigned_190 rfl (lv_at hl 1 rfl) ?_
                                                exact cRl ((nI ((((((((((a + 1) + 1) + 1) + 1) + 1) + 1) + 1) + 1) + 1) + 1), nI 4, nI (((((((((a + 1) + 1) + 1) + 1) + 1) + 1) + 1) + 1) + 1)) : A3) hx hb hr hlocks d_Md_takeSigned_191 hS hP hD (Or.inl ⟨4, (((((((((a + 1) + 1) + 1) + 1) + 1) + 1) + 1) + 1) + 1), by rw [show pS64 b lm a = pSg b lm 10 64 a from rfl, hU9, pSg_F hr31 (by decide) hbad], ⟨by decide, by decide⟩, rfl, ⟨_, rfl⟩, ((((((((((a + 1) + 1) + 1) + 1) + 1) + 1) + 1) + 1) + 1) + 1), by omega, rfl⟩) (Nat.le_refl _) (Nat.le_refl _)
                                            · have hle : v31 ≤ 127 := Nat.le_of_not_lt (fun q => c_115 (nI_lt (a := 127) (b := v31) q (by omega)))
                                              refine lv_iload hx hb d_Md_takeSigned_118 (lv_at hl 0 rfl) ?_
                                              refine lv_if_ne (tgt := 134) hx hb d_Md_takeSigned_120 (by decide) (fun c_120 => ?_) (fun c_120 => absurd c_120 (by decide))
                                              have hst : sTop 1 v31 = true := sT1t hle (by first | exact Or.inl c_75 | exact Or.inr c_87)
                                              have ho9 : ¬ (1 ≤ 7 ∧ sTop 1 v31 = false) := fun q => by rw [hst] at q; exact absurd q.2 (by decide)
                                              refine lv_lload_n hx hb d_Md_takeSigned_134 rfl (lv_at hl 6 rfl) ?_
                                              refine lv_iload hx hb d_Md_takeSigned_135 (lv_at hl 3 rfl) ?_
                                              refine lv_bipush (v := 127) hx hb d_Md_takeSigned_137 (by decide) ?_
                                              refine lv_iand hx hb d_Md_takeSigned_139 ?_
                                              refine lv_i2l hx hb d_Md_takeSigned_140 rfl ?_
                                              refine lv_bipush (v := 7) hx hb d_Md_takeSigned_141 (by decide) ?_
                                              refine lv_iload hx hb d_Md_takeSigned_143 (lv_at hl 4 rfl) ?_
                                              refine lv_imul hx hb d_Md_takeSigned_145 ?_
                                              refine W.eq (g2 := F0 m 146 ls [.int 63, .long (((nI v31) &&& 127).toInt64), .long yF]) (by rw [show (7 : Int32) * 9 = 63 from by decide +kernel]) ?_
                                              refine lv_lshl hx hb d_Md_takeSigned_146 rfl ?_
                                              refine lv_lor hx hb d_Md_takeSigned_147 ?_
                                              refine lv_topl (fun yF eyF => ?_)
                                              refine lv_lstore_n (lv' := [(2, .long yF), (9, .int 1), (8, .int (nI (v31 % 2 ^ 7 / 2 ^ 0))), (7, .int 1), (6, .int (nI v31)), (5, .int 9), (10, .int 63), (4, .int 10), (0, .ref m0), (1, .int 64)]) hx hb d_Md_takeSigned_148 rfl hl (by decide) rfl (fun ls hl => ?_)
                                              refine lv_bipush (v := 7) hx hb d_Md_takeSigned_149 (by decide) ?_
                                              refine lv_iload hx hb d_Md_takeSigned_151 (lv_at hl 5 rfl) ?_
                                              refine lv_imul hx hb d_Md_takeSigned_153 ?_
                                              refine W.eq (g2 := F0 m 154 ls [.int 63]) (by rw [show (7 : Int32) * 9 = 63 from by decide +kernel]) ?_
                                              refine lv_bipush (v := 7) hx hb d_Md_takeSigned_154 (by decide) ?_
                                              refine lv_iadd hx hb d_Md_takeSigned_156 ?_
                                              refine W.eq (g2 := F0 m 157 ls [.int 70]) (by rw [show (63 : Int32) + 7 = 70 from by decide +kernel]) ?_
                                              refine lv_istore (lv' := [(10, .int 70), (2, .long yF), (9, .int 1), (8, .int (nI (v31 % 2 ^ 7 / 2 ^ 0))), (7, .int 1), (6, .int (nI v31)), (5, .int 9), (4, .int 10), (0, .ref m0), (1, .int 64)]) hx hb d_Md_takeSigned_157 hl (by decide) rfl (fun ls hl => ?_)
                                              refine lv_iload hx hb d_Md_takeSigned_159 (lv_at hl 5 rfl) ?_
                                              refine lv_sipush (v := 128) hx hb d_Md_takeSigned_161 (by decide) ?_
                                              refine lv_icmp_ge (tgt := 192) hx hb d_Md_takeSigned_164 (by decide) (fun c_164 => ?_) (fun c_164 => ?_)
                                              · have hd9 : ¬ v31 < 128 := fun q => absurd ((nI_leI (a := 128) (b := v31) (by omega) (by omega)).mp c_164) (by omega)
                                                exact absurd hle (by omega)
                                              · have hd9 : v31 < 128 := Nat.lt_of_not_le (fun q => c_164 (nI_le (a := 128) (b := v31) q (by omega)))
                                                refine lv_iload hx hb d_Md_takeSigned_167 (lv_at hl 0 rfl) ?_
                                                refine lv_bipush (v := 64) hx hb d_Md_takeSigned_169 (by decide) ?_
                                                refine lv_icmp_ge (tgt := 190) hx hb d_Md_takeSigned_171 (by decide) (fun c_171 => ?_) (fun c_171 => absurd (by decide) c_171)
                                                refine lv_lload_n hx hb d_Md_takeSigned_190 rfl (lv_at hl 1 rfl) ?_
                                                exact cRl ((nI ((((((((((a + 1) + 1) + 1) + 1) + 1) + 1) + 1) + 1) + 1) + 1), 0, p) : A3) hx hb hr hlocks d_Md_takeSigned_191 hS hP hD (Or.inr ⟨v31 / 64 % 2, ((((((((((a + 1) + 1) + 1) + 1) + 1) + 1) + 1) + 1) + 1) + 1), hU9.trans (pSg_E hr31 ho9 hd9), rfl, _, rfl⟩) (Nat.le_refl _) (Nat.le_refl _)
                                    · have hd8 : v30 < 128 := Nat.lt_of_not_le (fun q => c_164 (nI_le (a := 128) (b := v30) q (by omega)))
                                      refine lv_iload hx hb d_Md_takeSigned_167 (lv_at hl 0 rfl) ?_
                                      refine lv_bipush (v := 64) hx hb d_Md_takeSigned_169 (by decide) ?_
                                      refine lv_icmp_ge (tgt := 190) hx hb d_Md_takeSigned_171 (by decide) (fun c_171 => absurd c_171 (by decide)) (fun c_171 => ?_)
                                      refine lv_lload_n hx hb d_Md_takeSigned_174 rfl (lv_at hl 1 rfl) ?_
                                      refine lv_bipush (v := 64) hx hb d_Md_takeSigned_175 (by decide) ?_
                                      refine lv_iload hx hb d_Md_takeSigned_177 (lv_at hl 0 rfl) ?_
                                      refine lv_isub hx hb d_Md_takeSigned_179 ?_
                                      refine W.eq (g2 := F0 m 180 ls [.int 1, .long yF]) (by rw [show (64 : Int32) - 63 = 1 from by decide +kernel]) ?_
                                      refine lv_lshl hx hb d_Md_takeSigned_180 rfl ?_
                                      refine lv_bipush (v := 64) hx hb d_Md_takeSigned_181 (by decide) ?_
                                      refine lv_iload hx hb d_Md_takeSigned_183 (lv_at hl 0 rfl) ?_
                                      refine lv_isub hx hb d_Md_takeSigned_185 ?_
                                      refine W.eq (g2 := F0 m 186 ls [.int 1, .long (yF <<< ((1 : Int32).toInt64 &&& 63))]) (by rw [show (64 : Int32) - 63 = 1 from by decide +kernel]) ?_
                                      refine lv_lshr hx hb d_Md_takeSigned_186 rfl ?_
                                      refine lv_goto (tgt := 191) hx hb d_Md_takeSigned_187 (by decide) ?_
                                      exact cRl ((nI (((((((((a + 1) + 1) + 1) + 1) + 1) + 1) + 1) + 1) + 1), 0, p) : A3) hx hb hr hlocks d_Md_takeSigned_191 hS hP hD (Or.inr ⟨v30 / 64 % 2, (((((((((a + 1) + 1) + 1) + 1) + 1) + 1) + 1) + 1) + 1), hU8.trans (pSg_E hr30 ho8 hd8), rfl, _, rfl⟩) (Nat.le_refl _) (Nat.le_refl _)
                                · have hd7 : v29 < 128 := Nat.lt_of_not_le (fun q => c_164 (nI_le (a := 128) (b := v29) q (by omega)))
                                  refine lv_iload hx hb d_Md_takeSigned_167 (lv_at hl 0 rfl) ?_
                                  refine lv_bipush (v := 64) hx hb d_Md_takeSigned_169 (by decide) ?_
                                  refine lv_icmp_ge (tgt := 190) hx hb d_Md_takeSigned_171 (by decide) (fun c_171 => absurd c_171 (by decide)) (fun c_171 => ?_)
                                  refine lv_lload_n hx hb d_Md_takeSigned_174 rfl (lv_at hl 1 rfl) ?_
                                  refine lv_bipush (v := 64) hx hb d_Md_takeSigned_175 (by decide) ?_
                                  refine lv_iload hx hb d_Md_takeSigned_177 (lv_at hl 0 rfl) ?_
                                  refine lv_isub hx hb d_Md_takeSigned_179 ?_
                                  refine W.eq (g2 := F0 m 180 ls [.int 8, .long yF]) (by rw [show (64 : Int32) - 56 = 8 from by decide +kernel]) ?_
                                  refine lv_lshl hx hb d_Md_takeSigned_180 rfl ?_
                                  refine lv_bipush (v := 64) hx hb d_Md_takeSigned_181 (by decide) ?_
                                  refine lv_iload hx hb d_Md_takeSigned_183 (lv_at hl 0 rfl) ?_
                                  refine lv_isub hx hb d_Md_takeSigned_185 ?_
                                  refine W.eq (g2 := F0 m 186 ls [.int 8, .long (yF <<< ((8 : Int32).toInt64 &&& 63))]) (by rw [show (64 : Int32) - 56 = 8 from by decide +kernel]) ?_
                                  refine lv_lshr hx hb d_Md_takeSigned_186 rfl ?_
                                  refine lv_goto (tgt := 191) hx hb d_Md_takeSigned_187 (by decide) ?_
                                  exact cRl ((nI ((((((((a + 1) + 1) + 1) + 1) + 1) + 1) + 1) + 1), 0, p) : A3) hx hb hr hlocks d_Md_takeSigned_191 hS hP hD (Or.inr ⟨v29 / 64 % 2, ((((((((a + 1) + 1) + 1) + 1) + 1) + 1) + 1) + 1), hU7.trans (pSg_E hr29 ho7 hd7), rfl, _, rfl⟩) (Nat.le_refl _) (Nat.le_refl _)
                            · have hd6 : v28 < 128 := Nat.lt_of_not_le (fun q => c_164 (nI_le (a := 128) (b := v28) q (by omega)))
                              refine lv_iload hx hb d_Md_takeSigned_167 (lv_at hl 0 rfl) ?_
                              refine lv_bipush (v := 64) hx hb d_Md_takeSigned_169 (by decide) ?_
                              refine lv_icmp_ge (tgt := 190) hx hb d_Md_takeSigned_171 (by decide) (fun c_171 => absurd c_171 (by decide)) (fun c_171 => ?_)
                              refine lv_lload_n hx hb d_Md_takeSigned_174 rfl (lv_at hl 1 rfl) ?_
                              refine lv_bipush (v := 64) hx hb d_Md_takeSigned_175 (by decide) ?_
                              refine lv_iload hx hb d_Md_takeSigned_177 (lv_at hl 0 rfl) ?_
                              refine lv_isub hx hb d_Md_takeSigned_179 ?_
                              refine W.eq (g2 := F0 m 180 ls [.int 15, .long yF]) (by rw [show (64 : Int32) - 49 = 15 from by decide +kernel]) ?_
                              refine lv_lshl hx hb d_Md_takeSigned_180 rfl ?_
                              refine lv_bipush (v := 64) hx hb d_Md_takeSigned_181 (by decide) ?_
                              refine lv_iload hx hb d_Md_takeSigned_183 (lv_at hl 0 rfl) ?_
                              refine lv_isub hx hb d_Md_takeSigned_185 ?_
                              refine W.eq (g2 := F0 m 186 ls [.int 15, .long (yF <<< ((15 : Int32).toInt64 &&& 63))]) (by rw [show (64 : Int32) - 49 = 15 from by decide +kernel]) ?_
                              refine lv_lshr hx hb d_Md_takeSigned_186 rfl ?_
                              refine lv_goto (tgt := 191) hx hb d_Md_takeSigned_187 (by decide) ?_
                              exact cRl ((nI (((((((a + 1) + 1) + 1) + 1) + 1) + 1) + 1), 0, p) : A3) hx hb hr hlocks d_Md_takeSigned_191 hS hP hD (Or.inr ⟨v28 / 64 % 2, (((((((a + 1) + 1) + 1) + 1) + 1) + 1) + 1), hU6.trans (pSg_E hr28 ho6 hd6), rfl, _, rfl⟩) (Nat.le_refl _) (Nat.le_refl _)
                        · have hd5 : v27 < 128 := Nat.lt_of_not_le (fun q => c_164 (nI_le (a := 128) (b := v27) q (by omega)))
                          refine lv_iload hx hb d_Md_takeSigned_167 (lv_at hl 0 rfl) ?_
                          refine lv_bipush (v := 64) hx hb d_Md_takeSigned_169 (by decide) ?_
                          refine lv_icmp_ge (tgt := 190) hx hb d_Md_takeSigned_171 (by decide) (fun c_171 => absurd c_171 (by decide)) (fun c_171 => ?_)
                          refine lv_lload_n hx hb d_Md_takeSigned_174 rfl (lv_at hl 1 rfl) ?_
                          refine lv_bipush (v := 64) hx hb d_Md_takeSigned_175 (by decide) ?_
                          refine lv_iload hx hb d_Md_takeSigned_177 (lv_at hl 0 rfl) ?_
                          refine lv_isub hx hb d_Md_takeSigned_179 ?_
                          refine W.eq (g2 := F0 m 180 ls [.int 22, .long yF]) (by rw [show (64 : Int32) - 42 = 22 from by decide +kernel]) ?_
                          refine lv_lshl hx hb d_Md_takeSigned_180 rfl ?_
                          refine lv_bipush (v := 64) hx hb d_Md_takeSigned_181 (by decide) ?_
                          refine lv_iload hx hb d_Md_takeSigned_183 (lv_at hl 0 rfl) ?_
                          refine lv_isub hx hb d_Md_takeSigned_185 ?_
                          refine W.eq (g2 := F0 m 186 ls [.int 22, .long (yF <<< ((22 : Int32).toInt64 &&& 63))]) (by rw [show (64 : Int32) - 42 = 22 from by decide +kernel]) ?_
                          refine lv_lshr hx hb d_Md_takeSigned_186 rfl ?_
                          refine lv_goto (tgt := 191) hx hb d_Md_takeSigned_187 (by decide) ?_
                          exact cRl ((nI ((((((a + 1) + 1) + 1) + 1) + 1) + 1), 0, p) : A3) hx hb hr hlocks d_Md_takeSigned_191 hS hP hD (Or.inr ⟨v27 / 64 % 2, ((((((a + 1) + 1) + 1) + 1) + 1) + 1), hU5.trans (pSg_E hr27 ho5 hd5), rfl, _, rfl⟩) (Nat.le_refl _) (Nat.le_refl _)
                    · have hd4 : v26 < 128 := Nat.lt_of_not_le (fun q => c_164 (nI_le (a := 128) (b := v26) q (by omega)))
                      refine lv_iload hx hb d_Md_takeSigned_167 (lv_at hl 0 rfl) ?_
                      refine lv_bipush (v := 64) hx hb d_Md_takeSigned_169 (by decide) ?_
                      refine lv_icmp_ge (tgt := 190) hx hb d_Md_takeSigned_171 (by decide) (fun c_171 => absurd c_171 (by decide)) (fun c_171 => ?_)
                      refine lv_lload_n hx hb d_Md_takeSigned_174 rfl (lv_at hl 1 rfl) ?_
                      refine lv_bipush (v := 64) hx hb d_Md_takeSigned_175 (by decide) ?_
                      refine lv_iload hx hb d_Md_takeSigned_177 (lv_at hl 0 rfl) ?_
                      refine lv_isub hx hb d_Md_takeSigned_179 ?_
                      refine W.eq (g2 := F0 m 180 ls [.int 29, .long yF]) (by rw [show (64 : Int32) - 35 = 29 from by decide +kernel]) ?_
                      refine lv_lshl hx hb d_Md_takeSigned_180 rfl ?_
                      refine lv_bipush (v := 64) hx hb d_Md_takeSigned_181 (by decide) ?_
                      refine lv_iload hx hb d_Md_takeSigned_183 (lv_at hl 0 rfl) ?_
                      refine lv_isub hx hb d_Md_takeSigned_185 ?_
                      refine W.eq (g2 := F0 m 186 ls [.int 29, .long (yF <<< ((29 : Int32).toInt64 &&& 63))]) (by rw [show (64 : Int32) - 35 = 29 from by decide +kernel]) ?_
                      refine lv_lshr hx hb d_Md_takeSigned_186 rfl ?_
                      refine lv_goto (tgt := 191) hx hb d_Md_takeSigned_187 (by decide) ?_
                      exact cRl ((nI (((((a + 1) + 1) + 1) + 1) + 1), 0, p) : A3) hx hb hr hlocks d_Md_takeSigned_191 hS hP hD (Or.inr ⟨v26 / 64 % 2, (((((a + 1) + 1) + 1) + 1) + 1), hU4.trans (pSg_E hr26 ho4 hd4), rfl, _, rfl⟩) (Nat.le_refl _) (Nat.le_refl _)
                · have hd3 : v25 < 128 := Nat.lt_of_not_le (fun q => c_164 (nI_le (a := 128) (b := v25) q (by omega)))
                  refine lv_iload hx hb d_Md_takeSigned_167 (lv_at hl 0 rfl) ?_
                  refine lv_bipush (v := 64) hx hb d_Md_takeSigned_169 (by decide) ?_
                  refine lv_icmp_ge (tgt := 190) hx hb d_Md_takeSigned_171 (by decide) (fun c_171 => absurd c_171 (by decide)) (fun c_171 => ?_)
                  refine lv_lload_n hx hb d_Md_takeSigned_174 rfl (lv_at hl 1 rfl) ?_
                  refine lv_bipush (v := 64) hx hb d_Md_takeSigned_175 (by decide) ?_
                  refine lv_iload hx hb d_Md_takeSigned_177 (lv_at hl 0 rfl) ?_
                  refine lv_isub hx hb d_Md_takeSigned_179 ?_
                  refine W.eq (g2 := F0 m 180 ls [.int 36, .long yF]) (by rw [show (64 : Int32) - 28 = 36 from by decide +kernel]) ?_
                  refine lv_lshl hx hb d_Md_takeSigned_180 rfl ?_
                  refine lv_bipush (v := 64) hx hb d_Md_takeSigned_181 (by decide) ?_
                  refine lv_iload hx hb d_Md_takeSigned_183 (lv_at hl 0 rfl) ?_
                  refine lv_isub hx hb d_Md_takeSigned_185 ?_
                  refine W.eq (g2 := F0 m 186 ls [.int 36, .long (yF <<< ((36 : Int32).toInt64 &&& 63))]) (by rw [show (64 : Int32) - 28 = 36 from by decide +kernel]) ?_
                  refine lv_lshr hx hb d_Md_takeSigned_186 rfl ?_
                  refine lv_goto (tgt := 191) hx hb d_Md_takeSigned_187 (by decide) ?_
                  exact cRl ((nI ((((a + 1) + 1) + 1) + 1), 0, p) : A3) hx hb hr hlocks d_Md_takeSigned_191 hS hP hD (Or.inr ⟨v25 / 64 % 2, ((((a + 1) + 1) + 1) + 1), hU3.trans (pSg_E hr25 ho3 hd3), rfl, _, rfl⟩) (Nat.le_refl _) (Nat.le_refl _)
            · have hd2 : v24 < 128 := Nat.lt_of_not_le (fun q => c_164 (nI_le (a := 128) (b := v24) q (by omega)))
              refine lv_iload hx hb d_Md_takeSigned_167 (lv_at hl 0 rfl) ?_
              refine lv_bipush (v := 64) hx hb d_Md_takeSigned_169 (by decide) ?_
              refine lv_icmp_ge (tgt := 190) hx hb d_Md_takeSigned_171 (by decide) (fun c_171 => absurd c_171 (by decide)) (fun c_171 => ?_)
              refine lv_lload_n hx hb d_Md_takeSigned_174 rfl (lv_at hl 1 rfl) ?_
              refine lv_bipush (v := 64) hx hb d_Md_takeSigned_175 (by decide) ?_
              refine lv_iload hx hb d_Md_takeSigned_177 (lv_at hl 0 rfl) ?_
              refine lv_isub hx hb d_Md_takeSigned_179 ?_
              refine W.eq (g2 := F0 m 180 ls [.int 43, .long yF]) (by rw [show (64 : Int32) - 21 = 43 from by decide +kernel]) ?_
              refine lv_lshl hx hb d_Md_takeSigned_180 rfl ?_
              refine lv_bipush (v := 64) hx hb d_Md_takeSigned_181 (by decide) ?_
              refine lv_iload hx hb d_Md_takeSigned_183 (lv_at hl 0 rfl) ?_
              refine lv_isub hx hb d_Md_takeSigned_185 ?_
              refine W.eq (g2 := F0 m 186 ls [.int 43, .long (yF <<< ((43 : Int32).toInt64 &&& 63))]) (by rw [show (64 : Int32) - 21 = 43 from by decide +kernel]) ?_
              refine lv_lshr hx hb d_Md_takeSigned_186 rfl ?_
              refine lv_goto (tgt := 191) hx hb d_Md_takeSigned_187 (by decide) ?_
              exact cRl ((nI (((a + 1) + 1) + 1), 0, p) : A3) hx hb hr hlocks d_Md_takeSigned_191 hS hP hD (Or.inr ⟨v24 / 64 % 2, (((a + 1) + 1) + 1), hU2.trans (pSg_E hr24 ho2 hd2), rfl, _, rfl⟩) (Nat.le_refl _) (Nat.le_refl _)
        · have hd1 : v23 < 128 := Nat.lt_of_not_le (fun q => c_164 (nI_le (a := 128) (b := v23) q (by omega)))
          refine lv_iload hx hb d_Md_takeSigned_167 (lv_at hl 0 rfl) ?_
          refine lv_bipush (v := 64) hx hb d_Md_takeSigned_169 (by decide) ?_
          refine lv_icmp_ge (tgt := 190) hx hb d_Md_takeSigned_171 (by decide) (fun c_171 => absurd c_171 (by decide)) (fun c_171 => ?_)
          refine lv_lload_n hx hb d_Md_takeSigned_174 rfl (lv_at hl 1 rfl) ?_
          refine lv_bipush (v := 64) hx hb d_Md_takeSigned_175 (by decide) ?_
          refine lv_iload hx hb d_Md_takeSigned_177 (lv_at hl 0 rfl) ?_
          refine lv_isub hx hb d_Md_takeSigned_179 ?_
          refine W.eq (g2 := F0 m 180 ls [.int 50, .long yF]) (by rw [show (64 : Int32) - 14 = 50 from by decide +kernel]) ?_
          refine lv_lshl hx hb d_Md_takeSigned_180 rfl ?_
          refine lv_bipush (v := 64) hx hb d_Md_takeSigned_181 (by decide) ?_
          refine lv_iload hx hb d_Md_takeSigned_183 (lv_at hl 0 rfl) ?_
          refine lv_isub hx hb d_Md_takeSigned_185 ?_
          refine W.eq (g2 := F0 m 186 ls [.int 50, .long (yF <<< ((50 : Int32).toInt64 &&& 63))]) (by rw [show (64 : Int32) - 14 = 50 from by decide +kernel]) ?_
          refine lv_lshr hx hb d_Md_takeSigned_186 rfl ?_
          refine lv_goto (tgt := 191) hx hb d_Md_takeSigned_187 (by decide) ?_
          exact cRl ((nI ((a + 1) + 1), 0, p) : A3) hx hb hr hlocks d_Md_takeSigned_191 hS hP hD (Or.inr ⟨v23 / 64 % 2, ((a + 1) + 1), hU1.trans (pSg_E hr23 ho1 hd1), rfl, _, rfl⟩) (Nat.le_refl _) (Nat.le_refl _)
    · have hd0 : v22 < 128 := Nat.lt_of_not_le (fun q => c_164 (nI_le (a := 128) (b := v22) q (by omega)))
      refine lv_iload hx hb d_Md_takeSigned_167 (lv_at hl 0 rfl) ?_
      refine lv_bipush (v := 64) hx hb d_Md_takeSigned_169 (by decide) ?_
      refine lv_icmp_ge (tgt := 190) hx hb d_Md_takeSigned_171 (by decide) (fun c_171 => absurd c_171 (by decide)) (fun c_171 => ?_)
      refine lv_lload_n hx hb d_Md_takeSigned_174 rfl (lv_at hl 1 rfl) ?_
      refine lv_bipush (v := 64) hx hb d_Md_takeSigned_175 (by decide) ?_
      refine lv_iload hx hb d_Md_takeSigned_177 (lv_at hl 0 rfl) ?_
      refine lv_isub hx hb d_Md_takeSigned_179 ?_
      refine W.eq (g2 := F0 m 180 ls [.int 57, .long yF]) (by rw [show (64 : Int32) - 7 = 57 from by decide +kernel]) ?_
      refine lv_lshl hx hb d_Md_takeSigned_180 rfl ?_
      refine lv_bipush (v := 64) hx hb d_Md_takeSigned_181 (by decide) ?_
      refine lv_iload hx hb d_Md_takeSigned_183 (lv_at hl 0 rfl) ?_
      refine lv_isub hx hb d_Md_takeSigned_185 ?_
      refine W.eq (g2 := F0 m 186 ls [.int 57, .long (yF <<< ((57 : Int32).toInt64 &&& 63))]) (by rw [show (64 : Int32) - 7 = 57 from by decide +kernel]) ?_
      refine lv_lshr hx hb d_Md_takeSigned_186 rfl ?_
      refine lv_goto (tgt := 191) hx hb d_Md_takeSigned_187 (by decide) ?_
      exact cRl ((nI (a + 1), 0, p) : A3) hx hb hr hlocks d_Md_takeSigned_191 hS hP hD (Or.inr ⟨v22 / 64 % 2, (a + 1), hU0.trans (pSg_E hr22 ho0 hd0), rfl, _, rfl⟩) (Nat.le_refl _) (Nat.le_refl _)
