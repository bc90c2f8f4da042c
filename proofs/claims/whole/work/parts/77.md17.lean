theorem repLoc_pref {b : Nat → Nat} {lm : Nat} : ∀ (n : Nat) (acc : List Int64) (s a : Nat) (it : List Int64) (s' a' : Nat), a ≤ lm → repLoc b lm n acc s a = .inr ((it, s'), a') → (∃ l2, it = acc ++ l2 ∧ l2.length = 2 * n) ∧ a + n ≤ a' ∧ a' ≤ lm := by
  intro n
  induction n with
  | zero => intro acc s a it s' a' ha h; rw [repLoc] at h; cases h; exact ⟨⟨[], by simp⟩, by omega, ha⟩
  | succ n ih =>
    intro acc s a it s' a' ha h
    rw [repLoc] at h
    obtain ⟨v, a1, q1, r1⟩ := bnd_ok h
    obtain ⟨g, a2, q2, r2⟩ := bnd_ok r1
    have e1 := pU32_ok ha q1
    have e2 := pType_ok q2
    obtain ⟨⟨l2, e3, e4⟩, e5, e6⟩ := ih _ _ _ _ _ _ (by omega) r2
    refine ⟨⟨lN v :: lN g :: l2, by rw [e3]; simp, by simp; omega⟩, by omega, e6⟩
theorem repU_pref {b : Nat → Nat} {lm : Nat} : ∀ (n : Nat) (acc : List Int64) (a : Nat) (it : List Int64) (a' : Nat), a ≤ lm → repU b lm n acc a = .inr (it, a') → (∃ l2, it = acc ++ l2 ∧ l2.length = n) ∧ a + n ≤ a' ∧ a' ≤ lm := by
  intro n
  induction n with
  | zero => intro acc a it a' ha h; rw [repU] at h; cases h; exact ⟨⟨[], by simp⟩, by omega, ha⟩
  | succ n ih =>
    intro acc a it a' ha h
    rw [repU] at h
    obtain ⟨v, a1, q1, r1⟩ := bnd_ok h
    have e1 := pU32_ok ha q1
    obtain ⟨⟨l2, e3, e4⟩, e5, e6⟩ := ih _ _ _ _ (by omega) r1
    refine ⟨⟨lN v :: l2, by rw [e3]; simp, by simp; omega⟩, by omega, e6⟩
theorem repX_pref {b : Nat → Nat} {lm : Nat} {dc : Bool} : ∀ (n : Nat) (acc : List Int64) (a : Nat) (it : List Int64) (a' : Nat), a ≤ lm → repX b lm dc n acc a = .inr (it, a') → it.length = acc.length + n ∧ a + n ≤ a' ∧ a' ≤ lm := by
  intro n
  induction n with
  | zero => intro acc a it a' ha h; rw [repX] at h; cases h; exact ⟨rfl, by omega, ha⟩
  | succ n ih =>
    intro acc a it a' ha h
    rw [repX] at h
    obtain ⟨v, a1, q1, r1⟩ := bnd_ok h
    have e1 := pExpr_ok ha q1
    obtain ⟨e3, e5, e6⟩ := ih _ _ _ _ (by omega) r1
    refine ⟨by rw [e3]; simp; omega, by omega, e6⟩
theorem lst_in {z : Nat → Int64} {cs cn nl M j : Nat} {LL it : List Int64} (h1 : z cn = lN M) (h2 : z cs = lN nl) (hM : M < 2 ^ 31) (hnl : nl < 2 ^ 31) (hl : it.length = M) (hs : seg LL nl it) (hj : j < M) : lst z cs cn LL j = it.getD j 0 := by
  rw [lst, h1, if_neg (fun q => absurd ((pk_lLE (by omega) (by omega)).mp q) (by omega)), h2, lN_i, nI_clamp hnl]
  exact hs.2 j (by omega)
theorem lst_out {z : Nat → Int64} {cs cn M j : Nat} {LL : List Int64} (h1 : z cn = lN M) (hM : M < 2 ^ 31) (hj9 : j < 2 ^ 31) (hj : M ≤ j) : lst z cs cn LL j = -1 := by
  rw [lst, h1, if_pos ((pk_lLE (by omega) (by omega)).mpr hj)]
theorem getD_at {acc l2 : List Int64} {x : Int64} {i : Nat} (h : acc.length = i) : (acc ++ x :: l2).getD i 0 = x := by
  rw [List.getD_eq_getElem?_getD, List.getElem?_append_right (by omega), h, Nat.sub_self]
  rfl
theorem pEnter_inv {b : Nat → Nat} {lm a l2 a' : Nat} (h : pEnter b lm a = .inr (l2, a')) : ∃ v, pU32 b lm a = .inr (v, a') := by
  cases hx : pU32 b lm a with
  | inl z => rw [pEnter_T hx] at h; cases h
  | inr z =>
    obtain ⟨g, a1⟩ := z
    by_cases c : lm - a1 < g
    · rw [pEnter_F hx c] at h; cases h
    · rw [pEnter_E hx c] at h; cases h; exact ⟨g, rfl⟩
set_option maxHeartbeats 4000000 in
set_option maxRecDepth 100000 in
/-- lookBody(t, what) -/
theorem c_Md_lookBody (l : Launch) (hl9 : l.stackTraces = false) (D : va_G) (cA : Nat → ClassId) (ad : Nat → Nat) (sz : Nat) (m0 : Nat) (g : Nat → Nat) (K : MK) (A0 : A3) (e np : Int32) (B : MB) (yb : Nat → Int32) (b : Nat → Nat) (lm : Nat) (hlm : lm ≤ 2000) (hyb : ∀ i, i < lm → yb i = nI (b i)) (hb9 : ∀ i, b i < 256) (ow fi be : Nat → Int32) (X : XL) (hXH : XH ow fi be X) (hXf : ∀ x ∈ X, x.1 < 2000 ∧ x.2.1 ≤ 2000 ∧ ∃ z : Nat, x.2.2 = some z ∧ z ≤ 2000) (hX : X.length ≤ 2000) (a : Nat) (ha : a ≤ lm) (LL : List Int64) (t : Nat) (ht : t < 2000) (l2 a1 n a2 : Nat) (it : List Int64) (s_ a3 a4 nl : Nat) (hd1 : pEnter b lm a = .inr (l2, a1)) (hd2 : pU32 b l2 a1 = .inr (n, a2)) (hd3 : repLoc b l2 n [] 0 a2 = .inr ((it, s_), a3)) (hseg : seg LL nl it) (hexx : exO t X = [(a3, a4)]) (hnl : nl < 2 ^ 31) (ha4 : a4 ≤ 2000) (wh : Nat) (hwh : wh < 2 ^ 31) :
    cM l y_Md_lookBody (.code y_Md_lookBody b_Md_lookBody 9 (some .long) :: wAll) ({ frames := 2, cells := 0, slots := 0, locals := 48 }) D cA ad [.ref m0, .int (nI t), .int (nI wh)] [(m0, .inr (6, mF g (K.1, K.2.1, K.2.2.1, K.2.2.2.1, nI X.length, K.2.2.2.2.2.1, K.2.2.2.2.2.2.1, K.2.2.2.2.2.2.2.1, nI a) A0 e np B)), ((g 30), .inl (cA 3, 2000, .inl yb)), ((g 38), .inl (cA 3, 2000, .inl ow)), ((g 39), .inl (cA 3, 2000, .inl fi)), ((g 40), .inl (cA 3, 2000, .inl be))] sz (fun v (_ : Int32) => v = some (.long (lkS 8 (vp_updL (vp_updL (vp_updL (vp_updL (vp_updL (vp_updL c_1 0 (lN n)) 6 (lN nl)) 7 (lN (2 * n))) 1 (lN s_)) 4 (lN a3)) 5 (lN a4)) LL wh))) (fun _ => False) (fun (q : Int32) => [(m0, .inr (6, mF g (K.1, K.2.1, K.2.2.1, K.2.2.2.1, nI X.length, K.2.2.2.2.2.1, K.2.2.2.2.2.2.1, K.2.2.2.2.2.2.2.1, q) A0 e np B)), ((g 30), .inl (cA 3, 2000, .inl yb)), ((g 38), .inl (cA 3, 2000, .inl ow)), ((g 39), .inl (cA 3, 2000, .inl fi)), ((g 40), .inl (cA 3, 2000, .inl be))]) (fun _ => (0, 0)) := by
  refine cM.ofW (cc := b_Md_lookBody) (maxL := 9) (ret := (some .long)) (by decide) (Nat.le_of_ble_eq_true rfl) ?_
  intro pg ev s m bw meth cdx A ls hF hsz hA hE hP hD hl
  obtain ⟨⟨hx, hb, hml, hown, hts⟩, hr, hno, hlocks, hin⟩ := hF
  subst hsz
  have hown : s.vm.findClass "ModuleBytesModel" = some m.cls := hown
  have hS : va_S A s.heap s.heap [] := va_S.rf
  have hl : lv_has ls 9 [(0, .ref m0), (1, .int (nI t)), (2, .int (nI wh))] := hl
  have hP : va_P D cls [(m0, .inr (6, mF g (K.1, K.2.1, K.2.2.1, K.2.2.2.1, nI X.length, K.2.2.2.2.2.1, K.2.2.2.2.2.2.1, K.2.2.2.2.2.2.2.1, nI a) A0 e np B)), ((g 30), .inl (cA 3, 2000, .inl yb)), ((g 38), .inl (cA 3, 2000, .inl ow)), ((g 39), .inl (cA 3, 2000, .inl fi)), ((g 40), .inl (cA 3, 2000, .inl be))] s.heap := hP
  have hD : va_D A [(m0, .inr (6, mF g (K.1, K.2.1, K.2.2.1, K.2.2.2.1, nI X.length, K.2.2.2.2.2.1, K.2.2.2.2.2.2.1, K.2.2.2.2.2.2.2.1, nI a) A0 e np B)), ((g 30), .inl (cA 3, 2000, .inl yb)), ((g 38), .inl (cA 3, 2000, .inl ow)), ((g 39), .inl (cA 3, 2000, .inl fi)), ((g 40), .inl (cA 3, 2000, .inl be))] := hD
  obtain ⟨vs, hvs⟩ := pEnter_inv hd1
  have hen := pEnter_ok ha hd1
  have hu2 := pU32_ok (by omega) hd2
  obtain ⟨⟨lx, hit, hlx⟩, hrl, hr3⟩ := repLoc_pref n [] 0 a2 it s_ a3 (by omega) hd3
  have hitl : it.length = 2 * n := by rw [hit, List.nil_append]; exact hlx
  have hn2 : n ≤ 2000 := by omega
  have key : (wh = 1 ∨ (8 ≤ wh ∧ wh < 8 + 2 * n)) → ∀ (d k sk ak : Nat) (acc : List Int64) (H : Heap) (locs : List Loc) (ls : Array Slot), k + d = n → ak ≤ l2 → (8 ≤ wh → 8 + 2 * k ≤ wh) → acc.length = 2 * k → repLoc b l2 d acc sk ak = .inr ((it, s_), a3) → va_P D cls [(m0, .inr (6, mF g (K.1, K.2.1, K.2.2.1, K.2.2.2.1, nI X.length, K.2.2.2.2.2.1, K.2.2.2.2.2.2.1, K.2.2.2.2.2.2.2.1, nI ak) A0 e np B)), ((g 30), .inl (cA 3, 2000, .inl yb)), ((g 38), .inl (cA 3, 2000, .inl ow)), ((g 39), .inl (cA 3, 2000, .inl fi)), ((g 40), .inl (cA 3, 2000, .inl be))] H → va_D A [(m0, .inr (6, mF g (K.1, K.2.1, K.2.2.1, K.2.2.2.1, nI X.length, K.2.2.2.2.2.1, K.2.2.2.2.2.2.1, K.2.2.2.2.2.2.2.1, nI ak) A0 e np B)), ((g 30), .inl (cA 3, 2000, .inl yb)), ((g 38), .inl (cA 3, 2000, .inl ow)), ((g 39), .inl (cA 3, 2000, .inl fi)), ((g 40), .inl (cA 3, 2000, .inl be))] → va_S A s.heap H locs → lv_has ls 9 [(0, .ref m0), (1, .int (nI t)), (2, .int (nI wh)), (3, .int (nI n)), (4, .long (lN sk)), (6, .int (nI k))] → W pg l ev ({ frames := 2, cells := 0, slots := 0, locals := 48 }) s m ([.ref m0, .int (nI t), .int (nI wh)] : List Value).toArray bw meth cdx H locs 0 0 (tx_Q bw (cQ D (fun v (_ : Int32) => v = some (.long (lkS 8 (vp_updL (vp_updL (vp_updL (vp_updL (vp_updL (vp_updL c_1 0 (lN n)) 6 (lN nl)) 7 (lN (2 * n))) 1 (lN s_)) 4 (lN a3)) 5 (lN a4)) LL wh))) (fun _ => False) (fun (q : Int32) => [(m0, .inr (6, mF g (K.1, K.2.1, K.2.2.1, K.2.2.2.1, nI X.length, K.2.2.2.2.2.1, K.2.2.2.2.2.2.1, K.2.2.2.2.2.2.2.1, q) A0 e np B)), ((g 30), .inl (cA 3, 2000, .inl yb)), ((g 38), .inl (cA 3, 2000, .inl ow)), ((g 39), .inl (cA 3, 2000, .inl fi)), ((g 40), .inl (cA 3, 2000, .inl be))]) (fun _ => (0, 0)) A) ([.ref m0, .int (nI t), .int (nI wh)] : List Value).toArray s A) (F0 m 67 ls []) := by
    intro hcase d
    induction d with
    | zero =>
      intro k sk ak acc H locs ls hkd hak hwk hacc hrep hP hD hS hl
      refine lv_iload hx hb d_Md_lookBody_67 (lv_at hl 5 rfl) ?_
      refine lv_iload_n hx hb d_Md_lookBody_69 rfl (lv_at hl 3 rfl) ?_
      refine lv_icmp_ge (tgt := 140) hx hb d_Md_lookBody_70 (by decide) (fun c_70 => ?_) (fun c_70 => absurd (nI_le (by omega) (by omega)) c_70)
      refine lv_lload hx hb d_Md_lookBody_140 (lv_at hl 4 rfl) ?_
      have hw1 : wh = 1 := hcase.elim (fun q => q) (fun q => absurd (hwk q.1) (by omega))
      rw [repLoc] at hrep
      obtain ⟨e1, e2, e3⟩ : acc = it ∧ sk = s_ ∧ ak = a3 := by cases hrep; exact ⟨rfl, rfl, rfl⟩
      exact cRl (nI ak) hx hb hr hlocks d_Md_lookBody_142 hS hP hD (by rw [hw1, e2]; rfl) (Nat.le_refl _) (Nat.le_refl _)
    | succ d ih =>
      intro k sk ak acc H locs ls hkd hak hwk hacc hrep hP hD hS hl
      rw [repLoc] at hrep
      obtain ⟨vk, b1, hv1, hrep⟩ := bnd_ok hrep
      obtain ⟨gk, b2, hv2, hrep⟩ := bnd_ok hrep
      have hw1 := pU32_ok (by omega) hv1
      obtain ⟨ht1, rfl, rfl⟩ := pType_inv hv2
      obtain ⟨⟨ly, hiy, hly⟩, -, -⟩ := repLoc_pref d _ _ _ it s_ a3 (by omega) hrep
      refine lv_iload hx hb d_Md_lookBody_67 (lv_at hl 5 rfl) ?_
      refine lv_iload_n hx hb d_Md_lookBody_69 rfl (lv_at hl 3 rfl) ?_
      refine lv_icmp_ge (tgt := 140) hx hb d_Md_lookBody_70 (by decide) (fun c_70 => absurd c_70 (nI_ge (by omega) (by omega))) (fun c_70 => ?_)
      refine lv_aload_n hx hb d_Md_lookBody_73 rfl (lv_at hl 0 rfl) ?_
      refine cV (As := []) (rest := []) (n := 0) (wc := [(m0, .inr (6, mF g (K.1, K.2.1, K.2.2.1, K.2.2.2.1, nI X.length, K.2.2.2.2.2.1, K.2.2.2.2.2.2.1, K.2.2.2.2.2.2.2.1, nI ak) A0 e np B)), ((g 30), .inl (cA 3, 2000, .inl yb))]) (wr := [((g 38), .inl (cA 3, 2000, .inl ow)), ((g 39), .inl (cA 3, 2000, .inl fi)), ((g 40), .inl (cA 3, 2000, .inl be))]) ⟨hx, hb, hml, hown, hts⟩ hno hlocks hl.1 (c_Md_number l hl9 D cA ad H.size m0 g (K.1, K.2.1, K.2.2.1, K.2.2.2.1, nI X.length, K.2.2.2.2.2.1, K.2.2.2.2.2.2.1, K.2.2.2.2.2.2.2.1, nI ak) A0 e np B yb b l2 (by omega) (fun i hi => hyb i (by omega)) hb9 ak vk b1 (by omega) hv1) iw4_132 iw4_134 sel_Md_number iw1_7 iw4_135 (by decide +kernel) rfl ⟨Nat.le_of_ble_eq_true rfl, Nat.le_of_ble_eq_true rfl⟩ ⟨Nat.le_of_ble_eq_true rfl, Nat.le_of_ble_eq_true rfl⟩ rfl (Nat.le_of_ble_eq_true rfl) d_Md_lookBody_74 hE hP hD hS hA [0, 1] [2, 3, 4] rfl rfl rfl rfl (by decide) (ci := 6) rfl rfl 0 rfl (fun _ h => h.elim) (fun v_74 u_74 H locs hp_74 hP hD hS => ?_)
      obtain rfl := hp_74
      have hP : va_P D cls [(m0, .inr (6, mF g (K.1, K.2.1, K.2.2.1, K.2.2.2.1, nI X.length, K.2.2.2.2.2.1, K.2.2.2.2.2.2.1, K.2.2.2.2.2.2.2.1, nI b1) A0 e np B)), ((g 30), .inl (cA 3, 2000, .inl yb)), ((g 38), .inl (cA 3, 2000, .inl ow)), ((g 39), .inl (cA 3, 2000, .inl fi)), ((g 40), .inl (cA 3, 2000, .inl be))] H := hP.sub [3, 4, 0, 1, 2] rfl
      have hD : va_D A [(m0, .inr (6, mF g (K.1, K.2.1, K.2.2.1, K.2.2.2.1, nI X.length, K.2.2.2.2.2.1, K.2.2.2.2.2.2.1, K.2.2.2.2.2.2.2.1, nI b1) A0 e np B)), ((g 30), .inl (cA 3, 2000, .inl yb)), ((g 38), .inl (cA 3, 2000, .inl ow)), ((g 39), .inl (cA 3, 2000, .inl fi)), ((g 40), .inl (cA 3, 2000, .inl be))] := hD.sub [3, 4, 0, 1, 2] (by decide) rfl
      refine W.cs (cells' := 0) (slots' := 0) rfl rfl ?_
      refine W.eq (g2 := F0 m 77 ls [.long (lN vk)]) rfl ?_
      refine lv_lstore (lv' := [(7, .long (lN vk)), (0, .ref m0), (1, .int (nI t)), (2, .int (nI wh)), (3, .int (nI n)), (4, .long (lN sk)), (6, .int (nI k))]) hx hb d_Md_lookBody_77 hl (by decide) rfl (fun ls hl => ?_)
      refine lv_lload hx hb d_Md_lookBody_79 (lv_at hl 5 rfl) ?_
      refine lv_lload hx hb d_Md_lookBody_81 (lv_at hl 0 rfl) ?_
      refine lv_ladd hx hb d_Md_lookBody_83 ?_
      rw [lN_add]
      refine lv_lstore (lv' := [(4, .long (lN (sk + vk))), (7, .long (lN vk)), (0, .ref m0), (1, .int (nI t)), (2, .int (nI wh)), (3, .int (nI n)), (6, .int (nI k))]) hx hb d_Md_lookBody_84 hl (by decide) rfl (fun ls hl => ?_)
      refine lv_aload_n hx hb d_Md_lookBody_86 rfl (lv_at hl 2 rfl) ?_
      refine lv_dup hx hb d_Md_lookBody_87 rfl ?_
      refine va_get (D := D) (ci := 6) (v := .int (nI b1)) (C := R_Md) (T := F_Md) (N := 44) hx hb hts (fun w h => List.mem_cons_of_mem _ (i_Md w h)) hown hE.1 hP 0 rfl rfl 43 (by decide) (hts _ (List.mem_cons_of_mem _ iw3_97)) (fun _ h9 => h9) rfl d_Md_lookBody_88 ?_
      refine lv_iconst (v := 1) hx hb d_Md_lookBody_91 (by decide) ?_
      refine lv_iadd hx hb d_Md_lookBody_92 ?_
      rw [nI_1]
      refine va_put (D := D) (ci := 6) (v := .int (nI (b1 + 1))) (ty := .int) (C := R_Md) (T := F_Md) (N := 44) hx hb hts (fun w h => List.mem_cons_of_mem _ (i_Md w h)) t_Md tk_Md n_Md hown hE.1 hP hD hS 0 rfl rfl 43 (by decide) (hts _ (List.mem_cons_of_mem _ iw3_97)) (fun _ h9 => h9) rfl (by decide +kernel) rfl rfl (Nat.le_of_ble_eq_true rfl) d_Md_lookBody_93 (fun H locs hP hD hS => ?_)
      have hP : va_P D cls [(m0, .inr (6, mF g (K.1, K.2.1, K.2.2.1, K.2.2.2.1, nI X.length, K.2.2.2.2.2.1, K.2.2.2.2.2.2.1, K.2.2.2.2.2.2.2.1, nI (b1 + 1)) A0 e np B)), ((g 30), .inl (cA 3, 2000, .inl yb)), ((g 38), .inl (cA 3, 2000, .inl ow)), ((g 39), .inl (cA 3, 2000, .inl fi)), ((g 40), .inl (cA 3, 2000, .inl be))] H := hP
      have hD : va_D A [(m0, .inr (6, mF g (K.1, K.2.1, K.2.2.1, K.2.2.2.1, nI X.length, K.2.2.2.2.2.1, K.2.2.2.2.2.2.1, K.2.2.2.2.2.2.2.1, nI (b1 + 1)) A0 e np B)), ((g 30), .inl (cA 3, 2000, .inl yb)), ((g 38), .inl (cA 3, 2000, .inl ow)), ((g 39), .inl (cA 3, 2000, .inl fi)), ((g 40), .inl (cA 3, 2000, .inl be))] := hD
      refine lv_iload_n hx hb d_Md_lookBody_96 rfl (lv_at hl 4 rfl) ?_
      refine lv_bipush (v := 8) hx hb d_Md_lookBody_97 (by decide) ?_
      refine lv_iconst (v := 2) hx hb d_Md_lookBody_99 (by decide) ?_
      refine lv_iload hx hb d_Md_lookBody_100 (lv_at hl 6 rfl) ?_
      refine lv_imul hx hb d_Md_lookBody_102 ?_
      refine lv_iadd hx hb d_Md_lookBody_103 ?_
      have hc8 : 8 + 2 * nI k = nI (8 + 2 * k) := by rw [show (8 : Int32) = nI 8 from rfl, show (2 : Int32) = nI 2 from rfl, pk_mul, nI_add]
      have hc9 : 9 + 2 * nI k = nI (9 + 2 * k) := by rw [show (9 : Int32) = nI 9 from rfl, show (2 : Int32) = nI 2 from rfl, pk_mul, nI_add]
      refine lv_icmp_ne (tgt := 110) hx hb d_Md_lookBody_104 (by decide) (fun c_104 => ?_) (fun c_104 => ?_)
      · refine lv_iload_n hx hb d_Md_lookBody_110 rfl (lv_at hl 4 rfl) ?_
        refine lv_bipush (v := 9) hx hb d_Md_lookBody_111 (by decide) ?_
        refine lv_iconst (v := 2) hx hb d_Md_lookBody_113 (by decide) ?_
        refine lv_iload hx hb d_Md_lookBody_114 (lv_at hl 6 rfl) ?_
        refine lv_imul hx hb d_Md_lookBody_116 ?_
        refine lv_iadd hx hb d_Md_lookBody_117 ?_
        refine lv_icmp_ne (tgt := 134) hx hb d_Md_lookBody_118 (by decide) (fun c_118 => ?_) (fun c_118 => ?_)
        · obtain ⟨x6_1, ex6_1⟩ : ∃ y : Int32, y = (nI k) + 1 := ⟨_, rfl⟩
          refine lv_iinc (v := x6_1) (lv' := [(6, .int x6_1), (4, .long (lN (sk + vk))), (7, .long (lN vk)), (0, .ref m0), (1, .int (nI t)), (2, .int (nI wh)), (3, .int (nI n))]) hx hb d_Md_lookBody_134 hl (k := 6) rfl (by rw [ex6_1]; rfl) (by decide) rfl (fun ls hl => ?_)
          refine lv_goto (tgt := 67) hx hb d_Md_lookBody_137 (by decide) ?_
          have e9 : x6_1 = nI (k + 1) := by rw [ex6_1]; exact nI_1 k
          subst e9
          have hne1 : ¬ wh = 8 + 2 * k := fun q => c_104 (by rw [q]; exact hc8.symm)
          have hne2 : ¬ wh = 9 + 2 * k := fun q => c_118 (by rw [q]; exact hc9.symm)
          exact ih (k + 1) (sk + vk) (b1 + 1) (acc ++ [lN vk] ++ [lN (b b1)]) H locs ls (by omega) (by omega) (fun q => by have := hwk q; omega) (by simp; omega) hrep hP hD hS (lv_sub hl [3, 4, 5, 6, 1, 0] rfl)
        · refine lv_aload_n hx hb d_Md_lookBody_121 rfl (lv_at hl 2 rfl) ?_
          refine va_get (D := D) (ci := 6) (v := .ref (g 30)) (C := R_Md) (T := F_Md) (N := 44) hx hb hts (fun w h => List.mem_cons_of_mem _ (i_Md w h)) hown hE.1 hP 0 rfl rfl 30 (by decide) (hts _ (List.mem_cons_of_mem _ iw3_84)) (fun _ h9 => h9) rfl d_Md_lookBody_122 ?_
          refine lv_aload_n hx hb d_Md_lookBody_125 rfl (lv_at hl 2 rfl) ?_
          refine va_get (D := D) (ci := 6) (v := .int (nI (b1 + 1))) (C := R_Md) (T := F_Md) (N := 44) hx hb hts (fun w h => List.mem_cons_of_mem _ (i_Md w h)) hown hE.1 hP 0 rfl rfl 43 (by decide) (hts _ (List.mem_cons_of_mem _ iw3_97)) (fun _ h9 => h9) rfl d_Md_lookBody_126 ?_
          refine lv_iconst (v := 1) hx hb d_Md_lookBody_129 (by decide) ?_
          refine lv_isub hx hb d_Md_lookBody_130 ?_
          rw [nI_pred]
          refine va_iald hx hb hE.1 hP 1 3 rfl rfl (vp_in_nI (by omega) (by omega)) d_Md_lookBody_131 ?_
          rw [nI_clamp (n := b1) (by omega), hyb b1 (by omega)]
          refine lv_i2l hx hb d_Md_lookBody_132 rfl ?_
          rw [nI_l (n := b b1) (by have := hb9 b1; omega)]
          have hwe : wh = 9 + 2 * k := (nI_eq (by omega) (by omega)).mp (c_118.trans hc9)
          exact cRl (nI (b1 + 1)) hx hb hr hlocks d_Md_lookBody_133 hS hP hD (by rw [lkS, if_pos (show 8 ≤ wh by omega), if_neg (by decide), if_pos rfl, lst_in (z := vp_updL (vp_updL (vp_updL (vp_updL (vp_updL (vp_updL c_1 0 (lN n)) 6 (lN nl)) 7 (lN (2 * n))) 1 (lN s_)) 4 (lN a3)) 5 (lN a4)) (cs := 6) (cn := 7) (M := 2 * n) (nl := nl) rfl rfl (by omega) hnl hitl hseg (show wh - 8 < 2 * n by omega), hiy, show wh - 8 = 2 * k + 1 by omega, List.append_assoc (acc ++ [lN vk]), List.singleton_append, getD_at (by simp; omega)]) (Nat.le_refl _) (Nat.le_refl _)
      · refine lv_lload hx hb d_Md_lookBody_107 (lv_at hl 1 rfl) ?_
        have hwe : wh = 8 + 2 * k := (nI_eq (by omega) (by omega)).mp (c_104.trans hc8)
        exact cRl (nI (b1 + 1)) hx hb hr hlocks d_Md_lookBody_109 hS hP hD (by rw [lkS, if_pos (show 8 ≤ wh by omega), if_neg (by decide), if_pos rfl, lst_in (z := vp_updL (vp_updL (vp_updL (vp_updL (vp_updL (vp_updL c_1 0 (lN n)) 6 (lN nl)) 7 (lN (2 * n))) 1 (lN s_)) 4 (lN a3)) 5 (lN a4)) (cs := 6) (cn := 7) (M := 2 * n) (nl := nl) rfl rfl (by omega) hnl hitl hseg (show wh - 8 < 2 * n by omega), hiy, show wh - 8 = 2 * k by omega, List.append_assoc, List.append_assoc, List.singleton_append, getD_at hacc]) (Nat.le_refl _) (Nat.le_refl _)
  rcases (show wh = 0 ∨ wh = 1 ∨ wh = 2 ∨ wh = 3 ∨ wh = 4 ∨ wh = 5 ∨ wh = 6 ∨ wh = 7 ∨ 8 ≤ wh by omega) with rfl | rfl | rfl | rfl | rfl | rfl | rfl | rfl | hw8
  · have hl : lv_has ls 9 [(0, .ref m0), (1, .int (nI t)), (2, .int 0)] := hl
    refine lv_aload_n hx hb d_Md_lookBody_0 rfl (lv_at hl 0 rfl) ?_
    refine cV (As := []) (rest := []) (n := 0) (wc := [(m0, .inr (6, mF g (K.1, K.2.1, K.2.2.1, K.2.2.2.1, nI X.length, K.2.2.2.2.2.1, K.2.2.2.2.2.2.1, K.2.2.2.2.2.2.2.1, nI a) A0 e np B)), ((g 30), .inl (cA 3, 2000, .inl yb))]) (wr := [((g 38), .inl (cA 3, 2000, .inl ow)), ((g 39), .inl (cA 3, 2000, .inl fi)), ((g 40), .inl (cA 3, 2000, .inl be))]) ⟨hx, hb, hml, hown, hts⟩ hno hlocks hl.1 (c_Md_number l hl9 D cA ad s.heap.size m0 g (K.1, K.2.1, K.2.2.1, K.2.2.2.1, nI X.length, K.2.2.2.2.2.1, K.2.2.2.2.2.2.1, K.2.2.2.2.2.2.2.1, nI a) A0 e np B yb b lm hlm hyb hb9 a vs a1 (by omega) hvs) iw4_132 iw4_134 sel_Md_number iw1_7 iw4_135 (by decide +kernel) rfl ⟨Nat.le_of_ble_eq_true rfl, Nat.le_of_ble_eq_true rfl⟩ ⟨Nat.le_of_ble_eq_true rfl, Nat.le_of_ble_eq_true rfl⟩ rfl (Nat.le_of_ble_eq_true rfl) d_Md_lookBody_1 hE hP hD hS hA [0, 1] [2, 3, 4] rfl rfl rfl rfl (by decide) (ci := 6) rfl rfl 0 rfl (fun _ h => h.elim) (fun v_1 u_1 H locs hp_1 hP hD hS => ?_)
    obtain rfl := hp_1
    have hP : va_P D cls [(m0, .inr (6, mF g (K.1, K.2.1, K.2.2.1, K.2.2.2.1, nI X.length, K.2.2.2.2.2.1, K.2.2.2.2.2.2.1, K.2.2.2.2.2.2.2.1, nI a1) A0 e np B)), ((g 30), .inl (cA 3, 2000, .inl yb)), ((g 38), .inl (cA 3, 2000, .inl ow)), ((g 39), .inl (cA 3, 2000, .inl fi)), ((g 40), .inl (cA 3, 2000, .inl be))] H := hP.sub [3, 4, 0, 1, 2] rfl
    have hD : va_D A [(m0, .inr (6, mF g (K.1, K.2.1, K.2.2.1, K.2.2.2.1, nI X.length, K.2.2.2.2.2.1, K.2.2.2.2.2.2.1, K.2.2.2.2.2.2.2.1, nI a1) A0 e np B)), ((g 30), .inl (cA 3, 2000, .inl yb)), ((g 38), .inl (cA 3, 2000, .inl ow)), ((g 39), .inl (cA 3, 2000, .inl fi)), ((g 40), .inl (cA 3, 2000, .inl be))] := hD.sub [3, 4, 0, 1, 2] (by decide) rfl
    refine W.cs (cells' := 0) (slots' := 0) rfl rfl ?_
    refine W.eq (g2 := F0 m 4 ls [.long (lN vs)]) rfl ?_
    refine lv_pop2_2 hx hb d_Md_lookBody_4 rfl ?_
    refine lv_aload_n hx hb d_Md_lookBody_5 rfl (lv_at hl 0 rfl) ?_
    refine cV (As := []) (rest := []) (n := 0) (wc := [(m0, .inr (6, mF g (K.1, K.2.1, K.2.2.1, K.2.2.2.1, nI X.length, K.2.2.2.2.2.1, K.2.2.2.2.2.2.1, K.2.2.2.2.2.2.2.1, nI a1) A0 e np B)), ((g 30), .inl (cA 3, 2000, .inl yb))]) (wr := [((g 38), .inl (cA 3, 2000, .inl ow)), ((g 39), .inl (cA 3, 2000, .inl fi)), ((g 40), .inl (cA 3, 2000, .inl be))]) ⟨hx, hb, hml, hown, hts⟩ hno hlocks hl.1 (c_Md_number l hl9 D cA ad H.size m0 g (K.1, K.2.1, K.2.2.1, K.2.2.2.1, nI X.length, K.2.2.2.2.2.1, K.2.2.2.2.2.2.1, K.2.2.2.2.2.2.2.1, nI a1) A0 e np B yb b l2 (by omega) (fun i hi => hyb i (by omega)) hb9 a1 n a2 (by omega) hd2) iw4_132 iw4_134 sel_Md_number iw1_7 iw4_135 (by decide +kernel) rfl ⟨Nat.le_of_ble_eq_true rfl, Nat.le_of_ble_eq_true rfl⟩ ⟨Nat.le_of_ble_eq_true rfl, Nat.le_of_ble_eq_true rfl⟩ rfl (Nat.le_of_ble_eq_true rfl) d_Md_lookBody_6 hE hP hD hS hA [0, 1] [2, 3, 4] rfl rfl rfl rfl (by decide) (ci := 6) rfl rfl 0 rfl (fun _ h => h.elim) (fun v_6 u_6 H locs hp_6 hP hD hS => ?_)
    obtain rfl := hp_6
    have hP : va_P D cls [(m0, .inr (6, mF g (K.1, K.2.1, K.2.2.1, K.2.2.2.1, nI X.length, K.2.2.2.2.2.1, K.2.2.2.2.2.2.1, K.2.2.2.2.2.2.2.1, nI a2) A0 e np B)), ((g 30), .inl (cA 3, 2000, .inl yb)), ((g 38), .inl (cA 3, 2000, .inl ow)), ((g 39), .inl (cA 3, 2000, .inl fi)), ((g 40), .inl (cA 3, 2000, .inl be))] H := hP.sub [3, 4, 0, 1, 2] rfl
    have hD : va_D A [(m0, .inr (6, mF g (K.1, K.2.1, K.2.2.1, K.2.2.2.1, nI X.length, K.2.2.2.2.2.1, K.2.2.2.2.2.2.1, K.2.2.2.2.2.2.2.1, nI a2) A0 e np B)), ((g 30), .inl (cA 3, 2000, .inl yb)), ((g 38), .inl (cA 3, 2000, .inl ow)), ((g 39), .inl (cA 3, 2000, .inl fi)), ((g 40), .inl (cA 3, 2000, .inl be))] := hD.sub [3, 4, 0, 1, 2] (by decide) rfl
    refine W.cs (cells' := 0) (slots' := 0) rfl rfl ?_
    refine W.eq (g2 := F0 m 9 ls [.long (lN n)]) rfl ?_
    refine lv_l2i hx hb d_Md_lookBody_9 rfl ?_
    rw [lN_i]
    refine lv_istore_n (lv' := [(3, .int (nI n)), (0, .ref m0), (1, .int (nI t)), (2, .int 0)]) hx hb d_Md_lookBody_10 rfl hl (by decide) rfl (fun ls hl => ?_)
    refine lv_iload_n hx hb d_Md_lookBody_11 rfl (lv_at hl 3 rfl) ?_
    refine lv_if_ne (tgt := 18) hx hb d_Md_lookBody_12 (by decide) (fun c_12 => absurd (by decide) c_12) (fun c_12 => ?_)
    refine lv_iload_n hx hb d_Md_lookBody_15 rfl (lv_at hl 0 rfl) ?_
    refine lv_i2l hx hb d_Md_lookBody_16 rfl ?_
    rw [nI_l (n := n) (by omega)]
    exact cRl (nI a2) hx hb hr hlocks d_Md_lookBody_17 hS hP hD (rfl) (Nat.le_refl _) (Nat.le_refl _)
  · have hl : lv_has ls 9 [(0, .ref m0), (1, .int (nI t)), (2, .int 1)] := hl
    refine lv_aload_n hx hb d_Md_lookBody_0 rfl (lv_at hl 0 rfl) ?_
    refine cV (As := []) (rest := []) (n := 0) (wc := [(m0, .inr (6, mF g (K.1, K.2.1, K.2.2.1, K.2.2.2.1, nI X.length, K.2.2.2.2.2.1, K.2.2.2.2.2.2.1, K.2.2.2.2.2.2.2.1, nI a) A0 e np B)), ((g 30), .inl (cA 3, 2000, .inl yb))]) (wr := [((g 38), .inl (cA 3, 2000, .inl ow)), ((g 39), .inl (cA 3, 2000, .inl fi)), ((g 40), .inl (cA 3, 2000, .inl be))]) ⟨hx, hb, hml, hown, hts⟩ hno hlocks hl.1 (c_Md_number l hl9 D cA ad s.heap.size m0 g (K.1, K.2.1, K.2.2.1, K.2.2.2.1, nI X.length, K.2.2.2.2.2.1, K.2.2.2.2.2.2.1, K.2.2.2.2.2.2.2.1, nI a) A0 e np B yb b lm hlm hyb hb9 a vs a1 (by omega) hvs) iw4_132 iw4_134 sel_Md_number iw1_7 iw4_135 (by decide +kernel) rfl ⟨Nat.le_of_ble_eq_true rfl, Nat.le_of_ble_eq_true rfl⟩ ⟨Nat.le_of_ble_eq_true rfl, Nat.le_of_ble_eq_true rfl⟩ rfl (Nat.le_of_ble_eq_true rfl) d_Md_lookBody_1 hE hP hD hS hA [0, 1] [2, 3, 4] rfl rfl rfl rfl (by decide) (ci := 6) rfl rfl 0 rfl (fun _ h => h.elim) (fun v_1 u_1 H locs hp_1 hP hD hS => ?_)
    obtain rfl := hp_1
    have hP : va_P D cls [(m0, .inr (6, mF g (K.1, K.2.1, K.2.2.1, K.2.2.2.1, nI X.length, K.2.2.2.2.2.1, K.2.2.2.2.2.2.1, K.2.2.2.2.2.2.2.1, nI a1) A0 e np B)), ((g 30), .inl (cA 3, 2000, .inl yb)), ((g 38), .inl (cA 3, 2000, .inl ow)), ((g 39), .inl (cA 3, 2000, .inl fi)), ((g 40), .inl (cA 3, 2000, .inl be))] H := hP.sub [3, 4, 0, 1, 2] rfl
    have hD : va_D A [(m0, .inr (6, mF g (K.1, K.2.1, K.2.2.1, K.2.2.2.1, nI X.length, K.2.2.2.2.2.1, K.2.2.2.2.2.2.1, K.2.2.2.2.2.2.2.1, nI a1) A0 e np B)), ((g 30), .inl (cA 3, 2000, .inl yb)), ((g 38), .inl (cA 3, 2000, .inl ow)), ((g 39), .inl (cA 3, 2000, .inl fi)), ((g 40), .inl (cA 3, 2000, .inl be))] := hD.sub [3, 4, 0, 1, 2] (by decide) rfl
    refine W.cs (cells' := 0) (slots' := 0) rfl rfl ?_
    refine W.eq (g2 := F0 m 4 ls [.long (lN vs)]) rfl ?_
    refine lv_pop2_2 hx hb d_Md_lookBody_4 rfl ?_
    refine lv_aload_n hx hb d_Md_lookBody_5 rfl (lv_at hl 0 rfl) ?_
    refine cV (As := []) (rest := []) (n := 0) (wc := [(m0, .inr (6, mF g (K.1, K.2.1, K.2.2.1, K.2.2.2.1, nI X.length, K.2.2.2.2.2.1, K.2.2.2.2.2.2.1, K.2.2.2.2.2.2.2.1, nI a1) A0 e np B)), ((g 30), .inl (cA 3, 2000, .inl yb))]) (wr := [((g 38), .inl (cA 3, 2000, .inl ow)), ((g 39), .inl (cA 3, 2000, .inl fi)), ((g 40), .inl (cA 3, 2000, .inl be))]) ⟨hx, hb, hml, hown, hts⟩ hno hlocks hl.1 (c_Md_number l hl9 D cA ad H.size m0 g (K.1, K.2.1, K.2.2.1, K.2.2.2.1, nI X.length, K.2.2.2.2.2.1, K.2.2.2.2.2.2.1, K.2.2.2.2.2.2.2.1, nI a1) A0 e np B yb b l2 (by omega) (fun i hi => hyb i (by omega)) hb9 a1 n a2 (by omega) hd2) iw4_132 iw4_134 sel_Md_number iw1_7 iw4_135 (by decide +kernel) rfl ⟨Nat.le_of_ble_eq_true rfl, Nat.le_of_ble_eq_true rfl⟩ ⟨Nat.le_of_ble_eq_true rfl, Nat.le_of_ble_eq_true rfl⟩ rfl (Nat.le_of_ble_eq_true rfl) d_Md_lookBody_6 hE hP hD hS hA [0, 1] [2, 3, 4] rfl rfl rfl rfl (by decide) (ci := 6) rfl rfl 0 rfl (fun _ h => h.elim) (fun v_6 u_6 H locs hp_6 hP hD hS => ?_)
    obtain rfl := hp_6
    have hP : va_P D cls [(m0, .inr (6, mF g (K.1, K.2.1, K.2.2.1, K.2.2.2.1, nI X.length, K.2.2.2.2.2.1, K.2.2.2.2.2.2.1, K.2.2.2.2.2.2.2.1, nI a2) A0 e np B)), ((g 30), .inl (cA 3, 2000, .inl yb)), ((g 38), .inl (cA 3, 2000, .inl ow)), ((g 39), .inl (cA 3, 2000, .inl fi)), ((g 40), .inl (cA 3, 2000, .inl be))] H := hP.sub [3, 4, 0, 1, 2] rfl
    have hD : va_D A [(m0, .inr (6, mF g (K.1, K.2.1, K.2.2.1, K.2.2.2.1, nI X.length, K.2.2.2.2.2.1, K.2.2.2.2.2.2.1, K.2.2.2.2.2.2.2.1, nI a2) A0 e np B)), ((g 30), .inl (cA 3, 2000, .inl yb)), ((g 38), .inl (cA 3, 2000, .inl ow)), ((g 39), .inl (cA 3, 2000, .inl fi)), ((g 40), .inl (cA 3, 2000, .inl be))] := hD.sub [3, 4, 0, 1, 2] (by decide) rfl
    refine W.cs (cells' := 0) (slots' := 0) rfl rfl ?_
    refine W.eq (g2 := F0 m 9 ls [.long (lN n)]) rfl ?_
    refine lv_l2i hx hb d_Md_lookBody_9 rfl ?_
    rw [lN_i]
    refine lv_istore_n (lv' := [(3, .int (nI n)), (0, .ref m0), (1, .int (nI t)), (2, .int 1)]) hx hb d_Md_lookBody_10 rfl hl (by decide) rfl (fun ls hl => ?_)
    refine lv_iload_n hx hb d_Md_lookBody_11 rfl (lv_at hl 3 rfl) ?_
    refine lv_if_ne (tgt := 18) hx hb d_Md_lookBody_12 (by decide) (fun c_12 => ?_) (fun c_12 => absurd c_12 (by decide))
    refine lv_iload_n hx hb d_Md_lookBody_18 rfl (lv_at hl 3 rfl) ?_
    refine lv_iconst (v := 4) hx hb d_Md_lookBody_19 (by decide) ?_
    refine lv_icmp_eq (tgt := 28) hx hb d_Md_lookBody_20 (by decide) (fun c_20 => absurd c_20 (by decide)) (fun c_20 => ?_)
    refine lv_iload_n hx hb d_Md_lookBody_23 rfl (lv_at hl 3 rfl) ?_
    refine lv_iconst (v := 5) hx hb d_Md_lookBody_24 (by decide) ?_
    refine lv_icmp_ne (tgt := 36) hx hb d_Md_lookBody_25 (by decide) (fun c_25 => ?_) (fun c_25 => absurd c_25 (by decide))
    refine lv_iload_n hx hb d_Md_lookBody_36 rfl (lv_at hl 3 rfl) ?_
    refine lv_iconst (v := 1) hx hb d_Md_lookBody_37 (by decide) ?_
    refine lv_icmp_eq (tgt := 61) hx hb d_Md_lookBody_38 (by decide) (fun c_38 => ?_) (fun c_38 => absurd (by decide) c_38)
    refine lv_lconst (v := 0) hx hb d_Md_lookBody_61 (by decide) ?_
    refine lv_lstore (lv' := [(4, .long 0), (3, .int (nI n)), (0, .ref m0), (1, .int (nI t)), (2, .int 1)]) hx hb d_Md_lookBody_62 hl (by decide) rfl (fun ls hl => ?_)
    refine lv_iconst (v := 0) hx hb d_Md_lookBody_64 (by decide) ?_
    refine lv_istore (lv' := [(6, .int 0), (4, .long 0), (3, .int (nI n)), (0, .ref m0), (1, .int (nI t)), (2, .int 1)]) hx hb d_Md_lookBody_65 hl (by decide) rfl (fun ls hl => ?_)
    exact key (Or.inl rfl) n 0 0 a2 [] H _ ls (by omega) (by omega) (fun q => by omega) rfl hd3 hP hD hS (lv_sub hl [3, 4, 5, 2, 1, 0] rfl)
  · have hl : lv_has ls 9 [(0, .ref m0), (1, .int (nI t)), (2, .int 2)] := hl
    refine lv_aload_n hx hb d_Md_lookBody_0 rfl (lv_at hl 0 rfl) ?_
    refine cV (As := []) (rest := []) (n := 0) (wc := [(m0, .inr (6, mF g (K.1, K.2.1, K.2.2.1, K.2.2.2.1, nI X.length, K.2.2.2.2.2.1, K.2.2.2.2.2.2.1, K.2.2.2.2.2.2.2.1, nI a) A0 e np B)), ((g 30), .inl (cA 3, 2000, .inl yb))]) (wr := [((g 38), .inl (cA 3, 2000, .inl ow)), ((g 39), .inl (cA 3, 2000, .inl fi)), ((g 40), .inl (cA 3, 2000, .inl be))]) ⟨hx, hb, hml, hown, hts⟩ hno hlocks hl.1 (c_Md_number l hl9 D cA ad s.heap.size m0 g (K.1, K.2.1, K.2.2.1, K.2.2.2.1, nI X.length, K.2.2.2.2.2.1, K.2.2.2.2.2.2.1, K.2.2.2.2.2.2.2.1, nI a) A0 e np B yb b lm hlm hyb hb9 a vs a1 (by omega) hvs) iw4_132 iw4_134 sel_Md_number iw1_7 iw4_135 (by decide +kernel) rfl ⟨Nat.le_of_ble_eq_true rfl, Nat.le_of_ble_eq_true rfl⟩ ⟨Nat.le_of_ble_eq_true rfl, Nat.le_of_ble_eq_true rfl⟩ rfl (Nat.le_of_ble_eq_true rfl) d_Md_lookBody_1 hE hP hD hS hA [0, 1] [2, 3, 4] rfl rfl rfl rfl (by decide) (ci := 6) rfl rfl 0 rfl (fun _ h => h.elim) (fun v_1 u_1 H locs hp_1 hP hD hS => ?_)
    obtain rfl := hp_1
    have hP : va_P D cls [(m0, .inr (6, mF g (K.1, K.2.1, K.2.2.1, K.2.2.2.1, nI X.length, K.2.2.2.2.2.1, K.2.2.2.2.2.2.1, K.2.2.2.2.2.2.2.1, nI a1) A0 e np B)), ((g 30), .inl (cA 3, 2000, .inl yb)), ((g 38), .inl (cA 3, 2000, .inl ow)), ((g 39), .inl (cA 3, 2000, .inl fi)), ((g 40), .inl (cA 3, 2000, .inl be))] H := hP.sub [3, 4, 0, 1, 2] rfl
    have hD : va_D A [(m0, .inr (6, mF g (K.1, K.2.1, K.2.2.1, K.2.2.2.1, nI X.length, K.2.2.2.2.2.1, K.2.2.2.2.2.2.1, K.2.2.2.2.2.2.2.1, nI a1) A0 e np B)), ((g 30), .inl (cA 3, 2000, .inl yb)), ((g 38), .inl (cA 3, 2000, .inl ow)), ((g 39), .inl (cA 3, 2000, .inl fi)), ((g 40), .inl (cA 3, 2000, .inl be))] := hD.sub [3, 4, 0, 1, 2] (by decide) rfl
    refine W.cs (cells' := 0) (slots' := 0) rfl rfl ?_
    refine W.eq (g2 := F0 m 4 ls [.long (lN vs)]) rfl ?_
    refine lv_pop2_2 hx hb d_Md_lookBody_4 rfl ?_
    refine lv_aload_n hx hb d_Md_lookBody_5 rfl (lv_at hl 0 rfl) ?_
    refine cV (As := []) (rest := []) (n := 0) (wc := [(m0, .inr (6, mF g (K.1, K.2.1, K.2.2.1, K.2.2.2.1, nI X.length, K.2.2.2.2.2.1, K.2.2.2.2.2.2.1, K.2.2.2.2.2.2.2.1, nI a1) A0 e np B)), ((g 30), .inl (cA 3, 2000, .inl yb))]) (wr := [((g 38), .inl (cA 3, 2000, .inl ow)), ((g 39), .inl (cA 3, 2000, .inl fi)), ((g 40), .inl (cA 3, 2000, .inl be))]) ⟨hx, hb, hml, hown, hts⟩ hno hlocks hl.1 (c_Md_number l hl9 D cA ad H.size m0 g (K.1, K.2.1, K.2.2.1, K.2.2.2.1, nI X.length, K.2.2.2.2.2.1, K.2.2.2.2.2.2.1, K.2.2.2.2.2.2.2.1, nI a1) A0 e np B yb b l2 (by omega) (fun i hi => hyb i (by omega)) hb9 a1 n a2 (by omega) hd2) iw4_132 iw4_134 sel_Md_number iw1_7 iw4_135 (by decide +kernel) rfl ⟨Nat.le_of_ble_eq_true rfl, Nat.le_of_ble_eq_true rfl⟩ ⟨Nat.le_of_ble_eq_true rfl, Nat.le_of_ble_eq_true rfl⟩ rfl (Nat.le_of_ble_eq_true rfl) d_Md_lookBody_6 hE hP hD hS hA [0, 1] [2, 3, 4] rfl rfl rfl rfl (by decide) (ci := 6) rfl rfl 0 rfl (fun _ h => h.elim) (fun v_6 u_6 H locs hp_6 hP hD hS => ?_)
    obtain rfl := hp_6
    have hP : va_P D cls [(m0, .inr (6, mF g (K.1, K.2.1, K.2.2.1, K.2.2.2.1, nI X.length, K.2.2.2.2.2.1, K.2.2.2.2.2.2.1, K.2.2.2.2.2.2.2.1, nI a2) A0 e np B)), ((g 30), .inl (cA 3, 2000, .inl yb)), ((g 38), .inl (cA 3, 2000, .inl ow)), ((g 39), .inl (cA 3, 2000, .inl fi)), ((g 40), .inl (cA 3, 2000, .inl be))] H := hP.sub [3, 4, 0, 1, 2] rfl
    have hD : va_D A [(m0, .inr (6, mF g (K.1, K.2.1, K.2.2.1, K.2.2.2.1, nI X.length, K.2.2.2.2.2.1, K.2.2.2.2.2.2.1, K.2.2.2.2.2.2.2.1, nI a2) A0 e np B)), ((g 30), .inl (cA 3, 2000, .inl yb)), ((g 38), .inl (cA 3, 2000, .inl ow)), ((g 39), .inl (cA 3, 2000, .inl fi)), ((g 40), .inl (cA 3, 2000, .inl be))] := hD.sub [3, 4, 0, 1, 2] (by decide) rfl
    refine W.cs (cells' := 0) (slots' := 0) rfl rfl ?_
    refine W.eq (g2 := F0 m 9 ls [.long (lN n)]) rfl ?_
    refine lv_l2i hx hb d_Md_lookBody_9 rfl ?_
    rw [lN_i]
    refine lv_istore_n (lv' := [(3, .int (nI n)), (0, .ref m0), (1, .int (nI t)), (2, .int 2)]) hx hb d_Md_lookBody_10 rfl hl (by decide) rfl (fun ls hl => ?_)
    refine lv_iload_n hx hb d_Md_lookBody_11 rfl (lv_at hl 3 rfl) ?_
    refine lv_if_ne (tgt := 18) hx hb d_Md_lookBody_12 (by decide) (fun c_12 => ?_) (fun c_12 => absurd c_12 (by decide))
    refine lv_iload_n hx hb d_Md_lookBody_18 rfl (lv_at hl 3 rfl) ?_
    refine lv_iconst (v := 4) hx hb d_Md_lookBody_19 (by decide) ?_
    refine lv_icmp_eq (tgt := 28) hx hb d_Md_lookBody_20 (by decide) (fun c_20 => absurd c_20 (by decide)) (fun c_20 => ?_)
    refine lv_iload_n hx hb d_Md_lookBody_23 rfl (lv_at hl 3 rfl) ?_
    refine lv_iconst (v := 5) hx hb d_Md_lookBody_24 (by decide) ?_
    refine lv_icmp_ne (tgt := 36) hx hb d_Md_lookBody_25 (by decide) (fun c_25 => ?_) (fun c_25 => absurd c_25 (by decide))
    refine lv_iload_n hx hb d_Md_lookBody_36 rfl (lv_at hl 3 rfl) ?_
    refine lv_iconst (v := 1) hx hb d_Md_lookBody_37 (by decide) ?_
    refine lv_icmp_eq (tgt := 61) hx hb d_Md_lookBody_38 (by decide) (fun c_38 => absurd c_38 (by decide)) (fun c_38 => ?_)
    refine lv_iload_n hx hb d_Md_lookBody_41 rfl (lv_at hl 3 rfl) ?_
    refine lv_bipush (v := 8) hx hb d_Md_lookBody_42 (by decide) ?_
    refine lv_icmp_lt (tgt := 57) hx hb d_Md_lookBody_44 (by decide) (fun c_44 => ?_) (fun c_44 => absurd (by decide) c_44)
    refine lv_ldc2 hx hb hown (hts _ (List.mem_cons_of_mem _ iw3_204)) d_Md_lookBody_57 ?_
    exact cRl (nI a2) hx hb hr hlocks d_Md_lookBody_60 hS hP hD (rfl) (Nat.le_refl _) (Nat.le_refl _)
  · have hl : lv_has ls 9 [(0, .ref m0), (1, .int (nI t)), (2, .int 3)] := hl
    refine lv_aload_n hx hb d_Md_lookBody_0 rfl (lv_at hl 0 rfl) ?_
    refine cV (As := []) (rest := []) (n := 0) (wc := [(m0, .inr (6, mF g (K.1, K.2.1, K.2.2.1, K.2.2.2.1, nI X.length, K.2.2.2.2.2.1, K.2.2.2.2.2.2.1, K.2.2.2.2.2.2.2.1, nI a) A0 e np B)), ((g 30), .inl (cA 3, 2000, .inl yb))]) (wr := [((g 38), .inl (cA 3, 2000, .inl ow)), ((g 39), .inl (cA 3, 2000, .inl fi)), ((g 40), .inl (cA 3, 2000, .inl be))]) ⟨hx, hb, hml, hown, hts⟩ hno hlocks hl.1 (c_Md_number l hl9 D cA ad s.heap.size m0 g (K.1, K.2.1, K.2.2.1, K.2.2.2.1, nI X.length, K.2.2.2.2.2.1, K.2.2.2.2.2.2.1, K.2.2.2.2.2.2.2.1, nI a) A0 e np B yb b lm hlm hyb hb9 a vs a1 (by omega) hvs) iw4_132 iw4_134 sel_Md_number iw1_7 iw4_135 (by decide +kernel) rfl ⟨Nat.le_of_ble_eq_true rfl, Nat.le_of_ble_eq_true rfl⟩ ⟨Nat.le_of_ble_eq_true rfl, Nat.le_of_ble_eq_true rfl⟩ rfl (Nat.le_of_ble_eq_true rfl) d_Md_lookBody_1 hE hP hD hS hA [0, 1] [2, 3, 4] rfl rfl rfl rfl (by decide) (ci := 6) rfl rfl 0 rfl (fun _ h => h.elim) (fun v_1 u_1 H locs hp_1 hP hD hS => ?_)
    obtain rfl := hp_1
    have hP : va_P D cls [(m0, .inr (6, mF g (K.1, K.2.1, K.2.2.1, K.2.2.2.1, nI X.length, K.2.2.2.2.2.1, K.2.2.2.2.2.2.1, K.2.2.2.2.2.2.2.1, nI a1) A0 e np B)), ((g 30), .inl (cA 3, 2000, .inl yb)), ((g 38), .inl (cA 3, 2000, .inl ow)), ((g 39), .inl (cA 3, 2000, .inl fi)), ((g 40), .inl (cA 3, 2000, .inl be))] H := hP.sub [3, 4, 0, 1, 2] rfl
    have hD : va_D A [(m0, .inr (6, mF g (K.1, K.2.1, K.2.2.1, K.2.2.2.1, nI X.length, K.2.2.2.2.2.1, K.2.2.2.2.2.2.1, K.2.2.2.2.2.2.2.1, nI a1) A0 e np B)), ((g 30), .inl (cA 3, 2000, .inl yb)), ((g 38), .inl (cA 3, 2000, .inl ow)), ((g 39), .inl (cA 3, 2000, .inl fi)), ((g 40), .inl (cA 3, 2000, .inl be))] := hD.sub [3, 4, 0, 1, 2] (by decide) rfl
    refine W.cs (cells' := 0) (slots' := 0) rfl rfl ?_
    refine W.eq (g2 := F0 m 4 ls [.long (lN vs)]) rfl ?_
    refine lv_pop2_2 hx hb d_Md_lookBody_4 rfl ?_
    refine lv_aload_n hx hb d_Md_lookBody_5 rfl (lv_at hl 0 rfl) ?_
    refine cV (As := []) (rest := []) (n := 0) (wc := [(m0, .inr (6, mF g (K.1, K.2.1, K.2.2.1, K.2.2.2.1, nI X.length, K.2.2.2.2.2.1, K.2.2.2.2.2.2.1, K.2.2.2.2.2.2.2.1, nI a1) A0 e np B)), ((g 30), .inl (cA 3, 2000, .inl yb))]) (wr := [((g 38), .inl (cA 3, 2000, .inl ow)), ((g 39), .inl (cA 3, 2000, .inl fi)), ((g 40), .inl (cA 3, 2000, .inl be))]) ⟨hx, hb, hml, hown, hts⟩ hno hlocks hl.1 (c_Md_number l hl9 D cA ad H.size m0 g (K.1, K.2.1, K.2.2.1, K.2.2.2.1, nI X.length, K.2.2.2.2.2.1, K.2.2.2.2.2.2.1, K.2.2.2.2.2.2.2.1, nI a1) A0 e np B yb b l2 (by omega) (fun i hi => hyb i (by omega)) hb9 a1 n a2 (by omega) hd2) iw4_132 iw4_134 sel_Md_number iw1_7 iw4_135 (by decide +kernel) rfl ⟨Nat.le_of_ble_eq_true rfl, Nat.le_of_ble_eq_true rfl⟩ ⟨Nat.le_of_ble_eq_true rfl, Nat.le_of_ble_eq_true rfl⟩ rfl (Nat.le_of_ble_eq_true rfl) d_Md_lookBody_6 hE hP hD hS hA [0, 1] [2, 3, 4] rfl rfl rfl rfl (by decide) (ci := 6) rfl rfl 0 rfl (fun _ h => h.elim) (fun v_6 u_6 H locs hp_6 hP hD hS => ?_)
    obtain rfl := hp_6
    have hP : va_P D cls [(m0, .inr (6, mF g (K.1, K.2.1, K.2.2.1, K.2.2.2.1, nI X.length, K.2.2.2.2.2.1, K.2.2.2.2.2.2.1, K.2.2.2.2.2.2.2.1, nI a2) A0 e np B)), ((g 30), .inl (cA 3, 2000, .inl yb)), ((g 38), .inl (cA 3, 2000, .inl ow)), ((g 39), .inl (cA 3, 2000, .inl fi)), ((g 40), .inl (cA 3, 2000, .inl be))] H := hP.sub [3, 4, 0, 1, 2] rfl
    have hD : va_D A [(m0, .inr (6, mF g (K.1, K.2.1, K.2.2.1, K.2.2.2.1, nI X.length, K.2.2.2.2.2.1, K.2.2.2.2.2.2.1, K.2.2.2.2.2.2.2.1, nI a2) A0 e np B)), ((g 30), .inl (cA 3, 2000, .inl yb)), ((g 38), .inl (cA 3, 2000, .inl ow)), ((g 39), .inl (cA 3, 2000, .inl fi)), ((g 40), .inl (cA 3, 2000, .inl be))] := hD.sub [3, 4, 0, 1, 2] (by decide) rfl
    refine W.cs (cells' := 0) (slots' := 0) rfl rfl ?_
    refine W.eq (g2 := F0 m 9 ls [.long (lN n)]) rfl ?_
    refine lv_l2i hx hb d_Md_lookBody_9 rfl ?_
    rw [lN_i]
    refine lv_istore_n (lv' := [(3, .int (nI n)), (0, .ref m0), (1, .int (nI t)), (2, .int 3)]) hx hb d_Md_lookBody_10 rfl hl (by decide) rfl (fun ls hl => ?_)
    refine lv_iload_n hx hb d_Md_lookBody_11 rfl (lv_at hl 3 rfl) ?_
    refine lv_if_ne (tgt := 18) hx hb d_Md_lookBody_12 (by decide) (fun c_12 => ?_) (fun c_12 => absurd c_12 (by decide))
    refine lv_iload_n hx hb d_Md_lookBody_18 rfl (lv_at hl 3 rfl) ?_
    refine lv_iconst (v := 4) hx hb d_Md_lookBody_19 (by decide) ?_
    refine lv_icmp_eq (tgt := 28) hx hb d_Md_lookBody_20 (by decide) (fun c_20 => absurd c_20 (by decide)) (fun c_20 => ?_)
    refine lv_iload_n hx hb d_Md_lookBody_23 rfl (lv_at hl 3 rfl) ?_
    refine lv_iconst (v := 5) hx hb d_Md_lookBody_24 (by decide) ?_
    refine lv_icmp_ne (tgt := 36) hx hb d_Md_lookBody_25 (by decide) (fun c_25 => ?_) (fun c_25 => absurd c_25 (by decide))
    refine lv_iload_n hx hb d_Md_lookBody_36 rfl (lv_at hl 3 rfl) ?_
    refine lv_iconst (v := 1) hx hb d_Md_lookBody_37 (by decide) ?_
    refine lv_icmp_eq (tgt := 61) hx hb d_Md_lookBody_38 (by decide) (fun c_38 => absurd c_38 (by decide)) (fun c_38 => ?_)
    refine lv_iload_n hx hb d_Md_lookBody_41 rfl (lv_at hl 3 rfl) ?_
    refine lv_bipush (v := 8) hx hb d_Md_lookBody_42 (by decide) ?_
    refine lv_icmp_lt (tgt := 57) hx hb d_Md_lookBody_44 (by decide) (fun c_44 => ?_) (fun c_44 => absurd (by decide) c_44)
    refine lv_ldc2 hx hb hown (hts _ (List.mem_cons_of_mem _ iw3_204)) d_Md_lookBody_57 ?_
    exact cRl (nI a2) hx hb hr hlocks d_Md_lookBody_60 hS hP hD (rfl) (Nat.le_refl _) (Nat.le_refl _)
  · have hl : lv_has ls 9 [(0, .ref m0), (1, .int (nI t)), (2, .int 4)] := hl
    refine lv_aload_n hx hb d_Md_lookBody_0 rfl (lv_at hl 0 rfl) ?_
    refine cV (As := []) (rest := []) (n := 0) (wc := [(m0, .inr (6, mF g (K.1, K.2.1, K.2.2.1, K.2.2.2.1, nI X.length, K.2.2.2.2.2.1, K.2.2.2.2.2.2.1, K.2.2.2.2.2.2.2.1, nI a) A0 e np B)), ((g 30), .inl (cA 3, 2000, .inl yb))]) (wr := [((g 38), .inl (cA 3, 2000, .inl ow)), ((g 39), .inl (cA 3, 2000, .inl fi)), ((g 40), .inl (cA 3, 2000, .inl be))]) ⟨hx, hb, hml, hown, hts⟩ hno hlocks hl.1 (c_Md_number l hl9 D cA ad s.heap.size m0 g (K.1, K.2.1, K.2.2.1, K.2.2.2.1, nI X.length, K.2.2.2.2.2.1, K.2.2.2.2.2.2.1, K.2.2.2.2.2.2.2.1, nI a) A0 e np B yb b lm hlm hyb hb9 a vs a1 (by omega) hvs) iw4_132 iw4_134 sel_Md_number iw1_7 iw4_135 (by decide +kernel) rfl ⟨Nat.le_of_ble_eq_true rfl, Nat.le_of_ble_eq_true rfl⟩ ⟨Nat.le_of_ble_eq_true rfl, Nat.le_of_ble_eq_true rfl⟩ rfl (Nat.le_of_ble_eq_true rfl) d_Md_lookBody_1 hE hP hD hS hA [0, 1] [2, 3, 4] rfl rfl rfl rfl (by decide) (ci := 6) rfl rfl 0 rfl (fun _ h => h.elim) (fun v_1 u_1 H locs hp_1 hP hD hS => ?_)
    obtain rfl := hp_1
    have hP : va_P D cls [(m0, .inr (6, mF g (K.1, K.2.1, K.2.2.1, K.2.2.2.1, nI X.length, K.2.2.2.2.2.1, K.2.2.2.2.2.2.1, K.2.2.2.2.2.2.2.1, nI a1) A0 e np B)), ((g 30), .inl (cA 3, 2000, .inl yb)), ((g 38), .inl (cA 3, 2000, .inl ow)), ((g 39), .inl (cA 3, 2000, .inl fi)), ((g 40), .inl (cA 3, 2000, .inl be))] H := hP.sub [3, 4, 0, 1, 2] rfl
    have hD : va_D A [(m0, .inr (6, mF g (K.1, K.2.1, K.2.2.1, K.2.2.2.1, nI X.length, K.2.2.2.2.2.1, K.2.2.2.2.2.2.1, K.2.2.2.2.2.2.2.1, nI a1) A0 e np B)), ((g 30), .inl (cA 3, 2000, .inl yb)), ((g 38), .inl (cA 3, 2000, .inl ow)), ((g 39), .inl (cA 3, 2000, .inl fi)), ((g 40), .inl (cA 3, 2000, .inl be))] := hD.sub [3, 4, 0, 1, 2] (by decide) rfl
    refine W.cs (cells' := 0) (slots' := 0) rfl rfl ?_
    refine W.eq (g2 := F0 m 4 ls [.long (lN vs)]) rfl ?_
    refine lv_pop2_2 hx hb d_Md_lookBody_4 rfl ?_
    refine lv_aload_n hx hb d_Md_lookBody_5 rfl (lv_at hl 0 rfl) ?_
    refine cV (As := []) (rest := []) (n := 0) (wc := [(m0, .inr (6, mF g (K.1, K.2.1, K.2.2.1, K.2.2.2.1, nI X.length, K.2.2.2.2.2.1, K.2.2.2.2.2.2.1, K.2.2.2.2.2.2.2.1, nI a1) A0 e np B)), ((g 30), .inl (cA 3, 2000, .inl yb))]) (wr := [((g 38), .inl (cA 3, 2000, .inl ow)), ((g 39), .inl (cA 3, 2000, .inl fi)), ((g 40), .inl (cA 3, 2000, .inl be))]) ⟨hx, hb, hml, hown, hts⟩ hno hlocks hl.1 (c_Md_number l hl9 D cA ad H.size m0 g (K.1, K.2.1, K.2.2.1, K.2.2.2.1, nI X.length, K.2.2.2.2.2.1, K.2.2.2.2.2.2.1, K.2.2.2.2.2.2.2.1, nI a1) A0 e np B yb b l2 (by omega) (fun i hi => hyb i (by omega)) hb9 a1 n a2 (by omega) hd2) iw4_132 iw4_134 sel_Md_number iw1_7 iw4_135 (by decide +kernel) rfl ⟨Nat.le_of_ble_eq_true rfl, Nat.le_of_ble_eq_true rfl⟩ ⟨Nat.le_of_ble_eq_true rfl, Nat.le_of_ble_eq_true rfl⟩ rfl (Nat.le_of_ble_eq_true rfl) d_Md_lookBody_6 hE hP hD hS hA [0, 1] [2, 3, 4] rfl rfl rfl rfl (by decide) (ci := 6) rfl rfl 0 rfl (fun _ h => h.elim) (fun v_6 u_6 H locs hp_6 hP hD hS => ?_)
    obtain rfl := hp_6
    have hP : va_P D cls [(m0, .inr (6, mF g (K.1, K.2.1, K.2.2.1, K.2.2.2.1, nI X.length, K.2.2.2.2.2.1, K.2.2.2.2.2.2.1, K.2.2.2.2.2.2.2.1, nI a2) A0 e np B)), ((g 30), .inl (cA 3, 2000, .inl yb)), ((g 38), .inl (cA 3, 2000, .inl ow)), ((g 39), .inl (cA 3, 2000, .inl fi)), ((g 40), .inl (cA 3, 2000, .inl be))] H := hP.sub [3, 4, 0, 1, 2] rfl
    have hD : va_D A [(m0, .inr (6, mF g (K.1, K.2.1, K.2.2.1, K.2.2.2.1, nI X.length, K.2.2.2.2.2.1, K.2.2.2.2.2.2.1, K.2.2.2.2.2.2.2.1, nI a2) A0 e np B)), ((g 30), .inl (cA 3, 2000, .inl yb)), ((g 38), .inl (cA 3, 2000, .inl ow)), ((g 39), .inl (cA 3, 2000, .inl fi)), ((g 40), .inl (cA 3, 2000, .inl be))] := hD.sub [3, 4, 0, 1, 2] (by decide) rfl
    refine W.cs (cells' := 0) (slots' := 0) rfl rfl ?_
    refine W.eq (g2 := F0 m 9 ls [.long (lN n)]) rfl ?_
    refine lv_l2i hx hb d_Md_lookBody_9 rfl ?_
    rw [lN_i]
    refine lv_istore_n (lv' := [(3, .int (nI n)), (0, .ref m0), (1, .int (nI t)), (2, .int 4)]) hx hb d_Md_lookBody_10 rfl hl (by decide) rfl (fun ls hl => ?_)
    refine lv_iload_n hx hb d_Md_lookBody_11 rfl (lv_at hl 3 rfl) ?_
    refine lv_if_ne (tgt := 18) hx hb d_Md_lookBody_12 (by decide) (fun c_12 => ?_) (fun c_12 => absurd c_12 (by decide))
    refine lv_iload_n hx hb d_Md_lookBody_18 rfl (lv_at hl 3 rfl) ?_
    refine lv_iconst (v := 4) hx hb d_Md_lookBody_19 (by decide) ?_
    refine lv_icmp_eq (tgt := 28) hx hb d_Md_lookBody_20 (by decide) (fun c_20 => ?_) (fun c_20 => absurd (by decide) c_20)
    refine lv_aload_n hx hb d_Md_lookBody_28 rfl (lv_at hl 1 rfl) ?_
    refine lv_iload_n hx hb d_Md_lookBody_29 rfl (lv_at hl 2 rfl) ?_
    refine lv_iload_n hx hb d_Md_lookBody_30 rfl (lv_at hl 3 rfl) ?_
    refine cV (As := [.int (nI t), .int 4]) (rest := []) (n := 2) (wc := [(m0, .inr (6, mF g (K.1, K.2.1, K.2.2.1, K.2.2.2.1, nI X.length, K.2.2.2.2.2.1, K.2.2.2.2.2.2.1, K.2.2.2.2.2.2.2.1, nI a2) A0 e np B)), ((g 38), .inl (cA 3, 2000, .inl ow)), ((g 39), .inl (cA 3, 2000, .inl fi)), ((g 40), .inl (cA 3, 2000, .inl be))]) (wr := [((g 30), .inl (cA 3, 2000, .inl yb))]) ⟨hx, hb, hml, hown, hts⟩ hno hlocks hl.1 (c_Md_placeOf l hl9 D cA ad H.size m0 g (K.1, K.2.1, K.2.2.1, K.2.2.2.1, nI X.length, K.2.2.2.2.2.1, K.2.2.2.2.2.2.1, K.2.2.2.2.2.2.2.1, nI a2) A0 e np B ow fi be X hXH hXf hX t (by omega) a3 a4 [] hexx (4 : Int32)) iw4_152 iw4_154 sel_Md_placeOf iw1_7 iw4_155 (by decide +kernel) rfl ⟨Nat.le_of_ble_eq_true rfl, Nat.le_of_ble_eq_true rfl⟩ ⟨Nat.le_of_ble_eq_true rfl, Nat.le_of_ble_eq_true rfl⟩ rfl (Nat.le_of_ble_eq_true rfl) d_Md_lookBody_31 hE hP hD hS hA [0, 2, 3, 4] [1] rfl rfl rfl rfl (by decide) (ci := 6) rfl rfl 0 rfl (fun _ h => h.elim) (fun v_31 u_31 H locs hp_31 hP hD hS => ?_)
    obtain rfl := hp_31
    have hP : va_P D cls [(m0, .inr (6, mF g (K.1, K.2.1, K.2.2.1, K.2.2.2.1, nI X.length, K.2.2.2.2.2.1, K.2.2.2.2.2.2.1, K.2.2.2.2.2.2.2.1, nI a2) A0 e np B)), ((g 30), .inl (cA 3, 2000, .inl yb)), ((g 38), .inl (cA 3, 2000, .inl ow)), ((g 39), .inl (cA 3, 2000, .inl fi)), ((g 40), .inl (cA 3, 2000, .inl be))] H := hP.sub [1, 0, 2, 3, 4] rfl
    have hD : va_D A [(m0, .inr (6, mF g (K.1, K.2.1, K.2.2.1, K.2.2.2.1, nI X.length, K.2.2.2.2.2.1, K.2.2.2.2.2.2.1, K.2.2.2.2.2.2.2.1, nI a2) A0 e np B)), ((g 30), .inl (cA 3, 2000, .inl yb)), ((g 38), .inl (cA 3, 2000, .inl ow)), ((g 39), .inl (cA 3, 2000, .inl fi)), ((g 40), .inl (cA 3, 2000, .inl be))] := hD.sub [1, 0, 2, 3, 4] (by decide) rfl
    refine W.cs (cells' := 0) (slots' := 0) rfl rfl ?_
    refine W.eq (g2 := F0 m 34 ls [.int (if (4 : Int32) = 4 then nI a3 else nI a4)]) rfl ?_
    refine lv_i2l hx hb d_Md_lookBody_34 rfl ?_
    rw [if_pos rfl, nI_l (n := a3) (by omega)]
    exact cRl (nI a2) hx hb hr hlocks d_Md_lookBody_35 hS hP hD (rfl) (Nat.le_refl _) (Nat.le_refl _)
  · have hl : lv_has ls 9 [(0, .ref m0), (1, .int (nI t)), (2, .int 5)] := hl
    refine lv_aload_n hx hb d_Md_lookBody_0 rfl (lv_at hl 0 rfl) ?_
    refine cV (As := []) (rest := []) (n := 0) (wc := [(m0, .inr (6, mF g (K.1, K.2.1, K.2.2.1, K.2.2.2.1, nI X.length, K.2.2.2.2.2.1, K.2.2.2.2.2.2.1, K.2.2.2.2.2.2.2.1, nI a) A0 e np B)), ((g 30), .inl (cA 3, 2000, .inl yb))]) (wr := [((g 38), .inl (cA 3, 2000, .inl ow)), ((g 39), .inl (cA 3, 2000, .inl fi)), ((g 40), .inl (cA 3, 2000, .inl be))]) ⟨hx, hb, hml, hown, hts⟩ hno hlocks hl.1 (c_Md_number l hl9 D cA ad s.heap.size m0 g (K.1, K.2.1, K.2.2.1, K.2.2.2.1, nI X.length, K.2.2.2.2.2.1, K.2.2.2.2.2.2.1, K.2.2.2.2.2.2.2.1, nI a) A0 e np B yb b lm hlm hyb hb9 a vs a1 (by omega) hvs) iw4_132 iw4_134 sel_Md_number iw1_7 iw4_135 (by decide +kernel) rfl ⟨Nat.le_of_ble_eq_true rfl, Nat.le_of_ble_eq_true rfl⟩ ⟨Nat.le_of_ble_eq_true rfl, Nat.le_of_ble_eq_true rfl⟩ rfl (Nat.le_of_ble_eq_true rfl) d_Md_lookBody_1 hE hP hD hS hA [0, 1] [2, 3, 4] rfl rfl rfl rfl (by decide) (ci := 6) rfl rfl 0 rfl (fun _ h => h.elim) (fun v_1 u_1 H locs hp_1 hP hD hS => ?_)
    obtain rfl := hp_1
    have hP : va_P D cls [(m0, .inr (6, mF g (K.1, K.2.1, K.2.2.1, K.2.2.2.1, nI X.length, K.2.2.2.2.2.1, K.2.2.2.2.2.2.1, K.2.2.2.2.2.2.2.1, nI a1) A0 e np B)), ((g 30), .inl (cA 3, 2000, .inl yb)), ((g 38), .inl (cA 3, 2000, .inl ow)), ((g 39), .inl (cA 3, 2000, .inl fi)), ((g 40), .inl (cA 3, 2000, .inl be))] H := hP.sub [3, 4, 0, 1, 2] rfl
    have hD : va_D A [(m0, .inr (6, mF g (K.1, K.2.1, K.2.2.1, K.2.2.2.1, nI X.length, K.2.2.2.2.2.1, K.2.2.2.2.2.2.1, K.2.2.2.2.2.2.2.1, nI a1) A0 e np B)), ((g 30), .inl (cA 3, 2000, .inl yb)), ((g 38), .inl (cA 3, 2000, .inl ow)), ((g 39), .inl (cA 3, 2000, .inl fi)), ((g 40), .inl (cA 3, 2000, .inl be))] := hD.sub [3, 4, 0, 1, 2] (by decide) rfl
    refine W.cs (cells' := 0) (slots' := 0) rfl rfl ?_
    refine W.eq (g2 := F0 m 4 ls [.long (lN vs)]) rfl ?_
    refine lv_pop2_2 hx hb d_Md_lookBody_4 rfl ?_
    refine lv_aload_n hx hb d_Md_lookBody_5 rfl (lv_at hl 0 rfl) ?_
    refine cV (As := []) (rest := []) (n := 0) (wc := [(m0, .inr (6, mF g (K.1, K.2.1, K.2.2.1, K.2.2.2.1, nI X.length, K.2.2.2.2.2.1, K.2.2.2.2.2.2.1, K.2.2.2.2.2.2.2.1, nI a1) A0 e np B)), ((g 30), .inl (cA 3, 2000, .inl yb))]) (wr := [((g 38), .inl (cA 3, 2000, .inl ow)), ((g 39), .inl (cA 3, 2000, .inl fi)), ((g 40), .inl (cA 3, 2000, .inl be))]) ⟨hx, hb, hml, hown, hts⟩ hno hlocks hl.1 (c_Md_number l hl9 D cA ad H.size m0 g (K.1, K.2.1, K.2.2.1, K.2.2.2.1, nI X.length, K.2.2.2.2.2.1, K.2.2.2.2.2.2.1, K.2.2.2.2.2.2.2.1, nI a1) A0 e np B yb b l2 (by omega) (fun i hi => hyb i (by omega)) hb9 a1 n a2 (by omega) hd2) iw4_132 iw4_134 sel_Md_number iw1_7 iw4_135 (by decide +kernel) rfl ⟨Nat.le_of_ble_eq_true rfl, Nat.le_of_ble_eq_true rfl⟩ ⟨Nat.le_of_ble_eq_true rfl, Nat.le_of_ble_eq_true rfl⟩ rfl (Nat.le_of_ble_eq_true rfl) d_Md_lookBody_6 hE hP hD hS hA [0, 1] [2, 3, 4] rfl rfl rfl rfl (by decide) (ci := 6) rfl rfl 0 rfl (fun _ h => h.elim) (fun v_6 u_6 H locs hp_6 hP hD hS => ?_)
    obtain rfl := hp_6
    have hP : va_P D cls [(m0, .inr (6, mF g (K.1, K.2.1, K.2.2.1, K.2.2.2.1, nI X.length, K.2.2.2.2.2.1, K.2.2.2.2.2.2.1, K.2.2.2.2.2.2.2.1, nI a2) A0 e np B)), ((g 30), .inl (cA 3, 2000, .inl yb)), ((g 38), .inl (cA 3, 2000, .inl ow)), ((g 39), .inl (cA 3, 2000, .inl fi)), ((g 40), .inl (cA 3, 2000, .inl be))] H := hP.sub [3, 4, 0, 1, 2] rfl
    have hD : va_D A [(m0, .inr (6, mF g (K.1, K.2.1, K.2.2.1, K.2.2.2.1, nI X.length, K.2.2.2.2.2.1, K.2.2.2.2.2.2.1, K.2.2.2.2.2.2.2.1, nI a2) A0 e np B)), ((g 30), .inl (cA 3, 2000, .inl yb)), ((g 38), .inl (cA 3, 2000, .inl ow)), ((g 39), .inl (cA 3, 2000, .inl fi)), ((g 40), .inl (cA 3, 2000, .inl be))] := hD.sub [3, 4, 0, 1, 2] (by decide) rfl
    refine W.cs (cells' := 0) (slots' := 0) rfl rfl ?_
    refine W.eq (g2 := F0 m 9 ls [.long (lN n)]) rfl ?_
    refine lv_l2i hx hb d_Md_lookBody_9 rfl ?_
    rw [lN_i]
    refine lv_istore_n (lv' := [(3, .int (nI n)), (0, .ref m0), (1, .int (nI t)), (2, .int 5)]) hx hb d_Md_lookBody_10 rfl hl (by decide) rfl (fun ls hl => ?_)
    refine lv_iload_n hx hb d_Md_lookBody_11 rfl (lv_at hl 3 rfl) ?_
    refine lv_if_ne (tgt := 18) hx hb d_Md_lookBody_12 (by decide) (fun c_12 => ?_) (fun c_12 => absurd c_12 (by decide))
    refine lv_iload_n hx hb d_Md_lookBody_18 rfl (lv_at hl 3 rfl) ?_
    refine lv_iconst (v := 4) hx hb d_Md_lookBody_19 (by decide) ?_
    refine lv_icmp_eq (tgt := 28) hx hb d_Md_lookBody_20 (by decide) (fun c_20 => absurd c_20 (by decide)) (fun c_20 => ?_)
    refine lv_iload_n hx hb d_Md_lookBody_23 rfl (lv_at hl 3 rfl) ?_
    refine lv_iconst (v := 5) hx hb d_Md_lookBody_24 (by decide) ?_
    refine lv_icmp_ne (tgt := 36) hx hb d_Md_lookBody_25 (by decide) (fun c_25 => absurd (by decide) c_25) (fun c_25 => ?_)
    refine lv_aload_n hx hb d_Md_lookBody_28 rfl (lv_at hl 1 rfl) ?_
    refine lv_iload_n hx hb d_Md_lookBody_29 rfl (lv_at hl 2 rfl) ?_
    refine lv_iload_n hx hb d_Md_lookBody_30 rfl (lv_at hl 3 rfl) ?_
    refine cV (As := [.int (nI t), .int 5]) (rest := []) (n := 2) (wc := [(m0, .inr (6, mF g (K.1, K.2.1, K.2.2.1, K.2.2.2.1, nI X.length, K.2.2.2.2.2.1, K.2.2.2.2.2.2.1, K.2.2.2.2.2.2.2.1, nI a2) A0 e np B)), ((g 38), .inl (cA 3, 2000, .inl ow)), ((g 39), .inl (cA 3, 2000, .inl fi)), ((g 40), .inl (cA 3, 2000, .inl be))]) (wr := [((g 30), .inl (cA 3, 2000, .inl yb))]) ⟨hx, hb, hml, hown, hts⟩ hno hlocks hl.1 (c_Md_placeOf l hl9 D cA ad H.size m0 g (K.1, K.2.1, K.2.2.1, K.2.2.2.1, nI X.length, K.2.2.2.2.2.1, K.2.2.2.2.2.2.1, K.2.2.2.2.2.2.2.1, nI a2) A0 e np B ow fi be X hXH hXf hX t (by omega) a3 a4 [] hexx (5 : Int32)) iw4_152 iw4_154 sel_Md_placeOf iw1_7 iw4_155 (by decide +kernel) rfl ⟨Nat.le_of_ble_eq_true rfl, Nat.le_of_ble_eq_true rfl⟩ ⟨Nat.le_of_ble_eq_true rfl, Nat.le_of_ble_eq_true rfl⟩ rfl (Nat.le_of_ble_eq_true rfl) d_Md_lookBody_31 hE hP hD hS hA [0, 2, 3, 4] [1] rfl rfl rfl rfl (by decide) (ci := 6) rfl rfl 0 rfl (fun _ h => h.elim) (fun v_31 u_31 H locs hp_31 hP hD hS => ?_)
    obtain rfl := hp_31
    have hP : va_P D cls [(m0, .inr (6, mF g (K.1, K.2.1, K.2.2.1, K.2.2.2.1, nI X.length, K.2.2.2.2.2.1, K.2.2.2.2.2.2.1, K.2.2.2.2.2.2.2.1, nI a2) A0 e np B)), ((g 30), .inl (cA 3, 2000, .inl yb)), ((g 38), .inl (cA 3, 2000, .inl ow)), ((g 39), .inl (cA 3, 2000, .inl fi)), ((g 40), .inl (cA 3, 2000, .inl be))] H := hP.sub [1, 0, 2, 3, 4] rfl
    have hD : va_D A [(m0, .inr (6, mF g (K.1, K.2.1, K.2.2.1, K.2.2.2.1, nI X.length, K.2.2.2.2.2.1, K.2.2.2.2.2.2.1, K.2.2.2.2.2.2.2.1, nI a2) A0 e np B)), ((g 30), .inl (cA 3, 2000, .inl yb)), ((g 38), .inl (cA 3, 2000, .inl ow)), ((g 39), .inl (cA 3, 2000, .inl fi)), ((g 40), .inl (cA 3, 2000, .inl be))] := hD.sub [1, 0, 2, 3, 4] (by decide) rfl
    refine W.cs (cells' := 0) (slots' := 0) rfl rfl ?_
    refine W.eq (g2 := F0 m 34 ls [.int (if (5 : Int32) = 4 then nI a3 else nI a4)]) rfl ?_
    refine lv_i2l hx hb d_Md_lookBody_34 rfl ?_
    rw [if_neg (by decide), nI_l (n := a4) (by omega)]
    exact cRl (nI a2) hx hb hr hlocks d_Md_lookBody_35 hS hP hD (rfl) (Nat.le_refl _) (Nat.le_refl _)
  · have hl : lv_has ls 9 [(0, .ref m0), (1, .int (nI t)), (2, .int 6)] := hl
    refine lv_aload_n hx hb d_Md_lookBody_0 rfl (lv_at hl 0 rfl) ?_
    refine cV (As := []) (rest := []) (n := 0) (wc := [(m0, .inr (6, mF g (K.1, K.2.1, K.2.2.1, K.2.2.2.1, nI X.length, K.2.2.2.2.2.1, K.2.2.2.2.2.2.1, K.2.2.2.2.2.2.2.1, nI a) A0 e np B)), ((g 30), .inl (cA 3, 2000, .inl yb))]) (wr := [((g 38), .inl (cA 3, 2000, .inl ow)), ((g 39), .inl (cA 3, 2000, .inl fi)), ((g 40), .inl (cA 3, 2000, .inl be))]) ⟨hx, hb, hml, hown, hts⟩ hno hlocks hl.1 (c_Md_number l hl9 D cA ad s.heap.size m0 g (K.1, K.2.1, K.2.2.1, K.2.2.2.1, nI X.length, K.2.2.2.2.2.1, K.2.2.2.2.2.2.1, K.2.2.2.2.2.2.2.1, nI a) A0 e np B yb b lm hlm hyb hb9 a vs a1 (by omega) hvs) iw4_132 iw4_134 sel_Md_number iw1_7 iw4_135 (by decide +kernel) rfl ⟨Nat.le_of_ble_eq_true rfl, Nat.le_of_ble_eq_true rfl⟩ ⟨Nat.le_of_ble_eq_true rfl, Nat.le_of_ble_eq_true rfl⟩ rfl (Nat.le_of_ble_eq_true rfl) d_Md_lookBody_1 hE hP hD hS hA [0, 1] [2, 3, 4] rfl rfl rfl rfl (by decide) (ci := 6) rfl rfl 0 rfl (fun _ h => h.elim) (fun v_1 u_1 H locs hp_1 hP hD hS => ?_)
    obtain rfl := hp_1
    have hP : va_P D cls [(m0, .inr (6, mF g (K.1, K.2.1, K.2.2.1, K.2.2.2.1, nI X.length, K.2.2.2.2.2.1, K.2.2.2.2.2.2.1, K.2.2.2.2.2.2.2.1, nI a1) A0 e np B)), ((g 30), .inl (cA 3, 2000, .inl yb)), ((g 38), .inl (cA 3, 2000, .inl ow)), ((g 39), .inl (cA 3, 2000, .inl fi)), ((g 40), .inl (cA 3, 2000, .inl be))] H := hP.sub [3, 4, 0, 1, 2] rfl
    have hD : va_D A [(m0, .inr (6, mF g (K.1, K.2.1, K.2.2.1, K.2.2.2.1, nI X.length, K.2.2.2.2.2.1, K.2.2.2.2.2.2.1, K.2.2.2.2.2.2.2.1, nI a1) A0 e np B)), ((g 30), .inl (cA 3, 2000, .inl yb)), ((g 38), .inl (cA 3, 2000, .inl ow)), ((g 39), .inl (cA 3, 2000, .inl fi)), ((g 40), .inl (cA 3, 2000, .inl be))] := hD.sub [3, 4, 0, 1, 2] (by decide) rfl
    refine W.cs (cells' := 0) (slots' := 0) rfl rfl ?_
    refine W.eq (g2 := F0 m 4 ls [.long (lN vs)]) rfl ?_
    refine lv_pop2_2 hx hb d_Md_lookBody_4 rfl ?_
    refine lv_aload_n hx hb d_Md_lookBody_5 rfl (lv_at hl 0 rfl) ?_
    refine cV (As := []) (rest := []) (n := 0) (wc := [(m0, .inr (6, mF g (K.1, K.2.1, K.2.2.1, K.2.2.2.1, nI X.length, K.2.2.2.2.2.1, K.2.2.2.2.2.2.1, K.2.2.2.2.2.2.2.1, nI a1) A0 e np B)), ((g 30), .inl (cA 3, 2000, .inl yb))]) (wr := [((g 38), .inl (cA 3, 2000, .inl ow)), ((g 39), .inl (cA 3, 2000, .inl fi)), ((g 40), .inl (cA 3, 2000, .inl be))]) ⟨hx, hb, hml, hown, hts⟩ hno hlocks hl.1 (c_Md_number l hl9 D cA ad H.size m0 g (K.1, K.2.1, K.2.2.1, K.2.2.2.1, nI X.length, K.2.2.2.2.2.1, K.2.2.2.2.2.2.1, K.2.2.2.2.2.2.2.1, nI a1) A0 e np B yb b l2 (by omega) (fun i hi => hyb i (by omega)) hb9 a1 n a2 (by omega) hd2) iw4_132 iw4_134 sel_Md_number iw1_7 iw4_135 (by decide +kernel) rfl ⟨Nat.le_of_ble_eq_true rfl, Nat.le_of_ble_eq_true rfl⟩ ⟨Nat.le_of_ble_eq_true rfl, Nat.le_of_ble_eq_true rfl⟩ rfl (Nat.le_of_ble_eq_true rfl) d_Md_lookBody_6 hE hP hD hS hA [0, 1] [2, 3, 4] rfl rfl rfl rfl (by decide) (ci := 6) rfl rfl 0 rfl (fun _ h => h.elim) (fun v_6 u_6 H locs hp_6 hP hD hS => ?_)
    obtain rfl := hp_6
    have hP : va_P D cls [(m0, .inr (6, mF g (K.1, K.2.1, K.2.2.1, K.2.2.2.1, nI X.length, K.2.2.2.2.2.1, K.2.2.2.2.2.2.1, K.2.2.2.2.2.2.2.1, nI a2) A0 e np B)), ((g 30), .inl (cA 3, 2000, .inl yb)), ((g 38), .inl (cA 3, 2000, .inl ow)), ((g 39), .inl (cA 3, 2000, .inl fi)), ((g 40), .inl (cA 3, 2000, .inl be))] H := hP.sub [3, 4, 0, 1, 2] rfl
    have hD : va_D A [(m0, .inr (6, mF g (K.1, K.2.1, K.2.2.1, K.2.2.2.1, nI X.length, K.2.2.2.2.2.1, K.2.2.2.2.2.2.1, K.2.2.2.2.2.2.2.1, nI a2) A0 e np B)), ((g 30), .inl (cA 3, 2000, .inl yb)), ((g 38), .inl (cA 3, 2000, .inl ow)), ((g 39), .inl (cA 3, 2000, .inl fi)), ((g 40), .inl (cA 3, 2000, .inl be))] := hD.sub [3, 4, 0, 1, 2] (by decide) rfl
    refine W.cs (cells' := 0) (slots' := 0) rfl rfl ?_
    refine W.eq (g2 := F0 m 9 ls [.long (lN n)]) rfl ?_
    refine lv_l2i hx hb d_Md_lookBody_9 rfl ?_
    rw [lN_i]
    refine lv_istore_n (lv' := [(3, .int (nI n)), (0, .ref m0), (1, .int (nI t)), (2, .int 6)]) hx hb d_Md_lookBody_10 rfl hl (by decide) rfl (fun ls hl => ?_)
    refine lv_iload_n hx hb d_Md_lookBody_11 rfl (lv_at hl 3 rfl) ?_
    refine lv_if_ne (tgt := 18) hx hb d_Md_lookBody_12 (by decide) (fun c_12 => ?_) (fun c_12 => absurd c_12 (by decide))
    refine lv_iload_n hx hb d_Md_lookBody_18 rfl (lv_at hl 3 rfl) ?_
    refine lv_iconst (v := 4) hx hb d_Md_lookBody_19 (by decide) ?_
    refine lv_icmp_eq (tgt := 28) hx hb d_Md_lookBody_20 (by decide) (fun c_20 => absurd c_20 (by decide)) (fun c_20 => ?_)
    refine lv_iload_n hx hb d_Md_lookBody_23 rfl (lv_at hl 3 rfl) ?_
    refine lv_iconst (v := 5) hx hb d_Md_lookBody_24 (by decide) ?_
    refine lv_icmp_ne (tgt := 36) hx hb d_Md_lookBody_25 (by decide) (fun c_25 => ?_) (fun c_25 => absurd c_25 (by decide))
    refine lv_iload_n hx hb d_Md_lookBody_36 rfl (lv_at hl 3 rfl) ?_
    refine lv_iconst (v := 1) hx hb d_Md_lookBody_37 (by decide) ?_
    refine lv_icmp_eq (tgt := 61) hx hb d_Md_lookBody_38 (by decide) (fun c_38 => absurd c_38 (by decide)) (fun c_38 => ?_)
    refine lv_iload_n hx hb d_Md_lookBody_41 rfl (lv_at hl 3 rfl) ?_
    refine lv_bipush (v := 8) hx hb d_Md_lookBody_42 (by decide) ?_
    refine lv_icmp_lt (tgt := 57) hx hb d_Md_lookBody_44 (by decide) (fun c_44 => ?_) (fun c_44 => absurd (by decide) c_44)
    refine lv_ldc2 hx hb hown (hts _ (List.mem_cons_of_mem _ iw3_204)) d_Md_lookBody_57 ?_
    exact cRl (nI a2) hx hb hr hlocks d_Md_lookBody_60 hS hP hD (rfl) (Nat.le_refl _) (Nat.le_refl _)
  · have hl : lv_has ls 9 [(0, .ref m0), (1, .int (nI t)), (2, .int 7)] := hl
    refine lv_aload_n hx hb d_Md_lookBody_0 rfl (lv_at hl 0 rfl) ?_
    refine cV (As := []) (rest := []) (n := 0) (wc := [(m0, .inr (6, mF g (K.1, K.2.1, K.2.2.1, K.2.2.2.1, nI X.length, K.2.2.2.2.2.1, K.2.2.2.2.2.2.1, K.2.2.2.2.2.2.2.1, nI a) A0 e np B)), ((g 30), .inl (cA 3, 2000, .inl yb))]) (wr := [((g 38), .inl (cA 3, 2000, .inl ow)), ((g 39), .inl (cA 3, 2000, .inl fi)), ((g 40), .inl (cA 3, 2000, .inl be))]) ⟨hx, hb, hml, hown, hts⟩ hno hlocks hl.1 (c_Md_number l hl9 D cA ad s.heap.size m0 g (K.1, K.2.1, K.2.2.1, K.2.2.2.1, nI X.length, K.2.2.2.2.2.1, K.2.2.2.2.2.2.1, K.2.2.2.2.2.2.2.1, nI a) A0 e np B yb b lm hlm hyb hb9 a vs a1 (by omega) hvs) iw4_132 iw4_134 sel_Md_number iw1_7 iw4_135 (by decide +kernel) rfl ⟨Nat.le_of_ble_eq_true rfl, Nat.le_of_ble_eq_true rfl⟩ ⟨Nat.le_of_ble_eq_true rfl, Nat.le_of_ble_eq_true rfl⟩ rfl (Nat.le_of_ble_eq_true rfl) d_Md_lookBody_1 hE hP hD hS hA [0, 1] [2, 3, 4] rfl rfl rfl rfl (by decide) (ci := 6) rfl rfl 0 rfl (fun _ h => h.elim) (fun v_1 u_1 H locs hp_1 hP hD hS => ?_)
    obtain rfl := hp_1
    have hP : va_P D cls [(m0, .inr (6, mF g (K.1, K.2.1, K.2.2.1, K.2.2.2.1, nI X.length, K.2.2.2.2.2.1, K.2.2.2.2.2.2.1, K.2.2.2.2.2.2.2.1, nI a1) A0 e np B)), ((g 30), .inl (cA 3, 2000, .inl yb)), ((g 38), .inl (cA 3, 2000, .inl ow)), ((g 39), .inl (cA 3, 2000, .inl fi)), ((g 40), .inl (cA 3, 2000, .inl be))] H := hP.sub [3, 4, 0, 1, 2] rfl
    have hD : va_D A [(m0, .inr (6, mF g (K.1, K.2.1, K.2.2.1, K.2.2.2.1, nI X.length, K.2.2.2.2.2.1, K.2.2.2.2.2.2.1, K.2.2.2.2.2.2.2.1, nI a1) A0 e np B)), ((g 30), .inl (cA 3, 2000, .inl yb)), ((g 38), .inl (cA 3, 2000, .inl ow)), ((g 39), .inl (cA 3, 2000, .inl fi)), ((g 40), .inl (cA 3, 2000, .inl be))] := hD.sub [3, 4, 0, 1, 2] (by decide) rfl
    refine W.cs (cells' := 0) (slots' := 0) rfl rfl ?_
    refine W.eq (g2 := F0 m 4 ls [.long (lN vs)]) rfl ?_
    refine lv_pop2_2 hx hb d_Md_lookBody_4 rfl ?_
    refine lv_aload_n hx hb d_Md_lookBody_5 rfl (lv_at hl 0 rfl) ?_
    refine cV (As := []) (rest := []) (n := 0) (wc := [(m0, .inr (6, mF g (K.1, K.2.1, K.2.2.1, K.2.2.2.1, nI X.length, K.2.2.2.2.2.1, K.2.2.2.2.2.2.1, K.2.2.2.2.2.2.2.1, nI a1) A0 e np B)), ((g 30), .inl (cA 3, 2000, .inl yb))]) (wr := [((g 38), .inl (cA 3, 2000, .inl ow)), ((g 39), .inl (cA 3, 2000, .inl fi)), ((g 40), .inl (cA 3, 2000, .inl be))]) ⟨hx, hb, hml, hown, hts⟩ hno hlocks hl.1 (c_Md_number l hl9 D cA ad H.size m0 g (K.1, K.2.1, K.2.2.1, K.2.2.2.1, nI X.length, K.2.2.2.2.2.1, K.2.2.2.2.2.2.1, K.2.2.2.2.2.2.2.1, nI a1) A0 e np B yb b l2 (by omega) (fun i hi => hyb i (by omega)) hb9 a1 n a2 (by omega) hd2) iw4_132 iw4_134 sel_Md_number iw1_7 iw4_135 (by decide +kernel) rfl ⟨Nat.le_of_ble_eq_true rfl, Nat.le_of_ble_eq_true rfl⟩ ⟨Nat.le_of_ble_eq_true rfl, Nat.le_of_ble_eq_true rfl⟩ rfl (Nat.le_of_ble_eq_true rfl) d_Md_lookBody_6 hE hP hD hS hA [0, 1] [2, 3, 4] rfl rfl rfl rfl (by decide) (ci := 6) rfl rfl 0 rfl (fun _ h => h.elim) (fun v_6 u_6 H locs hp_6 hP hD hS => ?_)
    obtain rfl := hp_6
    have hP : va_P D cls [(m0, .inr (6, mF g (K.1, K.2.1, K.2.2.1, K.2.2.2.1, nI X.length, K.2.2.2.2.2.1, K.2.2.2.2.2.2.1, K.2.2.2.2.2.2.2.1, nI a2) A0 e np B)), ((g 30), .inl (cA 3, 2000, .inl yb)), ((g 38), .inl (cA 3, 2000, .inl ow)), ((g 39), .inl (cA 3, 2000, .inl fi)), ((g 40), .inl (cA 3, 2000, .inl be))] H := hP.sub [3, 4, 0, 1, 2] rfl
    have hD : va_D A [(m0, .inr (6, mF g (K.1, K.2.1, K.2.2.1, K.2.2.2.1, nI X.length, K.2.2.2.2.2.1, K.2.2.2.2.2.2.1, K.2.2.2.2.2.2.2.1, nI a2) A0 e np B)), ((g 30), .inl (cA 3, 2000, .inl yb)), ((g 38), .inl (cA 3, 2000, .inl ow)), ((g 39), .inl (cA 3, 2000, .inl fi)), ((g 40), .inl (cA 3, 2000, .inl be))] := hD.sub [3, 4, 0, 1, 2] (by decide) rfl
    refine W.cs (cells' := 0) (slots' := 0) rfl rfl ?_
    refine W.eq (g2 := F0 m 9 ls [.long (lN n)]) rfl ?_
    refine lv_l2i hx hb d_Md_lookBody_9 rfl ?_
    rw [lN_i]
    refine lv_istore_n (lv' := [(3, .int (nI n)), (0, .ref m0), (1, .int (nI t)), (2, .int 7)]) hx hb d_Md_lookBody_10 rfl hl (by decide) rfl (fun ls hl => ?_)
    refine lv_iload_n hx hb d_Md_lookBody_11 rfl (lv_at hl 3 rfl) ?_
    refine lv_if_ne (tgt := 18) hx hb d_Md_lookBody_12 (by decide) (fun c_12 => ?_) (fun c_12 => absurd c_12 (by decide))
    refine lv_iload_n hx hb d_Md_lookBody_18 rfl (lv_at hl 3 rfl) ?_
    refine lv_iconst (v := 4) hx hb d_Md_lookBody_19 (by decide) ?_
    refine lv_icmp_eq (tgt := 28) hx hb d_Md_lookBody_20 (by decide) (fun c_20 => absurd c_20 (by decide)) (fun c_20 => ?_)
    refine lv_iload_n hx hb d_Md_lookBody_23 rfl (lv_at hl 3 rfl) ?_
    refine lv_iconst (v := 5) hx hb d_Md_lookBody_24 (by decide) ?_
    refine lv_icmp_ne (tgt := 36) hx hb d_Md_lookBody_25 (by decide) (fun c_25 => ?_) (fun c_25 => absurd c_25 (by decide))
    refine lv_iload_n hx hb d_Md_lookBody_36 rfl (lv_at hl 3 rfl) ?_
    refine lv_iconst (v := 1) hx hb d_Md_lookBody_37 (by decide) ?_
    refine lv_icmp_eq (tgt := 61) hx hb d_Md_lookBody_38 (by decide) (fun c_38 => absurd c_38 (by decide)) (fun c_38 => ?_)
    refine lv_iload_n hx hb d_Md_lookBody_41 rfl (lv_at hl 3 rfl) ?_
    refine lv_bipush (v := 8) hx hb d_Md_lookBody_42 (by decide) ?_
    refine lv_icmp_lt (tgt := 57) hx hb d_Md_lookBody_44 (by decide) (fun c_44 => ?_) (fun c_44 => absurd (by decide) c_44)
    refine lv_ldc2 hx hb hown (hts _ (List.mem_cons_of_mem _ iw3_204)) d_Md_lookBody_57 ?_
    exact cRl (nI a2) hx hb hr hlocks d_Md_lookBody_60 hS hP hD (rfl) (Nat.le_refl _) (Nat.le_refl _)
  · have hl := hl
    refine lv_aload_n hx hb d_Md_lookBody_0 rfl (lv_at hl 0 rfl) ?_
    refine cV (As := []) (rest := []) (n := 0) (wc := [(m0, .inr (6, mF g (K.1, K.2.1, K.2.2.1, K.2.2.2.1, nI X.length, K.2.2.2.2.2.1, K.2.2.2.2.2.2.1, K.2.2.2.2.2.2.2.1, nI a) A0 e np B)), ((g 30), .inl (cA 3, 2000, .inl yb))]) (wr := [((g 38), .inl (cA 3, 2000, .inl ow)), ((g 39), .inl (cA 3, 2000, .inl fi)), ((g 40), .inl (cA 3, 2000, .inl be))]) ⟨hx, hb, hml, hown, hts⟩ hno hlocks hl.1 (c_Md_number l hl9 D cA ad s.heap.size m0 g (K.1, K.2.1, K.2.2.1, K.2.2.2.1, nI X.length, K.2.2.2.2.2.1, K.2.2.2.2.2.2.1, K.2.2.2.2.2.2.2.1, nI a) A0 e np B yb b lm hlm hyb hb9 a vs a1 (by omega) hvs) iw4_132 iw4_134 sel_Md_number iw1_7 iw4_135 (by decide +kernel) rfl ⟨Nat.le_of_ble_eq_true rfl, Nat.le_of_ble_eq_true rfl⟩ ⟨Nat.le_of_ble_eq_true rfl, Nat.le_of_ble_eq_true rfl⟩ rfl (Nat.le_of_ble_eq_true rfl) d_Md_lookBody_1 hE hP hD hS hA [0, 1] [2, 3, 4] rfl rfl rfl rfl (by decide) (ci := 6) rfl rfl 0 rfl (fun _ h => h.elim) (fun v_1 u_1 H locs hp_1 hP hD hS => ?_)
    obtain rfl := hp_1
    have hP : va_P D cls [(m0, .inr (6, mF g (K.1, K.2.1, K.2.2.1, K.2.2.2.1, nI X.length, K.2.2.2.2.2.1, K.2.2.2.2.2.2.1, K.2.2.2.2.2.2.2.1, nI a1) A0 e np B)), ((g 30), .inl (cA 3, 2000, .inl yb)), ((g 38), .inl (cA 3, 2000, .inl ow)), ((g 39), .inl (cA 3, 2000, .inl fi)), ((g 40), .inl (cA 3, 2000, .inl be))] H := hP.sub [3, 4, 0, 1, 2] rfl
    have hD : va_D A [(m0, .inr (6, mF g (K.1, K.2.1, K.2.2.1, K.2.2.2.1, nI X.length, K.2.2.2.2.2.1, K.2.2.2.2.2.2.1, K.2.2.2.2.2.2.2.1, nI a1) A0 e np B)), ((g 30), .inl (cA 3, 2000, .inl yb)), ((g 38), .inl (cA 3, 2000, .inl ow)), ((g 39), .inl (cA 3, 2000, .inl fi)), ((g 40), .inl (cA 3, 2000, .inl be))] := hD.sub [3, 4, 0, 1, 2] (by decide) rfl
    refine W.cs (cells' := 0) (slots' := 0) rfl rfl ?_
    refine W.eq (g2 := F0 m 4 ls [.long (lN vs)]) rfl ?_
    refine lv_pop2_2 hx hb d_Md_lookBody_4 rfl ?_
    refine lv_aload_n hx hb d_Md_lookBody_5 rfl (lv_at hl 0 rfl) ?_
    refine cV (As := []) (rest := []) (n := 0) (wc := [(m0, .inr (6, mF g (K.1, K.2.1, K.2.2.1, K.2.2.2.1, nI X.length, K.2.2.2.2.2.1, K.2.2.2.2.2.2.1, K.2.2.2.2.2.2.2.1, nI a1) A0 e np B)), ((g 30), .inl (cA 3, 2000, .inl yb))]) (wr := [((g 38), .inl (cA 3, 2000, .inl ow)), ((g 39), .inl (cA 3, 2000, .inl fi)), ((g 40), .inl (cA 3, 2000, .inl be))]) ⟨hx, hb, hml, hown, hts⟩ hno hlocks hl.1 (c_Md_number l hl9 D cA ad H.size m0 g (K.1, K.2.1, K.2.2.1, K.2.2.2.1, nI X.length, K.2.2.2.2.2.1, K.2.2.2.2.2.2.1, K.2.2.2.2.2.2.2.1, nI a1) A0 e np B yb b l2 (by omega) (fun i hi => hyb i (by omega)) hb9 a1 n a2 (by omega) hd2) iw4_132 iw4_134 sel_Md_number iw1_7 iw4_135 (by decide +kernel) rfl ⟨Nat.le_of_ble_eq_true rfl, Nat.le_of_ble_eq_true rfl⟩ ⟨Nat.le_of_ble_eq_true rfl, Nat.le_of_ble_eq_true rfl⟩ rfl (Nat.le_of_ble_eq_true rfl) d_Md_lookBody_6 hE hP hD hS hA [0, 1] [2, 3, 4] rfl rfl rfl rfl (by decide) (ci := 6) rfl rfl 0 rfl (fun _ h => h.elim) (fun v_6 u_6 H locs hp_6 hP hD hS => ?_)
    obtain rfl := hp_6
    have hP : va_P D cls [(m0, .inr (6, mF g (K.1, K.2.1, K.2.2.1, K.2.2.2.1, nI X.length, K.2.2.2.2.2.1, K.2.2.2.2.2.2.1, K.2.2.2.2.2.2.2.1, nI a2) A0 e np B)), ((g 30), .inl (cA 3, 2000, .inl yb)), ((g 38), .inl (cA 3, 2000, .inl ow)), ((g 39), .inl (cA 3, 2000, .inl fi)), ((g 40), .inl (cA 3, 2000, .inl be))] H := hP.sub [3, 4, 0, 1, 2] rfl
    have hD : va_D A [(m0, .inr (6, mF g (K.1, K.2.1, K.2.2.1, K.2.2.2.1, nI X.length, K.2.2.2.2.2.1, K.2.2.2.2.2.2.1, K.2.2.2.2.2.2.2.1, nI a2) A0 e np B)), ((g 30), .inl (cA 3, 2000, .inl yb)), ((g 38), .inl (cA 3, 2000, .inl ow)), ((g 39), .inl (cA 3, 2000, .inl fi)), ((g 40), .inl (cA 3, 2000, .inl be))] := hD.sub [3, 4, 0, 1, 2] (by decide) rfl
    refine W.cs (cells' := 0) (slots' := 0) rfl rfl ?_
    refine W.eq (g2 := F0 m 9 ls [.long (lN n)]) rfl ?_
    refine lv_l2i hx hb d_Md_lookBody_9 rfl ?_
    rw [lN_i]
    refine lv_istore_n (lv' := [(3, .int (nI n)), (0, .ref m0), (1, .int (nI t)), (2, .int (nI wh))]) hx hb d_Md_lookBody_10 rfl hl (by decide) rfl (fun ls hl => ?_)
    refine lv_iload_n hx hb d_Md_lookBody_11 rfl (lv_at hl 3 rfl) ?_
    refine lv_if_ne (tgt := 18) hx hb d_Md_lookBody_12 (by decide) (fun c_12 => ?_) (fun c_12 => absurd c_12 (fun q => absurd ((nI_eq (a := wh) (b := 0) (by omega) (by decide)).mp q) (by omega)))
    refine lv_iload_n hx hb d_Md_lookBody_18 rfl (lv_at hl 3 rfl) ?_
    refine lv_iconst (v := 4) hx hb d_Md_lookBody_19 (by decide) ?_
    refine lv_icmp_eq (tgt := 28) hx hb d_Md_lookBody_20 (by decide) (fun c_20 => absurd c_20 (fun q => absurd ((nI_eq (a := wh) (b := 4) (by omega) (by decide)).mp q) (by omega))) (fun c_20 => ?_)
    refine lv_iload_n hx hb d_Md_lookBody_23 rfl (lv_at hl 3 rfl) ?_
    refine lv_iconst (v := 5) hx hb d_Md_lookBody_24 (by decide) ?_
    refine lv_icmp_ne (tgt := 36) hx hb d_Md_lookBody_25 (by decide) (fun c_25 => ?_) (fun c_25 => absurd c_25 (fun q => absurd ((nI_eq (a := wh) (b := 5) (by omega) (by decide)).mp q) (by omega)))
    refine lv_iload_n hx hb d_Md_lookBody_36 rfl (lv_at hl 3 rfl) ?_
    refine lv_iconst (v := 1) hx hb d_Md_lookBody_37 (by decide) ?_
    refine lv_icmp_eq (tgt := 61) hx hb d_Md_lookBody_38 (by decide) (fun c_38 => absurd c_38 (fun q => absurd ((nI_eq (a := wh) (b := 1) (by omega) (by decide)).mp q) (by omega))) (fun c_38 => ?_)
    refine lv_iload_n hx hb d_Md_lookBody_41 rfl (lv_at hl 3 rfl) ?_
    refine lv_bipush (v := 8) hx hb d_Md_lookBody_42 (by decide) ?_
    refine lv_icmp_lt (tgt := 57) hx hb d_Md_lookBody_44 (by decide) (fun c_44 => absurd c_44 (nI_nlt (a := wh) (b := 8) (by omega) (by omega))) (fun c_44 => ?_)
    refine lv_iload_n hx hb d_Md_lookBody_47 rfl (lv_at hl 3 rfl) ?_
    refine lv_bipush (v := 8) hx hb d_Md_lookBody_48 (by decide) ?_
    refine lv_isub hx hb d_Md_lookBody_50 ?_
    refine lv_iconst (v := 2) hx hb d_Md_lookBody_51 (by decide) ?_
    refine lv_iload_n hx hb d_Md_lookBody_52 rfl (lv_at hl 0 rfl) ?_
    refine lv_imul hx hb d_Md_lookBody_53 ?_
    rw [show (8 : Int32) = nI 8 from rfl, pk_sub hw8, show (2 : Int32) = nI 2 from rfl, pk_mul]
    refine lv_icmp_lt (tgt := 61) hx hb d_Md_lookBody_54 (by decide) (fun c_54 => ?_) (fun c_54 => ?_)
    · have hin : wh < 8 + 2 * n := by have := (nI_ltI (a := wh - 8) (b := 2 * n) (by omega) (by omega)).mp c_54; omega
      refine lv_lconst (v := 0) hx hb d_Md_lookBody_61 (by decide) ?_
      refine lv_lstore (lv' := [(4, .long 0), (3, .int (nI n)), (0, .ref m0), (1, .int (nI t)), (2, .int (nI wh))]) hx hb d_Md_lookBody_62 hl (by decide) rfl (fun ls hl => ?_)
      refine lv_iconst (v := 0) hx hb d_Md_lookBody_64 (by decide) ?_
      refine lv_istore (lv' := [(6, .int 0), (4, .long 0), (3, .int (nI n)), (0, .ref m0), (1, .int (nI t)), (2, .int (nI wh))]) hx hb d_Md_lookBody_65 hl (by decide) rfl (fun ls hl => ?_)
      exact key (Or.inr ⟨hw8, hin⟩) n 0 0 a2 [] H _ ls (by omega) (by omega) (fun q => by omega) rfl hd3 hP hD hS (lv_sub hl [3, 4, 5, 2, 1, 0] rfl)
    · refine lv_ldc2 hx hb hown (hts _ (List.mem_cons_of_mem _ iw3_204)) d_Md_lookBody_57 ?_
      exact cRl (nI a2) hx hb hr hlocks d_Md_lookBody_60 hS hP hD (by rw [lkS, if_pos (show 8 ≤ wh by omega), if_neg (by decide), if_pos rfl, lst_out (z := vp_updL (vp_updL (vp_updL (vp_updL (vp_updL (vp_updL c_1 0 (lN n)) 6 (lN nl)) 7 (lN (2 * n))) 1 (lN s_)) 4 (lN a3)) 5 (lN a4)) (cs := 6) (cn := 7) (M := 2 * n) rfl (by omega) (by omega) (by have := Nat.le_of_not_lt (fun q => c_54 (nI_lt (a := wh - 8) (b := 2 * n) q (by omega))); omega)]) (Nat.le_refl _) (Nat.le_refl _)
