theorem pBeg_bt {b : Nat → Nat} {lm x a : Nat} {xs : List Nat} : pBegG b lm (x :: xs) a = bnd (pBt b lm x x 5 a) (fun _ a1 => pBegG b lm xs a1) := by
  rw [pBegG]
  unfold pBt
  cases h : pNext b lm a with
  | inl z => rfl
  | inr z =>
    obtain ⟨g, a'⟩ := z
    rw [bnd_I]
    by_cases c : g = x
    · rw [if_pos c]
      show _ = bnd (if g < x ∨ x < g then _ else _) _
      rw [if_neg (by omega), bnd_I]
    · rw [if_neg c]
      show _ = bnd (if g < x ∨ x < g then _ else _) _
      rw [if_pos (by omega)]
      rfl
/-- how many of the first t are x -/
def cK (kd : Nat → Int32) (x : Int32) : Nat → Nat
  | 0 => 0
  | t + 1 => cK kd x t + (if kd t = x then 1 else 0)
theorem cK_le (kd : Nat → Int32) (x : Int32) : ∀ t, cK kd x t ≤ t
  | 0 => Nat.le_refl _
  | t + 1 => by
    have := cK_le kd x t
    show cK kd x t + (if kd t = x then 1 else 0) ≤ t + 1
    split <;> omega
theorem cK_of {kd fr to re : Nat → Int32} {k : Nat} (hk : k < 11) : ∀ {T : TL}, TH kd fr to re T → (∀ x ∈ T, x.1 < 11) → cK kd (nI k) T.length = (ofK k T).length
  | [], _, _ => rfl
  | x :: r, h, h11 => by
    show cK kd (nI k) r.length + (if kd r.length = nI k then 1 else 0) = (ofK k (x :: r)).length
    rw [cK_of hk h.2 (fun y hy => h11 y (List.mem_cons_of_mem _ hy)), h.1.1]
    have hx := h11 x (List.mem_cons_self ..)
    have e := nI_eq (a := x.1) (b := k) (by omega) (by omega)
    simp only [ofK]
    by_cases c : x.1 = k
    · rw [if_pos c, if_pos (e.mpr c), List.length_append]; rfl
    · rw [if_neg c, if_neg (fun q => c (e.mp q))]; rfl
def dcI (S : MS) : Prop := (S.2.2.2.2.2.1 = false → S.2.2.2.2.1 = -1) ∧ (S.2.2.2.2.2.1 = true → ¬ S.2.2.2.2.1 = -1)
theorem lN_n1 {v : Nat} (h : v < 4294967296) : ¬ lN v = -1 := by
  intro q
  have h1 : (lN v).toInt = (v : Int) := pk_lT (by omega)
  rw [q] at h1
  have : (-1 : Int64).toInt = -1 := by decide
  omega
theorem dcI_sec {b : Nat → Nat} {l2 id a a' : Nat} {S S2 : MS} (ha : a ≤ l2) (h : pSec b l2 id S a = .inr (S2, a')) (hd : dcI S) : dcI S2 := by
  unfold pSec at h
  by_cases c0 : id = 0
  · rw [if_pos c0] at h; obtain ⟨x, a1, q, r⟩ := bnd_ok h; cases r; exact hd
  rw [if_neg c0] at h
  by_cases c8 : id = 8
  · rw [if_pos c8] at h; obtain ⟨x, a1, q, r⟩ := bnd_ok h; cases r; exact hd
  rw [if_neg c8] at h
  by_cases c12 : id = 12
  · rw [if_pos c12] at h; obtain ⟨x, a1, q, r⟩ := bnd_ok h; cases r
    exact ⟨(fun w => by cases w), fun _ => lN_n1 (pU32_ok ha q).2.2⟩
  rw [if_neg c12] at h
  by_cases c9 : id = 9
  · rw [if_pos c9] at h; obtain ⟨x, a1, q, r⟩ := bnd_ok h; cases r; exact hd
  rw [if_neg c9] at h
  by_cases c10 : id = 10
  · rw [if_pos c10] at h; obtain ⟨x, a1, q, r⟩ := bnd_ok h; cases r; exact hd
  rw [if_neg c10] at h
  obtain ⟨x, a1, q, r⟩ := bnd_ok h
  cases r
  exact hd
theorem dcI_mods {b : Nat → Nat} {lm : Nat} (hb9 : ∀ i, b i < 256) : ∀ (k : Nat) (S S2 : MS) (a a' : Nat), a ≤ lm → pMods b lm k S a = .inr (S2, a') → dcI S → dcI S2 := by
  intro k
  induction k with
  | zero => intro S S2 a a' ha h hd; rw [pMods] at h; cases h; exact hd
  | succ k ih =>
    intro S S2 a a' ha h hd
    rw [pMods] at h
    by_cases c : a < lm
    · rw [if_pos c] at h
      obtain ⟨id, a1, q1, r1⟩ := bnd_ok h
      obtain ⟨l2, a2, q2, r2⟩ := bnd_ok r1
      obtain ⟨S3, a3, q3, r3⟩ := bnd_ok r2
      obtain ⟨x, a4, q4, r4⟩ := bnd_ok r3
      have e1 := pId_ok q1
      have e2 := pEnter_ok (by omega) q2
      have e3 := sec_le (by omega) hb9 q3
      have e4 := pLeave_ok q4
      have hd2 : dcI (S.1, S.2.1, S.2.2.1, S.2.2.2.1, S.2.2.2.2.1, S.2.2.2.2.2.1, nrk S.2.2.2.2.2.2 id) := hd
      have e5 := dcI_sec (by omega) q3 hd2
      exact ih _ _ _ _ (by omega) r4 e5
    · rw [if_neg c] at h; cases h; exact hd
set_option maxHeartbeats 4000000 in
set_option maxRecDepth 100000 in
/-- count(k) -/
theorem c_Md_count (l : Launch) (hl9 : l.stackTraces = false) (D : va_G) (cA : Nat → ClassId) (ad : Nat → Nat) (sz : Nat) (m0 : Nat) (g : Nat → Nat) (K : MK) (A0 : A3) (e np bl_ la_ co_ : Int32) (lo_ : Int64) (lA_ xx_ se_ : Int32) (sta_ dco_ : Int64) (kd : Nat → Int32) (t : Nat) (ht : t ≤ 2000) (x : Int32) :
    cM l y_Md_count (.code y_Md_count b_Md_count 4 (some .int) :: wAll) ({ frames := 0, cells := 0, slots := 0, locals := 0 }) D cA ad [.ref m0, .int x] [(m0, .inr (6, mF g K A0 e np (bl_, la_, co_, lo_, lA_, nI t, xx_, se_, sta_, dco_))), ((g 18), .inl (cA 3, 2000, .inl kd))] sz (fun v (_ : Unit) => v = some (.int (nI (cK kd x t)))) (fun _ => False) (fun _ => [(m0, .inr (6, mF g K A0 e np (bl_, la_, co_, lo_, lA_, nI t, xx_, se_, sta_, dco_))), ((g 18), .inl (cA 3, 2000, .inl kd))]) (fun _ => (0, 0)) := by
  refine cM.ofW (cc := b_Md_count) (maxL := 4) (ret := (some .int)) (by decide) (Nat.le_of_ble_eq_true rfl) ?_
  intro pg ev s m bw meth cdx A ls hF hsz hA hE hP hD hl
  obtain ⟨⟨hx, hb, hml, hown, hts⟩, hr, hno, hlocks, hin⟩ := hF
  subst hsz
  have hown : s.vm.findClass "ModuleBytesModel" = some m.cls := hown
  have hS : va_S A s.heap s.heap [] := va_S.rf
  have hl : lv_has ls 4 [(0, .ref m0), (1, .int x)] := hl
  have hP : va_P D cls [(m0, .inr (6, mF g K A0 e np (bl_, la_, co_, lo_, lA_, nI t, xx_, se_, sta_, dco_))), ((g 18), .inl (cA 3, 2000, .inl kd))] s.heap := hP
  have hD : va_D A [(m0, .inr (6, mF g K A0 e np (bl_, la_, co_, lo_, lA_, nI t, xx_, se_, sta_, dco_))), ((g 18), .inl (cA 3, 2000, .inl kd))] := hD
  refine lv_iconst (v := 0) hx hb d_Md_count_0 (by decide) ?_
  refine lv_istore_n (lv' := [(2, .int 0), (0, .ref m0), (1, .int x)]) hx hb d_Md_count_1 rfl hl (by decide) rfl (fun ls hl => ?_)
  refine lv_iconst (v := 0) hx hb d_Md_count_2 (by decide) ?_
  refine lv_istore_n (lv' := [(3, .int 0), (2, .int 0), (0, .ref m0), (1, .int x)]) hx hb d_Md_count_3 rfl hl (by decide) rfl (fun ls hl => ?_)
  have key : ∀ (k i : Nat) (H : Heap) (locs : List Loc) (ls : Array Slot), i + k = t → va_P D cls [(m0, .inr (6, mF g K A0 e np (bl_, la_, co_, lo_, lA_, nI t, xx_, se_, sta_, dco_))), ((g 18), .inl (cA 3, 2000, .inl kd))] H → va_D A [(m0, .inr (6, mF g K A0 e np (bl_, la_, co_, lo_, lA_, nI t, xx_, se_, sta_, dco_))), ((g 18), .inl (cA 3, 2000, .inl kd))] → va_S A s.heap H locs → lv_has ls 4 [(0, .ref m0), (1, .int x), (2, .int (nI (cK kd x i))), (3, .int (nI i))] → W pg l ev ({ frames := 0, cells := 0, slots := 0, locals := 0 }) s m ([.ref m0, .int x] : List Value).toArray bw meth cdx H locs 0 0 (tx_Q bw (cQ D (fun v (_ : Unit) => v = some (.int (nI (cK kd x t)))) (fun _ => False) (fun _ => [(m0, .inr (6, mF g K A0 e np (bl_, la_, co_, lo_, lA_, nI t, xx_, se_, sta_, dco_))), ((g 18), .inl (cA 3, 2000, .inl kd))]) (fun _ => (0, 0)) A) ([.ref m0, .int x] : List Value).toArray s A) (F0 m 4 ls []) := by
    intro k
    induction k with
    | zero =>
      intro i H locs ls hik hP hD hS hl
      refine lv_iload_n hx hb d_Md_count_4 rfl (lv_at hl 3 rfl) ?_
      refine lv_aload_n hx hb d_Md_count_5 rfl (lv_at hl 0 rfl) ?_
      refine va_get (D := D) (ci := 6) (v := .int (nI t)) (C := R_Md) (T := F_Md) (N := 44) hx hb hts (fun w h => List.mem_cons_of_mem _ (i_Md w h)) hown hE.1 hP 0 rfl rfl 17 (by decide) (hts _ (List.mem_cons_of_mem _ iw3_71)) (fun _ h9 => h9) rfl d_Md_count_6 ?_
      refine lv_icmp_ge (tgt := 36) hx hb d_Md_count_9 (by decide) (fun c_9 => ?_) (fun c_9 => absurd (nI_le (by omega) (by omega)) c_9)
      refine lv_iload_n hx hb d_Md_count_36 rfl (lv_at hl 2 rfl) ?_
      exact cRi () hx hb hr hlocks d_Md_count_37 hS hP hD (by rw [show i = t by omega]) (Nat.le_refl _) (Nat.le_refl _)
    | succ k ih =>
      intro i H locs ls hik hP hD hS hl
      refine lv_iload_n hx hb d_Md_count_4 rfl (lv_at hl 3 rfl) ?_
      refine lv_aload_n hx hb d_Md_count_5 rfl (lv_at hl 0 rfl) ?_
      refine va_get (D := D) (ci := 6) (v := .int (nI t)) (C := R_Md) (T := F_Md) (N := 44) hx hb hts (fun w h => List.mem_cons_of_mem _ (i_Md w h)) hown hE.1 hP 0 rfl rfl 17 (by decide) (hts _ (List.mem_cons_of_mem _ iw3_71)) (fun _ h9 => h9) rfl d_Md_count_6 ?_
      refine lv_icmp_ge (tgt := 36) hx hb d_Md_count_9 (by decide) (fun c_9 => absurd c_9 (nI_ge (by omega) (by omega))) (fun c_9 => ?_)
      refine lv_iload_n hx hb d_Md_count_12 rfl (lv_at hl 2 rfl) ?_
      refine lv_aload_n hx hb d_Md_count_13 rfl (lv_at hl 0 rfl) ?_
      refine va_get (D := D) (ci := 6) (v := .ref (g 18)) (C := R_Md) (T := F_Md) (N := 44) hx hb hts (fun w h => List.mem_cons_of_mem _ (i_Md w h)) hown hE.1 hP 0 rfl rfl 18 (by decide) (hts _ (List.mem_cons_of_mem _ iw3_72)) (fun _ h9 => h9) rfl d_Md_count_14 ?_
      refine lv_iload_n hx hb d_Md_count_17 rfl (lv_at hl 3 rfl) ?_
      refine va_iald hx hb hE.1 hP 1 3 rfl rfl (vp_in_nI (by omega) (by omega)) d_Md_count_18 ?_
      rw [nI_clamp (n := i) (by omega)]
      refine lv_iload_n hx hb d_Md_count_19 rfl (lv_at hl 1 rfl) ?_
      refine lv_icmp_ne (tgt := 27) hx hb d_Md_count_20 (by decide) (fun c_20 => ?_) (fun c_20 => ?_)
      · refine lv_iconst (v := 0) hx hb d_Md_count_27 (by decide) ?_
        refine lv_iadd hx hb d_Md_count_28 ?_
        refine lv_istore_n (lv' := [(2, .int ((nI (cK kd x i)) + 0)), (0, .ref m0), (1, .int x), (3, .int (nI i))]) hx hb d_Md_count_29 rfl hl (by decide) rfl (fun ls hl => ?_)
        obtain ⟨x3_1, ex3_1⟩ : ∃ y : Int32, y = (nI i) + 1 := ⟨_, rfl⟩
        refine lv_iinc (v := x3_1) (lv' := [(3, .int x3_1), (2, .int ((nI (cK kd x i)) + 0)), (0, .ref m0), (1, .int x)]) hx hb d_Md_count_30 hl (k := 3) rfl (by rw [ex3_1]; rfl) (by decide) rfl (fun ls hl => ?_)
        refine lv_goto (tgt := 4) hx hb d_Md_count_33 (by decide) ?_
        have e9 : x3_1 = nI (i + 1) := by rw [ex3_1]; exact nI_1 i
        subst e9
        have e8 : (nI (cK kd x i)) + 0 = nI (cK kd x (i + 1)) := by show _ = nI (cK kd x i + (if kd i = x then 1 else 0)); rw [if_neg c_20, Int32.add_zero, Nat.add_zero]
        rw [e8] at hl
        exact ih (i + 1) H locs ls (by omega) hP hD hS (lv_sub hl [2, 3, 1, 0] rfl)
      · refine lv_iconst (v := 1) hx hb d_Md_count_23 (by decide) ?_
        refine lv_goto (tgt := 28) hx hb d_Md_count_24 (by decide) ?_
        refine lv_iadd hx hb d_Md_count_28 ?_
        refine lv_istore_n (lv' := [(2, .int ((nI (cK kd x i)) + 1)), (0, .ref m0), (1, .int x), (3, .int (nI i))]) hx hb d_Md_count_29 rfl hl (by decide) rfl (fun ls hl => ?_)
        obtain ⟨x3_2, ex3_2⟩ : ∃ y : Int32, y = (nI i) + 1 := ⟨_, rfl⟩
        refine lv_iinc (v := x3_2) (lv' := [(3, .int x3_2), (2, .int ((nI (cK kd x i)) + 1)), (0, .ref m0), (1, .int x)]) hx hb d_Md_count_30 hl (k := 3) rfl (by rw [ex3_2]; rfl) (by decide) rfl (fun ls hl => ?_)
        refine lv_goto (tgt := 4) hx hb d_Md_count_33 (by decide) ?_
        have e9 : x3_2 = nI (i + 1) := by rw [ex3_2]; exact nI_1 i
        subst e9
        have e8 : (nI (cK kd x i)) + 1 = nI (cK kd x (i + 1)) := by show _ = nI (cK kd x i + (if kd i = x then 1 else 0)); rw [if_pos c_20, nI_1]
        rw [e8] at hl
        exact ih (i + 1) H locs ls (by omega) hP hD hS (lv_sub hl [2, 3, 1, 0] rfl)
  exact key t 0 s.heap _ ls (by omega) hP hD hS (lv_sub hl [2, 3, 1, 0] rfl)
