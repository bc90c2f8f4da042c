theorem imp_cols {b : Nat → Nat} {lm a a' a1 a2 : Nat} {z : Nat → Int64} {x y : Nat × Nat} (h : pImp b lm a = .inr (z, a')) (h1 : pName b lm a = .inr (x, a1)) (h2 : pName b lm a1 = .inr (y, a2)) : z 4 = lN x.1 ∧ z 5 = lN x.2 ∧ z 6 = lN y.1 ∧ z 7 = lN y.2 := by
  have key : ∀ cols : Nat → Int64, cols 4 = lN x.1 ∧ cols 5 = lN x.2 ∧ cols 6 = lN y.1 ∧ cols 7 = lN y.2 → (∀ a z a', pLim b lm cols a = .inr (z, a') → z 4 = lN x.1 ∧ z 5 = lN x.2 ∧ z 6 = lN y.1 ∧ z 7 = lN y.2) := by
    intro cols hc a z a' hz
    obtain ⟨v, b2, v2, b3, -, -, -, -, rfl⟩ := pLim_inv hz
    split <;> exact hc
  rw [pImp, bnd_E h1, bnd_E h2] at h
  obtain ⟨g, a3, q3, r3⟩ := bnd_ok h
  by_cases c0 : g = 0
  · rw [if_pos c0] at r3; obtain ⟨v, a4, q4, r4⟩ := bnd_ok r3; cases r4; exact ⟨rfl, rfl, rfl, rfl⟩
  rw [if_neg c0] at r3
  by_cases c1 : g = 1
  · rw [if_pos c1] at r3; obtain ⟨-, hz⟩ := pTab_inv2 r3; exact key _ ⟨rfl, rfl, rfl, rfl⟩ _ _ _ hz
  rw [if_neg c1] at r3
  by_cases c2 : g = 2
  · rw [if_pos c2] at r3; exact key _ ⟨rfl, rfl, rfl, rfl⟩ _ _ _ r3
  rw [if_neg c2] at r3
  obtain ⟨-, -, rfl⟩ := pGlo_inv r3
  exact ⟨rfl, rfl, rfl, rfl⟩
set_option maxHeartbeats 4000000 in
set_option maxRecDepth 100000 in
/-- name(k, i, part, at) -/
theorem c_Md_name (l : Launch) (hl9 : l.stackTraces = false) (D : va_G) (cA : Nat → ClassId) (ad : Nat → Nat) (sz : Nat) (m0 : Nat) (g : Nat → Nat) (K : MK) (A0 : A3) (e np : Int32) (B : MB) (yb : Nat → Int32) (b : Nat → Nat) (N : Nat) (hN : N ≤ 2000) (hybN : ∀ i, i < N → yb i = nI (b i)) (hb9 : ∀ i, b i < 256) (T : TL) (X : XL) (LS : Nat → RL) (LL : List Int64) (hrel : REL b N T X LS LL) (hT : T.length ≤ 2000) (hX : X.length ≤ 2000) (hLL : LL.length < 2 ^ 31) (kd fr to re ow fi be : Nat → Int32) (hTH : TH kd fr to re T) (hXH : XH ow fi be X) (x k part i : Int32) :
    cM l y_Md_name (.code y_Md_name b_Md_name 7 (some .int) :: wAll) ({ frames := 2, cells := 0, slots := 0, locals := 44 }) D cA ad [.ref m0, .int x, .int k, .int part, .int i] [(m0, .inr (6, mF g (K.1, K.2.1, K.2.2.1, nI T.length, nI X.length, K.2.2.2.2.2.1, K.2.2.2.2.2.2.1, K.2.2.2.2.2.2.2.1, K.2.2.2.2.2.2.2.2) A0 e np B)), ((g 30), .inl (cA 3, 2000, .inl yb)), ((g 34), .inl (cA 3, 2000, .inl kd)), ((g 35), .inl (cA 3, 2000, .inl fr)), ((g 36), .inl (cA 3, 2000, .inl to)), ((g 37), .inl (cA 3, 2000, .inl re)), ((g 38), .inl (cA 3, 2000, .inl ow)), ((g 39), .inl (cA 3, 2000, .inl fi)), ((g 40), .inl (cA 3, 2000, .inl be))] sz (fun v (_ : Int32) => v = some (.int (sName LS b x k part i))) (fun _ => False) (fun (q : Int32) => [(m0, .inr (6, mF g (K.1, K.2.1, K.2.2.1, nI T.length, nI X.length, K.2.2.2.2.2.1, K.2.2.2.2.2.2.1, K.2.2.2.2.2.2.2.1, q) A0 e np B)), ((g 30), .inl (cA 3, 2000, .inl yb)), ((g 34), .inl (cA 3, 2000, .inl kd)), ((g 35), .inl (cA 3, 2000, .inl fr)), ((g 36), .inl (cA 3, 2000, .inl to)), ((g 37), .inl (cA 3, 2000, .inl re)), ((g 38), .inl (cA 3, 2000, .inl ow)), ((g 39), .inl (cA 3, 2000, .inl fi)), ((g 40), .inl (cA 3, 2000, .inl be))]) (fun _ => (0, 0)) := by
  refine cM.ofW (cc := b_Md_name) (maxL := 7) (ret := (some .int)) (by decide) (Nat.le_of_ble_eq_true rfl) ?_
  intro pg ev s m bw meth cdx A ls hF hsz hA hE hP hD hl
  obtain ⟨⟨hx, hb, hml, hown, hts⟩, hr, hno, hlocks, hin⟩ := hF
  subst hsz
  have hown : s.vm.findClass "ModuleBytesModel" = some m.cls := hown
  have hS : va_S A s.heap s.heap [] := va_S.rf
  have hl : lv_has ls 7 [(0, .ref m0), (1, .int x), (2, .int k), (3, .int part), (4, .int i)] := hl
  have hP : va_P D cls [(m0, .inr (6, mF g (K.1, K.2.1, K.2.2.1, nI T.length, nI X.length, K.2.2.2.2.2.1, K.2.2.2.2.2.2.1, K.2.2.2.2.2.2.2.1, K.2.2.2.2.2.2.2.2) A0 e np B)), ((g 30), .inl (cA 3, 2000, .inl yb)), ((g 34), .inl (cA 3, 2000, .inl kd)), ((g 35), .inl (cA 3, 2000, .inl fr)), ((g 36), .inl (cA 3, 2000, .inl to)), ((g 37), .inl (cA 3, 2000, .inl re)), ((g 38), .inl (cA 3, 2000, .inl ow)), ((g 39), .inl (cA 3, 2000, .inl fi)), ((g 40), .inl (cA 3, 2000, .inl be))] s.heap := hP
  have hD : va_D A [(m0, .inr (6, mF g (K.1, K.2.1, K.2.2.1, nI T.length, nI X.length, K.2.2.2.2.2.1, K.2.2.2.2.2.2.1, K.2.2.2.2.2.2.2.1, K.2.2.2.2.2.2.2.2) A0 e np B)), ((g 30), .inl (cA 3, 2000, .inl yb)), ((g 34), .inl (cA 3, 2000, .inl kd)), ((g 35), .inl (cA 3, 2000, .inl fr)), ((g 36), .inl (cA 3, 2000, .inl to)), ((g 37), .inl (cA 3, 2000, .inl re)), ((g 38), .inl (cA 3, 2000, .inl ow)), ((g 39), .inl (cA 3, 2000, .inl fi)), ((g 40), .inl (cA 3, 2000, .inl be))] := hD
  have hXf : ∀ x ∈ X, x.1 < 2000 ∧ x.2.1 ≤ 2000 ∧ ∃ z : Nat, x.2.2 = some z ∧ z ≤ 2000 := fun x hx => ⟨by have := (hrel.1 x hx).1; omega, (hrel.1 x hx).2⟩
  have h11 := hrel.2.1
  have hLk : ∀ k, k < 11 → (LS k).length ≤ 2000 := fun k hk => by rw [← (hrel.2.2 k hk).1, ← cK_of hk hTH h11]; have := cK_le kd (nI k) T.length; omega
  by_cases hx1 : x = 1
  · subst hx1
    have hl : lv_has ls 7 [(0, .ref m0), (1, .int 1), (2, .int k), (3, .int part), (4, .int i)] := hl
    refine lv_iload_n hx hb d_Md_name_0 rfl (lv_at hl 1 rfl) ?_
    refine lv_iconst (v := 1) hx hb d_Md_name_1 (by decide) ?_
    refine lv_icmp_eq (tgt := 17) hx hb d_Md_name_2 (by decide) (fun c_2 => ?_) (fun c_2 => absurd (by decide) c_2)
    refine lv_aload_n hx hb d_Md_name_17 rfl (lv_at hl 0 rfl) ?_
    refine lv_iload_n hx hb d_Md_name_18 rfl (lv_at hl 1 rfl) ?_
    refine lv_iload_n hx hb d_Md_name_19 rfl (lv_at hl 2 rfl) ?_
    refine cV (As := [.int 1, .int k]) (rest := []) (n := 2) (wc := [(m0, .inr (6, mF g (K.1, K.2.1, K.2.2.1, nI T.length, nI X.length, K.2.2.2.2.2.1, K.2.2.2.2.2.2.1, K.2.2.2.2.2.2.2.1, K.2.2.2.2.2.2.2.2) A0 e np B)), ((g 34), .inl (cA 3, 2000, .inl kd))]) (wr := [((g 30), .inl (cA 3, 2000, .inl yb)), ((g 35), .inl (cA 3, 2000, .inl fr)), ((g 36), .inl (cA 3, 2000, .inl to)), ((g 37), .inl (cA 3, 2000, .inl re)), ((g 38), .inl (cA 3, 2000, .inl ow)), ((g 39), .inl (cA 3, 2000, .inl fi)), ((g 40), .inl (cA 3, 2000, .inl be))]) ⟨hx, hb, hml, hown, hts⟩ hno hlocks hl.1 (c_Md_thingOf l hl9 D cA ad s.heap.size m0 g (K.1, K.2.1, K.2.2.1, nI T.length, nI X.length, K.2.2.2.2.2.1, K.2.2.2.2.2.2.1, K.2.2.2.2.2.2.2.1, K.2.2.2.2.2.2.2.2) A0 e np B kd fr to re T hTH h11 hT 1 (by decide) k) iw4_128 iw4_130 sel_Md_thingOf iw1_7 iw4_131 (by decide +kernel) rfl ⟨Nat.le_of_ble_eq_true rfl, Nat.le_of_ble_eq_true rfl⟩ ⟨Nat.le_of_ble_eq_true rfl, Nat.le_of_ble_eq_true rfl⟩ rfl (Nat.le_of_ble_eq_true rfl) d_Md_name_20 hE hP hD hS hA [0, 2] [1, 3, 4, 5, 6, 7, 8] rfl rfl rfl rfl (by decide) (ci := 6) rfl rfl 0 rfl (fun _ h => h.elim) (fun v_20 u_20 H locs hp_20 hP hD hS => ?_)
    rcases hp_20 with ⟨rfl, hbad⟩ | ⟨j, t, hj31, ej, hjt, htl, rfl⟩
    · have hbad : k < 0 ∨ nI (LS 1).length ≤ k := hbad.elim Or.inl (fun q => by obtain ⟨j, hj, rfl, q⟩ := q; exact Or.inr (nI_le (by rw [← (hrel.2.2 1 (by decide)).1]; exact q) hj))
      have hP : va_P D cls [(m0, .inr (6, mF g (K.1, K.2.1, K.2.2.1, nI T.length, nI X.length, K.2.2.2.2.2.1, K.2.2.2.2.2.2.1, K.2.2.2.2.2.2.2.1, K.2.2.2.2.2.2.2.2) A0 e np B)), ((g 30), .inl (cA 3, 2000, .inl yb)), ((g 34), .inl (cA 3, 2000, .inl kd)), ((g 35), .inl (cA 3, 2000, .inl fr)), ((g 36), .inl (cA 3, 2000, .inl to)), ((g 37), .inl (cA 3, 2000, .inl re)), ((g 38), .inl (cA 3, 2000, .inl ow)), ((g 39), .inl (cA 3, 2000, .inl fi)), ((g 40), .inl (cA 3, 2000, .inl be))] H := hP.sub [7, 0, 8, 1, 2, 3, 4, 5, 6] rfl
      have hD : va_D A [(m0, .inr (6, mF g (K.1, K.2.1, K.2.2.1, nI T.length, nI X.length, K.2.2.2.2.2.1, K.2.2.2.2.2.2.1, K.2.2.2.2.2.2.2.1, K.2.2.2.2.2.2.2.2) A0 e np B)), ((g 30), .inl (cA 3, 2000, .inl yb)), ((g 34), .inl (cA 3, 2000, .inl kd)), ((g 35), .inl (cA 3, 2000, .inl fr)), ((g 36), .inl (cA 3, 2000, .inl to)), ((g 37), .inl (cA 3, 2000, .inl re)), ((g 38), .inl (cA 3, 2000, .inl ow)), ((g 39), .inl (cA 3, 2000, .inl fi)), ((g 40), .inl (cA 3, 2000, .inl be))] := hD.sub [7, 0, 8, 1, 2, 3, 4, 5, 6] (by decide) rfl
      refine W.cs (cells' := 0) (slots' := 0) rfl rfl ?_
      refine W.eq (g2 := F0 m 23 ls [.int (-1)]) rfl ?_
      refine lv_goto (tgt := 27) hx hb d_Md_name_23 (by decide) ?_
      refine lv_istore (lv' := [(5, .int (-1)), (0, .ref m0), (1, .int 1), (2, .int k), (3, .int part), (4, .int i)]) hx hb d_Md_name_27 hl (by decide) rfl (fun ls hl => ?_)
      refine lv_iload hx hb d_Md_name_29 (lv_at hl 0 rfl) ?_
      refine lv_if_lt (tgt := 52) hx hb d_Md_name_31 (by decide) (fun c_31 => ?_) (fun c_31 => absurd (by decide) c_31)
      refine lv_iconst (v := (-1)) hx hb d_Md_name_52 (by decide) ?_
      exact cRi (K.2.2.2.2.2.2.2.2) hx hb hr hlocks d_Md_name_53 hS hP hD (by rw [sName]; simp only [sAt_bad hbad, sStr_bad]; repeat (first | rfl | split)) (Nat.le_refl _) (Nat.le_refl _)
    · subst ej
      have hP : va_P D cls [(m0, .inr (6, mF g (K.1, K.2.1, K.2.2.1, nI T.length, nI X.length, K.2.2.2.2.2.1, K.2.2.2.2.2.2.1, K.2.2.2.2.2.2.2.1, K.2.2.2.2.2.2.2.2) A0 e np B)), ((g 30), .inl (cA 3, 2000, .inl yb)), ((g 34), .inl (cA 3, 2000, .inl kd)), ((g 35), .inl (cA 3, 2000, .inl fr)), ((g 36), .inl (cA 3, 2000, .inl to)), ((g 37), .inl (cA 3, 2000, .inl re)), ((g 38), .inl (cA 3, 2000, .inl ow)), ((g 39), .inl (cA 3, 2000, .inl fi)), ((g 40), .inl (cA 3, 2000, .inl be))] H := hP.sub [7, 0, 8, 1, 2, 3, 4, 5, 6] rfl
      have hD : va_D A [(m0, .inr (6, mF g (K.1, K.2.1, K.2.2.1, nI T.length, nI X.length, K.2.2.2.2.2.1, K.2.2.2.2.2.2.1, K.2.2.2.2.2.2.2.1, K.2.2.2.2.2.2.2.2) A0 e np B)), ((g 30), .inl (cA 3, 2000, .inl yb)), ((g 34), .inl (cA 3, 2000, .inl kd)), ((g 35), .inl (cA 3, 2000, .inl fr)), ((g 36), .inl (cA 3, 2000, .inl to)), ((g 37), .inl (cA 3, 2000, .inl re)), ((g 38), .inl (cA 3, 2000, .inl ow)), ((g 39), .inl (cA 3, 2000, .inl fi)), ((g 40), .inl (cA 3, 2000, .inl be))] := hD.sub [7, 0, 8, 1, 2, 3, 4, 5, 6] (by decide) rfl
      refine W.cs (cells' := 0) (slots' := 0) rfl rfl ?_
      refine W.eq (g2 := F0 m 23 ls [.int (nI t)]) rfl ?_
      have hl : lv_has ls 7 [(0, .ref m0), (1, .int 1), (2, .int (nI j)), (3, .int part), (4, .int i)] := hl
      have hjl : j < (LS 1).length := by rw [← (hrel.2.2 1 (by decide)).1]; exact (List.getElem?_eq_some_iff.mp hjt).1
      obtain ⟨t2, f0, o, e1, e2, e3, e4⟩ := (hrel.2.2 1 (by decide)).2 j hjl
      have et : t2 = t := Option.some.inj (e1.symm.trans hjt)
      subst et
      obtain ⟨-, hfr, hto⟩ := TH_at hTH e2
      rw [e3] at hfr hto
      have hfr : fr t2 = nI f0 := hfr
      obtain ⟨z, hz⟩ : ∃ z, z = ((LS 1).getD j (0, c_1)).2 := ⟨_, rfl⟩
      rw [← hz] at e4
      obtain ⟨lm, dc, a', hlmN, hfl, p0, p1, p2, p3, p4, p5, p6, p7, p8, p9, p10⟩ := e4
      have hlm : lm ≤ 2000 := by omega
      have hyb : ∀ i, i < lm → yb i = nI (b i) := fun i hi => hybN i (by omega)
      refine lv_goto (tgt := 27) hx hb d_Md_name_23 (by decide) ?_
      refine lv_istore (lv' := [(5, .int (nI t2)), (0, .ref m0), (1, .int 1), (2, .int (nI j)), (3, .int part), (4, .int i)]) hx hb d_Md_name_27 hl (by decide) rfl (fun ls hl => ?_)
      refine lv_iload hx hb d_Md_name_29 (lv_at hl 0 rfl) ?_
      refine lv_if_lt (tgt := 52) hx hb d_Md_name_31 (by decide) (fun c_31 => absurd c_31 (nI_pos (by omega))) (fun c_31 => ?_)
      refine lv_iload_n hx hb d_Md_name_34 rfl (lv_at hl 4 rfl) ?_
      refine lv_if_lt (tgt := 52) hx hb d_Md_name_35 (by decide) (fun c_35 => ?_) (fun c_35 => ?_)
      · refine lv_iconst (v := (-1)) hx hb d_Md_name_52 (by decide) ?_
        exact cRi (K.2.2.2.2.2.2.2.2) hx hb hr hlocks d_Md_name_53 hS hP hD (by rw [sName, if_neg (by first | (intro q; rw [q] at c_35; exact absurd c_35 (by decide)) | (intro q; rw [q] at c_49; exact c_49 (by decide))), if_neg (by first | exact (fun q => absurd q.2 (by decide)) | (rintro ⟨q, -⟩; rw [q] at c_35; exact absurd c_35 (by decide)) | (rintro ⟨q, -⟩; rw [q] at c_49; exact c_49 (by decide)))]) (Nat.le_refl _) (Nat.le_refl _)
      · refine lv_iload_n hx hb d_Md_name_38 rfl (lv_at hl 4 rfl) ?_
        refine lv_iload_n hx hb d_Md_name_39 rfl (lv_at hl 2 rfl) ?_
        refine lv_iconst (v := 1) hx hb d_Md_name_40 (by decide) ?_
        refine lv_icmp_ne (tgt := 48) hx hb d_Md_name_41 (by decide) (fun c_41 => absurd (by decide) c_41) (fun c_41 => ?_)
        refine lv_iconst (v := 1) hx hb d_Md_name_44 (by decide) ?_
        refine lv_goto (tgt := 49) hx hb d_Md_name_45 (by decide) ?_
        refine lv_icmp_le (tgt := 54) hx hb d_Md_name_49 (by decide) (fun c_49 => ?_) (fun c_49 => ?_)
        · have hpart : part = 0 ∨ part = 1 := by
            obtain ⟨q, hq, rfl⟩ := i32_nn c_35
            have hq1 := (nI_leI (a := q) (b := 1) hq (by decide)).mp c_49
            rcases (show q = 0 ∨ q = 1 by omega) with rfl | rfl
            · exact Or.inl rfl
            · exact Or.inr rfl
          obtain ⟨x_, y_, a1, a2, hn1, hn2, ha2, hg3, hz0, hz1, hz2, hz3⟩ := pImp_inv (p1 rfl)
          have hq1 := pName_ok hfl hn1
          have hq2 := pName_ok (by omega) hn2
          have hzc := imp_cols (p1 rfl) hn1 hn2
          rcases hpart with rfl | rfl
          · have hl : lv_has ls 7 [(5, .int (nI t2)), (0, .ref m0), (1, .int 1), (2, .int (nI j)), (3, .int 0), (4, .int i)] := hl
            have hzp : z 4 = lN x_.1 ∧ z 5 = lN x_.2 := ⟨hzc.1, hzc.2.1⟩
            have hS9 : sName LS b 1 (nI j) 0 i = sStr b (lN x_.1) (lN x_.2) i := by rw [sName, if_pos rfl, if_pos rfl, sAt_ok hjl (by have := hLk 1 (by decide); omega), sAt_ok hjl (by have := hLk 1 (by decide); omega), ← hz, hzp.1, hzp.2]
            have hbnd : x_.1 + x_.2 ≤ lm := by omega
            refine lv_aload_n hx hb d_Md_name_54 rfl (lv_at hl 1 rfl) ?_
            refine lv_aload_n hx hb d_Md_name_55 rfl (lv_at hl 1 rfl) ?_
            refine va_get (D := D) (ci := 6) (v := .ref (g 35)) (C := R_Md) (T := F_Md) (N := 44) hx hb hts (fun w h => List.mem_cons_of_mem _ (i_Md w h)) hown hE.1 hP 0 rfl rfl 35 (by decide) (hts _ (List.mem_cons_of_mem _ iw3_89)) (fun _ h9 => h9) rfl d_Md_name_56 ?_
            refine lv_iload hx hb d_Md_name_59 (lv_at hl 0 rfl) ?_
            refine va_iald hx hb hE.1 hP 3 3 rfl rfl (vp_in_nI (by omega) (by omega)) d_Md_name_61 ?_
            rw [nI_clamp (n := t2) (by omega), hfr]
            refine va_put (D := D) (ci := 6) (v := .int (nI f0)) (ty := .int) (C := R_Md) (T := F_Md) (N := 44) hx hb hts (fun w h => List.mem_cons_of_mem _ (i_Md w h)) t_Md tk_Md n_Md hown hE.1 hP hD hS 0 rfl rfl 43 (by decide) (hts _ (List.mem_cons_of_mem _ iw3_97)) (fun _ h9 => h9) rfl (by decide +kernel) rfl rfl (Nat.le_of_ble_eq_true rfl) d_Md_name_62 (fun H locs hP hD hS => ?_)
            have hP : va_P D cls [(m0, .inr (6, mF g (K.1, K.2.1, K.2.2.1, nI T.length, nI X.length, K.2.2.2.2.2.1, K.2.2.2.2.2.2.1, K.2.2.2.2.2.2.2.1, nI f0) A0 e np B)), ((g 30), .inl (cA 3, 2000, .inl yb)), ((g 34), .inl (cA 3, 2000, .inl kd)), ((g 35), .inl (cA 3, 2000, .inl fr)), ((g 36), .inl (cA 3, 2000, .inl to)), ((g 37), .inl (cA 3, 2000, .inl re)), ((g 38), .inl (cA 3, 2000, .inl ow)), ((g 39), .inl (cA 3, 2000, .inl fi)), ((g 40), .inl (cA 3, 2000, .inl be))] H := hP
            have hD : va_D A [(m0, .inr (6, mF g (K.1, K.2.1, K.2.2.1, nI T.length, nI X.length, K.2.2.2.2.2.1, K.2.2.2.2.2.2.1, K.2.2.2.2.2.2.2.1, nI f0) A0 e np B)), ((g 30), .inl (cA 3, 2000, .inl yb)), ((g 34), .inl (cA 3, 2000, .inl kd)), ((g 35), .inl (cA 3, 2000, .inl fr)), ((g 36), .inl (cA 3, 2000, .inl to)), ((g 37), .inl (cA 3, 2000, .inl re)), ((g 38), .inl (cA 3, 2000, .inl ow)), ((g 39), .inl (cA 3, 2000, .inl fi)), ((g 40), .inl (cA 3, 2000, .inl be))] := hD
            refine lv_iload_n hx hb d_Md_name_65 rfl (lv_at hl 4 rfl) ?_
            refine lv_iconst (v := 1) hx hb d_Md_name_66 (by decide) ?_
            refine lv_icmp_ne (tgt := 74) hx hb d_Md_name_67 (by decide) (fun c_67 => ?_) (fun c_67 => absurd c_67 (by decide))
            refine lv_aload_n hx hb d_Md_name_74 rfl (lv_at hl 1 rfl) ?_
            refine cV (As := []) (rest := []) (n := 0) (wc := [(m0, .inr (6, mF g (K.1, K.2.1, K.2.2.1, nI T.length, nI X.length, K.2.2.2.2.2.1, K.2.2.2.2.2.2.1, K.2.2.2.2.2.2.2.1, nI f0) A0 e np B)), ((g 30), .inl (cA 3, 2000, .inl yb))]) (wr := [((g 34), .inl (cA 3, 2000, .inl kd)), ((g 35), .inl (cA 3, 2000, .inl fr)), ((g 36), .inl (cA 3, 2000, .inl to)), ((g 37), .inl (cA 3, 2000, .inl re)), ((g 38), .inl (cA 3, 2000, .inl ow)), ((g 39), .inl (cA 3, 2000, .inl fi)), ((g 40), .inl (cA 3, 2000, .inl be))]) ⟨hx, hb, hml, hown, hts⟩ hno hlocks hl.1 (c_Md_number l hl9 D cA ad H.size m0 g (K.1, K.2.1, K.2.2.1, nI T.length, nI X.length, K.2.2.2.2.2.1, K.2.2.2.2.2.2.1, K.2.2.2.2.2.2.2.1, nI f0) A0 e np B yb b lm hlm hyb hb9 f0 x_.2 x_.1 (by omega) (pName_u hn1)) iw4_132 iw4_134 sel_Md_number iw1_7 iw4_135 (by decide +kernel) rfl ⟨Nat.le_of_ble_eq_true rfl, Nat.le_of_ble_eq_true rfl⟩ ⟨Nat.le_of_ble_eq_true rfl, Nat.le_of_ble_eq_true rfl⟩ rfl (Nat.le_of_ble_eq_true rfl) d_Md_name_75 hE hP hD hS hA [0, 1] [2, 3, 4, 5, 6, 7, 8] rfl rfl rfl rfl (by decide) (ci := 6) rfl rfl 0 rfl (fun _ h => h.elim) (fun v_75 u_75 H locs hp_75 hP hD hS => ?_)
            obtain rfl := hp_75
            have hP : va_P D cls [(m0, .inr (6, mF g (K.1, K.2.1, K.2.2.1, nI T.length, nI X.length, K.2.2.2.2.2.1, K.2.2.2.2.2.2.1, K.2.2.2.2.2.2.2.1, nI x_.1) A0 e np B)), ((g 30), .inl (cA 3, 2000, .inl yb)), ((g 34), .inl (cA 3, 2000, .inl kd)), ((g 35), .inl (cA 3, 2000, .inl fr)), ((g 36), .inl (cA 3, 2000, .inl to)), ((g 37), .inl (cA 3, 2000, .inl re)), ((g 38), .inl (cA 3, 2000, .inl ow)), ((g 39), .inl (cA 3, 2000, .inl fi)), ((g 40), .inl (cA 3, 2000, .inl be))] H := hP.sub [7, 8, 0, 1, 2, 3, 4, 5, 6] rfl
            have hD : va_D A [(m0, .inr (6, mF g (K.1, K.2.1, K.2.2.1, nI T.length, nI X.length, K.2.2.2.2.2.1, K.2.2.2.2.2.2.1, K.2.2.2.2.2.2.2.1, nI x_.1) A0 e np B)), ((g 30), .inl (cA 3, 2000, .inl yb)), ((g 34), .inl (cA 3, 2000, .inl kd)), ((g 35), .inl (cA 3, 2000, .inl fr)), ((g 36), .inl (cA 3, 2000, .inl to)), ((g 37), .inl (cA 3, 2000, .inl re)), ((g 38), .inl (cA 3, 2000, .inl ow)), ((g 39), .inl (cA 3, 2000, .inl fi)), ((g 40), .inl (cA 3, 2000, .inl be))] := hD.sub [7, 8, 0, 1, 2, 3, 4, 5, 6] (by decide) rfl
            refine W.cs (cells' := 0) (slots' := 0) rfl rfl ?_
            refine W.eq (g2 := F0 m 78 ls [.long (lN x_.2)]) rfl ?_
            refine lv_l2i hx hb d_Md_name_78 rfl ?_
            rw [lN_i]
            refine lv_istore (lv' := [(6, .int (nI x_.2)), (5, .int (nI t2)), (0, .ref m0), (1, .int 1), (2, .int (nI j)), (3, .int 0), (4, .int i)]) hx hb d_Md_name_79 hl (by decide) rfl (fun ls hl => ?_)
            refine lv_iload hx hb d_Md_name_81 (lv_at hl 6 rfl) ?_
            refine lv_iconst (v := (-1)) hx hb d_Md_name_83 (by decide) ?_
            refine lv_icmp_ne (tgt := 92) hx hb d_Md_name_84 (by decide) (fun c_84 => ?_) (fun c_84 => ?_)
            · refine lv_iload hx hb d_Md_name_92 (lv_at hl 6 rfl) ?_
              refine lv_if_lt (tgt := 104) hx hb d_Md_name_94 (by decide) (fun c_94 => ?_) (fun c_94 => ?_)
              · refine lv_iconst (v := (-1)) hx hb d_Md_name_104 (by decide) ?_
                refine lv_goto (tgt := 120) hx hb d_Md_name_105 (by decide) ?_
                exact cRi (nI x_.1) hx hb hr hlocks d_Md_name_120 hS hP hD (by rw [hS9, sStr_n c_84 (by first | exact Or.inl c_94 | exact Or.inr (Int32.not_lt.mp c_101)) (by omega)]) (Nat.le_refl _) (Nat.le_refl _)
              · refine lv_iload hx hb d_Md_name_97 (lv_at hl 6 rfl) ?_
                refine lv_iload hx hb d_Md_name_99 (lv_at hl 0 rfl) ?_
                refine lv_icmp_lt (tgt := 108) hx hb d_Md_name_101 (by decide) (fun c_101 => ?_) (fun c_101 => ?_)
                · obtain ⟨jj, hjj, rfl⟩ := i32_nn c_94
                  have hjn : jj < x_.2 := (nI_ltI hjj (by omega)).mp c_101
                  have hl : lv_has ls 7 [(6, .int (nI x_.2)), (5, .int (nI t2)), (0, .ref m0), (1, .int 1), (2, .int (nI j)), (3, .int 0), (4, .int (nI jj))] := hl
                  refine lv_aload_n hx hb d_Md_name_108 rfl (lv_at hl 2 rfl) ?_
                  refine va_get (D := D) (ci := 6) (v := .ref (g 30)) (C := R_Md) (T := F_Md) (N := 44) hx hb hts (fun w h => List.mem_cons_of_mem _ (i_Md w h)) hown hE.1 hP 0 rfl rfl 30 (by decide) (hts _ (List.mem_cons_of_mem _ iw3_84)) (fun _ h9 => h9) rfl d_Md_name_109 ?_
                  refine lv_aload_n hx hb d_Md_name_112 rfl (lv_at hl 2 rfl) ?_
                  refine va_get (D := D) (ci := 6) (v := .int (nI x_.1)) (C := R_Md) (T := F_Md) (N := 44) hx hb hts (fun w h => List.mem_cons_of_mem _ (i_Md w h)) hown hE.1 hP 0 rfl rfl 43 (by decide) (hts _ (List.mem_cons_of_mem _ iw3_97)) (fun _ h9 => h9) rfl d_Md_name_113 ?_
                  refine lv_iload hx hb d_Md_name_116 (lv_at hl 6 rfl) ?_
                  refine lv_iadd hx hb d_Md_name_118 ?_
                  rw [nI_add]
                  refine va_iald hx hb hE.1 hP 1 3 rfl rfl (vp_in_nI (by omega) (by omega)) d_Md_name_119 ?_
                  rw [nI_clamp (n := x_.1 + jj) (by omega), hyb (x_.1 + jj) (by omega)]
                  exact cRi (nI x_.1) hx hb hr hlocks d_Md_name_120 hS hP hD (by rw [hS9, sStr_j hjn (by omega) (by omega)]) (Nat.le_refl _) (Nat.le_refl _)
                · refine lv_iconst (v := (-1)) hx hb d_Md_name_104 (by decide) ?_
                  refine lv_goto (tgt := 120) hx hb d_Md_name_105 (by decide) ?_
                  exact cRi (nI x_.1) hx hb hr hlocks d_Md_name_120 hS hP hD (by rw [hS9, sStr_n c_84 (by first | exact Or.inl c_94 | exact Or.inr (Int32.not_lt.mp c_101)) (by omega)]) (Nat.le_refl _) (Nat.le_refl _)
            · refine lv_iload hx hb d_Md_name_87 (lv_at hl 0 rfl) ?_
              refine lv_goto (tgt := 120) hx hb d_Md_name_89 (by decide) ?_
              exact cRi (nI x_.1) hx hb hr hlocks d_Md_name_120 hS hP hD (by rw [hS9, c_84, sStr_m]) (Nat.le_refl _) (Nat.le_refl _)
          · have hl : lv_has ls 7 [(5, .int (nI t2)), (0, .ref m0), (1, .int 1), (2, .int (nI j)), (3, .int 1), (4, .int i)] := hl
            have hzp : z 6 = lN y_.1 ∧ z 7 = lN y_.2 := ⟨hzc.2.2.1, hzc.2.2.2⟩
            have hS9 : sName LS b 1 (nI j) 1 i = sStr b (lN y_.1) (lN y_.2) i := by rw [sName, if_neg (by decide), if_pos (by decide), sAt_ok hjl (by have := hLk 1 (by decide); omega), sAt_ok hjl (by have := hLk 1 (by decide); omega), ← hz, hzp.1, hzp.2]
            have hbnd : y_.1 + y_.2 ≤ lm := by omega
            refine lv_aload_n hx hb d_Md_name_54 rfl (lv_at hl 1 rfl) ?_
            refine lv_aload_n hx hb d_Md_name_55 rfl (lv_at hl 1 rfl) ?_
            refine va_get (D := D) (ci := 6) (v := .ref (g 35)) (C := R_Md) (T := F_Md) (N := 44) hx hb hts (fun w h => List.mem_cons_of_mem _ (i_Md w h)) hown hE.1 hP 0 rfl rfl 35 (by decide) (hts _ (List.mem_cons_of_mem _ iw3_89)) (fun _ h9 => h9) rfl d_Md_name_56 ?_
            refine lv_iload hx hb d_Md_name_59 (lv_at hl 0 rfl) ?_
            refine va_iald hx hb hE.1 hP 3 3 rfl rfl (vp_in_nI (by omega) (by omega)) d_Md_name_61 ?_
            rw [nI_clamp (n := t2) (by omega), hfr]
            refine va_put (D := D) (ci := 6) (v := .int (nI f0)) (ty := .int) (C := R_Md) (T := F_Md) (N := 44) hx hb hts (fun w h => List.mem_cons_of_mem _ (i_Md w h)) t_Md tk_Md n_Md hown hE.1 hP hD hS 0 rfl rfl 43 (by decide) (hts _ (List.mem_cons_of_mem _ iw3_97)) (fun _ h9 => h9) rfl (by decide +kernel) rfl rfl (Nat.le_of_ble_eq_true rfl) d_Md_name_62 (fun H locs hP hD hS => ?_)
            have hP : va_P D cls [(m0, .inr (6, mF g (K.1, K.2.1, K.2.2.1, nI T.length, nI X.length, K.2.2.2.2.2.1, K.2.2.2.2.2.2.1, K.2.2.2.2.2.2.2.1, nI f0) A0 e np B)), ((g 30), .inl (cA 3, 2000, .inl yb)), ((g 34), .inl (cA 3, 2000, .inl kd)), ((g 35), .inl (cA 3, 2000, .inl fr)), ((g 36), .inl (cA 3, 2000, .inl to)), ((g 37), .inl (cA 3, 2000, .inl re)), ((g 38), .inl (cA 3, 2000, .inl ow)), ((g 39), .inl (cA 3, 2000, .inl fi)), ((g 40), .inl (cA 3, 2000, .inl be))] H := hP
            have hD : va_D A [(m0, .inr (6, mF g (K.1, K.2.1, K.2.2.1, nI T.length, nI X.length, K.2.2.2.2.2.1, K.2.2.2.2.2.2.1, K.2.2.2.2.2.2.2.1, nI f0) A0 e np B)), ((g 30), .inl (cA 3, 2000, .inl yb)), ((g 34), .inl (cA 3, 2000, .inl kd)), ((g 35), .inl (cA 3, 2000, .inl fr)), ((g 36), .inl (cA 3, 2000, .inl to)), ((g 37), .inl (cA 3, 2000, .inl re)), ((g 38), .inl (cA 3, 2000, .inl ow)), ((g 39), .inl (cA 3, 2000, .inl fi)), ((g 40), .inl (cA 3, 2000, .inl be))] := hD
            refine lv_iload_n hx hb d_Md_name_65 rfl (lv_at hl 4 rfl) ?_
            refine lv_iconst (v := 1) hx hb d_Md_name_66 (by decide) ?_
            refine lv_icmp_ne (tgt := 74) hx hb d_Md_name_67 (by decide) (fun c_67 => absurd (by decide) c_67) (fun c_67 => ?_)
            refine lv_aload_n hx hb d_Md_name_70 rfl (lv_at hl 1 rfl) ?_
            refine cV (As := []) (rest := []) (n := 0) (wc := [(m0, .inr (6, mF g (K.1, K.2.1, K.2.2.1, nI T.length, nI X.length, K.2.2.2.2.2.1, K.2.2.2.2.2.2.1, K.2.2.2.2.2.2.2.1, nI f0) A0 e np B)), ((g 30), .inl (cA 3, 2000, .inl yb))]) (wr := [((g 34), .inl (cA 3, 2000, .inl kd)), ((g 35), .inl (cA 3, 2000, .inl fr)), ((g 36), .inl (cA 3, 2000, .inl to)), ((g 37), .inl (cA 3, 2000, .inl re)), ((g 38), .inl (cA 3, 2000, .inl ow)), ((g 39), .inl (cA 3, 2000, .inl fi)), ((g 40), .inl (cA 3, 2000, .inl be))]) ⟨hx, hb, hml, hown, hts⟩ hno hlocks hl.1 (c_Md_passName l hl9 D cA ad H.size m0 g (K.1, K.2.1, K.2.2.1, nI T.length, nI X.length, K.2.2.2.2.2.1, K.2.2.2.2.2.2.1, K.2.2.2.2.2.2.2.1, nI f0) A0 e np B yb b lm hlm hyb hb9 f0 a1 x_ (by omega) hn1) iw4_144 iw4_146 sel_Md_passName iw1_7 iw4_147 (by decide +kernel) rfl ⟨Nat.le_of_ble_eq_true rfl, Nat.le_of_ble_eq_true rfl⟩ ⟨Nat.le_of_ble_eq_true rfl, Nat.le_of_ble_eq_true rfl⟩ rfl (Nat.le_of_ble_eq_true rfl) d_Md_name_71 hE hP hD hS hA [0, 1] [2, 3, 4, 5, 6, 7, 8] rfl rfl rfl rfl (by decide) (ci := 6) rfl rfl 0 rfl (fun _ h => h.elim) (fun v_71 u_71 H locs hp_71 hP hD hS => ?_)
            obtain rfl := hp_71
            have hP : va_P D cls [(m0, .inr (6, mF g (K.1, K.2.1, K.2.2.1, nI T.length, nI X.length, K.2.2.2.2.2.1, K.2.2.2.2.2.2.1, K.2.2.2.2.2.2.2.1, nI a1) A0 e np B)), ((g 30), .inl (cA 3, 2000, .inl yb)), ((g 34), .inl (cA 3, 2000, .inl kd)), ((g 35), .inl (cA 3, 2000, .inl fr)), ((g 36), .inl (cA 3, 2000, .inl to)), ((g 37), .inl (cA 3, 2000, .inl re)), ((g 38), .inl (cA 3, 2000, .inl ow)), ((g 39), .inl (cA 3, 2000, .inl fi)), ((g 40), .inl (cA 3, 2000, .inl be))] H := hP.sub [7, 8, 0, 1, 2, 3, 4, 5, 6] rfl
            have hD : va_D A [(m0, .inr (6, mF g (K.1, K.2.1, K.2.2.1, nI T.length, nI X.length, K.2.2.2.2.2.1, K.2.2.2.2.2.2.1, K.2.2.2.2.2.2.2.1, nI a1) A0 e np B)), ((g 30), .inl (cA 3, 2000, .inl yb)), ((g 34), .inl (cA 3, 2000, .inl kd)), ((g 35), .inl (cA 3, 2000, .inl fr)), ((g 36), .inl (cA 3, 2000, .inl to)), ((g 37), .inl (cA 3, 2000, .inl re)), ((g 38), .inl (cA 3, 2000, .inl ow)), ((g 39), .inl (cA 3, 2000, .inl fi)), ((g 40), .inl (cA 3, 2000, .inl be))] := hD.sub [7, 8, 0, 1, 2, 3, 4, 5, 6] (by decide) rfl
            refine W.cs (cells' := 0) (slots' := 0) rfl rfl ?_
            refine W.eq (g2 := F0 m 74 ls []) rfl ?_
            refine lv_aload_n hx hb d_Md_name_74 rfl (lv_at hl 1 rfl) ?_
            refine cV (As := []) (rest := []) (n := 0) (wc := [(m0, .inr (6, mF g (K.1, K.2.1, K.2.2.1, nI T.length, nI X.length, K.2.2.2.2.2.1, K.2.2.2.2.2.2.1, K.2.2.2.2.2.2.2.1, nI a1) A0 e np B)), ((g 30), .inl (cA 3, 2000, .inl yb))]) (wr := [((g 34), .inl (cA 3, 2000, .inl kd)), ((g 35), .inl (cA 3, 2000, .inl fr)), ((g 36), .inl (cA 3, 2000, .inl to)), ((g 37), .inl (cA 3, 2000, .inl re)), ((g 38), .inl (cA 3, 2000, .inl ow)), ((g 39), .inl (cA 3, 2000, .inl fi)), ((g 40), .inl (cA 3, 2000, .inl be))]) ⟨hx, hb, hml, hown, hts⟩ hno hlocks hl.1 (c_Md_number l hl9 D cA ad H.size m0 g (K.1, K.2.1, K.2.2.1, nI T.length, nI X.length, K.2.2.2.2.2.1, K.2.2.2.2.2.2.1, K.2.2.2.2.2.2.2.1, nI a1) A0 e np B yb b lm hlm hyb hb9 a1 y_.2 y_.1 (by omega) (pName_u hn2)) iw4_132 iw4_134 sel_Md_number iw1_7 iw4_135 (by decide +kernel) rfl ⟨Nat.le_of_ble_eq_true rfl, Nat.le_of_ble_eq_true rfl⟩ ⟨Nat.le_of_ble_eq_true rfl, Nat.le_of_ble_eq_true rfl⟩ rfl (Nat.le_of_ble_eq_true rfl) d_Md_name_75 hE hP hD hS hA [0, 1] [2, 3, 4, 5, 6, 7, 8] rfl rfl rfl rfl (by decide) (ci := 6) rfl rfl 0 rfl (fun _ h => h.elim) (fun v_75 u_75 H locs hp_75 hP hD hS => ?_)
            obtain rfl := hp_75
            have hP : va_P D cls [(m0, .inr (6, mF g (K.1, K.2.1, K.2.2.1, nI T.length, nI X.length, K.2.2.2.2.2.1, K.2.2.2.2.2.2.1, K.2.2.2.2.2.2.2.1, nI y_.1) A0 e np B)), ((g 30), .inl (cA 3, 2000, .inl yb)), ((g 34), .inl (cA 3, 2000, .inl kd)), ((g 35), .inl (cA 3, 2000, .inl fr)), ((g 36), .inl (cA 3, 2000, .inl to)), ((g 37), .inl (cA 3, 2000, .inl re)), ((g 38), .inl (cA 3, 2000, .inl ow)), ((g 39), .inl (cA 3, 2000, .inl fi)), ((g 40), .inl (cA 3, 2000, .inl be))] H := hP.sub [7, 8, 0, 1, 2, 3, 4, 5, 6] rfl
            have hD : va_D A [(m0, .inr (6, mF g (K.1, K.2.1, K.2.2.1, nI T.length, nI X.length, K.2.2.2.2.2.1, K.2.2.2.2.2.2.1, K.2.2.2.2.2.2.2.1, nI y_.1) A0 e np B)), ((g 30), .inl (cA 3, 2000, .inl yb)), ((g 34), .inl (cA 3, 2000, .inl kd)), ((g 35), .inl (cA 3, 2000, .inl fr)), ((g 36), .inl (cA 3, 2000, .inl to)), ((g 37), .inl (cA 3, 2000, .inl re)), ((g 38), .inl (cA 3, 2000, .inl ow)), ((g 39), .inl (cA 3, 2000, .inl fi)), ((g 40), .inl (cA 3, 2000, .inl be))] := hD.sub [7, 8, 0, 1, 2, 3, 4, 5, 6] (by decide) rfl
            refine W.cs (cells' := 0) (slots' := 0) rfl rfl ?_
            refine W.eq (g2 := F0 m 78 ls [.long (lN y_.2)]) rfl ?_
            refine lv_l2i hx hb d_Md_name_78 rfl ?_
            rw [lN_i]
            refine lv_istore (lv' := [(6, .int (nI y_.2)), (5, .int (nI t2)), (0, .ref m0), (1, .int 1), (2, .int (nI j)), (3, .int 1), (4, .int i)]) hx hb d_Md_name_79 hl (by decide) rfl (fun ls hl => ?_)
            refine lv_iload hx hb d_Md_name_81 (lv_at hl 6 rfl) ?_
            refine lv_iconst (v := (-1)) hx hb d_Md_name_83 (by decide) ?_
            refine lv_icmp_ne (tgt := 92) hx hb d_Md_name_84 (by decide) (fun c_84 => ?_) (fun c_84 => ?_)
            · refine lv_iload hx hb d_Md_name_92 (lv_at hl 6 rfl) ?_
              refine lv_if_lt (tgt := 104) hx hb d_Md_name_94 (by decide) (fun c_94 => ?_) (fun c_94 => ?_)
              · refine lv_iconst (v := (-1)) hx hb d_Md_name_104 (by decide) ?_
                refine lv_goto (tgt := 120) hx hb d_Md_name_105 (by decide) ?_
                exact cRi (nI y_.1) hx hb hr hlocks d_Md_name_120 hS hP hD (by rw [hS9, sStr_n c_84 (by first | exact Or.inl c_94 | exact Or.inr (Int32.not_lt.mp c_101)) (by omega)]) (Nat.le_refl _) (Nat.le_refl _)
              · refine lv_iload hx hb d_Md_name_97 (lv_at hl 6 rfl) ?_
                refine lv_iload hx hb d_Md_name_99 (lv_at hl 0 rfl) ?_
                refine lv_icmp_lt (tgt := 108) hx hb d_Md_name_101 (by decide) (fun c_101 => ?_) (fun c_101 => ?_)
                · obtain ⟨jj, hjj, rfl⟩ := i32_nn c_94
                  have hjn : jj < y_.2 := (nI_ltI hjj (by omega)).mp c_101
                  have hl : lv_has ls 7 [(6, .int (nI y_.2)), (5, .int (nI t2)), (0, .ref m0), (1, .int 1), (2, .int (nI j)), (3, .int 1), (4, .int (nI jj))] := hl
                  refine lv_aload_n hx hb d_Md_name_108 rfl (lv_at hl 2 rfl) ?_
                  refine va_get (D := D) (ci := 6) (v := .ref (g 30)) (C := R_Md) (T := F_Md) (N := 44) hx hb hts (fun w h => List.mem_cons_of_mem _ (i_Md w h)) hown hE.1 hP 0 rfl rfl 30 (by decide) (hts _ (List.mem_cons_of_mem _ iw3_84)) (fun _ h9 => h9) rfl d_Md_name_109 ?_
                  refine lv_aload_n hx hb d_Md_name_112 rfl (lv_at hl 2 rfl) ?_
                  refine va_get (D := D) (ci := 6) (v := .int (nI y_.1)) (C := R_Md) (T := F_Md) (N := 44) hx hb hts (fun w h => List.mem_cons_of_mem _ (i_Md w h)) hown hE.1 hP 0 rfl rfl 43 (by decide) (hts _ (List.mem_cons_of_mem _ iw3_97)) (fun _ h9 => h9) rfl d_Md_name_113 ?_
                  refine lv_iload hx hb d_Md_name_116 (lv_at hl 6 rfl) ?_
                  refine lv_iadd hx hb d_Md_name_118 ?_
                  rw [nI_add]
                  refine va_iald hx hb hE.1 hP 1 3 rfl rfl (vp_in_nI (by omega) (by omega)) d_Md_name_119 ?_
                  rw [nI_clamp (n := y_.1 + jj) (by omega), hyb (y_.1 + jj) (by omega)]
                  exact cRi (nI y_.1) hx hb hr hlocks d_Md_name_120 hS hP hD (by rw [hS9, sStr_j hjn (by omega) (by omega)]) (Nat.le_refl _) (Nat.le_refl _)
                · refine lv_iconst (v := (-1)) hx hb d_Md_name_104 (by decide) ?_
                  refine lv_goto (tgt := 120) hx hb d_Md_name_105 (by decide) ?_
                  exact cRi (nI y_.1) hx hb hr hlocks d_Md_name_120 hS hP hD (by rw [hS9, sStr_n c_84 (by first | exact Or.inl c_94 | exact Or.inr (Int32.not_lt.mp c_101)) (by omega)]) (Nat.le_refl _) (Nat.le_refl _)
            · refine lv_iload hx hb d_Md_name_87 (lv_at hl 0 rfl) ?_
              refine lv_goto (tgt := 120) hx hb d_Md_name_89 (by decide) ?_
              exact cRi (nI y_.1) hx hb hr hlocks d_Md_name_120 hS hP hD (by rw [hS9, c_84, sStr_m]) (Nat.le_refl _) (Nat.le_refl _)
        · refine lv_iconst (v := (-1)) hx hb d_Md_name_52 (by decide) ?_
          exact cRi (K.2.2.2.2.2.2.2.2) hx hb hr hlocks d_Md_name_53 hS hP hD (by rw [sName, if_neg (by first | (intro q; rw [q] at c_35; exact absurd c_35 (by decide)) | (intro q; rw [q] at c_49; exact c_49 (by decide))), if_neg (by first | exact (fun q => absurd q.2 (by decide)) | (rintro ⟨q, -⟩; rw [q] at c_35; exact absurd c_35 (by decide)) | (rintro ⟨q, -⟩; rw [q] at c_49; exact c_49 (by decide)))]) (Nat.le_refl _) (Nat.le_refl _)
  by_cases hx6 : x = 6
  · subst hx6
    have hl : lv_has ls 7 [(0, .ref m0), (1, .int 6), (2, .int k), (3, .int part), (4, .int i)] := hl
    refine lv_iload_n hx hb d_Md_name_0 rfl (lv_at hl 1 rfl) ?_
    refine lv_iconst (v := 1) hx hb d_Md_name_1 (by decide) ?_
    refine lv_icmp_eq (tgt := 17) hx hb d_Md_name_2 (by decide) (fun c_2 => absurd c_2 (by decide)) (fun c_2 => ?_)
    refine lv_iload_n hx hb d_Md_name_5 rfl (lv_at hl 1 rfl) ?_
    refine lv_bipush (v := 6) hx hb d_Md_name_6 (by decide) ?_
    refine lv_icmp_eq (tgt := 17) hx hb d_Md_name_8 (by decide) (fun c_8 => ?_) (fun c_8 => absurd (by decide) c_8)
    refine lv_aload_n hx hb d_Md_name_17 rfl (lv_at hl 0 rfl) ?_
    refine lv_iload_n hx hb d_Md_name_18 rfl (lv_at hl 1 rfl) ?_
    refine lv_iload_n hx hb d_Md_name_19 rfl (lv_at hl 2 rfl) ?_
    refine cV (As := [.int 6, .int k]) (rest := []) (n := 2) (wc := [(m0, .inr (6, mF g (K.1, K.2.1, K.2.2.1, nI T.length, nI X.length, K.2.2.2.2.2.1, K.2.2.2.2.2.2.1, K.2.2.2.2.2.2.2.1, K.2.2.2.2.2.2.2.2) A0 e np B)), ((g 34), .inl (cA 3, 2000, .inl kd))]) (wr := [((g 30), .inl (cA 3, 2000, .inl yb)), ((g 35), .inl (cA 3, 2000, .inl fr)), ((g 36), .inl (cA 3, 2000, .inl to)), ((g 37), .inl (cA 3, 2000, .inl re)), ((g 38), .inl (cA 3, 2000, .inl ow)), ((g 39), .inl (cA 3, 2000, .inl fi)), ((g 40), .inl (cA 3, 2000, .inl be))]) ⟨hx, hb, hml, hown, hts⟩ hno hlocks hl.1 (c_Md_thingOf l hl9 D cA ad s.heap.size m0 g (K.1, K.2.1, K.2.2.1, nI T.length, nI X.length, K.2.2.2.2.2.1, K.2.2.2.2.2.2.1, K.2.2.2.2.2.2.2.1, K.2.2.2.2.2.2.2.2) A0 e np B kd fr to re T hTH h11 hT 6 (by decide) k) iw4_128 iw4_130 sel_Md_thingOf iw1_7 iw4_131 (by decide +kernel) rfl ⟨Nat.le_of_ble_eq_true rfl, Nat.le_of_ble_eq_true rfl⟩ ⟨Nat.le_of_ble_eq_true rfl, Nat.le_of_ble_eq_true rfl⟩ rfl (Nat.le_of_ble_eq_true rfl) d_Md_name_20 hE hP hD hS hA [0, 2] [1, 3, 4, 5, 6, 7, 8] rfl rfl rfl rfl (by decide) (ci := 6) rfl rfl 0 rfl (fun _ h => h.elim) (fun v_20 u_20 H locs hp_20 hP hD hS => ?_)
    rcases hp_20 with ⟨rfl, hbad⟩ | ⟨j, t, hj31, ej, hjt, htl, rfl⟩
    · have hbad : k < 0 ∨ nI (LS 6).length ≤ k := hbad.elim Or.inl (fun q => by obtain ⟨j, hj, rfl, q⟩ := q; exact Or.inr (nI_le (by rw [← (hrel.2.2 6 (by decide)).1]; exact q) hj))
      have hP : va_P D cls [(m0, .inr (6, mF g (K.1, K.2.1, K.2.2.1, nI T.length, nI X.length, K.2.2.2.2.2.1, K.2.2.2.2.2.2.1, K.2.2.2.2.2.2.2.1, K.2.2.2.2.2.2.2.2) A0 e np B)), ((g 30), .inl (cA 3, 2000, .inl yb)), ((g 34), .inl (cA 3, 2000, .inl kd)), ((g 35), .inl (cA 3, 2000, .inl fr)), ((g 36), .inl (cA 3, 2000, .inl to)), ((g 37), .inl (cA 3, 2000, .inl re)), ((g 38), .inl (cA 3, 2000, .inl ow)), ((g 39), .inl (cA 3, 2000, .inl fi)), ((g 40), .inl (cA 3, 2000, .inl be))] H := hP.sub [7, 0, 8, 1, 2, 3, 4, 5, 6] rfl
      have hD : va_D A [(m0, .inr (6, mF g (K.1, K.2.1, K.2.2.1, nI T.length, nI X.length, K.2.2.2.2.2.1, K.2.2.2.2.2.2.1, K.2.2.2.2.2.2.2.1, K.2.2.2.2.2.2.2.2) A0 e np B)), ((g 30), .inl (cA 3, 2000, .inl yb)), ((g 34), .inl (cA 3, 2000, .inl kd)), ((g 35), .inl (cA 3, 2000, .inl fr)), ((g 36), .inl (cA 3, 2000, .inl to)), ((g 37), .inl (cA 3, 2000, .inl re)), ((g 38), .inl (cA 3, 2000, .inl ow)), ((g 39), .inl (cA 3, 2000, .inl fi)), ((g 40), .inl (cA 3, 2000, .inl be))] := hD.sub [7, 0, 8, 1, 2, 3, 4, 5, 6] (by decide) rfl
      refine W.cs (cells' := 0) (slots' := 0) rfl rfl ?_
      refine W.eq (g2 := F0 m 23 ls [.int (-1)]) rfl ?_
      refine lv_goto (tgt := 27) hx hb d_Md_name_23 (by decide) ?_
      refine lv_istore (lv' := [(5, .int (-1)), (0, .ref m0), (1, .int 6), (2, .int k), (3, .int part), (4, .int i)]) hx hb d_Md_name_27 hl (by decide) rfl (fun ls hl => ?_)
      refine lv_iload hx hb d_Md_name_29 (lv_at hl 0 rfl) ?_
      refine lv_if_lt (tgt := 52) hx hb d_Md_name_31 (by decide) (fun c_31 => ?_) (fun c_31 => absurd (by decide) c_31)
      refine lv_iconst (v := (-1)) hx hb d_Md_name_52 (by decide) ?_
      exact cRi (K.2.2.2.2.2.2.2.2) hx hb hr hlocks d_Md_name_53 hS hP hD (by rw [sName]; by_cases hp : part = 0 <;> simp [hp, sAt_bad hbad, sStr_bad]) (Nat.le_refl _) (Nat.le_refl _)
    · subst ej
      have hP : va_P D cls [(m0, .inr (6, mF g (K.1, K.2.1, K.2.2.1, nI T.length, nI X.length, K.2.2.2.2.2.1, K.2.2.2.2.2.2.1, K.2.2.2.2.2.2.2.1, K.2.2.2.2.2.2.2.2) A0 e np B)), ((g 30), .inl (cA 3, 2000, .inl yb)), ((g 34), .inl (cA 3, 2000, .inl kd)), ((g 35), .inl (cA 3, 2000, .inl fr)), ((g 36), .inl (cA 3, 2000, .inl to)), ((g 37), .inl (cA 3, 2000, .inl re)), ((g 38), .inl (cA 3, 2000, .inl ow)), ((g 39), .inl (cA 3, 2000, .inl fi)), ((g 40), .inl (cA 3, 2000, .inl be))] H := hP.sub [7, 0, 8, 1, 2, 3, 4, 5, 6] rfl
      have hD : va_D A [(m0, .inr (6, mF g (K.1, K.2.1, K.2.2.1, nI T.length, nI X.length, K.2.2.2.2.2.1, K.2.2.2.2.2.2.1, K.2.2.2.2.2.2.2.1, K.2.2.2.2.2.2.2.2) A0 e np B)), ((g 30), .inl (cA 3, 2000, .inl yb)), ((g 34), .inl (cA 3, 2000, .inl kd)), ((g 35), .inl (cA 3, 2000, .inl fr)), ((g 36), .inl (cA 3, 2000, .inl to)), ((g 37), .inl (cA 3, 2000, .inl re)), ((g 38), .inl (cA 3, 2000, .inl ow)), ((g 39), .inl (cA 3, 2000, .inl fi)), ((g 40), .inl (cA 3, 2000, .inl be))] := hD.sub [7, 0, 8, 1, 2, 3, 4, 5, 6] (by decide) rfl
      refine W.cs (cells' := 0) (slots' := 0) rfl rfl ?_
      refine W.eq (g2 := F0 m 23 ls [.int (nI t)]) rfl ?_
      have hl : lv_has ls 7 [(0, .ref m0), (1, .int 6), (2, .int (nI j)), (3, .int part), (4, .int i)] := hl
      have hjl : j < (LS 6).length := by rw [← (hrel.2.2 6 (by decide)).1]; exact (List.getElem?_eq_some_iff.mp hjt).1
      obtain ⟨t2, f0, o, e1, e2, e3, e4⟩ := (hrel.2.2 6 (by decide)).2 j hjl
      have et : t2 = t := Option.some.inj (e1.symm.trans hjt)
      subst et
      obtain ⟨-, hfr, hto⟩ := TH_at hTH e2
      rw [e3] at hfr hto
      have hfr : fr t2 = nI f0 := hfr
      obtain ⟨z, hz⟩ : ∃ z, z = ((LS 6).getD j (0, c_1)).2 := ⟨_, rfl⟩
      rw [← hz] at e4
      obtain ⟨lm, dc, a', hlmN, hfl, p0, p1, p2, p3, p4, p5, p6, p7, p8, p9, p10⟩ := e4
      have hlm : lm ≤ 2000 := by omega
      have hyb : ∀ i, i < lm → yb i = nI (b i) := fun i hi => hybN i (by omega)
      refine lv_goto (tgt := 27) hx hb d_Md_name_23 (by decide) ?_
      refine lv_istore (lv' := [(5, .int (nI t2)), (0, .ref m0), (1, .int 6), (2, .int (nI j)), (3, .int part), (4, .int i)]) hx hb d_Md_name_27 hl (by decide) rfl (fun ls hl => ?_)
      refine lv_iload hx hb d_Md_name_29 (lv_at hl 0 rfl) ?_
      refine lv_if_lt (tgt := 52) hx hb d_Md_name_31 (by decide) (fun c_31 => absurd c_31 (nI_pos (by omega))) (fun c_31 => ?_)
      refine lv_iload_n hx hb d_Md_name_34 rfl (lv_at hl 4 rfl) ?_
      refine lv_if_lt (tgt := 52) hx hb d_Md_name_35 (by decide) (fun c_35 => ?_) (fun c_35 => ?_)
      · refine lv_iconst (v := (-1)) hx hb d_Md_name_52 (by decide) ?_
        exact cRi (K.2.2.2.2.2.2.2.2) hx hb hr hlocks d_Md_name_53 hS hP hD (by rw [sName, if_neg (by first | (intro q; rw [q] at c_35; exact absurd c_35 (by decide)) | (intro q; rw [q] at c_49; exact c_49 (by decide))), if_neg (by first | exact (fun q => absurd q.2 (by decide)) | (rintro ⟨q, -⟩; rw [q] at c_35; exact absurd c_35 (by decide)) | (rintro ⟨q, -⟩; rw [q] at c_49; exact c_49 (by decide)))]) (Nat.le_refl _) (Nat.le_refl _)
      · refine lv_iload_n hx hb d_Md_name_38 rfl (lv_at hl 4 rfl) ?_
        refine lv_iload_n hx hb d_Md_name_39 rfl (lv_at hl 2 rfl) ?_
        refine lv_iconst (v := 1) hx hb d_Md_name_40 (by decide) ?_
        refine lv_icmp_ne (tgt := 48) hx hb d_Md_name_41 (by decide) (fun c_41 => ?_) (fun c_41 => absurd c_41 (by decide))
        refine lv_iconst (v := 0) hx hb d_Md_name_48 (by decide) ?_
        refine lv_icmp_le (tgt := 54) hx hb d_Md_name_49 (by decide) (fun c_49 => ?_) (fun c_49 => ?_)
        · have hpart : part = 0 := by
            obtain ⟨q, hq, rfl⟩ := i32_nn c_35
            have hq1 := (nI_leI (a := q) (b := 0) hq (by decide)).mp c_49
            rw [show q = 0 by omega]; rfl
          obtain ⟨x_, a1, v, hn1, ha1, hv, hzz⟩ := pExp_inv (p6 rfl)
          have hq1 := pName_ok hfl hn1
          have hzc : z 2 = lN x_.1 ∧ z 3 = lN x_.2 := by rw [hzz]; exact ⟨rfl, rfl⟩
          subst hpart
          have hl : lv_has ls 7 [(5, .int (nI t2)), (0, .ref m0), (1, .int 6), (2, .int (nI j)), (3, .int 0), (4, .int i)] := hl
          have hzp : z 2 = lN x_.1 ∧ z 3 = lN x_.2 := hzc
          have hS9 : sName LS b 6 (nI j) 0 i = sStr b (lN x_.1) (lN x_.2) i := by rw [sName, if_pos rfl, if_neg (by decide), if_pos rfl, sAt_ok hjl (by have := hLk 6 (by decide); omega), sAt_ok hjl (by have := hLk 6 (by decide); omega), ← hz, hzp.1, hzp.2]
          have hbnd : x_.1 + x_.2 ≤ lm := by omega
          refine lv_aload_n hx hb d_Md_name_54 rfl (lv_at hl 1 rfl) ?_
          refine lv_aload_n hx hb d_Md_name_55 rfl (lv_at hl 1 rfl) ?_
          refine va_get (D := D) (ci := 6) (v := .ref (g 35)) (C := R_Md) (T := F_Md) (N := 44) hx hb hts (fun w h => List.mem_cons_of_mem _ (i_Md w h)) hown hE.1 hP 0 rfl rfl 35 (by decide) (hts _ (List.mem_cons_of_mem _ iw3_89)) (fun _ h9 => h9) rfl d_Md_name_56 ?_
          refine lv_iload hx hb d_Md_name_59 (lv_at hl 0 rfl) ?_
          refine va_iald hx hb hE.1 hP 3 3 rfl rfl (vp_in_nI (by omega) (by omega)) d_Md_name_61 ?_
          rw [nI_clamp (n := t2) (by omega), hfr]
          refine va_put (D := D) (ci := 6) (v := .int (nI f0)) (ty := .int) (C := R_Md) (T := F_Md) (N := 44) hx hb hts (fun w h => List.mem_cons_of_mem _ (i_Md w h)) t_Md tk_Md n_Md hown hE.1 hP hD hS 0 rfl rfl 43 (by decide) (hts _ (List.mem_cons_of_mem _ iw3_97)) (fun _ h9 => h9) rfl (by decide +kernel) rfl rfl (Nat.le_of_ble_eq_true rfl) d_Md_name_62 (fun H locs hP hD hS => ?_)
          have hP : va_P D cls [(m0, .inr (6, mF g (K.1, K.2.1, K.2.2.1, nI T.length, nI X.length, K.2.2.2.2.2.1, K.2.2.2.2.2.2.1, K.2.2.2.2.2.2.2.1, nI f0) A0 e np B)), ((g 30), .inl (cA 3, 2000, .inl yb)), ((g 34), .inl (cA 3, 2000, .inl kd)), ((g 35), .inl (cA 3, 2000, .inl fr)), ((g 36), .inl (cA 3, 2000, .inl to)), ((g 37), .inl (cA 3, 2000, .inl re)), ((g 38), .inl (cA 3, 2000, .inl ow)), ((g 39), .inl (cA 3, 2000, .inl fi)), ((g 40), .inl (cA 3, 2000, .inl be))] H := hP
          have hD : va_D A [(m0, .inr (6, mF g (K.1, K.2.1, K.2.2.1, nI T.length, nI X.length, K.2.2.2.2.2.1, K.2.2.2.2.2.2.1, K.2.2.2.2.2.2.2.1, nI f0) A0 e np B)), ((g 30), .inl (cA 3, 2000, .inl yb)), ((g 34), .inl (cA 3, 2000, .inl kd)), ((g 35), .inl (cA 3, 2000, .inl fr)), ((g 36), .inl (cA 3, 2000, .inl to)), ((g 37), .inl (cA 3, 2000, .inl re)), ((g 38), .inl (cA 3, 2000, .inl ow)), ((g 39), .inl (cA 3, 2000, .inl fi)), ((g 40), .inl (cA 3, 2000, .inl be))] := hD
          refine lv_iload_n hx hb d_Md_name_65 rfl (lv_at hl 4 rfl) ?_
          refine lv_iconst (v := 1) hx hb d_Md_name_66 (by decide) ?_
          refine lv_icmp_ne (tgt := 74) hx hb d_Md_name_67 (by decide) (fun c_67 => ?_) (fun c_67 => absurd c_67 (by decide))
          refine lv_aload_n hx hb d_Md_name_74 rfl (lv_at hl 1 rfl) ?_
          refine cV (As := []) (rest := []) (n := 0) (wc := [(m0, .inr (6, mF g (K.1, K.2.1, K.2.2.1, nI T.length, nI X.length, K.2.2.2.2.2.1, K.2.2.2.2.2.2.1, K.2.2.2.2.2.2.2.1, nI f0) A0 e np B)), ((g 30), .inl (cA 3, 2000, .inl yb))]) (wr := [((g 34), .inl (cA 3, 2000, .inl kd)), ((g 35), .inl (cA 3, 2000, .inl fr)), ((g 36), .inl (cA 3, 2000, .inl to)), ((g 37), .inl (cA 3, 2000, .inl re)), ((g 38), .inl (cA 3, 2000, .inl ow)), ((g 39), .inl (cA 3, 2000, .inl fi)), ((g 40), .inl (cA 3, 2000, .inl be))]) ⟨hx, hb, hml, hown, hts⟩ hno hlocks hl.1 (c_Md_number l hl9 D cA ad H.size m0 g (K.1, K.2.1, K.2.2.1, nI T.length, nI X.length, K.2.2.2.2.2.1, K.2.2.2.2.2.2.1, K.2.2.2.2.2.2.2.1, nI f0) A0 e np B yb b lm hlm hyb hb9 f0 x_.2 x_.1 (by omega) (pName_u hn1)) iw4_132 iw4_134 sel_Md_number iw1_7 iw4_135 (by decide +kernel) rfl ⟨Nat.le_of_ble_eq_true rfl, Nat.le_of_ble_eq_true rfl⟩ ⟨Nat.le_of_ble_eq_true rfl, Nat.le_of_ble_eq_true rfl⟩ rfl (Nat.le_of_ble_eq_true rfl) d_Md_name_75 hE hP hD hS hA [0, 1] [2, 3, 4, 5, 6, 7, 8] rfl rfl rfl rfl (by decide) (ci := 6) rfl rfl 0 rfl (fun _ h => h.elim) (fun v_75 u_75 H locs hp_75 hP hD hS => ?_)
          obtain rfl := hp_75
          have hP : va_P D cls [(m0, .inr (6, mF g (K.1, K.2.1, K.2.2.1, nI T.length, nI X.length, K.2.2.2.2.2.1, K.2.2.2.2.2.2.1, K.2.2.2.2.2.2.2.1, nI x_.1) A0 e np B)), ((g 30), .inl (cA 3, 2000, .inl yb)), ((g 34), .inl (cA 3, 2000, .inl kd)), ((g 35), .inl (cA 3, 2000, .inl fr)), ((g 36), .inl (cA 3, 2000, .inl to)), ((g 37), .inl (cA 3, 2000, .inl re)), ((g 38), .inl (cA 3, 2000, .inl ow)), ((g 39), .inl (cA 3, 2000, .inl fi)), ((g 40), .inl (cA 3, 2000, .inl be))] H := hP.sub [7, 8, 0, 1, 2, 3, 4, 5, 6] rfl
          have hD : va_D A [(m0, .inr (6, mF g (K.1, K.2.1, K.2.2.1, nI T.length, nI X.length, K.2.2.2.2.2.1, K.2.2.2.2.2.2.1, K.2.2.2.2.2.2.2.1, nI x_.1) A0 e np B)), ((g 30), .inl (cA 3, 2000, .inl yb)), ((g 34), .inl (cA 3, 2000, .inl kd)), ((g 35), .inl (cA 3, 2000, .inl fr)), ((g 36), .inl (cA 3, 2000, .inl to)), ((g 37), .inl (cA 3, 2000, .inl re)), ((g 38), .inl (cA 3, 2000, .inl ow)), ((g 39), .inl (cA 3, 2000, .inl fi)), ((g 40), .inl (cA 3, 2000, .inl be))] := hD.sub [7, 8, 0, 1, 2, 3, 4, 5, 6] (by decide) rfl
          refine W.cs (cells' := 0) (slots' := 0) rfl rfl ?_
          refine W.eq (g2 := F0 m 78 ls [.long (lN x_.2)]) rfl ?_
          refine lv_l2i hx hb d_Md_name_78 rfl ?_
          rw [lN_i]
          refine lv_istore (lv' := [(6, .int (nI x_.2)), (5, .int (nI t2)), (0, .ref m0), (1, .int 6), (2, .int (nI j)), (3, .int 0), (4, .int i)]) hx hb d_Md_name_79 hl (by decide) rfl (fun ls hl => ?_)
          refine lv_iload hx hb d_Md_name_81 (lv_at hl 6 rfl) ?_
          refine lv_iconst (v := (-1)) hx hb d_Md_name_83 (by decide) ?_
          refine lv_icmp_ne (tgt := 92) hx hb d_Md_name_84 (by decide) (fun c_84 => ?_) (fun c_84 => ?_)
          · refine lv_iload hx hb d_Md_name_92 (lv_at hl 6 rfl) ?_
            refine lv_if_lt (tgt := 104) hx hb d_Md_name_94 (by decide) (fun c_94 => ?_) (fun c_94 => ?_)
            · refine lv_iconst (v := (-1)) hx hb d_Md_name_104 (by decide) ?_
              refine lv_goto (tgt := 120) hx hb d_Md_name_105 (by decide) ?_
              exact cRi (nI x_.1) hx hb hr hlocks d_Md_name_120 hS hP hD (by rw [hS9, sStr_n c_84 (by first | exact Or.inl c_94 | exact Or.inr (Int32.not_lt.mp c_101)) (by omega)]) (Nat.le_refl _) (Nat.le_refl _)
            · refine lv_iload hx hb d_Md_name_97 (lv_at hl 6 rfl) ?_
              refine lv_iload hx hb d_Md_name_99 (lv_at hl 0 rfl) ?_
              refine lv_icmp_lt (tgt := 108) hx hb d_Md_name_101 (by decide) (fun c_101 => ?_) (fun c_101 => ?_)
              · obtain ⟨jj, hjj, rfl⟩ := i32_nn c_94
                have hjn : jj < x_.2 := (nI_ltI hjj (by omega)).mp c_101
                have hl : lv_has ls 7 [(6, .int (nI x_.2)), (5, .int (nI t2)), (0, .ref m0), (1, .int 6), (2, .int (nI j)), (3, .int 0), (4, .int (nI jj))] := hl
                refine lv_aload_n hx hb d_Md_name_108 rfl (lv_at hl 2 rfl) ?_
                refine va_get (D := D) (ci := 6) (v := .ref (g 30)) (C := R_Md) (T := F_Md) (N := 44) hx hb hts (fun w h => List.mem_cons_of_mem _ (i_Md w h)) hown hE.1 hP 0 rfl rfl 30 (by decide) (hts _ (List.mem_cons_of_mem _ iw3_84)) (fun _ h9 => h9) rfl d_Md_name_109 ?_
                refine lv_aload_n hx hb d_Md_name_112 rfl (lv_at hl 2 rfl) ?_
                refine va_get (D := D) (ci := 6) (v := .int (nI x_.1)) (C := R_Md) (T := F_Md) (N := 44) hx hb hts (fun w h => List.mem_cons_of_mem _ (i_Md w h)) hown hE.1 hP 0 rfl rfl 43 (by decide) (hts _ (List.mem_cons_of_mem _ iw3_97)) (fun _ h9 => h9) rfl d_Md_name_113 ?_
                refine lv_iload hx hb d_Md_name_116 (lv_at hl 6 rfl) ?_
                refine lv_iadd hx hb d_Md_name_118 ?_
                rw [nI_add]
                refine va_iald hx hb hE.1 hP 1 3 rfl rfl (vp_in_nI (by omega) (by omega)) d_Md_name_119 ?_
                rw [nI_clamp (n := x_.1 + jj) (by omega), hyb (x_.1 + jj) (by omega)]
                exact cRi (nI x_.1) hx hb hr hlocks d_Md_name_120 hS hP hD (by rw [hS9, sStr_j hjn (by omega) (by omega)]) (Nat.le_refl _) (Nat.le_refl _)
              · refine lv_iconst (v := (-1)) hx hb d_Md_name_104 (by decide) ?_
                refine lv_goto (tgt := 120) hx hb d_Md_name_105 (by decide) ?_
                exact cRi (nI x_.1) hx hb hr hlocks d_Md_name_120 hS hP hD (by rw [hS9, sStr_n c_84 (by first | exact Or.inl c_94 | exact Or.inr (Int32.not_lt.mp c_101)) (by omega)]) (Nat.le_refl _) (Nat.le_refl _)
          · refine lv_iload hx hb d_Md_name_87 (lv_at hl 0 rfl) ?_
            refine lv_goto (tgt := 120) hx hb d_Md_name_89 (by decide) ?_
            exact cRi (nI x_.1) hx hb hr hlocks d_Md_name_120 hS hP hD (by rw [hS9, c_84, sStr_m]) (Nat.le_refl _) (Nat.le_refl _)
        · refine lv_iconst (v := (-1)) hx hb d_Md_name_52 (by decide) ?_
          exact cRi (K.2.2.2.2.2.2.2.2) hx hb hr hlocks d_Md_name_53 hS hP hD (by rw [sName, if_neg (by first | (intro q; rw [q] at c_35; exact absurd c_35 (by decide)) | (intro q; rw [q] at c_49; exact c_49 (by decide))), if_neg (by first | exact (fun q => absurd q.2 (by decide)) | (rintro ⟨q, -⟩; rw [q] at c_35; exact absurd c_35 (by decide)) | (rintro ⟨q, -⟩; rw [q] at c_49; exact c_49 (by decide)))]) (Nat.le_refl _) (Nat.le_refl _)
  by_cases hx10 : x = 10
  · subst hx10
    have hl : lv_has ls 7 [(0, .ref m0), (1, .int 10), (2, .int k), (3, .int part), (4, .int i)] := hl
    refine lv_iload_n hx hb d_Md_name_0 rfl (lv_at hl 1 rfl) ?_
    refine lv_iconst (v := 1) hx hb d_Md_name_1 (by decide) ?_
    refine lv_icmp_eq (tgt := 17) hx hb d_Md_name_2 (by decide) (fun c_2 => absurd c_2 (by decide)) (fun c_2 => ?_)
    refine lv_iload_n hx hb d_Md_name_5 rfl (lv_at hl 1 rfl) ?_
    refine lv_bipush (v := 6) hx hb d_Md_name_6 (by decide) ?_
    refine lv_icmp_eq (tgt := 17) hx hb d_Md_name_8 (by decide) (fun c_8 => absurd c_8 (by decide)) (fun c_8 => ?_)
    refine lv_iload_n hx hb d_Md_name_11 rfl (lv_at hl 1 rfl) ?_
    refine lv_bipush (v := 10) hx hb d_Md_name_12 (by decide) ?_
    refine lv_icmp_ne (tgt := 26) hx hb d_Md_name_14 (by decide) (fun c_14 => absurd (by decide) c_14) (fun c_14 => ?_)
    refine lv_aload_n hx hb d_Md_name_17 rfl (lv_at hl 0 rfl) ?_
    refine lv_iload_n hx hb d_Md_name_18 rfl (lv_at hl 1 rfl) ?_
    refine lv_iload_n hx hb d_Md_name_19 rfl (lv_at hl 2 rfl) ?_
    refine cV (As := [.int 10, .int k]) (rest := []) (n := 2) (wc := [(m0, .inr (6, mF g (K.1, K.2.1, K.2.2.1, nI T.length, nI X.length, K.2.2.2.2.2.1, K.2.2.2.2.2.2.1, K.2.2.2.2.2.2.2.1, K.2.2.2.2.2.2.2.2) A0 e np B)), ((g 34), .inl (cA 3, 2000, .inl kd))]) (wr := [((g 30), .inl (cA 3, 2000, .inl yb)), ((g 35), .inl (cA 3, 2000, .inl fr)), ((g 36), .inl (cA 3, 2000, .inl to)), ((g 37), .inl (cA 3, 2000, .inl re)), ((g 38), .inl (cA 3, 2000, .inl ow)), ((g 39), .inl (cA 3, 2000, .inl fi)), ((g 40), .inl (cA 3, 2000, .inl be))]) ⟨hx, hb, hml, hown, hts⟩ hno hlocks hl.1 (c_Md_thingOf l hl9 D cA ad s.heap.size m0 g (K.1, K.2.1, K.2.2.1, nI T.length, nI X.length, K.2.2.2.2.2.1, K.2.2.2.2.2.2.1, K.2.2.2.2.2.2.2.1, K.2.2.2.2.2.2.2.2) A0 e np B kd fr to re T hTH h11 hT 10 (by decide) k) iw4_128 iw4_130 sel_Md_thingOf iw1_7 iw4_131 (by decide +kernel) rfl ⟨Nat.le_of_ble_eq_true rfl, Nat.le_of_ble_eq_true rfl⟩ ⟨Nat.le_of_ble_eq_true rfl, Nat.le_of_ble_eq_true rfl⟩ rfl (Nat.le_of_ble_eq_true rfl) d_Md_name_20 hE hP hD hS hA [0, 2] [1, 3, 4, 5, 6, 7, 8] rfl rfl rfl rfl (by decide) (ci := 6) rfl rfl 0 rfl (fun _ h => h.elim) (fun v_20 u_20 H locs hp_20 hP hD hS => ?_)
    rcases hp_20 with ⟨rfl, hbad⟩ | ⟨j, t, hj31, ej, hjt, htl, rfl⟩
    · have hbad : k < 0 ∨ nI (LS 10).length ≤ k := hbad.elim Or.inl (fun q => by obtain ⟨j, hj, rfl, q⟩ := q; exact Or.inr (nI_le (by rw [← (hrel.2.2 10 (by decide)).1]; exact q) hj))
      have hP : va_P D cls [(m0, .inr (6, mF g (K.1, K.2.1, K.2.2.1, nI T.length, nI X.length, K.2.2.2.2.2.1, K.2.2.2.2.2.2.1, K.2.2.2.2.2.2.2.1, K.2.2.2.2.2.2.2.2) A0 e np B)), ((g 30), .inl (cA 3, 2000, .inl yb)), ((g 34), .inl (cA 3, 2000, .inl kd)), ((g 35), .inl (cA 3, 2000, .inl fr)), ((g 36), .inl (cA 3, 2000, .inl to)), ((g 37), .inl (cA 3, 2000, .inl re)), ((g 38), .inl (cA 3, 2000, .inl ow)), ((g 39), .inl (cA 3, 2000, .inl fi)), ((g 40), .inl (cA 3, 2000, .inl be))] H := hP.sub [7, 0, 8, 1, 2, 3, 4, 5, 6] rfl
      have hD : va_D A [(m0, .inr (6, mF g (K.1, K.2.1, K.2.2.1, nI T.length, nI X.length, K.2.2.2.2.2.1, K.2.2.2.2.2.2.1, K.2.2.2.2.2.2.2.1, K.2.2.2.2.2.2.2.2) A0 e np B)), ((g 30), .inl (cA 3, 2000, .inl yb)), ((g 34), .inl (cA 3, 2000, .inl kd)), ((g 35), .inl (cA 3, 2000, .inl fr)), ((g 36), .inl (cA 3, 2000, .inl to)), ((g 37), .inl (cA 3, 2000, .inl re)), ((g 38), .inl (cA 3, 2000, .inl ow)), ((g 39), .inl (cA 3, 2000, .inl fi)), ((g 40), .inl (cA 3, 2000, .inl be))] := hD.sub [7, 0, 8, 1, 2, 3, 4, 5, 6] (by decide) rfl
      refine W.cs (cells' := 0) (slots' := 0) rfl rfl ?_
      refine W.eq (g2 := F0 m 23 ls [.int (-1)]) rfl ?_
      refine lv_goto (tgt := 27) hx hb d_Md_name_23 (by decide) ?_
      refine lv_istore (lv' := [(5, .int (-1)), (0, .ref m0), (1, .int 10), (2, .int k), (3, .int part), (4, .int i)]) hx hb d_Md_name_27 hl (by decide) rfl (fun ls hl => ?_)
      refine lv_iload hx hb d_Md_name_29 (lv_at hl 0 rfl) ?_
      refine lv_if_lt (tgt := 52) hx hb d_Md_name_31 (by decide) (fun c_31 => ?_) (fun c_31 => absurd (by decide) c_31)
      refine lv_iconst (v := (-1)) hx hb d_Md_name_52 (by decide) ?_
      exact cRi (K.2.2.2.2.2.2.2.2) hx hb hr hlocks d_Md_name_53 hS hP hD (by rw [sName]; by_cases hp : part = 0 <;> simp [hp, sAt_bad hbad, sStr_bad]) (Nat.le_refl _) (Nat.le_refl _)
    · subst ej
      have hP : va_P D cls [(m0, .inr (6, mF g (K.1, K.2.1, K.2.2.1, nI T.length, nI X.length, K.2.2.2.2.2.1, K.2.2.2.2.2.2.1, K.2.2.2.2.2.2.2.1, K.2.2.2.2.2.2.2.2) A0 e np B)), ((g 30), .inl (cA 3, 2000, .inl yb)), ((g 34), .inl (cA 3, 2000, .inl kd)), ((g 35), .inl (cA 3, 2000, .inl fr)), ((g 36), .inl (cA 3, 2000, .inl to)), ((g 37), .inl (cA 3, 2000, .inl re)), ((g 38), .inl (cA 3, 2000, .inl ow)), ((g 39), .inl (cA 3, 2000, .inl fi)), ((g 40), .inl (cA 3, 2000, .inl be))] H := hP.sub [7, 0, 8, 1, 2, 3, 4, 5, 6] rfl
      have hD : va_D A [(m0, .inr (6, mF g (K.1, K.2.1, K.2.2.1, nI T.length, nI X.length, K.2.2.2.2.2.1, K.2.2.2.2.2.2.1, K.2.2.2.2.2.2.2.1, K.2.2.2.2.2.2.2.2) A0 e np B)), ((g 30), .inl (cA 3, 2000, .inl yb)), ((g 34), .inl (cA 3, 2000, .inl kd)), ((g 35), .inl (cA 3, 2000, .inl fr)), ((g 36), .inl (cA 3, 2000, .inl to)), ((g 37), .inl (cA 3, 2000, .inl re)), ((g 38), .inl (cA 3, 2000, .inl ow)), ((g 39), .inl (cA 3, 2000, .inl fi)), ((g 40), .inl (cA 3, 2000, .inl be))] := hD.sub [7, 0, 8, 1, 2, 3, 4, 5, 6] (by decide) rfl
      refine W.cs (cells' := 0) (slots' := 0) rfl rfl ?_
      refine W.eq (g2 := F0 m 23 ls [.int (nI t)]) rfl ?_
      have hl : lv_has ls 7 [(0, .ref m0), (1, .int 10), (2, .int (nI j)), (3, .int part), (4, .int i)] := hl
      have hjl : j < (LS 10).length := by rw [← (hrel.2.2 10 (by decide)).1]; exact (List.getElem?_eq_some_iff.mp hjt).1
      obtain ⟨t2, f0, o, e1, e2, e3, e4⟩ := (hrel.2.2 10 (by decide)).2 j hjl
      have et : t2 = t := Option.some.inj (e1.symm.trans hjt)
      subst et
      obtain ⟨-, hfr, hto⟩ := TH_at hTH e2
      rw [e3] at hfr hto
      have hfr : fr t2 = nI f0 := hfr
      obtain ⟨z, hz⟩ : ∃ z, z = ((LS 10).getD j (0, c_1)).2 := ⟨_, rfl⟩
      rw [← hz] at e4
      obtain ⟨lm, dc, a', hlmN, hfl, p0, p1, p2, p3, p4, p5, p6, p7, p8, p9, p10⟩ := e4
      have hlm : lm ≤ 2000 := by omega
      have hyb : ∀ i, i < lm → yb i = nI (b i) := fun i hi => hybN i (by omega)
      refine lv_goto (tgt := 27) hx hb d_Md_name_23 (by decide) ?_
      refine lv_istore (lv' := [(5, .int (nI t2)), (0, .ref m0), (1, .int 10), (2, .int (nI j)), (3, .int part), (4, .int i)]) hx hb d_Md_name_27 hl (by decide) rfl (fun ls hl => ?_)
      refine lv_iload hx hb d_Md_name_29 (lv_at hl 0 rfl) ?_
      refine lv_if_lt (tgt := 52) hx hb d_Md_name_31 (by decide) (fun c_31 => absurd c_31 (nI_pos (by omega))) (fun c_31 => ?_)
      refine lv_iload_n hx hb d_Md_name_34 rfl (lv_at hl 4 rfl) ?_
      refine lv_if_lt (tgt := 52) hx hb d_Md_name_35 (by decide) (fun c_35 => ?_) (fun c_35 => ?_)
      · refine lv_iconst (v := (-1)) hx hb d_Md_name_52 (by decide) ?_
        exact cRi (K.2.2.2.2.2.2.2.2) hx hb hr hlocks d_Md_name_53 hS hP hD (by rw [sName, if_neg (by first | (intro q; rw [q] at c_35; exact absurd c_35 (by decide)) | (intro q; rw [q] at c_49; exact c_49 (by decide))), if_neg (by first | exact (fun q => absurd q.2 (by decide)) | (rintro ⟨q, -⟩; rw [q] at c_35; exact absurd c_35 (by decide)) | (rintro ⟨q, -⟩; rw [q] at c_49; exact c_49 (by decide)))]) (Nat.le_refl _) (Nat.le_refl _)
      · refine lv_iload_n hx hb d_Md_name_38 rfl (lv_at hl 4 rfl) ?_
        refine lv_iload_n hx hb d_Md_name_39 rfl (lv_at hl 2 rfl) ?_
        refine lv_iconst (v := 1) hx hb d_Md_name_40 (by decide) ?_
        refine lv_icmp_ne (tgt := 48) hx hb d_Md_name_41 (by decide) (fun c_41 => ?_) (fun c_41 => absurd c_41 (by decide))
        refine lv_iconst (v := 0) hx hb d_Md_name_48 (by decide) ?_
        refine lv_icmp_le (tgt := 54) hx hb d_Md_name_49 (by decide) (fun c_49 => ?_) (fun c_49 => ?_)
        · have hpart : part = 0 := by
            obtain ⟨q, hq, rfl⟩ := i32_nn c_35
            have hq1 := (nI_leI (a := q) (b := 0) hq (by decide)).mp c_49
            rw [show q = 0 by omega]; rfl
          obtain ⟨x_, a1, hn1, hzz, ho⟩ := p10 rfl
          have hq1 := pName_ok hfl hn1
          have hzc : z 7 = lN x_.1 ∧ z 8 = lN x_.2 := by rw [hzz]; exact ⟨rfl, rfl⟩
          subst hpart
          have hl : lv_has ls 7 [(5, .int (nI t2)), (0, .ref m0), (1, .int 10), (2, .int (nI j)), (3, .int 0), (4, .int i)] := hl
          have hzp : z 7 = lN x_.1 ∧ z 8 = lN x_.2 := hzc
          have hS9 : sName LS b 10 (nI j) 0 i = sStr b (lN x_.1) (lN x_.2) i := by rw [sName, if_pos rfl, if_neg (by decide), if_neg (by decide), if_pos rfl, sAt_ok hjl (by have := hLk 10 (by decide); omega), sAt_ok hjl (by have := hLk 10 (by decide); omega), ← hz, hzp.1, hzp.2]
          have hbnd : x_.1 + x_.2 ≤ lm := by omega
          refine lv_aload_n hx hb d_Md_name_54 rfl (lv_at hl 1 rfl) ?_
          refine lv_aload_n hx hb d_Md_name_55 rfl (lv_at hl 1 rfl) ?_
          refine va_get (D := D) (ci := 6) (v := .ref (g 35)) (C := R_Md) (T := F_Md) (N := 44) hx hb hts (fun w h => List.mem_cons_of_mem _ (i_Md w h)) hown hE.1 hP 0 rfl rfl 35 (by decide) (hts _ (List.mem_cons_of_mem _ iw3_89)) (fun _ h9 => h9) rfl d_Md_name_56 ?_
          refine lv_iload hx hb d_Md_name_59 (lv_at hl 0 rfl) ?_
          refine va_iald hx hb hE.1 hP 3 3 rfl rfl (vp_in_nI (by omega) (by omega)) d_Md_name_61 ?_
          rw [nI_clamp (n := t2) (by omega), hfr]
          refine va_put (D := D) (ci := 6) (v := .int (nI f0)) (ty := .int) (C := R_Md) (T := F_Md) (N := 44) hx hb hts (fun w h => List.mem_cons_of_mem _ (i_Md w h)) t_Md tk_Md n_Md hown hE.1 hP hD hS 0 rfl rfl 43 (by decide) (hts _ (List.mem_cons_of_mem _ iw3_97)) (fun _ h9 => h9) rfl (by decide +kernel) rfl rfl (Nat.le_of_ble_eq_true rfl) d_Md_name_62 (fun H locs hP hD hS => ?_)
          have hP : va_P D cls [(m0, .inr (6, mF g (K.1, K.2.1, K.2.2.1, nI T.length, nI X.length, K.2.2.2.2.2.1, K.2.2.2.2.2.2.1, K.2.2.2.2.2.2.2.1, nI f0) A0 e np B)), ((g 30), .inl (cA 3, 2000, .inl yb)), ((g 34), .inl (cA 3, 2000, .inl kd)), ((g 35), .inl (cA 3, 2000, .inl fr)), ((g 36), .inl (cA 3, 2000, .inl to)), ((g 37), .inl (cA 3, 2000, .inl re)), ((g 38), .inl (cA 3, 2000, .inl ow)), ((g 39), .inl (cA 3, 2000, .inl fi)), ((g 40), .inl (cA 3, 2000, .inl be))] H := hP
          have hD : va_D A [(m0, .inr (6, mF g (K.1, K.2.1, K.2.2.1, nI T.length, nI X.length, K.2.2.2.2.2.1, K.2.2.2.2.2.2.1, K.2.2.2.2.2.2.2.1, nI f0) A0 e np B)), ((g 30), .inl (cA 3, 2000, .inl yb)), ((g 34), .inl (cA 3, 2000, .inl kd)), ((g 35), .inl (cA 3, 2000, .inl fr)), ((g 36), .inl (cA 3, 2000, .inl to)), ((g 37), .inl (cA 3, 2000, .inl re)), ((g 38), .inl (cA 3, 2000, .inl ow)), ((g 39), .inl (cA 3, 2000, .inl fi)), ((g 40), .inl (cA 3, 2000, .inl be))] := hD
          refine lv_iload_n hx hb d_Md_name_65 rfl (lv_at hl 4 rfl) ?_
          refine lv_iconst (v := 1) hx hb d_Md_name_66 (by decide) ?_
          refine lv_icmp_ne (tgt := 74) hx hb d_Md_name_67 (by decide) (fun c_67 => ?_) (fun c_67 => absurd c_67 (by decide))
          refine lv_aload_n hx hb d_Md_name_74 rfl (lv_at hl 1 rfl) ?_
          refine cV (As := []) (rest := []) (n := 0) (wc := [(m0, .inr (6, mF g (K.1, K.2.1, K.2.2.1, nI T.length, nI X.length, K.2.2.2.2.2.1, K.2.2.2.2.2.2.1, K.2.2.2.2.2.2.2.1, nI f0) A0 e np B)), ((g 30), .inl (cA 3, 2000, .inl yb))]) (wr := [((g 34), .inl (cA 3, 2000, .inl kd)), ((g 35), .inl (cA 3, 2000, .inl fr)), ((g 36), .inl (cA 3, 2000, .inl to)), ((g 37), .inl (cA 3, 2000, .inl re)), ((g 38), .inl (cA 3, 2000, .inl ow)), ((g 39), .inl (cA 3, 2000, .inl fi)), ((g 40), .inl (cA 3, 2000, .inl be))]) ⟨hx, hb, hml, hown, hts⟩ hno hlocks hl.1 (c_Md_number l hl9 D cA ad H.size m0 g (K.1, K.2.1, K.2.2.1, nI T.length, nI X.length, K.2.2.2.2.2.1, K.2.2.2.2.2.2.1, K.2.2.2.2.2.2.2.1, nI f0) A0 e np B yb b lm hlm hyb hb9 f0 x_.2 x_.1 (by omega) (pName_u hn1)) iw4_132 iw4_134 sel_Md_number iw1_7 iw4_135 (by decide +kernel) rfl ⟨Nat.le_of_ble_eq_true rfl, Nat.le_of_ble_eq_true rfl⟩ ⟨Nat.le_of_ble_eq_true rfl, Nat.le_of_ble_eq_true rfl⟩ rfl (Nat.le_of_ble_eq_true rfl) d_Md_name_75 hE hP hD hS hA [0, 1] [2, 3, 4, 5, 6, 7, 8] rfl rfl rfl rfl (by decide) (ci := 6) rfl rfl 0 rfl (fun _ h => h.elim) (fun v_75 u_75 H locs hp_75 hP hD hS => ?_)
          obtain rfl := hp_75
          have hP : va_P D cls [(m0, .inr (6, mF g (K.1, K.2.1, K.2.2.1, nI T.length, nI X.length, K.2.2.2.2.2.1, K.2.2.2.2.2.2.1, K.2.2.2.2.2.2.2.1, nI x_.1) A0 e np B)), ((g 30), .inl (cA 3, 2000, .inl yb)), ((g 34), .inl (cA 3, 2000, .inl kd)), ((g 35), .inl (cA 3, 2000, .inl fr)), ((g 36), .inl (cA 3, 2000, .inl to)), ((g 37), .inl (cA 3, 2000, .inl re)), ((g 38), .inl (cA 3, 2000, .inl ow)), ((g 39), .inl (cA 3, 2000, .inl fi)), ((g 40), .inl (cA 3, 2000, .inl be))] H := hP.sub [7, 8, 0, 1, 2, 3, 4, 5, 6] rfl
          have hD : va_D A [(m0, .inr (6, mF g (K.1, K.2.1, K.2.2.1, nI T.length, nI X.length, K.2.2.2.2.2.1, K.2.2.2.2.2.2.1, K.2.2.2.2.2.2.2.1, nI x_.1) A0 e np B)), ((g 30), .inl (cA 3, 2000, .inl yb)), ((g 34), .inl (cA 3, 2000, .inl kd)), ((g 35), .inl (cA 3, 2000, .inl fr)), ((g 36), .inl (cA 3, 2000, .inl to)), ((g 37), .inl (cA 3, 2000, .inl re)), ((g 38), .inl (cA 3, 2000, .inl ow)), ((g 39), .inl (cA 3, 2000, .inl fi)), ((g 40), .inl (cA 3, 2000, .inl be))] := hD.sub [7, 8, 0, 1, 2, 3, 4, 5, 6] (by decide) rfl
          refine W.cs (cells' := 0) (slots' := 0) rfl rfl ?_
          refine W.eq (g2 := F0 m 78 ls [.long (lN x_.2)]) rfl ?_
          refine lv_l2i hx hb d_Md_name_78 rfl ?_
          rw [lN_i]
          refine lv_istore (lv' := [(6, .int (nI x_.2)), (5, .int (nI t2)), (0, .ref m0), (1, .int 10), (2, .int (nI j)), (3, .int 0), (4, .int i)]) hx hb d_Md_name_79 hl (by decide) rfl (fun ls hl => ?_)
          refine lv_iload hx hb d_Md_name_81 (lv_at hl 6 rfl) ?_
          refine lv_iconst (v := (-1)) hx hb d_Md_name_83 (by decide) ?_
          refine lv_icmp_ne (tgt := 92) hx hb d_Md_name_84 (by decide) (fun c_84 => ?_) (fun c_84 => ?_)
          · refine lv_iload hx hb d_Md_name_92 (lv_at hl 6 rfl) ?_
            refine lv_if_lt (tgt := 104) hx hb d_Md_name_94 (by decide) (fun c_94 => ?_) (fun c_94 => ?_)
            · refine lv_iconst (v := (-1)) hx hb d_Md_name_104 (by decide) ?_
              refine lv_goto (tgt := 120) hx hb d_Md_name_105 (by decide) ?_
              exact cRi (nI x_.1) hx hb hr hlocks d_Md_name_120 hS hP hD (by rw [hS9, sStr_n c_84 (by first | exact Or.inl c_94 | exact Or.inr (Int32.not_lt.mp c_101)) (by omega)]) (Nat.le_refl _) (Nat.le_refl _)
            · refine lv_iload hx hb d_Md_name_97 (lv_at hl 6 rfl) ?_
              refine lv_iload hx hb d_Md_name_99 (lv_at hl 0 rfl) ?_
              refine lv_icmp_lt (tgt := 108) hx hb d_Md_name_101 (by decide) (fun c_101 => ?_) (fun c_101 => ?_)
              · obtain ⟨jj, hjj, rfl⟩ := i32_nn c_94
                have hjn : jj < x_.2 := (nI_ltI hjj (by omega)).mp c_101
                have hl : lv_has ls 7 [(6, .int (nI x_.2)), (5, .int (nI t2)), (0, .ref m0), (1, .int 10), (2, .int (nI j)), (3, .int 0), (4, .int (nI jj))] := hl
                refine lv_aload_n hx hb d_Md_name_108 rfl (lv_at hl 2 rfl) ?_
                refine va_get (D := D) (ci := 6) (v := .ref (g 30)) (C := R_Md) (T := F_Md) (N := 44) hx hb hts (fun w h => List.mem_cons_of_mem _ (i_Md w h)) hown hE.1 hP 0 rfl rfl 30 (by decide) (hts _ (List.mem_cons_of_mem _ iw3_84)) (fun _ h9 => h9) rfl d_Md_name_109 ?_
                refine lv_aload_n hx hb d_Md_name_112 rfl (lv_at hl 2 rfl) ?_
                refine va_get (D := D) (ci := 6) (v := .int (nI x_.1)) (C := R_Md) (T := F_Md) (N := 44) hx hb hts (fun w h => List.mem_cons_of_mem _ (i_Md w h)) hown hE.1 hP 0 rfl rfl 43 (by decide) (hts _ (List.mem_cons_of_mem _ iw3_97)) (fun _ h9 => h9) rfl d_Md_name_113 ?_
                refine lv_iload hx hb d_Md_name_116 (lv_at hl 6 rfl) ?_
                refine lv_iadd hx hb d_Md_name_118 ?_
                rw [nI_add]
                refine va_iald hx hb hE.1 hP 1 3 rfl rfl (vp_in_nI (by omega) (by omega)) d_Md_name_119 ?_
                rw [nI_clamp (n := x_.1 + jj) (by omega), hyb (x_.1 + jj) (by omega)]
                exact cRi (nI x_.1) hx hb hr hlocks d_Md_name_120 hS hP hD (by rw [hS9, sStr_j hjn (by omega) (by omega)]) (Nat.le_refl _) (Nat.le_refl _)
              · refine lv_iconst (v := (-1)) hx hb d_Md_name_104 (by decide) ?_
                refine lv_goto (tgt := 120) hx hb d_Md_name_105 (by decide) ?_
                exact cRi (nI x_.1) hx hb hr hlocks d_Md_name_120 hS hP hD (by rw [hS9, sStr_n c_84 (by first | exact Or.inl c_94 | exact Or.inr (Int32.not_lt.mp c_101)) (by omega)]) (Nat.le_refl _) (Nat.le_refl _)
          · refine lv_iload hx hb d_Md_name_87 (lv_at hl 0 rfl) ?_
            refine lv_goto (tgt := 120) hx hb d_Md_name_89 (by decide) ?_
            exact cRi (nI x_.1) hx hb hr hlocks d_Md_name_120 hS hP hD (by rw [hS9, c_84, sStr_m]) (Nat.le_refl _) (Nat.le_refl _)
        · refine lv_iconst (v := (-1)) hx hb d_Md_name_52 (by decide) ?_
          exact cRi (K.2.2.2.2.2.2.2.2) hx hb hr hlocks d_Md_name_53 hS hP hD (by rw [sName, if_neg (by first | (intro q; rw [q] at c_35; exact absurd c_35 (by decide)) | (intro q; rw [q] at c_49; exact c_49 (by decide))), if_neg (by first | exact (fun q => absurd q.2 (by decide)) | (rintro ⟨q, -⟩; rw [q] at c_35; exact absurd c_35 (by decide)) | (rintro ⟨q, -⟩; rw [q] at c_49; exact c_49 (by decide)))]) (Nat.le_refl _) (Nat.le_refl _)
  refine lv_iload_n hx hb d_Md_name_0 rfl (lv_at hl 1 rfl) ?_
  refine lv_iconst (v := 1) hx hb d_Md_name_1 (by decide) ?_
  refine lv_icmp_eq (tgt := 17) hx hb d_Md_name_2 (by decide) (fun c_2 => absurd c_2 (hx1)) (fun c_2 => ?_)
  refine lv_iload_n hx hb d_Md_name_5 rfl (lv_at hl 1 rfl) ?_
  refine lv_bipush (v := 6) hx hb d_Md_name_6 (by decide) ?_
  refine lv_icmp_eq (tgt := 17) hx hb d_Md_name_8 (by decide) (fun c_8 => absurd c_8 (hx6)) (fun c_8 => ?_)
  refine lv_iload_n hx hb d_Md_name_11 rfl (lv_at hl 1 rfl) ?_
  refine lv_bipush (v := 10) hx hb d_Md_name_12 (by decide) ?_
  refine lv_icmp_ne (tgt := 26) hx hb d_Md_name_14 (by decide) (fun c_14 => ?_) (fun c_14 => absurd c_14 (hx10))
  refine lv_iconst (v := (-1)) hx hb d_Md_name_26 (by decide) ?_
  refine lv_istore (lv' := [(5, .int (-1)), (0, .ref m0), (1, .int x), (2, .int k), (3, .int part), (4, .int i)]) hx hb d_Md_name_27 hl (by decide) rfl (fun ls hl => ?_)
  refine lv_iload hx hb d_Md_name_29 (lv_at hl 0 rfl) ?_
  refine lv_if_lt (tgt := 52) hx hb d_Md_name_31 (by decide) (fun c_31 => ?_) (fun c_31 => absurd (by decide) c_31)
  refine lv_iconst (v := (-1)) hx hb d_Md_name_52 (by decide) ?_
  exact cRi (K.2.2.2.2.2.2.2.2) hx hb hr hlocks d_Md_name_53 hS hP hD (by rw [sName]; simp only [if_neg hx1, if_neg hx6, if_neg hx10, and_false, if_false, hx1, ite_self]) (Nat.le_refl _) (Nat.le_refl _)
set_option maxHeartbeats 4000000 in
set_option maxRecDepth 100000 in
/-- many(what) -/
theorem c_Md_many (l : Launch) (hl9 : l.stackTraces = false) (D : va_G) (cA : Nat → ClassId) (ad : Nat → Nat) (sz : Nat) (m0 : Nat) (g : Nat → Nat) (A0 : A3) (e np : Int32) (B : MB) (k1 k2 isI tE qI : Int32) (T : TL) (LS : Nat → RL) (sec : Nat) (sta dco rsta rdco : Int64) (kd fr to re : Nat → Int32) (hTH : TH kd fr to re T) (h11 : ∀ x ∈ T, x.1 < 11) (hT : T.length ≤ 2000) (hofk : ∀ k, k < 11 → (ofK k T).length = (LS k).length) (hsec : sec ≤ 2000) (his : (¬ isI = 0 ∧ rsta = sta ∧ rdco = dco) ∨ (isI = 0 ∧ T = [] ∧ sec = 0 ∧ sta = -1 ∧ dco = -1)) (x : Int32) :
    cM l y_Md_many (.code y_Md_many b_Md_many 2 (some .long) :: wAll) ({ frames := 1, cells := 0, slots := 0, locals := 23 }) D cA ad [.ref m0, .int x] [(m0, .inr (6, mF g (k1, k2, isI, nI T.length, tE, nI sec, rsta, rdco, qI) A0 e np B)), ((g 34), .inl (cA 3, 2000, .inl kd))] sz (fun v (_ : Unit) => v = some (.long (sMany LS sec sta dco x))) (fun _ => False) (fun _ => [(m0, .inr (6, mF g (k1, k2, isI, nI T.length, tE, nI sec, rsta, rdco, qI) A0 e np B)), ((g 34), .inl (cA 3, 2000, .inl kd))]) (fun _ => (0, 0)) := by
  refine cM.ofW (cc := b_Md_many) (maxL := 2) (ret := (some .long)) (by decide) (Nat.le_of_ble_eq_true rfl) ?_
  intro pg ev s m bw meth cdx A ls hF hsz hA hE hP hD hl
  obtain ⟨⟨hx, hb, hml, hown, hts⟩, hr, hno, hlocks, hin⟩ := hF
  subst hsz
  have hown : s.vm.findClass "ModuleBytesModel" = some m.cls := hown
  have hS : va_S A s.heap s.heap [] := va_S.rf
  have hl : lv_has ls 2 [(0, .ref m0), (1, .int x)] := hl
  have hP : va_P D cls [(m0, .inr (6, mF g (k1, k2, isI, nI T.length, tE, nI sec, rsta, rdco, qI) A0 e np B)), ((g 34), .inl (cA 3, 2000, .inl kd))] s.heap := hP
  have hD : va_D A [(m0, .inr (6, mF g (k1, k2, isI, nI T.length, tE, nI sec, rsta, rdco, qI) A0 e np B)), ((g 34), .inl (cA 3, 2000, .inl kd))] := hD
  refine lv_iload_n hx hb d_Md_many_0 rfl (lv_at hl 1 rfl) ?_
  refine lv_if_lt (tgt := 10) hx hb d_Md_many_1 (by decide) (fun c_1 => ?_) (fun c_1 => ?_)
  · refine lv_ldc2 hx hb hown (hts _ (List.mem_cons_of_mem _ iw3_204)) d_Md_many_10 ?_
    have hn : ¬ x = 11 ∧ ¬ x = 12 ∧ ¬ x = 13 ∧ ¬ (0 ≤ x ∧ x < 11) := by
      refine ⟨?_, ?_, ?_, ?_⟩
      · intro q; subst q; first | exact absurd c_1 (by decide) | exact absurd c_7 (by decide)
      · intro q; subst q; first | exact absurd c_1 (by decide) | exact absurd c_7 (by decide)
      · intro q; subst q; first | exact absurd c_1 (by decide) | exact absurd c_7 (by decide)
      · rintro ⟨q1, q2⟩; first | exact absurd c_1 (Int32.not_lt.mpr q1) | exact c_7 (Int32.le_trans (Int32.le_of_lt q2) (by decide))
    exact cRl () hx hb hr hlocks d_Md_many_13 hS hP hD (by rw [sMany, if_neg hn.1, if_neg hn.2.1, if_neg hn.2.2.1, if_neg hn.2.2.2]) (Nat.le_refl _) (Nat.le_refl _)
  · refine lv_iload_n hx hb d_Md_many_4 rfl (lv_at hl 1 rfl) ?_
    refine lv_bipush (v := 13) hx hb d_Md_many_5 (by decide) ?_
    refine lv_icmp_le (tgt := 14) hx hb d_Md_many_7 (by decide) (fun c_7 => ?_) (fun c_7 => ?_)
    · refine lv_aload_n hx hb d_Md_many_14 rfl (lv_at hl 0 rfl) ?_
      refine va_get (D := D) (ci := 6) (v := .int isI) (C := R_Md) (T := F_Md) (N := 44) hx hb hts (fun w h => List.mem_cons_of_mem _ (i_Md w h)) hown hE.1 hP 0 rfl rfl 29 (by decide) (hts _ (List.mem_cons_of_mem _ iw3_83)) (fun _ h9 => h9) rfl d_Md_many_15 ?_
      refine lv_if_ne (tgt := 35) hx hb d_Md_many_18 (by decide) (fun c_18 => ?_) (fun c_18 => ?_)
      · refine lv_iload_n hx hb d_Md_many_35 rfl (lv_at hl 1 rfl) ?_
        refine lv_bipush (v := 11) hx hb d_Md_many_36 (by decide) ?_
        refine lv_icmp_ne (tgt := 49) hx hb d_Md_many_38 (by decide) (fun c_38 => ?_) (fun c_38 => ?_)
        · refine lv_iload_n hx hb d_Md_many_49 rfl (lv_at hl 1 rfl) ?_
          refine lv_bipush (v := 12) hx hb d_Md_many_50 (by decide) ?_
          refine lv_icmp_ne (tgt := 62) hx hb d_Md_many_52 (by decide) (fun c_52 => ?_) (fun c_52 => ?_)
          · refine lv_iload_n hx hb d_Md_many_62 rfl (lv_at hl 1 rfl) ?_
            refine lv_bipush (v := 13) hx hb d_Md_many_63 (by decide) ?_
            refine lv_icmp_ne (tgt := 75) hx hb d_Md_many_65 (by decide) (fun c_65 => ?_) (fun c_65 => ?_)
            · refine lv_aload_n hx hb d_Md_many_75 rfl (lv_at hl 0 rfl) ?_
              refine lv_iload_n hx hb d_Md_many_76 rfl (lv_at hl 1 rfl) ?_
              refine cV (As := [.int x]) (rest := []) (n := 1) (wc := [(m0, .inr (6, mF g (k1, k2, isI, nI T.length, tE, nI sec, rsta, rdco, qI) A0 e np B)), ((g 34), .inl (cA 3, 2000, .inl kd))]) (wr := []) ⟨hx, hb, hml, hown, hts⟩ hno hlocks hl.1 (c_Md_countOf l hl9 D cA ad s.heap.size m0 g (k1, k2, isI, nI T.length, tE, nI sec, rsta, rdco, qI) A0 e np B kd T.length hT x) iw4_120 iw4_122 sel_Md_countOf iw1_7 iw4_123 (by decide +kernel) rfl ⟨Nat.le_of_ble_eq_true rfl, Nat.le_of_ble_eq_true rfl⟩ ⟨Nat.le_of_ble_eq_true rfl, Nat.le_of_ble_eq_true rfl⟩ rfl (Nat.le_of_ble_eq_true rfl) d_Md_many_77 hE hP hD hS hA [0, 1] [] rfl rfl rfl rfl (by decide) (ci := 6) rfl rfl 0 rfl (fun _ h => h.elim) (fun v_77 u_77 H locs hp_77 hP hD hS => ?_)
              obtain rfl := hp_77
              have hP : va_P D cls [(m0, .inr (6, mF g (k1, k2, isI, nI T.length, tE, nI sec, rsta, rdco, qI) A0 e np B)), ((g 34), .inl (cA 3, 2000, .inl kd))] H := hP
              have hD : va_D A [(m0, .inr (6, mF g (k1, k2, isI, nI T.length, tE, nI sec, rsta, rdco, qI) A0 e np B)), ((g 34), .inl (cA 3, 2000, .inl kd))] := hD
              refine W.cs (cells' := 0) (slots' := 0) rfl rfl ?_
              refine W.eq (g2 := F0 m 80 ls [.int (nI (cK kd x T.length))]) rfl ?_
              refine lv_i2l hx hb d_Md_many_80 rfl ?_
              rw [nI_l (n := cK kd x T.length) (by have := cK_le kd x T.length; omega)]
              obtain ⟨xn, hxn, ex⟩ := i32_nn c_1
              have hx13 : xn ≤ 13 := by rw [ex] at c_7; exact (nI_leI hxn (by decide)).mp c_7
              have hx11 : xn < 11 := by
                have q11 : ¬ xn = 11 := fun q => c_38 (by rw [ex, q]; rfl)
                have q12 : ¬ xn = 12 := fun q => c_52 (by rw [ex, q]; rfl)
                have q13 : ¬ xn = 13 := fun q => c_65 (by rw [ex, q]; rfl)
                omega
              exact cRl () hx hb hr hlocks d_Md_many_81 hS hP hD (by rw [sMany, if_neg c_38, if_neg c_52, if_neg c_65, ex, if_pos (show 0 ≤ nI xn ∧ nI xn < 11 from ⟨nI_pos' hxn, nI_lt (b := 11) hx11 (by decide)⟩), nI_clamp hxn, cK_of hx11 hTH h11, hofk xn hx11]) (Nat.le_refl _) (Nat.le_refl _)
            · refine lv_aload_n hx hb d_Md_many_68 rfl (lv_at hl 0 rfl) ?_
              refine va_get (D := D) (ci := 6) (v := .long rdco) (C := R_Md) (T := F_Md) (N := 44) hx hb hts (fun w h => List.mem_cons_of_mem _ (i_Md w h)) hown hE.1 hP 0 rfl rfl 42 (by decide) (hts _ (List.mem_cons_of_mem _ iw3_96)) (fun _ h9 => h9) rfl d_Md_many_69 ?_
              refine lv_goto (tgt := 81) hx hb d_Md_many_72 (by decide) ?_
              exact cRl () hx hb hr hlocks d_Md_many_81 hS hP hD (by rw [sMany, if_neg c_38, if_neg c_52, if_pos c_65, (his.elim (fun q => q.2) (fun q => absurd q.1 c_18)).2]) (Nat.le_refl _) (Nat.le_refl _)
          · refine lv_aload_n hx hb d_Md_many_55 rfl (lv_at hl 0 rfl) ?_
            refine va_get (D := D) (ci := 6) (v := .long rsta) (C := R_Md) (T := F_Md) (N := 44) hx hb hts (fun w h => List.mem_cons_of_mem _ (i_Md w h)) hown hE.1 hP 0 rfl rfl 41 (by decide) (hts _ (List.mem_cons_of_mem _ iw3_95)) (fun _ h9 => h9) rfl d_Md_many_56 ?_
            refine lv_goto (tgt := 81) hx hb d_Md_many_59 (by decide) ?_
            exact cRl () hx hb hr hlocks d_Md_many_81 hS hP hD (by rw [sMany, if_neg c_38, if_pos c_52, (his.elim (fun q => q.2) (fun q => absurd q.1 c_18)).1]) (Nat.le_refl _) (Nat.le_refl _)
        · refine lv_aload_n hx hb d_Md_many_41 rfl (lv_at hl 0 rfl) ?_
          refine va_get (D := D) (ci := 6) (v := .int (nI sec)) (C := R_Md) (T := F_Md) (N := 44) hx hb hts (fun w h => List.mem_cons_of_mem _ (i_Md w h)) hown hE.1 hP 0 rfl rfl 33 (by decide) (hts _ (List.mem_cons_of_mem _ iw3_87)) (fun _ h9 => h9) rfl d_Md_many_42 ?_
          refine lv_i2l hx hb d_Md_many_45 rfl ?_
          rw [nI_l (n := sec) (by omega)]
          refine lv_goto (tgt := 81) hx hb d_Md_many_46 (by decide) ?_
          exact cRl () hx hb hr hlocks d_Md_many_81 hS hP hD (by rw [sMany, if_pos c_38]) (Nat.le_refl _) (Nat.le_refl _)
      · refine lv_iload_n hx hb d_Md_many_21 rfl (lv_at hl 1 rfl) ?_
        refine lv_bipush (v := 11) hx hb d_Md_many_22 (by decide) ?_
        refine lv_icmp_le (tgt := 33) hx hb d_Md_many_24 (by decide) (fun c_24 => ?_) (fun c_24 => ?_)
        · refine lv_lconst (v := 0) hx hb d_Md_many_33 (by decide) ?_
          have his9 : T = [] ∧ sec = 0 ∧ sta = -1 ∧ dco = -1 := his.elim (fun q => absurd c_18 q.1) (fun q => q.2)
          have hL0 : ∀ k, k < 11 → (LS k).length = 0 := fun k hk => by rw [← hofk k hk, his9.1]; rfl
          obtain ⟨xn, hxn, ex⟩ := i32_nn c_1
          have hx13 : xn ≤ 13 := by rw [ex] at c_7; exact (nI_leI hxn (by decide)).mp c_7
          have hx11 : xn ≤ 11 := by rw [ex] at c_24; exact (nI_leI hxn (by decide)).mp c_24
          have hval : sMany LS sec sta dco x = 0 := by
            rw [ex]
            by_cases q11 : xn = 11
            · subst q11; rw [sMany, if_pos (show nI 11 = 11 from rfl), his9.2.1]; rfl
            · rw [sMany, if_neg (show ¬ nI xn = 11 from fun q => q11 ((nI_eq hxn (by decide)).mp q)), if_neg (show ¬ nI xn = 12 from fun q => absurd ((nI_eq (b := 12) hxn (by decide)).mp q) (by omega)), if_neg (show ¬ nI xn = 13 from fun q => absurd ((nI_eq (b := 13) hxn (by decide)).mp q) (by omega)), if_pos (show 0 ≤ nI xn ∧ nI xn < 11 from ⟨nI_pos' hxn, nI_lt (b := 11) (by omega) (by decide)⟩), nI_clamp hxn, hL0 xn (by omega)]; rfl
          exact cRl () hx hb hr hlocks d_Md_many_34 hS hP hD (by rw [hval]) (Nat.le_refl _) (Nat.le_refl _)
        · refine lv_ldc2 hx hb hown (hts _ (List.mem_cons_of_mem _ iw3_204)) d_Md_many_27 ?_
          refine lv_goto (tgt := 34) hx hb d_Md_many_30 (by decide) ?_
          have his9 : T = [] ∧ sec = 0 ∧ sta = -1 ∧ dco = -1 := his.elim (fun q => absurd c_18 q.1) (fun q => q.2)
          have hL0 : ∀ k, k < 11 → (LS k).length = 0 := fun k hk => by rw [← hofk k hk, his9.1]; rfl
          obtain ⟨xn, hxn, ex⟩ := i32_nn c_1
          have hx13 : xn ≤ 13 := by rw [ex] at c_7; exact (nI_leI hxn (by decide)).mp c_7
          have hx12 : xn = 12 ∨ xn = 13 := by have : ¬ xn ≤ 11 := fun q => c_24 (by rw [ex]; exact nI_le q (by decide)); omega
          rcases hx12 with rfl | rfl
          · rw [ex] at *
            exact cRl () hx hb hr hlocks d_Md_many_34 hS hP hD (by rw [sMany, if_neg (show ¬ nI 12 = 11 by decide), if_pos (show nI 12 = 12 from rfl), his9.2.2.1]) (Nat.le_refl _) (Nat.le_refl _)
          · rw [ex] at *
            exact cRl () hx hb hr hlocks d_Md_many_34 hS hP hD (by rw [sMany, if_neg (show ¬ nI 13 = 11 by decide), if_neg (show ¬ nI 13 = 12 by decide), if_pos (show nI 13 = 13 from rfl), his9.2.2.2]) (Nat.le_refl _) (Nat.le_refl _)
    · refine lv_ldc2 hx hb hown (hts _ (List.mem_cons_of_mem _ iw3_204)) d_Md_many_10 ?_
      have hn : ¬ x = 11 ∧ ¬ x = 12 ∧ ¬ x = 13 ∧ ¬ (0 ≤ x ∧ x < 11) := by
        refine ⟨?_, ?_, ?_, ?_⟩
        · intro q; subst q; first | exact absurd c_1 (by decide) | exact absurd c_7 (by decide)
        · intro q; subst q; first | exact absurd c_1 (by decide) | exact absurd c_7 (by decide)
        · intro q; subst q; first | exact absurd c_1 (by decide) | exact absurd c_7 (by decide)
        · rintro ⟨q1, q2⟩; first | exact absurd c_1 (Int32.not_lt.mpr q1) | exact c_7 (Int32.le_trans (Int32.le_of_lt q2) (by decide))
      exact cRl () hx hb hr hlocks d_Md_many_13 hS hP hD (by rw [sMany, if_neg hn.1, if_neg hn.2.1, if_neg hn.2.2.1, if_neg hn.2.2.2]) (Nat.le_refl _) (Nat.le_refl _)
