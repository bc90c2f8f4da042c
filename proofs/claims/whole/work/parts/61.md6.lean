theorem BL.push {d op : Nat} {E : Nat → Bool} {bk : Nat → Int32} (h : BL d E bk) (ho : op < 256) : BL (d + 1) (va_up E d (op == 4)) (upd bk (d + 1) (nI op)) := by
  refine ⟨by rw [pk_un (by omega)]; exact h.1, fun j hj => ?_⟩
  by_cases q : j = d
  · subst q
    rw [pk_us, va_up_self]
    have e := nI_eq (a := op) (b := 4) (by omega) (by omega)
    rw [show nI 4 = (4 : Int32) from rfl] at e
    rw [e]
    simp
  · rw [pk_un (by omega), va_up_ne _ _ q]
    exact h.2 j (by omega)
theorem BL.pop {d : Nat} {E : Nat → Bool} {bk : Nat → Int32} (h : BL d E bk) : BL (d - 1) E bk := ⟨h.1, fun j hj => h.2 j (by omega)⟩
theorem BL.set {d : Nat} {E : Nat → Bool} {bk : Nat → Int32} (h : BL d E bk) (hd : 0 < d) : BL d (va_up E (d - 1) false) (upd bk d 5) := by
  refine ⟨by rw [pk_un (by omega)]; exact h.1, fun j hj => ?_⟩
  by_cases q : j = d - 1
  · subst q
    rw [show d - 1 + 1 = d by omega, pk_us, va_up_self]
    simp
  · rw [pk_un (by omega), va_up_ne _ _ q]
    exact h.2 j (by omega)
theorem BL.five {d : Nat} {E : Nat → Bool} {bk : Nat → Int32} (h : BL d E bk) : bk d = 4 ↔ 0 < d ∧ E (d - 1) = true := by
  by_cases q : d = 0
  · subst q
    rw [h.1]
    simp
  · have e := h.2 (d - 1) (by omega)
    rw [show d - 1 + 1 = d by omega] at e
    rw [e]
    constructor
    · intro r; exact ⟨by omega, r⟩
    · intro r; exact r.2
theorem XH.setX {ow fi be : Nat → Int32} {X : XL} {z : Nat} (h : XH ow fi be X) (h1 : 1 ≤ X.length) : XH ow fi (upd be (X.length - 1) (nI z)) (setX X z) := by
  cases X with
  | nil => exact absurd h1 (by simp)
  | cons x r =>
    refine ⟨⟨h.1.1, h.1.2.1, fun y hy => ?_⟩, h.2.keep (fun j hj => ⟨rfl, rfl, pk_un (by simp; omega)⟩)⟩
    cases hy
    show upd be (r.length + 1 - 1) (nI z) r.length = nI z
    exact pk_us
theorem setX_len {X : XL} {z : Nat} : (setX X z).length = X.length := by cases X <;> rfl
def rfX (x : Int32) : Int32 := if x = 112 then 1 else if x = 111 then 1 else 0
theorem rfX_01 (x : Int32) : rfX x = 0 ∨ rfX x = 1 := by
  unfold rfX
  by_cases h : x = 112
  · rw [if_pos h]; exact Or.inr rfl
  · rw [if_neg h]
    by_cases h2 : x = 111
    · rw [if_pos h2]; exact Or.inr rfl
    · rw [if_neg h2]; exact Or.inl rfl
def vlX (x : Int32) : Int32 := if x < 124 then rfX x else if x ≤ 127 then 1 else rfX x
theorem X_n1 {n : Nat} (h : 1 ≤ n) : nI n - 1 = nI (n - 1) := by
  obtain ⟨k, rfl⟩ : ∃ k, n = k + 1 := ⟨n - 1, by omega⟩
  exact nI_pred k
set_option maxHeartbeats 4000000 in
set_option maxRecDepth 100000 in
theorem c_Md_isReferenceX (l : Launch) (hl9 : l.stackTraces = false) (D : va_G) (cA : Nat → ClassId) (ad : Nat → Nat) (sz : Nat) (x : Int32) :
    cM l y_Md_isReference (.code y_Md_isReference b_Md_isReference 1 (some .boolean) :: wAll) ({ frames := 0, cells := 0, slots := 0, locals := 0 }) D cA ad [.int x] [] sz (fun v (_ : Unit) => v = some (.int (rfX x))) (fun _ => False) (fun _ => []) (fun _ => (0, 0)) := by
  refine cM.ofW (cc := b_Md_isReference) (maxL := 1) (ret := (some .boolean)) (by decide) (Nat.le_of_ble_eq_true rfl) ?_
  intro pg ev s m bw meth cdx A ls hF hsz hA hE hP hD hl
  obtain ⟨⟨hx, hb, hml, hown, hts⟩, hr, hno, hlocks, hin⟩ := hF
  subst hsz
  have hown : s.vm.findClass "ModuleBytesModel" = some m.cls := hown
  have hS : va_S A s.heap s.heap [] := va_S.rf
  have hl : lv_has ls 1 [(0, .int x)] := hl
  refine lv_iload_n hx hb d_Md_isReference_0 rfl (lv_at hl 0 rfl) ?_
  refine lv_bipush (v := 112) hx hb d_Md_isReference_1 (by decide) ?_
  refine lv_icmp_eq (tgt := 12) hx hb d_Md_isReference_3 (by decide) (fun c_3 => ?_) (fun c_3 => ?_)
  · refine lv_iconst (v := 1) hx hb d_Md_isReference_12 (by decide) ?_
    refine lv_goto (tgt := 17) hx hb d_Md_isReference_13 (by decide) ?_
    exact cRz () hx hb hr (by decide) hlocks d_Md_isReference_17 hS hP hD (by rw [rfX]; first | rw [if_pos c_3] | rw [if_neg c_3, if_pos c_9] | rw [if_neg c_3, if_neg c_9]) (Nat.le_refl _) (Nat.le_refl _)
  · refine lv_iload_n hx hb d_Md_isReference_6 rfl (lv_at hl 0 rfl) ?_
    refine lv_bipush (v := 111) hx hb d_Md_isReference_7 (by decide) ?_
    refine lv_icmp_ne (tgt := 16) hx hb d_Md_isReference_9 (by decide) (fun c_9 => ?_) (fun c_9 => ?_)
    · refine lv_iconst (v := 0) hx hb d_Md_isReference_16 (by decide) ?_
      exact cRz () hx hb hr (by decide) hlocks d_Md_isReference_17 hS hP hD (by rw [rfX]; first | rw [if_pos c_3] | rw [if_neg c_3, if_pos c_9] | rw [if_neg c_3, if_neg c_9]) (Nat.le_refl _) (Nat.le_refl _)
    · refine lv_iconst (v := 1) hx hb d_Md_isReference_12 (by decide) ?_
      refine lv_goto (tgt := 17) hx hb d_Md_isReference_13 (by decide) ?_
      exact cRz () hx hb hr (by decide) hlocks d_Md_isReference_17 hS hP hD (by rw [rfX]; first | rw [if_pos c_3] | rw [if_neg c_3, if_pos c_9] | rw [if_neg c_3, if_neg c_9]) (Nat.le_refl _) (Nat.le_refl _)
set_option maxHeartbeats 4000000 in
set_option maxRecDepth 100000 in
theorem c_Md_isValueX (l : Launch) (hl9 : l.stackTraces = false) (D : va_G) (cA : Nat → ClassId) (ad : Nat → Nat) (sz : Nat) (x : Int32) :
    cM l y_Md_isValue (.code y_Md_isValue b_Md_isValue 1 (some .boolean) :: wAll) ({ frames := 1, cells := 0, slots := 0, locals := 20 }) D cA ad [.int x] [] sz (fun v (_ : Unit) => v = some (.int (vlX x))) (fun _ => False) (fun _ => []) (fun _ => (0, 0)) := by
  refine cM.ofW (cc := b_Md_isValue) (maxL := 1) (ret := (some .boolean)) (by decide) (Nat.le_of_ble_eq_true rfl) ?_
  intro pg ev s m bw meth cdx A ls hF hsz hA hE hP hD hl
  obtain ⟨⟨hx, hb, hml, hown, hts⟩, hr, hno, hlocks, hin⟩ := hF
  subst hsz
  have hown : s.vm.findClass "ModuleBytesModel" = some m.cls := hown
  have hS : va_S A s.heap s.heap [] := va_S.rf
  have hl : lv_has ls 1 [(0, .int x)] := hl
  refine lv_iload_n hx hb d_Md_isValue_0 rfl (lv_at hl 0 rfl) ?_
  refine lv_bipush (v := 124) hx hb d_Md_isValue_1 (by decide) ?_
  refine lv_icmp_lt (tgt := 12) hx hb d_Md_isValue_3 (by decide) (fun c_3 => ?_) (fun c_3 => ?_)
  · refine lv_iload_n hx hb d_Md_isValue_12 rfl (lv_at hl 0 rfl) ?_
    refine cS0 (As := [.int x]) (rest := []) (n := 1) (r := (rfX x)) ⟨hx, hb, hml, hown, hts⟩ hno hlocks hl.1 (c_Md_isReferenceX l hl9 D cA ad s.heap.size x) iw4_12 iw4_13 iw1_7 iw4_14 (by decide +kernel) rfl ⟨Nat.le_of_ble_eq_true rfl, Nat.le_of_ble_eq_true rfl⟩ ⟨Nat.le_of_ble_eq_true rfl, Nat.le_of_ble_eq_true rfl⟩ rfl (Nat.le_of_ble_eq_true rfl) d_Md_isValue_13 hE hP hD hS hA [] rfl rfl (fun H locs hP hD hS => ?_)
    refine lv_if_eq (tgt := 23) hx hb d_Md_isValue_16 (by decide) (fun c_16 => ?_) (fun c_16 => ?_)
    · refine lv_iconst (v := 0) hx hb d_Md_isValue_23 (by decide) ?_
      have hrf := rfX_01 x
      exact cRz () hx hb hr (by decide) hlocks d_Md_isValue_24 hS hP hD (by rw [vlX]; first | (rw [if_pos c_3]; first | rw [c_16] | (rw [hrf.resolve_left c_16])) | (rw [if_neg c_3, if_pos c_9]) | (rw [if_neg c_3, if_neg c_9]; first | rw [c_16] | (rw [hrf.resolve_left c_16]))) (Nat.le_refl _) (Nat.le_refl _)
    · refine lv_iconst (v := 1) hx hb d_Md_isValue_19 (by decide) ?_
      refine lv_goto (tgt := 24) hx hb d_Md_isValue_20 (by decide) ?_
      have hrf := rfX_01 x
      exact cRz () hx hb hr (by decide) hlocks d_Md_isValue_24 hS hP hD (by rw [vlX]; first | (rw [if_pos c_3]; first | rw [c_16] | (rw [hrf.resolve_left c_16])) | (rw [if_neg c_3, if_pos c_9]) | (rw [if_neg c_3, if_neg c_9]; first | rw [c_16] | (rw [hrf.resolve_left c_16]))) (Nat.le_refl _) (Nat.le_refl _)
  · refine lv_iload_n hx hb d_Md_isValue_6 rfl (lv_at hl 0 rfl) ?_
    refine lv_bipush (v := 127) hx hb d_Md_isValue_7 (by decide) ?_
    refine lv_icmp_le (tgt := 19) hx hb d_Md_isValue_9 (by decide) (fun c_9 => ?_) (fun c_9 => ?_)
    · refine lv_iconst (v := 1) hx hb d_Md_isValue_19 (by decide) ?_
      refine lv_goto (tgt := 24) hx hb d_Md_isValue_20 (by decide) ?_
      have hrf := rfX_01 x
      exact cRz () hx hb hr (by decide) hlocks d_Md_isValue_24 hS hP hD (by rw [vlX]; first | (rw [if_pos c_3]; first | rw [c_16] | (rw [hrf.resolve_left c_16])) | (rw [if_neg c_3, if_pos c_9]) | (rw [if_neg c_3, if_neg c_9]; first | rw [c_16] | (rw [hrf.resolve_left c_16]))) (Nat.le_refl _) (Nat.le_refl _)
    · refine lv_iload_n hx hb d_Md_isValue_12 rfl (lv_at hl 0 rfl) ?_
      refine cS0 (As := [.int x]) (rest := []) (n := 1) (r := (rfX x)) ⟨hx, hb, hml, hown, hts⟩ hno hlocks hl.1 (c_Md_isReferenceX l hl9 D cA ad s.heap.size x) iw4_12 iw4_13 iw1_7 iw4_14 (by decide +kernel) rfl ⟨Nat.le_of_ble_eq_true rfl, Nat.le_of_ble_eq_true rfl⟩ ⟨Nat.le_of_ble_eq_true rfl, Nat.le_of_ble_eq_true rfl⟩ rfl (Nat.le_of_ble_eq_true rfl) d_Md_isValue_13 hE hP hD hS hA [] rfl rfl (fun H locs hP hD hS => ?_)
      refine lv_if_eq (tgt := 23) hx hb d_Md_isValue_16 (by decide) (fun c_16 => ?_) (fun c_16 => ?_)
      · refine lv_iconst (v := 0) hx hb d_Md_isValue_23 (by decide) ?_
        have hrf := rfX_01 x
        exact cRz () hx hb hr (by decide) hlocks d_Md_isValue_24 hS hP hD (by rw [vlX]; first | (rw [if_pos c_3]; first | rw [c_16] | (rw [hrf.resolve_left c_16])) | (rw [if_neg c_3, if_pos c_9]) | (rw [if_neg c_3, if_neg c_9]; first | rw [c_16] | (rw [hrf.resolve_left c_16]))) (Nat.le_refl _) (Nat.le_refl _)
      · refine lv_iconst (v := 1) hx hb d_Md_isValue_19 (by decide) ?_
        refine lv_goto (tgt := 24) hx hb d_Md_isValue_20 (by decide) ?_
        have hrf := rfX_01 x
        exact cRz () hx hb hr (by decide) hlocks d_Md_isValue_24 hS hP hD (by rw [vlX]; first | (rw [if_pos c_3]; first | rw [c_16] | (rw [hrf.resolve_left c_16])) | (rw [if_neg c_3, if_pos c_9]) | (rw [if_neg c_3, if_neg c_9]; first | rw [c_16] | (rw [hrf.resolve_left c_16]))) (Nat.le_refl _) (Nat.le_refl _)
theorem pSg_ok2 {b : Nat → Nat} {lm n left a x a' : Nat} (ha : a ≤ lm) (h : pSg b lm (n + 1) left a = .inr (x, a')) : a' ≤ lm ∧ a < a' := by
  have := pSg_ok n left a x a' ha h
  omega
set_option maxHeartbeats 4000000 in
set_option maxRecDepth 100000 in
/-- takeBlock(op) -/
theorem c_Md_takeBlock (l : Launch) (hl9 : l.stackTraces = false) (D : va_G) (cA : Nat → ClassId) (ad : Nat → Nat) (sz : Nat) (m0 : Nat) (g : Nat → Nat) (K : MK) (fd : Nat → Int32) (b : Nat → Nat) (N lm a : Nat) (ps : List Nat) (hps : ps.length ≤ 2) (hlm : lm ≤ N) (hN : N ≤ 2000) (hfd : ∀ i, i < N → fd i = nI (b i)) (hb9 : ∀ i, b i < 256) (ha : a ≤ lm) (p : Int32) (st : List IT) (hs9 : st.length ≤ 310) (d : Nat) (E : Nat → Bool) (hd9 : d < 2000) (la : Nat) (co : Bool) (lo_ : Int64) (lA_ : Int32) (lc : Option (Nat × Nat)) (T : TL) (hT9 : T.length < 2000) (X : XL) (hX9 : X.length < 2000) (se : Nat) (sta dco : Int64) (ex : Nat → Int32) (ti : Nat → Int64) (pe bk kd fr to re ow fi be : Nat → Int32) (hBL : BL d E bk) (hlc : ∀ z, lc = some z → lo_ = lN z.1 ∧ lA_ = nI z.2) (hst : ST ex ti st) (hpe : PE pe (lm :: ps)) (hTH : TH kd fr to re T) (hXH : XH ow fi be X) (op : Nat) (hop : op < 5) :
    cM l y_Md_takeBlock (.code y_Md_takeBlock b_Md_takeBlock 6 none :: wAll) ({ frames := 3, cells := 0, slots := 0, locals := 72 }) D cA ad [.ref m0, .int (nI op)] [(m0, .inr (6, mF g K (nI a, 0, p) (nI st.length) (nI (ps.length + 1)) (nI (d + 1), nI la, zI co, lo_, lA_, nI T.length, nI X.length, nI se, sta, dco))), ((g 0), .inl (cA 3, 2000, .inl fd)), ((g 7), .inl (cA 3, 400, .inl ex)), ((g 8), .inl (cA 1, 400, .inr (.inl ti))), ((g 10), .inl (cA 3, 4, .inl pe)), ((g 11), .inl (cA 3, 2001, .inl bk)), ((g 18), .inl (cA 3, 2000, .inl kd)), ((g 19), .inl (cA 3, 2000, .inl fr)), ((g 20), .inl (cA 3, 2000, .inl to)), ((g 21), .inl (cA 3, 2000, .inl re)), ((g 23), .inl (cA 3, 2000, .inl ow)), ((g 24), .inl (cA 3, 2000, .inl fi)), ((g 25), .inl (cA 3, 2000, .inl be))] sz (fun v u => v = none ∧ nP (mb (pBlock b lm a) (fun _ a2 => .inr (a2, st, lm :: ps, some (d + 1, va_up E d (op == 4)), la, co, lc, T, X, se, sta, dco))) p u) (fun _ => False) (nW cA m0 g K fd) (fun _ => (0, 0)) := by
  refine cM.ofW (cc := b_Md_takeBlock) (maxL := 6) (ret := none) (by decide) (Nat.le_of_ble_eq_true rfl) ?_
  intro pg ev s m bw meth cdx A ls hF hsz hA hE hP hD hl
  obtain ⟨⟨hx, hb, hml, hown, hts⟩, hr, hno, hlocks, hin⟩ := hF
  subst hsz
  have hown : s.vm.findClass "ModuleBytesModel" = some m.cls := hown
  have hS : va_S A s.heap s.heap [] := va_S.rf
  have hl : lv_has ls 6 [(0, .ref m0), (1, .int (nI op))] := hl
  have hP : va_P D cls [(m0, .inr (6, mF g K (nI a, 0, p) (nI st.length) (nI (ps.length + 1)) (nI (d + 1), nI la, zI co, lo_, lA_, nI T.length, nI X.length, nI se, sta, dco))), ((g 0), .inl (cA 3, 2000, .inl fd)), ((g 7), .inl (cA 3, 400, .inl ex)), ((g 8), .inl (cA 1, 400, .inr (.inl ti))), ((g 10), .inl (cA 3, 4, .inl pe)), ((g 11), .inl (cA 3, 2001, .inl bk)), ((g 18), .inl (cA 3, 2000, .inl kd)), ((g 19), .inl (cA 3, 2000, .inl fr)), ((g 20), .inl (cA 3, 2000, .inl to)), ((g 21), .inl (cA 3, 2000, .inl re)), ((g 23), .inl (cA 3, 2000, .inl ow)), ((g 24), .inl (cA 3, 2000, .inl fi)), ((g 25), .inl (cA 3, 2000, .inl be))] s.heap := hP
  have hD : va_D A [(m0, .inr (6, mF g K (nI a, 0, p) (nI st.length) (nI (ps.length + 1)) (nI (d + 1), nI la, zI co, lo_, lA_, nI T.length, nI X.length, nI se, sta, dco))), ((g 0), .inl (cA 3, 2000, .inl fd)), ((g 7), .inl (cA 3, 400, .inl ex)), ((g 8), .inl (cA 1, 400, .inr (.inl ti))), ((g 10), .inl (cA 3, 4, .inl pe)), ((g 11), .inl (cA 3, 2001, .inl bk)), ((g 18), .inl (cA 3, 2000, .inl kd)), ((g 19), .inl (cA 3, 2000, .inl fr)), ((g 20), .inl (cA 3, 2000, .inl to)), ((g 21), .inl (cA 3, 2000, .inl re)), ((g 23), .inl (cA 3, 2000, .inl ow)), ((g 24), .inl (cA 3, 2000, .inl fi)), ((g 25), .inl (cA 3, 2000, .inl be))] := hD
  refine lv_aload_n hx hb d_Md_takeBlock_0 rfl (lv_at hl 0 rfl) ?_
  refine va_get (D := D) (ci := 6) (v := .int (nI a)) (C := R_Md) (T := F_Md) (N := 44) hx hb hts (fun w h => List.mem_cons_of_mem _ (i_Md w h)) hown hE.1 hP 0 rfl rfl 2 (by decide) (hts _ (List.mem_cons_of_mem _ iw3_56)) (fun _ h9 => h9) rfl d_Md_takeBlock_1 ?_
  refine lv_istore_n (lv' := [(2, .int (nI a)), (0, .ref m0), (1, .int (nI op))]) hx hb d_Md_takeBlock_4 rfl hl (by decide) rfl (fun ls hl => ?_)
  refine lv_aload_n hx hb d_Md_takeBlock_5 rfl (lv_at hl 1 rfl) ?_
  refine lv_bipush (v := 33) hx hb d_Md_takeBlock_6 (by decide) ?_
  refine cV (As := [.int 33]) (rest := []) (n := 1) (wc := [(m0, .inr (6, mF g K (nI a, 0, p) (nI st.length) (nI (ps.length + 1)) (nI (d + 1), nI la, zI co, lo_, lA_, nI T.length, nI X.length, nI se, sta, dco))), ((g 0), .inl (cA 3, 2000, .inl fd)), ((g 10), .inl (cA 3, 4, .inl pe))]) (wr := [((g 7), .inl (cA 3, 400, .inl ex)), ((g 8), .inl (cA 1, 400, .inr (.inl ti))), ((g 11), .inl (cA 3, 2001, .inl bk)), ((g 18), .inl (cA 3, 2000, .inl kd)), ((g 19), .inl (cA 3, 2000, .inl fr)), ((g 20), .inl (cA 3, 2000, .inl to)), ((g 21), .inl (cA 3, 2000, .inl re)), ((g 23), .inl (cA 3, 2000, .inl ow)), ((g 24), .inl (cA 3, 2000, .inl fi)), ((g 25), .inl (cA 3, 2000, .inl be))]) ⟨hx, hb, hml, hown, hts⟩ hno hlocks hl.1 (c_Md_takeSigned33 l hl9 D cA ad s.heap.size m0 g K (nI st.length) (ps.length + 1) (nI (d + 1), nI la, zI co, lo_, lA_, nI T.length, nI X.length, nI se, sta, dco) fd pe b N lm ⟨by omega, by omega⟩ (show pe (ps.length + 1 - 1) = nI lm from hpe.1) hlm hN hfd hb9 a p (by omega) ) iw4_76 iw4_78 sel_Md_takeSigned iw1_7 iw4_79 (by decide +kernel) rfl ⟨Nat.le_of_ble_eq_true rfl, Nat.le_of_ble_eq_true rfl⟩ ⟨Nat.le_of_ble_eq_true rfl, Nat.le_of_ble_eq_true rfl⟩ rfl (Nat.le_of_ble_eq_true rfl) d_Md_takeBlock_8 hE hP hD hS hA [0, 1, 4] [2, 3, 5, 6, 7, 8, 9, 10, 11, 12] rfl rfl rfl rfl (by decide) (ci := 6) rfl rfl 0 rfl (fun _ h => h.elim) (fun v_8 u_8 H locs hp_8 hP hD hS => ?_)
  rcases hp_8 with ⟨f99, q99, hr99, hf99, hB99, ⟨w99, rfl⟩, zz99, hzz99, hzx99⟩ | ⟨v99, a99, hr99, rfl, ⟨w99, rfl, hw99⟩⟩
  · obtain ⟨x99, y99, z99⟩ := u_8
    cases hB99
    have hzx99 : x99 = nI zz99 := hzx99
    subst hzx99
    have hP : va_P D cls [(m0, .inr (6, mF g K (nI zz99, nI f99, nI q99) (nI st.length) (nI (ps.length + 1)) (nI (d + 1), nI la, zI co, lo_, lA_, nI T.length, nI X.length, nI se, sta, dco))), ((g 0), .inl (cA 3, 2000, .inl fd)), ((g 7), .inl (cA 3, 400, .inl ex)), ((g 8), .inl (cA 1, 400, .inr (.inl ti))), ((g 10), .inl (cA 3, 4, .inl pe)), ((g 11), .inl (cA 3, 2001, .inl bk)), ((g 18), .inl (cA 3, 2000, .inl kd)), ((g 19), .inl (cA 3, 2000, .inl fr)), ((g 20), .inl (cA 3, 2000, .inl to)), ((g 21), .inl (cA 3, 2000, .inl re)), ((g 23), .inl (cA 3, 2000, .inl ow)), ((g 24), .inl (cA 3, 2000, .inl fi)), ((g 25), .inl (cA 3, 2000, .inl be))] H := hP.sub [10, 11, 0, 1, 12, 2, 3, 4, 5, 6, 7, 8, 9] rfl
    have hD : va_D A [(m0, .inr (6, mF g K (nI zz99, nI f99, nI q99) (nI st.length) (nI (ps.length + 1)) (nI (d + 1), nI la, zI co, lo_, lA_, nI T.length, nI X.length, nI se, sta, dco))), ((g 0), .inl (cA 3, 2000, .inl fd)), ((g 7), .inl (cA 3, 400, .inl ex)), ((g 8), .inl (cA 1, 400, .inr (.inl ti))), ((g 10), .inl (cA 3, 4, .inl pe)), ((g 11), .inl (cA 3, 2001, .inl bk)), ((g 18), .inl (cA 3, 2000, .inl kd)), ((g 19), .inl (cA 3, 2000, .inl fr)), ((g 20), .inl (cA 3, 2000, .inl to)), ((g 21), .inl (cA 3, 2000, .inl re)), ((g 23), .inl (cA 3, 2000, .inl ow)), ((g 24), .inl (cA 3, 2000, .inl fi)), ((g 25), .inl (cA 3, 2000, .inl be))] := hD.sub [10, 11, 0, 1, 12, 2, 3, 4, 5, 6, 7, 8, 9] (by decide) rfl
    refine W.cs (cells' := 0) (slots' := 0) rfl rfl ?_
    refine W.eq (g2 := F0 m 11 ls [.long w99]) rfl ?_
    refine lv_lstore_n (lv' := [(3, .long w99), (2, .int (nI a)), (0, .ref m0), (1, .int (nI op))]) hx hb d_Md_takeBlock_11 rfl hl (by decide) rfl (fun ls hl => ?_)
    refine lv_aload_n hx hb d_Md_takeBlock_12 rfl (lv_at hl 2 rfl) ?_
    refine va_get (D := D) (ci := 6) (v := .int (nI zz99)) (C := R_Md) (T := F_Md) (N := 44) hx hb hts (fun w h => List.mem_cons_of_mem _ (i_Md w h)) hown hE.1 hP 0 rfl rfl 2 (by decide) (hts _ (List.mem_cons_of_mem _ iw3_56)) (fun _ h9 => h9) rfl d_Md_takeBlock_13 ?_
    refine lv_iload_n hx hb d_Md_takeBlock_16 rfl (lv_at hl 1 rfl) ?_
    refine lv_iconst (v := 1) hx hb d_Md_takeBlock_17 (by decide) ?_
    refine lv_iadd hx hb d_Md_takeBlock_18 ?_
    rw [nI_1]
    refine lv_icmp_ne (tgt := 49) hx hb d_Md_takeBlock_19 (by decide) (fun c_19 => ?_) (fun c_19 => ?_)
    · refine lv_iconst (v := 0) hx hb d_Md_takeBlock_49 (by decide) ?_
      refine lv_istore (lv' := [(5, .int 0), (3, .long w99), (2, .int (nI a)), (0, .ref m0), (1, .int (nI op))]) hx hb d_Md_takeBlock_50 hl (by decide) rfl (fun ls hl => ?_)
      refine lv_aload_n hx hb d_Md_takeBlock_52 rfl (lv_at hl 3 rfl) ?_
      refine va_get (D := D) (ci := 6) (v := .int (nI f99)) (C := R_Md) (T := F_Md) (N := 44) hx hb hts (fun w h => List.mem_cons_of_mem _ (i_Md w h)) hown hE.1 hP 0 rfl rfl 3 (by decide) (hts _ (List.mem_cons_of_mem _ iw3_57)) (fun _ h9 => h9) rfl d_Md_takeBlock_53 ?_
      refine lv_if_ne (tgt := 77) hx hb d_Md_takeBlock_56 (by decide) (fun c_56 => ?_) (fun c_56 => absurd c_56 (hf99.n0))
      refine lv_aload_n hx hb d_Md_takeBlock_77 rfl (lv_at hl 3 rfl) ?_
      refine va_get (D := D) (ci := 6) (v := .ref (g 11)) (C := R_Md) (T := F_Md) (N := 44) hx hb hts (fun w h => List.mem_cons_of_mem _ (i_Md w h)) hown hE.1 hP 0 rfl rfl 11 (by decide) (hts _ (List.mem_cons_of_mem _ iw3_65)) (fun _ h9 => h9) rfl d_Md_takeBlock_78 ?_
      refine lv_aload_n hx hb d_Md_takeBlock_81 rfl (lv_at hl 3 rfl) ?_
      refine va_get (D := D) (ci := 6) (v := .int (nI (d + 1))) (C := R_Md) (T := F_Md) (N := 44) hx hb hts (fun w h => List.mem_cons_of_mem _ (i_Md w h)) hown hE.1 hP 0 rfl rfl 12 (by decide) (hts _ (List.mem_cons_of_mem _ iw3_66)) (fun _ h9 => h9) rfl d_Md_takeBlock_82 ?_
      refine lv_iload_n hx hb d_Md_takeBlock_85 rfl (lv_at hl 4 rfl) ?_
      refine va_iast hx hb hE.1 hP hD hS 5 3 rfl rfl (vp_in_nI (by omega) (by omega)) d_Md_takeBlock_86 (fun H locs hP hD hS => ?_)
      have hP : va_P D cls [(m0, .inr (6, mF g K (nI zz99, nI f99, nI q99) (nI st.length) (nI (ps.length + 1)) (nI (d + 1), nI la, zI co, lo_, lA_, nI T.length, nI X.length, nI se, sta, dco))), ((g 0), .inl (cA 3, 2000, .inl fd)), ((g 7), .inl (cA 3, 400, .inl ex)), ((g 8), .inl (cA 1, 400, .inr (.inl ti))), ((g 10), .inl (cA 3, 4, .inl pe)), ((g 11), .inl (cA 3, 2001, .inl (upd bk (nI (d + 1)).toNatClampNeg (nI op)))), ((g 18), .inl (cA 3, 2000, .inl kd)), ((g 19), .inl (cA 3, 2000, .inl fr)), ((g 20), .inl (cA 3, 2000, .inl to)), ((g 21), .inl (cA 3, 2000, .inl re)), ((g 23), .inl (cA 3, 2000, .inl ow)), ((g 24), .inl (cA 3, 2000, .inl fi)), ((g 25), .inl (cA 3, 2000, .inl be))] H := hP
      have hD : va_D A [(m0, .inr (6, mF g K (nI zz99, nI f99, nI q99) (nI st.length) (nI (ps.length + 1)) (nI (d + 1), nI la, zI co, lo_, lA_, nI T.length, nI X.length, nI se, sta, dco))), ((g 0), .inl (cA 3, 2000, .inl fd)), ((g 7), .inl (cA 3, 400, .inl ex)), ((g 8), .inl (cA 1, 400, .inr (.inl ti))), ((g 10), .inl (cA 3, 4, .inl pe)), ((g 11), .inl (cA 3, 2001, .inl (upd bk (nI (d + 1)).toNatClampNeg (nI op)))), ((g 18), .inl (cA 3, 2000, .inl kd)), ((g 19), .inl (cA 3, 2000, .inl fr)), ((g 20), .inl (cA 3, 2000, .inl to)), ((g 21), .inl (cA 3, 2000, .inl re)), ((g 23), .inl (cA 3, 2000, .inl ow)), ((g 24), .inl (cA 3, 2000, .inl fi)), ((g 25), .inl (cA 3, 2000, .inl be))] := hD
      refine lv_aload_n hx hb d_Md_takeBlock_87 rfl (lv_at hl 3 rfl) ?_
      refine lv_dup hx hb d_Md_takeBlock_88 rfl ?_
      refine va_get (D := D) (ci := 6) (v := .int (nI (d + 1))) (C := R_Md) (T := F_Md) (N := 44) hx hb hts (fun w h => List.mem_cons_of_mem _ (i_Md w h)) hown hE.1 hP 0 rfl rfl 12 (by decide) (hts _ (List.mem_cons_of_mem _ iw3_66)) (fun _ h9 => h9) rfl d_Md_takeBlock_89 ?_
      refine lv_iconst (v := 1) hx hb d_Md_takeBlock_92 (by decide) ?_
      refine lv_iadd hx hb d_Md_takeBlock_93 ?_
      rw [nI_1]
      refine va_put (D := D) (ci := 6) (v := .int (nI (d + 1 + 1))) (ty := .int) (C := R_Md) (T := F_Md) (N := 44) hx hb hts (fun w h => List.mem_cons_of_mem _ (i_Md w h)) t_Md tk_Md n_Md hown hE.1 hP hD hS 0 rfl rfl 12 (by decide) (hts _ (List.mem_cons_of_mem _ iw3_66)) (fun _ h9 => h9) rfl (by decide +kernel) rfl rfl (Nat.le_of_ble_eq_true rfl) d_Md_takeBlock_94 (fun H locs hP hD hS => ?_)
      have hP : va_P D cls [(m0, .inr (6, mF g K (nI zz99, nI f99, nI q99) (nI st.length) (nI (ps.length + 1)) (nI (d + 1 + 1), nI la, zI co, lo_, lA_, nI T.length, nI X.length, nI se, sta, dco))), ((g 0), .inl (cA 3, 2000, .inl fd)), ((g 7), .inl (cA 3, 400, .inl ex)), ((g 8), .inl (cA 1, 400, .inr (.inl ti))), ((g 10), .inl (cA 3, 4, .inl pe)), ((g 11), .inl (cA 3, 2001, .inl (upd bk (nI (d + 1)).toNatClampNeg (nI op)))), ((g 18), .inl (cA 3, 2000, .inl kd)), ((g 19), .inl (cA 3, 2000, .inl fr)), ((g 20), .inl (cA 3, 2000, .inl to)), ((g 21), .inl (cA 3, 2000, .inl re)), ((g 23), .inl (cA 3, 2000, .inl ow)), ((g 24), .inl (cA 3, 2000, .inl fi)), ((g 25), .inl (cA 3, 2000, .inl be))] H := hP
      have hD : va_D A [(m0, .inr (6, mF g K (nI zz99, nI f99, nI q99) (nI st.length) (nI (ps.length + 1)) (nI (d + 1 + 1), nI la, zI co, lo_, lA_, nI T.length, nI X.length, nI se, sta, dco))), ((g 0), .inl (cA 3, 2000, .inl fd)), ((g 7), .inl (cA 3, 400, .inl ex)), ((g 8), .inl (cA 1, 400, .inr (.inl ti))), ((g 10), .inl (cA 3, 4, .inl pe)), ((g 11), .inl (cA 3, 2001, .inl (upd bk (nI (d + 1)).toNatClampNeg (nI op)))), ((g 18), .inl (cA 3, 2000, .inl kd)), ((g 19), .inl (cA 3, 2000, .inl fr)), ((g 20), .inl (cA 3, 2000, .inl to)), ((g 21), .inl (cA 3, 2000, .inl re)), ((g 23), .inl (cA 3, 2000, .inl ow)), ((g 24), .inl (cA 3, 2000, .inl fi)), ((g 25), .inl (cA 3, 2000, .inl be))] := hD
      rw [nI_clamp (n := d + 1) (by omega)] at hP hD
      exact cRv ((((nI zz99, nI f99, nI q99), nI st.length, nI (ps.length + 1), (nI (d + 1 + 1), nI la, zI co, lo_, lA_, nI T.length, nI X.length, nI se, sta, dco)), (ex, ti, pe, upd bk (d + 1) (nI op), kd, fr, to, re, ow, fi, be)) : NU) hx hb hr hlocks d_Md_takeBlock_97 hS hP hD (⟨rfl, nP_T (mb_T (pBlock_T hr99)) ⟨hf99, rfl, T.length, by (try simp only [List.length_cons]); omega, rfl⟩⟩) (Nat.le_refl _) (Nat.le_refl _)
    · refine lv_aload_n hx hb d_Md_takeBlock_22 rfl (lv_at hl 2 rfl) ?_
      refine va_get (D := D) (ci := 6) (v := .ref (g 0)) (C := R_Md) (T := F_Md) (N := 44) hx hb hts (fun w h => List.mem_cons_of_mem _ (i_Md w h)) hown hE.1 hP 0 rfl rfl 0 (by decide) (hts _ (List.mem_cons_of_mem _ iw3_54)) (fun _ h9 => h9) rfl d_Md_takeBlock_23 ?_
      refine lv_iload_n hx hb d_Md_takeBlock_26 rfl (lv_at hl 1 rfl) ?_
      refine va_iald hx hb hE.1 hP 1 3 rfl rfl (vp_in_nI (show a < 2000 by have := (nI_eq (by omega) (by omega)).mp c_19; omega) (by decide)) d_Md_takeBlock_27 ?_
      rw [nI_clamp (n := a) (by have := (nI_eq (by omega) (by omega)).mp c_19; omega)]
      refine lv_bipush (v := 64) hx hb d_Md_takeBlock_28 (by decide) ?_
      refine lv_icmp_eq (tgt := 45) hx hb d_Md_takeBlock_30 (by decide) (fun c_30 => ?_) (fun c_30 => ?_)
      · refine lv_iconst (v := 1) hx hb d_Md_takeBlock_45 (by decide) ?_
        refine lv_goto (tgt := 50) hx hb d_Md_takeBlock_46 (by decide) ?_
        refine lv_istore (lv' := [(5, .int 1), (3, .long w99), (2, .int (nI a)), (0, .ref m0), (1, .int (nI op))]) hx hb d_Md_takeBlock_50 hl (by decide) rfl (fun ls hl => ?_)
        refine lv_aload_n hx hb d_Md_takeBlock_52 rfl (lv_at hl 3 rfl) ?_
        refine va_get (D := D) (ci := 6) (v := .int (nI f99)) (C := R_Md) (T := F_Md) (N := 44) hx hb hts (fun w h => List.mem_cons_of_mem _ (i_Md w h)) hown hE.1 hP 0 rfl rfl 3 (by decide) (hts _ (List.mem_cons_of_mem _ iw3_57)) (fun _ h9 => h9) rfl d_Md_takeBlock_53 ?_
        refine lv_if_ne (tgt := 77) hx hb d_Md_takeBlock_56 (by decide) (fun c_56 => ?_) (fun c_56 => absurd c_56 (hf99.n0))
        refine lv_aload_n hx hb d_Md_takeBlock_77 rfl (lv_at hl 3 rfl) ?_
        refine va_get (D := D) (ci := 6) (v := .ref (g 11)) (C := R_Md) (T := F_Md) (N := 44) hx hb hts (fun w h => List.mem_cons_of_mem _ (i_Md w h)) hown hE.1 hP 0 rfl rfl 11 (by decide) (hts _ (List.mem_cons_of_mem _ iw3_65)) (fun _ h9 => h9) rfl d_Md_takeBlock_78 ?_
        refine lv_aload_n hx hb d_Md_takeBlock_81 rfl (lv_at hl 3 rfl) ?_
        refine va_get (D := D) (ci := 6) (v := .int (nI (d + 1))) (C := R_Md) (T := F_Md) (N := 44) hx hb hts (fun w h => List.mem_cons_of_mem _ (i_Md w h)) hown hE.1 hP 0 rfl rfl 12 (by decide) (hts _ (List.mem_cons_of_mem _ iw3_66)) (fun _ h9 => h9) rfl d_Md_takeBlock_82 ?_
        refine lv_iload_n hx hb d_Md_takeBlock_85 rfl (lv_at hl 4 rfl) ?_
        refine va_iast hx hb hE.1 hP hD hS 5 3 rfl rfl (vp_in_nI (by omega) (by omega)) d_Md_takeBlock_86 (fun H locs hP hD hS => ?_)
        have hP : va_P D cls [(m0, .inr (6, mF g K (nI zz99, nI f99, nI q99) (nI st.length) (nI (ps.length + 1)) (nI (d + 1), nI la, zI co, lo_, lA_, nI T.length, nI X.length, nI se, sta, dco))), ((g 0), .inl (cA 3, 2000, .inl fd)), ((g 7), .inl (cA 3, 400, .inl ex)), ((g 8), .inl (cA 1, 400, .inr (.inl ti))), ((g 10), .inl (cA 3, 4, .inl pe)), ((g 11), .inl (cA 3, 2001, .inl (upd bk (nI (d + 1)).toNatClampNeg (nI op)))), ((g 18), .inl (cA 3, 2000, .inl kd)), ((g 19), .inl (cA 3, 2000, .inl fr)), ((g 20), .inl (cA 3, 2000, .inl to)), ((g 21), .inl (cA 3, 2000, .inl re)), ((g 23), .inl (cA 3, 2000, .inl ow)), ((g 24), .inl (cA 3, 2000, .inl fi)), ((g 25), .inl (cA 3, 2000, .inl be))] H := hP
        have hD : va_D A [(m0, .inr (6, mF g K (nI zz99, nI f99, nI q99) (nI st.length) (nI (ps.length + 1)) (nI (d + 1), nI la, zI co, lo_, lA_, nI T.length, nI X.length, nI se, sta, dco))), ((g 0), .inl (cA 3, 2000, .inl fd)), ((g 7), .inl (cA 3, 400, .inl ex)), ((g 8), .inl (cA 1, 400, .inr (.inl ti))), ((g 10), .inl (cA 3, 4, .inl pe)), ((g 11), .inl (cA 3, 2001, .inl (upd bk (nI (d + 1)).toNatClampNeg (nI op)))), ((g 18), .inl (cA 3, 2000, .inl kd)), ((g 19), .inl (cA 3, 2000, .inl fr)), ((g 20), .inl (cA 3, 2000, .inl to)), ((g 21), .inl (cA 3, 2000, .inl re)), ((g 23), .inl (cA 3, 2000, .inl ow)), ((g 24), .inl (cA 3, 2000, .inl fi)), ((g 25), .inl (cA 3, 2000, .inl be))] := hD
        refine lv_aload_n hx hb d_Md_takeBlock_87 rfl (lv_at hl 3 rfl) ?_
        refine lv_dup hx hb d_Md_takeBlock_88 rfl ?_
        refine va_get (D := D) (ci := 6) (v := .int (nI (d + 1))) (C := R_Md) (T := F_Md) (N := 44) hx hb hts (fun w h => List.mem_cons_of_mem _ (i_Md w h)) hown hE.1 hP 0 rfl rfl 12 (by decide) (hts _ (List.mem_cons_of_mem _ iw3_66)) (fun _ h9 => h9) rfl d_Md_takeBlock_89 ?_
        refine lv_iconst (v := 1) hx hb d_Md_takeBlock_92 (by decide) ?_
        refine lv_iadd hx hb d_Md_takeBlock_93 ?_
        rw [nI_1]
        refine va_put (D := D) (ci := 6) (v := .int (nI (d + 1 + 1))) (ty := .int) (C := R_Md) (T := F_Md) (N := 44) hx hb hts (fun w h => List.mem_cons_of_mem _ (i_Md w h)) t_Md tk_Md n_Md hown hE.1 hP hD hS 0 rfl rfl 12 (by decide) (hts _ (List.mem_cons_of_mem _ iw3_66)) (fun _ h9 => h9) rfl (by decide +kernel) rfl rfl (Nat.le_of_ble_eq_true rfl) d_Md_takeBlock_94 (fun H locs hP hD hS => ?_)
        have hP : va_P D cls [(m0, .inr (6, mF g K (nI zz99, nI f99, nI q99) (nI st.length) (nI (ps.length + 1)) (nI (d + 1 + 1), nI la, zI co, lo_, lA_, nI T.length, nI X.length, nI se, sta, dco))), ((g 0), .inl (cA 3, 2000, .inl fd)), ((g 7), .inl (cA 3, 400, .inl ex)), ((g 8), .inl (cA 1, 400, .inr (.inl ti))), ((g 10), .inl (cA 3, 4, .inl pe)), ((g 11), .inl (cA 3, 2001, .inl (upd bk (nI (d + 1)).toNatClampNeg (nI op)))), ((g 18), .inl (cA 3, 2000, .inl kd)), ((g 19), .inl (cA 3, 2000, .inl fr)), ((g 20), .inl (cA 3, 2000, .inl to)), ((g 21), .inl (cA 3, 2000, .inl re)), ((g 23), .inl (cA 3, 2000, .inl ow)), ((g 24), .inl (cA 3, 2000, .inl fi)), ((g 25), .inl (cA 3, 2000, .inl be))] H := hP
        have hD : va_D A [(m0, .inr (6, mF g K (nI zz99, nI f99, nI q99) (nI st.length) (nI (ps.length + 1)) (nI (d + 1 + 1), nI la, zI co, lo_, lA_, nI T.length, nI X.length, nI se, sta, dco))), ((g 0), .inl (cA 3, 2000, .inl fd)), ((g 7), .inl (cA 3, 400, .inl ex)), ((g 8), .inl (cA 1, 400, .inr (.inl ti))), ((g 10), .inl (cA 3, 4, .inl pe)), ((g 11), .inl (cA 3, 2001, .inl (upd bk (nI (d + 1)).toNatClampNeg (nI op)))), ((g 18), .inl (cA 3, 2000, .inl kd)), ((g 19), .inl (cA 3, 2000, .inl fr)), ((g 20), .inl (cA 3, 2000, .inl to)), ((g 21), .inl (cA 3, 2000, .inl re)), ((g 23), .inl (cA 3, 2000, .inl ow)), ((g 24), .inl (cA 3, 2000, .inl fi)), ((g 25), .inl (cA 3, 2000, .inl be))] := hD
        rw [nI_clamp (n := d + 1) (by omega)] at hP hD
        exact cRv ((((nI zz99, nI f99, nI q99), nI st.length, nI (ps.length + 1), (nI (d + 1 + 1), nI la, zI co, lo_, lA_, nI T.length, nI X.length, nI se, sta, dco)), (ex, ti, pe, upd bk (d + 1) (nI op), kd, fr, to, re, ow, fi, be)) : NU) hx hb hr hlocks d_Md_takeBlock_97 hS hP hD (⟨rfl, nP_T (mb_T (pBlock_T hr99)) ⟨hf99, rfl, T.length, by (try simp only [List.length_cons]); omega, rfl⟩⟩) (Nat.le_refl _) (Nat.le_refl _)
      · refine lv_aload_n hx hb d_Md_takeBlock_33 rfl (lv_at hl 2 rfl) ?_
        refine va_get (D := D) (ci := 6) (v := .ref (g 0)) (C := R_Md) (T := F_Md) (N := 44) hx hb hts (fun w h => List.mem_cons_of_mem _ (i_Md w h)) hown hE.1 hP 0 rfl rfl 0 (by decide) (hts _ (List.mem_cons_of_mem _ iw3_54)) (fun _ h9 => h9) rfl d_Md_takeBlock_34 ?_
        refine lv_iload_n hx hb d_Md_takeBlock_37 rfl (lv_at hl 1 rfl) ?_
        refine va_iald hx hb hE.1 hP 1 3 rfl rfl (vp_in_nI (show a < 2000 by have := (nI_eq (by omega) (by omega)).mp c_19; omega) (by decide)) d_Md_takeBlock_38 ?_
        rw [nI_clamp (n := a) (by have := (nI_eq (by omega) (by omega)).mp c_19; omega)]
        refine cS0 (As := [.int (fd a)]) (rest := []) (n := 1) (r := (vlX (fd a))) ⟨hx, hb, hml, hown, hts⟩ hno hlocks hl.1 (c_Md_isValueX l hl9 D cA ad H.size (fd a)) iw4_15 iw4_16 iw1_7 iw4_17 (by decide +kernel) rfl ⟨Nat.le_of_ble_eq_true rfl, Nat.le_of_ble_eq_true rfl⟩ ⟨Nat.le_of_ble_eq_true rfl, Nat.le_of_ble_eq_true rfl⟩ rfl (Nat.le_of_ble_eq_true rfl) d_Md_takeBlock_39 hE hP hD hS hA [0, 1, 2, 3, 4, 5, 6, 7, 8, 9, 10, 11, 12] rfl rfl (fun H locs hP hD hS => ?_)
        refine lv_if_eq (tgt := 49) hx hb d_Md_takeBlock_42 (by decide) (fun c_42 => ?_) (fun c_42 => ?_)
        · refine lv_iconst (v := 0) hx hb d_Md_takeBlock_49 (by decide) ?_
          refine lv_istore (lv' := [(5, .int 0), (3, .long w99), (2, .int (nI a)), (0, .ref m0), (1, .int (nI op))]) hx hb d_Md_takeBlock_50 hl (by decide) rfl (fun ls hl => ?_)
          refine lv_aload_n hx hb d_Md_takeBlock_52 rfl (lv_at hl 3 rfl) ?_
          refine va_get (D := D) (ci := 6) (v := .int (nI f99)) (C := R_Md) (T := F_Md) (N := 44) hx hb hts (fun w h => List.mem_cons_of_mem _ (i_Md w h)) hown hE.1 hP 0 rfl rfl 3 (by decide) (hts _ (List.mem_cons_of_mem _ iw3_57)) (fun _ h9 => h9) rfl d_Md_takeBlock_53 ?_
          refine lv_if_ne (tgt := 77) hx hb d_Md_takeBlock_56 (by decide) (fun c_56 => ?_) (fun c_56 => absurd c_56 (hf99.n0))
          refine lv_aload_n hx hb d_Md_takeBlock_77 rfl (lv_at hl 3 rfl) ?_
          refine va_get (D := D) (ci := 6) (v := .ref (g 11)) (C := R_Md) (T := F_Md) (N := 44) hx hb hts (fun w h => List.mem_cons_of_mem _ (i_Md w h)) hown hE.1 hP 0 rfl rfl 11 (by decide) (hts _ (List.mem_cons_of_mem _ iw3_65)) (fun _ h9 => h9) rfl d_Md_takeBlock_78 ?_
          refine lv_aload_n hx hb d_Md_takeBlock_81 rfl (lv_at hl 3 rfl) ?_
          refine va_get (D := D) (ci := 6) (v := .int (nI (d + 1))) (C := R_Md) (T := F_Md) (N := 44) hx hb hts (fun w h => List.mem_cons_of_mem _ (i_Md w h)) hown hE.1 hP 0 rfl rfl 12 (by decide) (hts _ (List.mem_cons_of_mem _ iw3_66)) (fun _ h9 => h9) rfl d_Md_takeBlock_82 ?_
          refine lv_iload_n hx hb d_Md_takeBlock_85 rfl (lv_at hl 4 rfl) ?_
          refine va_iast hx hb hE.1 hP hD hS 5 3 rfl rfl (vp_in_nI (by omega) (by omega)) d_Md_takeBlock_86 (fun H locs hP hD hS => ?_)
          have hP : va_P D cls [(m0, .inr (6, mF g K (nI zz99, nI f99, nI q99) (nI st.length) (nI (ps.length + 1)) (nI (d + 1), nI la, zI co, lo_, lA_, nI T.length, nI X.length, nI se, sta, dco))), ((g 0), .inl (cA 3, 2000, .inl fd)), ((g 7), .inl (cA 3, 400, .inl ex)), ((g 8), .inl (cA 1, 400, .inr (.inl ti))), ((g 10), .inl (cA 3, 4, .inl pe)), ((g 11), .inl (cA 3, 2001, .inl (upd bk (nI (d + 1)).toNatClampNeg (nI op)))), ((g 18), .inl (cA 3, 2000, .inl kd)), ((g 19), .inl (cA 3, 2000, .inl fr)), ((g 20), .inl (cA 3, 2000, .inl to)), ((g 21), .inl (cA 3, 2000, .inl re)), ((g 23), .inl (cA 3, 2000, .inl ow)), ((g 24), .inl (cA 3, 2000, .inl fi)), ((g 25), .inl (cA 3, 2000, .inl be))] H := hP
          have hD : va_D A [(m0, .inr (6, mF g K (nI zz99, nI f99, nI q99) (nI st.length) (nI (ps.length + 1)) (nI (d + 1), nI la, zI co, lo_, lA_, nI T.length, nI X.length, nI se, sta, dco))), ((g 0), .inl (cA 3, 2000, .inl fd)), ((g 7), .inl (cA 3, 400, .inl ex)), ((g 8), .inl (cA 1, 400, .inr (.inl ti))), ((g 10), .inl (cA 3, 4, .inl pe)), ((g 11), .inl (cA 3, 2001, .inl (upd bk (nI (d + 1)).toNatClampNeg (nI op)))), ((g 18), .inl (cA 3, 2000, .inl kd)), ((g 19), .inl (cA 3, 2000, .inl fr)), ((g 20), .inl (cA 3, 2000, .inl to)), ((g 21), .inl (cA 3, 2000, .inl re)), ((g 23), .inl (cA 3, 2000, .inl ow)), ((g 24), .inl (cA 3, 2000, .inl fi)), ((g 25), .inl (cA 3, 2000, .inl be))] := hD
          refine lv_aload_n hx hb d_Md_takeBlock_87 rfl (lv_at hl 3 rfl) ?_
          refine lv_dup hx hb d_Md_takeBlock_88 rfl ?_
          refine va_get (D := D) (ci := 6) (v := .int (nI (d + 1))) (C := R_Md) (T := F_Md) (N := 44) hx hb hts (fun w h => List.mem_cons_of_mem _ (i_Md w h)) hown hE.1 hP 0 rfl rfl 12 (by decide) (hts _ (List.mem_cons_of_mem _ iw3_66)) (fun _ h9 => h9) rfl d_Md_takeBlock_89 ?_
          refine lv_iconst (v := 1) hx hb d_Md_takeBlock_92 (by decide) ?_
          refine lv_iadd hx hb d_Md_takeBlock_93 ?_
          rw [nI_1]
          refine va_put (D := D) (ci := 6) (v := .int (nI (d + 1 + 1))) (ty := .int) (C := R_Md) (T := F_Md) (N := 44) hx hb hts (fun w h => List.mem_cons_of_mem _ (i_Md w h)) t_Md tk_Md n_Md hown hE.1 hP hD hS 0 rfl rfl 12 (by decide) (hts _ (List.mem_cons_of_mem _ iw3_66)) (fun _ h9 => h9) rfl (by decide +kernel) rfl rfl (Nat.le_of_ble_eq_true rfl) d_Md_takeBlock_94 (fun H locs hP hD hS => ?_)
          have hP : va_P D cls [(m0, .inr (6, mF g K (nI zz99, nI f99, nI q99) (nI st.length) (nI (ps.length + 1)) (nI (d + 1 + 1), nI la, zI co, lo_, lA_, nI T.length, nI X.length, nI se, sta, dco))), ((g 0), .inl (cA 3, 2000, .inl fd)), ((g 7), .inl (cA 3, 400, .inl ex)), ((g 8), .inl (cA 1, 400, .inr (.inl ti))), ((g 10), .inl (cA 3, 4, .inl pe)), ((g 11), .inl (cA 3, 2001, .inl (upd bk (nI (d + 1)).toNatClampNeg (nI op)))), ((g 18), .inl (cA 3, 2000, .inl kd)), ((g 19), .inl (cA 3, 2000, .inl fr)), ((g 20), .inl (cA 3, 2000, .inl to)), ((g 21), .inl (cA 3, 2000, .inl re)), ((g 23), .inl (cA 3, 2000, .inl ow)), ((g 24), .inl (cA 3, 2000, .inl fi)), ((g 25), .inl (cA 3, 2000, .inl be))] H := hP
          have hD : va_D A [(m0, .inr (6, mF g K (nI zz99, nI f99, nI q99) (nI st.length) (nI (ps.length + 1)) (nI (d + 1 + 1), nI la, zI co, lo_, lA_, nI T.length, nI X.length, nI se, sta, dco))), ((g 0), .inl (cA 3, 2000, .inl fd)), ((g 7), .inl (cA 3, 400, .inl ex)), ((g 8), .inl (cA 1, 400, .inr (.inl ti))), ((g 10), .inl (cA 3, 4, .inl pe)), ((g 11), .inl (cA 3, 2001, .inl (upd bk (nI (d + 1)).toNatClampNeg (nI op)))), ((g 18), .inl (cA 3, 2000, .inl kd)), ((g 19), .inl (cA 3, 2000, .inl fr)), ((g 20), .inl (cA 3, 2000, .inl to)), ((g 21), .inl (cA 3, 2000, .inl re)), ((g 23), .inl (cA 3, 2000, .inl ow)), ((g 24), .inl (cA 3, 2000, .inl fi)), ((g 25), .inl (cA 3, 2000, .inl be))] := hD
          rw [nI_clamp (n := d + 1) (by omega)] at hP hD
          exact cRv ((((nI zz99, nI f99, nI q99), nI st.length, nI (ps.length + 1), (nI (d + 1 + 1), nI la, zI co, lo_, lA_, nI T.length, nI X.length, nI se, sta, dco)), (ex, ti, pe, upd bk (d + 1) (nI op), kd, fr, to, re, ow, fi, be)) : NU) hx hb hr hlocks d_Md_takeBlock_97 hS hP hD (⟨rfl, nP_T (mb_T (pBlock_T hr99)) ⟨hf99, rfl, T.length, by (try simp only [List.length_cons]); omega, rfl⟩⟩) (Nat.le_refl _) (Nat.le_refl _)
        · refine lv_iconst (v := 1) hx hb d_Md_takeBlock_45 (by decide) ?_
          refine lv_goto (tgt := 50) hx hb d_Md_takeBlock_46 (by decide) ?_
          refine lv_istore (lv' := [(5, .int 1), (3, .long w99), (2, .int (nI a)), (0, .ref m0), (1, .int (nI op))]) hx hb d_Md_takeBlock_50 hl (by decide) rfl (fun ls hl => ?_)
          refine lv_aload_n hx hb d_Md_takeBlock_52 rfl (lv_at hl 3 rfl) ?_
          refine va_get (D := D) (ci := 6) (v := .int (nI f99)) (C := R_Md) (T := F_Md) (N := 44) hx hb hts (fun w h => List.mem_cons_of_mem _ (i_Md w h)) hown hE.1 hP 0 rfl rfl 3 (by decide) (hts _ (List.mem_cons_of_mem _ iw3_57)) (fun _ h9 => h9) rfl d_Md_takeBlock_53 ?_
          refine lv_if_ne (tgt := 77) hx hb d_Md_takeBlock_56 (by decide) (fun c_56 => ?_) (fun c_56 => absurd c_56 (hf99.n0))
          refine lv_aload_n hx hb d_Md_takeBlock_77 rfl (lv_at hl 3 rfl) ?_
          refine va_get (D := D) (ci := 6) (v := .ref (g 11)) (C := R_Md) (T := F_Md) (N := 44) hx hb hts (fun w h => List.mem_cons_of_mem _ (i_Md w h)) hown hE.1 hP 0 rfl rfl 11 (by decide) (hts _ (List.mem_cons_of_mem _ iw3_65)) (fun _ h9 => h9) rfl d_Md_takeBlock_78 ?_
          refine lv_aload_n hx hb d_Md_takeBlock_81 rfl (lv_at hl 3 rfl) ?_
          refine va_get (D := D) (ci := 6) (v := .int (nI (d + 1))) (C := R_Md) (T := F_Md) (N := 44) hx hb hts (fun w h => List.mem_cons_of_mem _ (i_Md w h)) hown hE.1 hP 0 rfl rfl 12 (by decide) (hts _ (List.mem_cons_of_mem _ iw3_66)) (fun _ h9 => h9) rfl d_Md_takeBlock_82 ?_
          refine lv_iload_n hx hb d_Md_takeBlock_85 rfl (lv_at hl 4 rfl) ?_
          refine va_iast hx hb hE.1 hP hD hS 5 3 rfl rfl (vp_in_nI (by omega) (by omega)) d_Md_takeBlock_86 (fun H locs hP hD hS => ?_)
          have hP : va_P D cls [(m0, .inr (6, mF g K (nI zz99, nI f99, nI q99) (nI st.length) (nI (ps.length + 1)) (nI (d + 1), nI la, zI co, lo_, lA_, nI T.length, nI X.length, nI se, sta, dco))), ((g 0), .inl (cA 3, 2000, .inl fd)), ((g 7), .inl (cA 3, 400, .inl ex)), ((g 8), .inl (cA 1, 400, .inr (.inl ti))), ((g 10), .inl (cA 3, 4, .inl pe)), ((g 11), .inl (cA 3, 2001, .inl (upd bk (nI (d + 1)).toNatClampNeg (nI op)))), ((g 18), .inl (cA 3, 2000, .inl kd)), ((g 19), .inl (cA 3, 2000, .inl fr)), ((g 20), .inl (cA 3, 2000, .inl to)), ((g 21), .inl (cA 3, 2000, .inl re)), ((g 23), .inl (cA 3, 2000, .inl ow)), ((g 24), .inl (cA 3, 2000, .inl fi)), ((g 25), .inl (cA 3, 2000, .inl be))] H := hP
          have hD : va_D A [(m0, .inr (6, mF g K (nI zz99, nI f99, nI q99) (nI st.length) (nI (ps.length + 1)) (nI (d + 1), nI la, zI co, lo_, lA_, nI T.length, nI X.length, nI se, sta, dco))), ((g 0), .inl (cA 3, 2000, .inl fd)), ((g 7), .inl (cA 3, 400, .inl ex)), ((g 8), .inl (cA 1, 400, .inr (.inl ti))), ((g 10), .inl (cA 3, 4, .inl pe)), ((g 11), .inl (cA 3, 2001, .inl (upd bk (nI (d + 1)).toNatClampNeg (nI op)))), ((g 18), .inl (cA 3, 2000, .inl kd)), ((g 19), .inl (cA 3, 2000, .inl fr)), ((g 20), .inl (cA 3, 2000, .inl to)), ((g 21), .inl (cA 3, 2000, .inl re)), ((g 23), .inl (cA 3, 2000, .inl ow)), ((g 24), .inl (cA 3, 2000, .inl fi)), ((g 25), .inl (cA 3, 2000, .inl be))] := hD
          refine lv_aload_n hx hb d_Md_takeBlock_87 rfl (lv_at hl 3 rfl) ?_
          refine lv_dup hx hb d_Md_takeBlock_88 rfl ?_
          refine va_get (D := D) (ci := 6) (v := .int (nI (d + 1))) (C := R_Md) (T := F_Md) (N := 44) hx hb hts (fun w h => List.mem_cons_of_mem _ (i_Md w h)) hown hE.1 hP 0 rfl rfl 12 (by decide) (hts _ (List.mem_cons_of_mem _ iw3_66)) (fun _ h9 => h9) rfl d_Md_takeBlock_89 ?_
          refine lv_iconst (v := 1) hx hb d_Md_takeBlock_92 (by decide) ?_
          refine lv_iadd hx hb d_Md_takeBlock_93 ?_
          rw [nI_1]
          refine va_put (D := D) (ci := 6) (v := .int (nI (d + 1 + 1))) (ty := .int) (C := R_Md) (T := F_Md) (N := 44) hx hb hts (fun w h => List.mem_cons_of_mem _ (i_Md w h)) t_Md tk_Md n_Md hown hE.1 hP hD hS 0 rfl rfl 12 (by decide) (hts _ (List.mem_cons_of_mem _ iw3_66)) (fun _ h9 => h9) rfl (by decide +kernel) rfl rfl (Nat.le_of_ble_eq_true rfl) d_Md_takeBlock_94 (fun H locs hP hD hS => ?_)
          have hP : va_P D cls [(m0, .inr (6, mF g K (nI zz99, nI f99, nI q99) (nI st.length) (nI (ps.length + 1)) (nI (d + 1 + 1), nI la, zI co, lo_, lA_, nI T.length, nI X.length, nI se, sta, dco))), ((g 0), .inl (cA 3, 2000, .inl fd)), ((g 7), .inl (cA 3, 400, .inl ex)), ((g 8), .inl (cA 1, 400, .inr (.inl ti))), ((g 10), .inl (cA 3, 4, .inl pe)), ((g 11), .inl (cA 3, 2001, .inl (upd bk (nI (d + 1)).toNatClampNeg (nI op)))), ((g 18), .inl (cA 3, 2000, .inl kd)), ((g 19), .inl (cA 3, 2000, .inl fr)), ((g 20), .inl (cA 3, 2000, .inl to)), ((g 21), .inl (cA 3, 2000, .inl re)), ((g 23), .inl (cA 3, 2000, .inl ow)), ((g 24), .inl (cA 3, 2000, .inl fi)), ((g 25), .inl (cA 3, 2000, .inl be))] H := hP
          have hD : va_D A [(m0, .inr (6, mF g K (nI zz99, nI f99, nI q99) (nI st.length) (nI (ps.length + 1)) (nI (d + 1 + 1), nI la, zI co, lo_, lA_, nI T.length, nI X.length, nI se, sta, dco))), ((g 0), .inl (cA 3, 2000, .inl fd)), ((g 7), .inl (cA 3, 400, .inl ex)), ((g 8), .inl (cA 1, 400, .inr (.inl ti))), ((g 10), .inl (cA 3, 4, .inl pe)), ((g 11), .inl (cA 3, 2001, .inl (upd bk (nI (d + 1)).toNatClampNeg (nI op)))), ((g 18), .inl (cA 3, 2000, .inl kd)), ((g 19), .inl (cA 3, 2000, .inl fr)), ((g 20), .inl (cA 3, 2000, .inl to)), ((g 21), .inl (cA 3, 2000, .inl re)), ((g 23), .inl (cA 3, 2000, .inl ow)), ((g 24), .inl (cA 3, 2000, .inl fi)), ((g 25), .inl (cA 3, 2000, .inl be))] := hD
          rw [nI_clamp (n := d + 1) (by omega)] at hP hD
          exact cRv ((((nI zz99, nI f99, nI q99), nI st.length, nI (ps.length + 1), (nI (d + 1 + 1), nI la, zI co, lo_, lA_, nI T.length, nI X.length, nI se, sta, dco)), (ex, ti, pe, upd bk (d + 1) (nI op), kd, fr, to, re, ow, fi, be)) : NU) hx hb hr hlocks d_Md_takeBlock_97 hS hP hD (⟨rfl, nP_T (mb_T (pBlock_T hr99)) ⟨hf99, rfl, T.length, by (try simp only [List.length_cons]); omega, rfl⟩⟩) (Nat.le_refl _) (Nat.le_refl _)
  · obtain ⟨hla99, hgt99⟩ := (pSg_ok2 (n := 4) (show a ≤ lm by omega) hr99)
    have hP : va_P D cls [(m0, .inr (6, mF g K (nI a99, 0, p) (nI st.length) (nI (ps.length + 1)) (nI (d + 1), nI la, zI co, lo_, lA_, nI T.length, nI X.length, nI se, sta, dco))), ((g 0), .inl (cA 3, 2000, .inl fd)), ((g 7), .inl (cA 3, 400, .inl ex)), ((g 8), .inl (cA 1, 400, .inr (.inl ti))), ((g 10), .inl (cA 3, 4, .inl pe)), ((g 11), .inl (cA 3, 2001, .inl bk)), ((g 18), .inl (cA 3, 2000, .inl kd)), ((g 19), .inl (cA 3, 2000, .inl fr)), ((g 20), .inl (cA 3, 2000, .inl to)), ((g 21), .inl (cA 3, 2000, .inl re)), ((g 23), .inl (cA 3, 2000, .inl ow)), ((g 24), .inl (cA 3, 2000, .inl fi)), ((g 25), .inl (cA 3, 2000, .inl be))] H := hP.sub [10, 11, 0, 1, 12, 2, 3, 4, 5, 6, 7, 8, 9] rfl
    have hD : va_D A [(m0, .inr (6, mF g K (nI a99, 0, p) (nI st.length) (nI (ps.length + 1)) (nI (d + 1), nI la, zI co, lo_, lA_, nI T.length, nI X.length, nI se, sta, dco))), ((g 0), .inl (cA 3, 2000, .inl fd)), ((g 7), .inl (cA 3, 400, .inl ex)), ((g 8), .inl (cA 1, 400, .inr (.inl ti))), ((g 10), .inl (cA 3, 4, .inl pe)), ((g 11), .inl (cA 3, 2001, .inl bk)), ((g 18), .inl (cA 3, 2000, .inl kd)), ((g 19), .inl (cA 3, 2000, .inl fr)), ((g 20), .inl (cA 3, 2000, .inl to)), ((g 21), .inl (cA 3, 2000, .inl re)), ((g 23), .inl (cA 3, 2000, .inl ow)), ((g 24), .inl (cA 3, 2000, .inl fi)), ((g 25), .inl (cA 3, 2000, .inl be))] := hD.sub [10, 11, 0, 1, 12, 2, 3, 4, 5, 6, 7, 8, 9] (by decide) rfl
    refine W.cs (cells' := 0) (slots' := 0) rfl rfl ?_
    refine W.eq (g2 := F0 m 11 ls [.long w99]) rfl ?_
    refine lv_lstore_n (lv' := [(3, .long w99), (2, .int (nI a)), (0, .ref m0), (1, .int (nI op))]) hx hb d_Md_takeBlock_11 rfl hl (by decide) rfl (fun ls hl => ?_)
    refine lv_aload_n hx hb d_Md_takeBlock_12 rfl (lv_at hl 2 rfl) ?_
    refine va_get (D := D) (ci := 6) (v := .int (nI a99)) (C := R_Md) (T := F_Md) (N := 44) hx hb hts (fun w h => List.mem_cons_of_mem _ (i_Md w h)) hown hE.1 hP 0 rfl rfl 2 (by decide) (hts _ (List.mem_cons_of_mem _ iw3_56)) (fun _ h9 => h9) rfl d_Md_takeBlock_13 ?_
    refine lv_iload_n hx hb d_Md_takeBlock_16 rfl (lv_at hl 1 rfl) ?_
    refine lv_iconst (v := 1) hx hb d_Md_takeBlock_17 (by decide) ?_
    refine lv_iadd hx hb d_Md_takeBlock_18 ?_
    rw [nI_1]
    refine lv_icmp_ne (tgt := 49) hx hb d_Md_takeBlock_19 (by decide) (fun c_19 => ?_) (fun c_19 => ?_)
    · refine lv_iconst (v := 0) hx hb d_Md_takeBlock_49 (by decide) ?_
      refine lv_istore (lv' := [(5, .int 0), (3, .long w99), (2, .int (nI a)), (0, .ref m0), (1, .int (nI op))]) hx hb d_Md_takeBlock_50 hl (by decide) rfl (fun ls hl => ?_)
      refine lv_aload_n hx hb d_Md_takeBlock_52 rfl (lv_at hl 3 rfl) ?_
      refine va_get (D := D) (ci := 6) (v := .int 0) (C := R_Md) (T := F_Md) (N := 44) hx hb hts (fun w h => List.mem_cons_of_mem _ (i_Md w h)) hown hE.1 hP 0 rfl rfl 3 (by decide) (hts _ (List.mem_cons_of_mem _ iw3_57)) (fun _ h9 => h9) rfl d_Md_takeBlock_53 ?_
      refine lv_if_ne (tgt := 77) hx hb d_Md_takeBlock_56 (by decide) (fun c_56 => absurd (by decide) c_56) (fun c_56 => ?_)
      refine lv_lload_n hx hb d_Md_takeBlock_59 rfl (lv_at hl 1 rfl) ?_
      refine lv_lconst (v := 0) hx hb d_Md_takeBlock_60 (by decide) ?_
      refine W.lcmp hx hb d_Md_takeBlock_61 ?_
      refine lv_if_ge (tgt := 77) hx hb d_Md_takeBlock_62 (by decide) (fun c_62 => ?_) (fun c_62 => ?_)
      · refine lv_aload_n hx hb d_Md_takeBlock_77 rfl (lv_at hl 3 rfl) ?_
        refine va_get (D := D) (ci := 6) (v := .ref (g 11)) (C := R_Md) (T := F_Md) (N := 44) hx hb hts (fun w h => List.mem_cons_of_mem _ (i_Md w h)) hown hE.1 hP 0 rfl rfl 11 (by decide) (hts _ (List.mem_cons_of_mem _ iw3_65)) (fun _ h9 => h9) rfl d_Md_takeBlock_78 ?_
        refine lv_aload_n hx hb d_Md_takeBlock_81 rfl (lv_at hl 3 rfl) ?_
        refine va_get (D := D) (ci := 6) (v := .int (nI (d + 1))) (C := R_Md) (T := F_Md) (N := 44) hx hb hts (fun w h => List.mem_cons_of_mem _ (i_Md w h)) hown hE.1 hP 0 rfl rfl 12 (by decide) (hts _ (List.mem_cons_of_mem _ iw3_66)) (fun _ h9 => h9) rfl d_Md_takeBlock_82 ?_
        refine lv_iload_n hx hb d_Md_takeBlock_85 rfl (lv_at hl 4 rfl) ?_
        refine va_iast hx hb hE.1 hP hD hS 5 3 rfl rfl (vp_in_nI (by omega) (by omega)) d_Md_takeBlock_86 (fun H locs hP hD hS => ?_)
        have hP : va_P D cls [(m0, .inr (6, mF g K (nI a99, 0, p) (nI st.length) (nI (ps.length + 1)) (nI (d + 1), nI la, zI co, lo_, lA_, nI T.length, nI X.length, nI se, sta, dco))), ((g 0), .inl (cA 3, 2000, .inl fd)), ((g 7), .inl (cA 3, 400, .inl ex)), ((g 8), .inl (cA 1, 400, .inr (.inl ti))), ((g 10), .inl (cA 3, 4, .inl pe)), ((g 11), .inl (cA 3, 2001, .inl (upd bk (nI (d + 1)).toNatClampNeg (nI op)))), ((g 18), .inl (cA 3, 2000, .inl kd)), ((g 19), .inl (cA 3, 2000, .inl fr)), ((g 20), .inl (cA 3, 2000, .inl to)), ((g 21), .inl (cA 3, 2000, .inl re)), ((g 23), .inl (cA 3, 2000, .inl ow)), ((g 24), .inl (cA 3, 2000, .inl fi)), ((g 25), .inl (cA 3, 2000, .inl be))] H := hP
        have hD : va_D A [(m0, .inr (6, mF g K (nI a99, 0, p) (nI st.length) (nI (ps.length + 1)) (nI (d + 1), nI la, zI co, lo_, lA_, nI T.length, nI X.length, nI se, sta, dco))), ((g 0), .inl (cA 3, 2000, .inl fd)), ((g 7), .inl (cA 3, 400, .inl ex)), ((g 8), .inl (cA 1, 400, .inr (.inl ti))), ((g 10), .inl (cA 3, 4, .inl pe)), ((g 11), .inl (cA 3, 2001, .inl (upd bk (nI (d + 1)).toNatClampNeg (nI op)))), ((g 18), .inl (cA 3, 2000, .inl kd)), ((g 19), .inl (cA 3, 2000, .inl fr)), ((g 20), .inl (cA 3, 2000, .inl to)), ((g 21), .inl (cA 3, 2000, .inl re)), ((g 23), .inl (cA 3, 2000, .inl ow)), ((g 24), .inl (cA 3, 2000, .inl fi)), ((g 25), .inl (cA 3, 2000, .inl be))] := hD
        refine lv_aload_n hx hb d_Md_takeBlock_87 rfl (lv_at hl 3 rfl) ?_
        refine lv_dup hx hb d_Md_takeBlock_88 rfl ?_
        refine va_get (D := D) (ci := 6) (v := .int (nI (d + 1))) (C := R_Md) (T := F_Md) (N := 44) hx hb hts (fun w h => List.mem_cons_of_mem _ (i_Md w h)) hown hE.1 hP 0 rfl rfl 12 (by decide) (hts _ (List.mem_cons_of_mem _ iw3_66)) (fun _ h9 => h9) rfl d_Md_takeBlock_89 ?_
        refine lv_iconst (v := 1) hx hb d_Md_takeBlock_92 (by decide) ?_
        refine lv_iadd hx hb d_Md_takeBlock_93 ?_
        rw [nI_1]
        refine va_put (D := D) (ci := 6) (v := .int (nI (d + 1 + 1))) (ty := .int) (C := R_Md) (T := F_Md) (N := 44) hx hb hts (fun w h => List.mem_cons_of_mem _ (i_Md w h)) t_Md tk_Md n_Md hown hE.1 hP hD hS 0 rfl rfl 12 (by decide) (hts _ (List.mem_cons_of_mem _ iw3_66)) (fun _ h9 => h9) rfl (by decide +kernel) rfl rfl (Nat.le_of_ble_eq_true rfl) d_Md_takeBlock_94 (fun H locs hP hD hS => ?_)
        have hP : va_P D cls [(m0, .inr (6, mF g K (nI a99, 0, p) (nI st.length) (nI (ps.length + 1)) (nI (d + 1 + 1), nI la, zI co, lo_, lA_, nI T.length, nI X.length, nI se, sta, dco))), ((g 0), .inl (cA 3, 2000, .inl fd)), ((g 7), .inl (cA 3, 400, .inl ex)), ((g 8), .inl (cA 1, 400, .inr (.inl ti))), ((g 10), .inl (cA 3, 4, .inl pe)), ((g 11), .inl (cA 3, 2001, .inl (upd bk (nI (d + 1)).toNatClampNeg (nI op)))), ((g 18), .inl (cA 3, 2000, .inl kd)), ((g 19), .inl (cA 3, 2000, .inl fr)), ((g 20), .inl (cA 3, 2000, .inl to)), ((g 21), .inl (cA 3, 2000, .inl re)), ((g 23), .inl (cA 3, 2000, .inl ow)), ((g 24), .inl (cA 3, 2000, .inl fi)), ((g 25), .inl (cA 3, 2000, .inl be))] H := hP
        have hD : va_D A [(m0, .inr (6, mF g K (nI a99, 0, p) (nI st.length) (nI (ps.length + 1)) (nI (d + 1 + 1), nI la, zI co, lo_, lA_, nI T.length, nI X.length, nI se, sta, dco))), ((g 0), .inl (cA 3, 2000, .inl fd)), ((g 7), .inl (cA 3, 400, .inl ex)), ((g 8), .inl (cA 1, 400, .inr (.inl ti))), ((g 10), .inl (cA 3, 4, .inl pe)), ((g 11), .inl (cA 3, 2001, .inl (upd bk (nI (d + 1)).toNatClampNeg (nI op)))), ((g 18), .inl (cA 3, 2000, .inl kd)), ((g 19), .inl (cA 3, 2000, .inl fr)), ((g 20), .inl (cA 3, 2000, .inl to)), ((g 21), .inl (cA 3, 2000, .inl re)), ((g 23), .inl (cA 3, 2000, .inl ow)), ((g 24), .inl (cA 3, 2000, .inl fi)), ((g 25), .inl (cA 3, 2000, .inl be))] := hD
        rw [nI_clamp (n := d + 1) (by omega)] at hP hD
        have hx9 : v99 = 0 := Decidable.byContradiction (fun q => absurd (hw99.mpr q) (Int64.not_lt.mpr ((lg_cmp_ge _ _).mp c_62)))
        exact cRv ((((nI a99, 0, p), nI st.length, nI (ps.length + 1), (nI (d + 1 + 1), nI la, zI co, lo_, lA_, nI T.length, nI X.length, nI se, sta, dco)), (ex, ti, pe, upd bk (d + 1) (nI op), kd, fr, to, re, ow, fi, be)) : NU) hx hb hr hlocks d_Md_takeBlock_97 hS hP hD (⟨rfl, nP_E (mb_E (pBlock_0 hr99 hx9)) ⟨⟨rfl, rfl, rfl, rfl⟩, (fun z hz => by cases hz; exact ⟨rfl, hBL.push (by omega)⟩), hlc, hst, hpe, hTH, hXH⟩⟩) (Nat.le_refl _) (Nat.le_refl _)
      · refine lv_iload hx hb d_Md_takeBlock_65 (lv_at hl 0 rfl) ?_
        refine lv_if_ne (tgt := 77) hx hb d_Md_takeBlock_67 (by decide) (fun c_67 => absurd (by decide) c_67) (fun c_67 => ?_)
        refine lv_aload_n hx hb d_Md_takeBlock_70 rfl (lv_at hl 3 rfl) ?_
        refine lv_bipush (v := 8) hx hb d_Md_takeBlock_71 (by decide) ?_
        refine lv_iload_n hx hb d_Md_takeBlock_73 rfl (lv_at hl 2 rfl) ?_
        refine cV (As := [.int 8, .int (nI a)]) (rest := []) (n := 2) (wc := [(m0, .inr (6, mF g K (nI a99, 0, p) (nI st.length) (nI (ps.length + 1)) (nI (d + 1), nI la, zI co, lo_, lA_, nI T.length, nI X.length, nI se, sta, dco)))]) (wr := [((g 0), .inl (cA 3, 2000, .inl fd)), ((g 7), .inl (cA 3, 400, .inl ex)), ((g 8), .inl (cA 1, 400, .inr (.inl ti))), ((g 10), .inl (cA 3, 4, .inl pe)), ((g 11), .inl (cA 3, 2001, .inl bk)), ((g 18), .inl (cA 3, 2000, .inl kd)), ((g 19), .inl (cA 3, 2000, .inl fr)), ((g 20), .inl (cA 3, 2000, .inl to)), ((g 21), .inl (cA 3, 2000, .inl re)), ((g 23), .inl (cA 3, 2000, .inl ow)), ((g 24), .inl (cA 3, 2000, .inl fi)), ((g 25), .inl (cA 3, 2000, .inl be))]) ⟨hx, hb, hml, hown, hts⟩ hno hlocks hl.1 (c_Md_stop l hl9 D cA ad H.size m0 g K (nI st.length) (nI (ps.length + 1)) (nI (d + 1), nI la, zI co, lo_, lA_, nI T.length, nI X.length, nI se, sta, dco) (nI a99) p (8 : Int32) (nI a)) iw3_216 iw3_218 sel_Md_stop iw1_7 iw3_219 (by decide +kernel) rfl ⟨Nat.le_of_ble_eq_true rfl, Nat.le_of_ble_eq_true rfl⟩ ⟨Nat.le_of_ble_eq_true rfl, Nat.le_of_ble_eq_true rfl⟩ rfl (Nat.le_of_ble_eq_true rfl) d_Md_takeBlock_74 hE hP hD hS hA [0] [1, 2, 3, 4, 5, 6, 7, 8, 9, 10, 11, 12] rfl rfl rfl rfl (by decide) (ci := 6) rfl rfl 0 rfl (fun _ h => h.elim) (fun v_74 u_74 H locs hp_74 hP hD hS => ?_)
        obtain rfl := hp_74
        have hP : va_P D cls [(m0, .inr (6, mF g K (nI a99, 8, nI a) (nI st.length) (nI (ps.length + 1)) (nI (d + 1), nI la, zI co, lo_, lA_, nI T.length, nI X.length, nI se, sta, dco))), ((g 0), .inl (cA 3, 2000, .inl fd)), ((g 7), .inl (cA 3, 400, .inl ex)), ((g 8), .inl (cA 1, 400, .inr (.inl ti))), ((g 10), .inl (cA 3, 4, .inl pe)), ((g 11), .inl (cA 3, 2001, .inl bk)), ((g 18), .inl (cA 3, 2000, .inl kd)), ((g 19), .inl (cA 3, 2000, .inl fr)), ((g 20), .inl (cA 3, 2000, .inl to)), ((g 21), .inl (cA 3, 2000, .inl re)), ((g 23), .inl (cA 3, 2000, .inl ow)), ((g 24), .inl (cA 3, 2000, .inl fi)), ((g 25), .inl (cA 3, 2000, .inl be))] H := hP.sub [12, 0, 1, 2, 3, 4, 5, 6, 7, 8, 9, 10, 11] rfl
        have hD : va_D A [(m0, .inr (6, mF g K (nI a99, 8, nI a) (nI st.length) (nI (ps.length + 1)) (nI (d + 1), nI la, zI co, lo_, lA_, nI T.length, nI X.length, nI se, sta, dco))), ((g 0), .inl (cA 3, 2000, .inl fd)), ((g 7), .inl (cA 3, 400, .inl ex)), ((g 8), .inl (cA 1, 400, .inr (.inl ti))), ((g 10), .inl (cA 3, 4, .inl pe)), ((g 11), .inl (cA 3, 2001, .inl bk)), ((g 18), .inl (cA 3, 2000, .inl kd)), ((g 19), .inl (cA 3, 2000, .inl fr)), ((g 20), .inl (cA 3, 2000, .inl to)), ((g 21), .inl (cA 3, 2000, .inl re)), ((g 23), .inl (cA 3, 2000, .inl ow)), ((g 24), .inl (cA 3, 2000, .inl fi)), ((g 25), .inl (cA 3, 2000, .inl be))] := hD.sub [12, 0, 1, 2, 3, 4, 5, 6, 7, 8, 9, 10, 11] (by decide) rfl
        refine W.cs (cells' := 0) (slots' := 0) rfl rfl ?_
        refine W.eq (g2 := F0 m 77 ls []) rfl ?_
        refine lv_aload_n hx hb d_Md_takeBlock_77 rfl (lv_at hl 3 rfl) ?_
        refine va_get (D := D) (ci := 6) (v := .ref (g 11)) (C := R_Md) (T := F_Md) (N := 44) hx hb hts (fun w h => List.mem_cons_of_mem _ (i_Md w h)) hown hE.1 hP 0 rfl rfl 11 (by decide) (hts _ (List.mem_cons_of_mem _ iw3_65)) (fun _ h9 => h9) rfl d_Md_takeBlock_78 ?_
        refine lv_aload_n hx hb d_Md_takeBlock_81 rfl (lv_at hl 3 rfl) ?_
        refine va_get (D := D) (ci := 6) (v := .int (nI (d + 1))) (C := R_Md) (T := F_Md) (N := 44) hx hb hts (fun w h => List.mem_cons_of_mem _ (i_Md w h)) hown hE.1 hP 0 rfl rfl 12 (by decide) (hts _ (List.mem_cons_of_mem _ iw3_66)) (fun _ h9 => h9) rfl d_Md_takeBlock_82 ?_
        refine lv_iload_n hx hb d_Md_takeBlock_85 rfl (lv_at hl 4 rfl) ?_
        refine va_iast hx hb hE.1 hP hD hS 5 3 rfl rfl (vp_in_nI (by omega) (by omega)) d_Md_takeBlock_86 (fun H locs hP hD hS => ?_)
        have hP : va_P D cls [(m0, .inr (6, mF g K (nI a99, 8, nI a) (nI st.length) (nI (ps.length + 1)) (nI (d + 1), nI la, zI co, lo_, lA_, nI T.length, nI X.length, nI se, sta, dco))), ((g 0), .inl (cA 3, 2000, .inl fd)), ((g 7), .inl (cA 3, 400, .inl ex)), ((g 8), .inl (cA 1, 400, .inr (.inl ti))), ((g 10), .inl (cA 3, 4, .inl pe)), ((g 11), .inl (cA 3, 2001, .inl (upd bk (nI (d + 1)).toNatClampNeg (nI op)))), ((g 18), .inl (cA 3, 2000, .inl kd)), ((g 19), .inl (cA 3, 2000, .inl fr)), ((g 20), .inl (cA 3, 2000, .inl to)), ((g 21), .inl (cA 3, 2000, .inl re)), ((g 23), .inl (cA 3, 2000, .inl ow)), ((g 24), .inl (cA 3, 2000, .inl fi)), ((g 25), .inl (cA 3, 2000, .inl be))] H := hP
        have hD : va_D A [(m0, .inr (6, mF g K (nI a99, 8, nI a) (nI st.length) (nI (ps.length + 1)) (nI (d + 1), nI la, zI co, lo_, lA_, nI T.length, nI X.length, nI se, sta, dco))), ((g 0), .inl (cA 3, 2000, .inl fd)), ((g 7), .inl (cA 3, 400, .inl ex)), ((g 8), .inl (cA 1, 400, .inr (.inl ti))), ((g 10), .inl (cA 3, 4, .inl pe)), ((g 11), .inl (cA 3, 2001, .inl (upd bk (nI (d + 1)).toNatClampNeg (nI op)))), ((g 18), .inl (cA 3, 2000, .inl kd)), ((g 19), .inl (cA 3, 2000, .inl fr)), ((g 20), .inl (cA 3, 2000, .inl to)), ((g 21), .inl (cA 3, 2000, .inl re)), ((g 23), .inl (cA 3, 2000, .inl ow)), ((g 24), .inl (cA 3, 2000, .inl fi)), ((g 25), .inl (cA 3, 2000, .inl be))] := hD
        refine lv_aload_n hx hb d_Md_takeBlock_87 rfl (lv_at hl 3 rfl) ?_
        refine lv_dup hx hb d_Md_takeBlock_88 rfl ?_
        refine va_get (D := D) (ci := 6) (v := .int (nI (d + 1))) (C := R_Md) (T := F_Md) (N := 44) hx hb hts (fun w h => List.mem_cons_of_mem _ (i_Md w h)) hown hE.1 hP 0 rfl rfl 12 (by decide) (hts _ (List.mem_cons_of_mem _ iw3_66)) (fun _ h9 => h9) rfl d_Md_takeBlock_89 ?_
        refine lv_iconst (v := 1) hx hb d_Md_takeBlock_92 (by decide) ?_
        refine lv_iadd hx hb d_Md_takeBlock_93 ?_
        rw [nI_1]
        refine va_put (D := D) (ci := 6) (v := .int (nI (d + 1 + 1))) (ty := .int) (C := R_Md) (T := F_Md) (N := 44) hx hb hts (fun w h => List.mem_cons_of_mem _ (i_Md w h)) t_Md tk_Md n_Md hown hE.1 hP hD hS 0 rfl rfl 12 (by decide) (hts _ (List.mem_cons_of_mem _ iw3_66)) (fun _ h9 => h9) rfl (by decide +kernel) rfl rfl (Nat.le_of_ble_eq_true rfl) d_Md_takeBlock_94 (fun H locs hP hD hS => ?_)
        have hP : va_P D cls [(m0, .inr (6, mF g K (nI a99, 8, nI a) (nI st.length) (nI (ps.length + 1)) (nI (d + 1 + 1), nI la, zI co, lo_, lA_, nI T.length, nI X.length, nI se, sta, dco))), ((g 0), .inl (cA 3, 2000, .inl fd)), ((g 7), .inl (cA 3, 400, .inl ex)), ((g 8), .inl (cA 1, 400, .inr (.inl ti))), ((g 10), .inl (cA 3, 4, .inl pe)), ((g 11), .inl (cA 3, 2001, .inl (upd bk (nI (d + 1)).toNatClampNeg (nI op)))), ((g 18), .inl (cA 3, 2000, .inl kd)), ((g 19), .inl (cA 3, 2000, .inl fr)), ((g 20), .inl (cA 3, 2000, .inl to)), ((g 21), .inl (cA 3, 2000, .inl re)), ((g 23), .inl (cA 3, 2000, .inl ow)), ((g 24), .inl (cA 3, 2000, .inl fi)), ((g 25), .inl (cA 3, 2000, .inl be))] H := hP
        have hD : va_D A [(m0, .inr (6, mF g K (nI a99, 8, nI a) (nI st.length) (nI (ps.length + 1)) (nI (d + 1 + 1), nI la, zI co, lo_, lA_, nI T.length, nI X.length, nI se, sta, dco))), ((g 0), .inl (cA 3, 2000, .inl fd)), ((g 7), .inl (cA 3, 400, .inl ex)), ((g 8), .inl (cA 1, 400, .inr (.inl ti))), ((g 10), .inl (cA 3, 4, .inl pe)), ((g 11), .inl (cA 3, 2001, .inl (upd bk (nI (d + 1)).toNatClampNeg (nI op)))), ((g 18), .inl (cA 3, 2000, .inl kd)), ((g 19), .inl (cA 3, 2000, .inl fr)), ((g 20), .inl (cA 3, 2000, .inl to)), ((g 21), .inl (cA 3, 2000, .inl re)), ((g 23), .inl (cA 3, 2000, .inl ow)), ((g 24), .inl (cA 3, 2000, .inl fi)), ((g 25), .inl (cA 3, 2000, .inl be))] := hD
        rw [nI_clamp (n := d + 1) (by omega)] at hP hD
        have hx9 : ¬ v99 = 0 := hw99.mp ((lg_cmp_lt _ _).mp (Int32.not_le.mp c_62))
        have hno9 : ¬ (a99 = a + 1 ∧ (b a = 64 ∨ tVal (b a) = true)) := by
          rintro ⟨q1, q2⟩
          first
          | exact c_19 (by rw [q1])
          | exact q2.elim (fun q => c_30 (by rw [q]; rfl)) (fun q => by rw [q] at c_42; exact absurd c_42 (by decide))
        exact cRv ((((nI a99, 8, nI a), nI st.length, nI (ps.length + 1), (nI (d + 1 + 1), nI la, zI co, lo_, lA_, nI T.length, nI X.length, nI se, sta, dco)), (ex, ti, pe, upd bk (d + 1) (nI op), kd, fr, to, re, ow, fi, be)) : NU) hx hb hr hlocks d_Md_takeBlock_97 hS hP hD (⟨rfl, nP_T (mb_T (pBlock_F hr99 hx9 hno9)) ⟨⟨by decide, by decide⟩, rfl, T.length, by (try simp only [List.length_cons]); omega, rfl⟩⟩) (Nat.le_refl _) (Nat.le_refl _)
    · refine lv_aload_n hx hb d_Md_takeBlock_22 rfl (lv_at hl 2 rfl) ?_
      refine va_get (D := D) (ci := 6) (v := .ref (g 0)) (C := R_Md) (T := F_Md) (N := 44) hx hb hts (fun w h => List.mem_cons_of_mem _ (i_Md w h)) hown hE.1 hP 0 rfl rfl 0 (by decide) (hts _ (List.mem_cons_of_mem _ iw3_54)) (fun _ h9 => h9) rfl d_Md_takeBlock_23 ?_
      refine lv_iload_n hx hb d_Md_takeBlock_26 rfl (lv_at hl 1 rfl) ?_
      refine va_iald hx hb hE.1 hP 1 3 rfl rfl (vp_in_nI (show a < 2000 by have := (nI_eq (by omega) (by omega)).mp c_19; omega) (by decide)) d_Md_takeBlock_27 ?_
      rw [nI_clamp (n := a) (by omega), hfd a (by omega)]
      refine lv_bipush (v := 64) hx hb d_Md_takeBlock_28 (by decide) ?_
      refine lv_icmp_eq (tgt := 45) hx hb d_Md_takeBlock_30 (by decide) (fun c_30 => ?_) (fun c_30 => ?_)
      · refine lv_iconst (v := 1) hx hb d_Md_takeBlock_45 (by decide) ?_
        refine lv_goto (tgt := 50) hx hb d_Md_takeBlock_46 (by decide) ?_
        refine lv_istore (lv' := [(5, .int 1), (3, .long w99), (2, .int (nI a)), (0, .ref m0), (1, .int (nI op))]) hx hb d_Md_takeBlock_50 hl (by decide) rfl (fun ls hl => ?_)
        refine lv_aload_n hx hb d_Md_takeBlock_52 rfl (lv_at hl 3 rfl) ?_
        refine va_get (D := D) (ci := 6) (v := .int 0) (C := R_Md) (T := F_Md) (N := 44) hx hb hts (fun w h => List.mem_cons_of_mem _ (i_Md w h)) hown hE.1 hP 0 rfl rfl 3 (by decide) (hts _ (List.mem_cons_of_mem _ iw3_57)) (fun _ h9 => h9) rfl d_Md_takeBlock_53 ?_
        refine lv_if_ne (tgt := 77) hx hb d_Md_takeBlock_56 (by decide) (fun c_56 => absurd (by decide) c_56) (fun c_56 => ?_)
        refine lv_lload_n hx hb d_Md_takeBlock_59 rfl (lv_at hl 1 rfl) ?_
        refine lv_lconst (v := 0) hx hb d_Md_takeBlock_60 (by decide) ?_
        refine W.lcmp hx hb d_Md_takeBlock_61 ?_
        refine lv_if_ge (tgt := 77) hx hb d_Md_takeBlock_62 (by decide) (fun c_62 => ?_) (fun c_62 => ?_)
        · refine lv_aload_n hx hb d_Md_takeBlock_77 rfl (lv_at hl 3 rfl) ?_
          refine va_get (D := D) (ci := 6) (v := .ref (g 11)) (C := R_Md) (T := F_Md) (N := 44) hx hb hts (fun w h => List.mem_cons_of_mem _ (i_Md w h)) hown hE.1 hP 0 rfl rfl 11 (by decide) (hts _ (List.mem_cons_of_mem _ iw3_65)) (fun _ h9 => h9) rfl d_Md_takeBlock_78 ?_
          refine lv_aload_n hx hb d_Md_takeBlock_81 rfl (lv_at hl 3 rfl) ?_
          refine va_get (D := D) (ci := 6) (v := .int (nI (d + 1))) (C := R_Md) (T := F_Md) (N := 44) hx hb hts (fun w h => List.mem_cons_of_mem _ (i_Md w h)) hown hE.1 hP 0 rfl rfl 12 (by decide) (hts _ (List.mem_cons_of_mem _ iw3_66)) (fun _ h9 => h9) rfl d_Md_takeBlock_82 ?_
          refine lv_iload_n hx hb d_Md_takeBlock_85 rfl (lv_at hl 4 rfl) ?_
          refine va_iast hx hb hE.1 hP hD hS 5 3 rfl rfl (vp_in_nI (by omega) (by omega)) d_Md_takeBlock_86 (fun H locs hP hD hS => ?_)
          have hP : va_P D cls [(m0, .inr (6, mF g K (nI a99, 0, p) (nI st.length) (nI (ps.length + 1)) (nI (d + 1), nI la, zI co, lo_, lA_, nI T.length, nI X.length, nI se, sta, dco))), ((g 0), .inl (cA 3, 2000, .inl fd)), ((g 7), .inl (cA 3, 400, .inl ex)), ((g 8), .inl (cA 1, 400, .inr (.inl ti))), ((g 10), .inl (cA 3, 4, .inl pe)), ((g 11), .inl (cA 3, 2001, .inl (upd bk (nI (d + 1)).toNatClampNeg (nI op)))), ((g 18), .inl (cA 3, 2000, .inl kd)), ((g 19), .inl (cA 3, 2000, .inl fr)), ((g 20), .inl (cA 3, 2000, .inl to)), ((g 21), .inl (cA 3, 2000, .inl re)), ((g 23), .inl (cA 3, 2000, .inl ow)), ((g 24), .inl (cA 3, 2000, .inl fi)), ((g 25), .inl (cA 3, 2000, .inl be))] H := hP
          have hD : va_D A [(m0, .inr (6, mF g K (nI a99, 0, p) (nI st.length) (nI (ps.length + 1)) (nI (d + 1), nI la, zI co, lo_, lA_, nI T.length, nI X.length, nI se, sta, dco))), ((g 0), .inl (cA 3, 2000, .inl fd)), ((g 7), .inl (cA 3, 400, .inl ex)), ((g 8), .inl (cA 1, 400, .inr (.inl ti))), ((g 10), .inl (cA 3, 4, .inl pe)), ((g 11), .inl (cA 3, 2001, .inl (upd bk (nI (d + 1)).toNatClampNeg (nI op)))), ((g 18), .inl (cA 3, 2000, .inl kd)), ((g 19), .inl (cA 3, 2000, .inl fr)), ((g 20), .inl (cA 3, 2000, .inl to)), ((g 21), .inl (cA 3, 2000, .inl re)), ((g 23), .inl (cA 3, 2000, .inl ow)), ((g 24), .inl (cA 3, 2000, .inl fi)), ((g 25), .inl (cA 3, 2000, .inl be))] := hD
          refine lv_aload_n hx hb d_Md_takeBlock_87 rfl (lv_at hl 3 rfl) ?_
          refine lv_dup hx hb d_Md_takeBlock_88 rfl ?_
          refine va_get (D := D) (ci := 6) (v := .int (nI (d + 1))) (C := R_Md) (T := F_Md) (N := 44) hx hb hts (fun w h => List.mem_cons_of_mem _ (i_Md w h)) hown hE.1 hP 0 rfl rfl 12 (by decide) (hts _ (List.mem_cons_of_mem _ iw3_66)) (fun _ h9 => h9) rfl d_Md_takeBlock_89 ?_
          refine lv_iconst (v := 1) hx hb d_Md_takeBlock_92 (by decide) ?_
          refine lv_iadd hx hb d_Md_takeBlock_93 ?_
          rw [nI_1]
          refine va_put (D := D) (ci := 6) (v := .int (nI (d + 1 + 1))) (ty := .int) (C := R_Md) (T := F_Md) (N := 44) hx hb hts (fun w h => List.mem_cons_of_mem _ (i_Md w h)) t_Md tk_Md n_Md hown hE.1 hP hD hS 0 rfl rfl 12 (by decide) (hts _ (List.mem_cons_of_mem _ iw3_66)) (fun _ h9 => h9) rfl (by decide +kernel) rfl rfl (Nat.le_of_ble_eq_true rfl) d_Md_takeBlock_94 (fun H locs hP hD hS => ?_)
          have hP : va_P D cls [(m0, .inr (6, mF g K (nI a99, 0, p) (nI st.length) (nI (ps.length + 1)) (nI (d + 1 + 1), nI la, zI co, lo_, lA_, nI T.length, nI X.length, nI se, sta, dco))), ((g 0), .inl (cA 3, 2000, .inl fd)), ((g 7), .inl (cA 3, 400, .inl ex)), ((g 8), .inl (cA 1, 400, .inr (.inl ti))), ((g 10), .inl (cA 3, 4, .inl pe)), ((g 11), .inl (cA 3, 2001, .inl (upd bk (nI (d + 1)).toNatClampNeg (nI op)))), ((g 18), .inl (cA 3, 2000, .inl kd)), ((g 19), .inl (cA 3, 2000, .inl fr)), ((g 20), .inl (cA 3, 2000, .inl to)), ((g 21), .inl (cA 3, 2000, .inl re)), ((g 23), .inl (cA 3, 2000, .inl ow)), ((g 24), .inl (cA 3, 2000, .inl fi)), ((g 25), .inl (cA 3, 2000, .inl be))] H := hP
          have hD : va_D A [(m0, .inr (6, mF g K (nI a99, 0, p) (nI st.length) (nI (ps.length + 1)) (nI (d + 1 + 1), nI la, zI co, lo_, lA_, nI T.length, nI X.length, nI se, sta, dco))), ((g 0), .inl (cA 3, 2000, .inl fd)), ((g 7), .inl (cA 3, 400, .inl ex)), ((g 8), .inl (cA 1, 400, .inr (.inl ti))), ((g 10), .inl (cA 3, 4, .inl pe)), ((g 11), .inl (cA 3, 2001, .inl (upd bk (nI (d + 1)).toNatClampNeg (nI op)))), ((g 18), .inl (cA 3, 2000, .inl kd)), ((g 19), .inl (cA 3, 2000, .inl fr)), ((g 20), .inl (cA 3, 2000, .inl to)), ((g 21), .inl (cA 3, 2000, .inl re)), ((g 23), .inl (cA 3, 2000, .inl ow)), ((g 24), .inl (cA 3, 2000, .inl fi)), ((g 25), .inl (cA 3, 2000, .inl be))] := hD
          rw [nI_clamp (n := d + 1) (by omega)] at hP hD
          have hx9 : v99 = 0 := Decidable.byContradiction (fun q => absurd (hw99.mpr q) (Int64.not_lt.mpr ((lg_cmp_ge _ _).mp c_62)))
          exact cRv ((((nI a99, 0, p), nI st.length, nI (ps.length + 1), (nI (d + 1 + 1), nI la, zI co, lo_, lA_, nI T.length, nI X.length, nI se, sta, dco)), (ex, ti, pe, upd bk (d + 1) (nI op), kd, fr, to, re, ow, fi, be)) : NU) hx hb hr hlocks d_Md_takeBlock_97 hS hP hD (⟨rfl, nP_E (mb_E (pBlock_0 hr99 hx9)) ⟨⟨rfl, rfl, rfl, rfl⟩, (fun z hz => by cases hz; exact ⟨rfl, hBL.push (by omega)⟩), hlc, hst, hpe, hTH, hXH⟩⟩) (Nat.le_refl _) (Nat.le_refl _)
        · refine lv_iload hx hb d_Md_takeBlock_65 (lv_at hl 0 rfl) ?_
          refine lv_if_ne (tgt := 77) hx hb d_Md_takeBlock_67 (by decide) (fun c_67 => ?_) (fun c_67 => absurd c_67 (by decide))
          refine lv_aload_n hx hb d_Md_takeBlock_77 rfl (lv_at hl 3 rfl) ?_
          refine va_get (D := D) (ci := 6) (v := .ref (g 11)) (C := R_Md) (T := F_Md) (N := 44) hx hb hts (fun w h => List.mem_cons_of_mem _ (i_Md w h)) hown hE.1 hP 0 rfl rfl 11 (by decide) (hts _ (List.mem_cons_of_mem _ iw3_65)) (fun _ h9 => h9) rfl d_Md_takeBlock_78 ?_
          refine lv_aload_n hx hb d_Md_takeBlock_81 rfl (lv_at hl 3 rfl) ?_
          refine va_get (D := D) (ci := 6) (v := .int (nI (d + 1))) (C := R_Md) (T := F_Md) (N := 44) hx hb hts (fun w h => List.mem_cons_of_mem _ (i_Md w h)) hown hE.1 hP 0 rfl rfl 12 (by decide) (hts _ (List.mem_cons_of_mem _ iw3_66)) (fun _ h9 => h9) rfl d_Md_takeBlock_82 ?_
          refine lv_iload_n hx hb d_Md_takeBlock_85 rfl (lv_at hl 4 rfl) ?_
          refine va_iast hx hb hE.1 hP hD hS 5 3 rfl rfl (vp_in_nI (by omega) (by omega)) d_Md_takeBlock_86 (fun H locs hP hD hS => ?_)
          have hP : va_P D cls [(m0, .inr (6, mF g K (nI a99, 0, p) (nI st.length) (nI (ps.length + 1)) (nI (d + 1), nI la, zI co, lo_, lA_, nI T.length, nI X.length, nI se, sta, dco))), ((g 0), .inl (cA 3, 2000, .inl fd)), ((g 7), .inl (cA 3, 400, .inl ex)), ((g 8), .inl (cA 1, 400, .inr (.inl ti))), ((g 10), .inl (cA 3, 4, .inl pe)), ((g 11), .inl (cA 3, 2001, .inl (upd bk (nI (d + 1)).toNatClampNeg (nI op)))), ((g 18), .inl (cA 3, 2000, .inl kd)), ((g 19), .inl (cA 3, 2000, .inl fr)), ((g 20), .inl (cA 3, 2000, .inl to)), ((g 21), .inl (cA 3, 2000, .inl re)), ((g 23), .inl (cA 3, 2000, .inl ow)), ((g 24), .inl (cA 3, 2000, .inl fi)), ((g 25), .inl (cA 3, 2000, .inl be))] H := hP
          have hD : va_D A [(m0, .inr (6, mF g K (nI a99, 0, p) (nI st.length) (nI (ps.length + 1)) (nI (d + 1), nI la, zI co, lo_, lA_, nI T.length, nI X.length, nI se, sta, dco))), ((g 0), .inl (cA 3, 2000, .inl fd)), ((g 7), .inl (cA 3, 400, .inl ex)), ((g 8), .inl (cA 1, 400, .inr (.inl ti))), ((g 10), .inl (cA 3, 4, .inl pe)), ((g 11), .inl (cA 3, 2001, .inl (upd bk (nI (d + 1)).toNatClampNeg (nI op)))), ((g 18), .inl (cA 3, 2000, .inl kd)), ((g 19), .inl (cA 3, 2000, .inl fr)), ((g 20), .inl (cA 3, 2000, .inl to)), ((g 21), .inl (cA 3, 2000, .inl re)), ((g 23), .inl (cA 3, 2000, .inl ow)), ((g 24), .inl (cA 3, 2000, .inl fi)), ((g 25), .inl (cA 3, 2000, .inl be))] := hD
          refine lv_aload_n hx hb d_Md_takeBlock_87 rfl (lv_at hl 3 rfl) ?_
          refine lv_dup hx hb d_Md_takeBlock_88 rfl ?_
          refine va_get (D := D) (ci := 6) (v := .int (nI (d + 1))) (C := R_Md) (T := F_Md) (N := 44) hx hb hts (fun w h => List.mem_cons_of_mem _ (i_Md w h)) hown hE.1 hP 0 rfl rfl 12 (by decide) (hts _ (List.mem_cons_of_mem _ iw3_66)) (fun _ h9 => h9) rfl d_Md_takeBlock_89 ?_
          refine lv_iconst (v := 1) hx hb d_Md_takeBlock_92 (by decide) ?_
          refine lv_iadd hx hb d_Md_takeBlock_93 ?_
          rw [nI_1]
          refine va_put (D := D) (ci := 6) (v := .int (nI (d + 1 + 1))) (ty := .int) (C := R_Md) (T := F_Md) (N := 44) hx hb hts (fun w h => List.mem_cons_of_mem _ (i_Md w h)) t_Md tk_Md n_Md hown hE.1 hP hD hS 0 rfl rfl 12 (by decide) (hts _ (List.mem_cons_of_mem _ iw3_66)) (fun _ h9 => h9) rfl (by decide +kernel) rfl rfl (Nat.le_of_ble_eq_true rfl) d_Md_takeBlock_94 (fun H locs hP hD hS => ?_)
          have hP : va_P D cls [(m0, .inr (6, mF g K (nI a99, 0, p) (nI st.length) (nI (ps.length + 1)) (nI (d + 1 + 1), nI la, zI co, lo_, lA_, nI T.length, nI X.length, nI se, sta, dco))), ((g 0), .inl (cA 3, 2000, .inl fd)), ((g 7), .inl (cA 3, 400, .inl ex)), ((g 8), .inl (cA 1, 400, .inr (.inl ti))), ((g 10), .inl (cA 3, 4, .inl pe)), ((g 11), .inl (cA 3, 2001, .inl (upd bk (nI (d + 1)).toNatClampNeg (nI op)))), ((g 18), .inl (cA 3, 2000, .inl kd)), ((g 19), .inl (cA 3, 2000, .inl fr)), ((g 20), .inl (cA 3, 2000, .inl to)), ((g 21), .inl (cA 3, 2000, .inl re)), ((g 23), .inl (cA 3, 2000, .inl ow)), ((g 24), .inl (cA 3, 2000, .inl fi)), ((g 25), .inl (cA 3, 2000, .inl be))] H := hP
          have hD : va_D A [(m0, .inr (6, mF g K (nI a99, 0, p) (nI st.length) (nI (ps.length + 1)) (nI (d + 1 + 1), nI la, zI co, lo_, lA_, nI T.length, nI X.length, nI se, sta, dco))), ((g 0), .inl (cA 3, 2000, .inl fd)), ((g 7), .inl (cA 3, 400, .inl ex)), ((g 8), .inl (cA 1, 400, .inr (.inl ti))), ((g 10), .inl (cA 3, 4, .inl pe)), ((g 11), .inl (cA 3, 2001, .inl (upd bk (nI (d + 1)).toNatClampNeg (nI op)))), ((g 18), .inl (cA 3, 2000, .inl kd)), ((g 19), .inl (cA 3, 2000, .inl fr)), ((g 20), .inl (cA 3, 2000, .inl to)), ((g 21), .inl (cA 3, 2000, .inl re)), ((g 23), .inl (cA 3, 2000, .inl ow)), ((g 24), .inl (cA 3, 2000, .inl fi)), ((g 25), .inl (cA 3, 2000, .inl be))] := hD
          rw [nI_clamp (n := d + 1) (by omega)] at hP hD
          have hx9 : ¬ v99 = 0 := hw99.mp ((lg_cmp_lt _ _).mp (Int32.not_le.mp c_62))
          have hy9 : b a = 64 ∨ tVal (b a) = true := by first | exact Or.inl ((nI_eq (a := b a) (b := 64) (by have := hb9 a; omega) (by decide)).mp c_30) | exact Or.inr (zI_n0 c_42)
          exact cRv ((((nI a99, 0, p), nI st.length, nI (ps.length + 1), (nI (d + 1 + 1), nI la, zI co, lo_, lA_, nI T.length, nI X.length, nI se, sta, dco)), (ex, ti, pe, upd bk (d + 1) (nI op), kd, fr, to, re, ow, fi, be)) : NU) hx hb hr hlocks d_Md_takeBlock_97 hS hP hD (⟨rfl, nP_E (mb_E (pBlock_E hr99 hx9 ((nI_eq (by omega) (by omega)).mp c_19) hy9)) ⟨⟨rfl, rfl, rfl, rfl⟩, (fun z hz => by cases hz; exact ⟨rfl, hBL.push (by omega)⟩), hlc, hst, hpe, hTH, hXH⟩⟩) (Nat.le_refl _) (Nat.le_refl _)
      · refine lv_aload_n hx hb d_Md_takeBlock_33 rfl (lv_at hl 2 rfl) ?_
        refine va_get (D := D) (ci := 6) (v := .ref (g 0)) (C := R_Md) (T := F_Md) (N := 44) hx hb hts (fun w h => List.mem_cons_of_mem _ (i_Md w h)) hown hE.1 hP 0 rfl rfl 0 (by decide) (hts _ (List.mem_cons_of_mem _ iw3_54)) (fun _ h9 => h9) rfl d_Md_takeBlock_34 ?_
        refine lv_iload_n hx hb d_Md_takeBlock_37 rfl (lv_at hl 1 rfl) ?_
        refine va_iald hx hb hE.1 hP 1 3 rfl rfl (vp_in_nI (show a < 2000 by have := (nI_eq (by omega) (by omega)).mp c_19; omega) (by decide)) d_Md_takeBlock_38 ?_
        rw [nI_clamp (n := a) (by omega), hfd a (by omega)]
        refine cS0 (As := [.int (nI (b a))]) (rest := []) (n := 1) (r := (zI (tVal (b a)))) ⟨hx, hb, hml, hown, hts⟩ hno hlocks hl.1 (c_Md_isValue l hl9 D cA ad H.size (b a) (hb9 a)) iw4_15 iw4_16 iw1_7 iw4_17 (by decide +kernel) rfl ⟨Nat.le_of_ble_eq_true rfl, Nat.le_of_ble_eq_true rfl⟩ ⟨Nat.le_of_ble_eq_true rfl, Nat.le_of_ble_eq_true rfl⟩ rfl (Nat.le_of_ble_eq_true rfl) d_Md_takeBlock_39 hE hP hD hS hA [0, 1, 2, 3, 4, 5, 6, 7, 8, 9, 10, 11, 12] rfl rfl (fun H locs hP hD hS => ?_)
        refine lv_if_eq (tgt := 49) hx hb d_Md_takeBlock_42 (by decide) (fun c_42 => ?_) (fun c_42 => ?_)
        · refine lv_iconst (v := 0) hx hb d_Md_takeBlock_49 (by decide) ?_
          refine lv_istore (lv' := [(5, .int 0), (3, .long w99), (2, .int (nI a)), (0, .ref m0), (1, .int (nI op))]) hx hb d_Md_takeBlock_50 hl (by decide) rfl (fun ls hl => ?_)
          refine lv_aload_n hx hb d_Md_takeBlock_52 rfl (lv_at hl 3 rfl) ?_
          refine va_get (D := D) (ci := 6) (v := .int 0) (C := R_Md) (T := F_Md) (N := 44) hx hb hts (fun w h => List.mem_cons_of_mem _ (i_Md w h)) hown hE.1 hP 0 rfl rfl 3 (by decide) (hts _ (List.mem_cons_of_mem _ iw3_57)) (fun _ h9 => h9) rfl d_Md_takeBlock_53 ?_
          refine lv_if_ne (tgt := 77) hx hb d_Md_takeBlock_56 (by decide) (fun c_56 => absurd (by decide) c_56) (fun c_56 => ?_)
          refine lv_lload_n hx hb d_Md_takeBlock_59 rfl (lv_at hl 1 rfl) ?_
          refine lv_lconst (v := 0) hx hb d_Md_takeBlock_60 (by decide) ?_
          refine W.lcmp hx hb d_Md_takeBlock_61 ?_
          refine lv_if_ge (tgt := 77) hx hb d_Md_takeBlock_62 (by decide) (fun c_62 => ?_) (fun c_62 => ?_)
          · refine lv_aload_n hx hb d_Md_takeBlock_77 rfl (lv_at hl 3 rfl) ?_
            refine va_get (D := D) (ci := 6) (v := .ref (g 11)) (C := R_Md) (T := F_Md) (N := 44) hx hb hts (fun w h => List.mem_cons_of_mem _ (i_Md w h)) hown hE.1 hP 0 rfl rfl 11 (by decide) (hts _ (List.mem_cons_of_mem _ iw3_65)) (fun _ h9 => h9) rfl d_Md_takeBlock_78 ?_
            refine lv_aload_n hx hb d_Md_takeBlock_81 rfl (lv_at hl 3 rfl) ?_
            refine va_get (D := D) (ci := 6) (v := .int (nI (d + 1))) (C := R_Md) (T := F_Md) (N := 44) hx hb hts (fun w h => List.mem_cons_of_mem _ (i_Md w h)) hown hE.1 hP 0 rfl rfl 12 (by decide) (hts _ (List.mem_cons_of_mem _ iw3_66)) (fun _ h9 => h9) rfl d_Md_takeBlock_82 ?_
            refine lv_iload_n hx hb d_Md_takeBlock_85 rfl (lv_at hl 4 rfl) ?_
            refine va_iast hx hb hE.1 hP hD hS 5 3 rfl rfl (vp_in_nI (by omega) (by omega)) d_Md_takeBlock_86 (fun H locs hP hD hS => ?_)
            have hP : va_P D cls [(m0, .inr (6, mF g K (nI a99, 0, p) (nI st.length) (nI (ps.length + 1)) (nI (d + 1), nI la, zI co, lo_, lA_, nI T.length, nI X.length, nI se, sta, dco))), ((g 0), .inl (cA 3, 2000, .inl fd)), ((g 7), .inl (cA 3, 400, .inl ex)), ((g 8), .inl (cA 1, 400, .inr (.inl ti))), ((g 10), .inl (cA 3, 4, .inl pe)), ((g 11), .inl (cA 3, 2001, .inl (upd bk (nI (d + 1)).toNatClampNeg (nI op)))), ((g 18), .inl (cA 3, 2000, .inl kd)), ((g 19), .inl (cA 3, 2000, .inl fr)), ((g 20), .inl (cA 3, 2000, .inl to)), ((g 21), .inl (cA 3, 2000, .inl re)), ((g 23), .inl (cA 3, 2000, .inl ow)), ((g 24), .inl (cA 3, 2000, .inl fi)), ((g 25), .inl (cA 3, 2000, .inl be))] H := hP
            have hD : va_D A [(m0, .inr (6, mF g K (nI a99, 0, p) (nI st.length) (nI (ps.length + 1)) (nI (d + 1), nI la, zI co, lo_, lA_, nI T.length, nI X.length, nI se, sta, dco))), ((g 0), .inl (cA 3, 2000, .inl fd)), ((g 7), .inl (cA 3, 400, .inl ex)), ((g 8), .inl (cA 1, 400, .inr (.inl ti))), ((g 10), .inl (cA 3, 4, .inl pe)), ((g 11), .inl (cA 3, 2001, .inl (upd bk (nI (d + 1)).toNatClampNeg (nI op)))), ((g 18), .inl (cA 3, 2000, .inl kd)), ((g 19), .inl (cA 3, 2000, .inl fr)), ((g 20), .inl (cA 3, 2000, .inl to)), ((g 21), .inl (cA 3, 2000, .inl re)), ((g 23), .inl (cA 3, 2000, .inl ow)), ((g 24), .inl (cA 3, 2000, .inl fi)), ((g 25), .inl (cA 3, 2000, .inl be))] := hD
            refine lv_aload_n hx hb d_Md_takeBlock_87 rfl (lv_at hl 3 rfl) ?_
            refine lv_dup hx hb d_Md_takeBlock_88 rfl ?_
            refine va_get (D := D) (ci := 6) (v := .int (nI (d + 1))) (C := R_Md) (T := F_Md) (N := 44) hx hb hts (fun w h => List.mem_cons_of_mem _ (i_Md w h)) hown hE.1 hP 0 rfl rfl 12 (by decide) (hts _ (List.mem_cons_of_mem _ iw3_66)) (fun _ h9 => h9) rfl d_Md_takeBlock_89 ?_
            refine lv_iconst (v := 1) hx hb d_Md_takeBlock_92 (by decide) ?_
            refine lv_iadd hx hb d_Md_takeBlock_93 ?_
            rw [nI_1]
            refine va_put (D := D) (ci := 6) (v := .int (nI (d + 1 + 1))) (ty := .int) (C := R_Md) (T := F_Md) (N := 44) hx hb hts (fun w h => List.mem_cons_of_mem _ (i_Md w h)) t_Md tk_Md n_Md hown hE.1 hP hD hS 0 rfl rfl 12 (by decide) (hts _ (List.mem_cons_of_mem _ iw3_66)) (fun _ h9 => h9) rfl (by decide +kernel) rfl rfl (Nat.le_of_ble_eq_true rfl) d_Md_takeBlock_94 (fun H locs hP hD hS => ?_)
            have hP : va_P D cls [(m0, .inr (6, mF g K (nI a99, 0, p) (nI st.length) (nI (ps.length + 1)) (nI (d + 1 + 1), nI la, zI co, lo_, lA_, nI T.length, nI X.length, nI se, sta, dco))), ((g 0), .inl (cA 3, 2000, .inl fd)), ((g 7), .inl (cA 3, 400, .inl ex)), ((g 8), .inl (cA 1, 400, .inr (.inl ti))), ((g 10), .inl (cA 3, 4, .inl pe)), ((g 11), .inl (cA 3, 2001, .inl (upd bk (nI (d + 1)).toNatClampNeg (nI op)))), ((g 18), .inl (cA 3, 2000, .inl kd)), ((g 19), .inl (cA 3, 2000, .inl fr)), ((g 20), .inl (cA 3, 2000, .inl to)), ((g 21), .inl (cA 3, 2000, .inl re)), ((g 23), .inl (cA 3, 2000, .inl ow)), ((g 24), .inl (cA 3, 2000, .inl fi)), ((g 25), .inl (cA 3, 2000, .inl be))] H := hP
            have hD : va_D A [(m0, .inr (6, mF g K (nI a99, 0, p) (nI st.length) (nI (ps.length + 1)) (nI (d + 1 + 1), nI la, zI co, lo_, lA_, nI T.length, nI X.length, nI se, sta, dco))), ((g 0), .inl (cA 3, 2000, .inl fd)), ((g 7), .inl (cA 3, 400, .inl ex)), ((g 8), .inl (cA 1, 400, .inr (.inl ti))), ((g 10), .inl (cA 3, 4, .inl pe)), ((g 11), .inl (cA 3, 2001, .inl (upd bk (nI (d + 1)).toNatClampNeg (nI op)))), ((g 18), .inl (cA 3, 2000, .inl kd)), ((g 19), .inl (cA 3, 2000, .inl fr)), ((g 20), .inl (cA 3, 2000, .inl to)), ((g 21), .inl (cA 3, 2000, .inl re)), ((g 23), .inl (cA 3, 2000, .inl ow)), ((g 24), .inl (cA 3, 2000, .inl fi)), ((g 25), .inl (cA 3, 2000, .inl be))] := hD
            rw [nI_clamp (n := d + 1) (by omega)] at hP hD
            have hx9 : v99 = 0 := Decidable.byContradiction (fun q => absurd (hw99.mpr q) (Int64.not_lt.mpr ((lg_cmp_ge _ _).mp c_62)))
            exact cRv ((((nI a99, 0, p), nI st.length, nI (ps.length + 1), (nI (d + 1 + 1), nI la, zI co, lo_, lA_, nI T.length, nI X.length, nI se, sta, dco)), (ex, ti, pe, upd bk (d + 1) (nI op), kd, fr, to, re, ow, fi, be)) : NU) hx hb hr hlocks d_Md_takeBlock_97 hS hP hD (⟨rfl, nP_E (mb_E (pBlock_0 hr99 hx9)) ⟨⟨rfl, rfl, rfl, rfl⟩, (fun z hz => by cases hz; exact ⟨rfl, hBL.push (by omega)⟩), hlc, hst, hpe, hTH, hXH⟩⟩) (Nat.le_refl _) (Nat.le_refl _)
          · refine lv_iload hx hb d_Md_takeBlock_65 (lv_at hl 0 rfl) ?_
            refine lv_if_ne (tgt := 77) hx hb d_Md_takeBlock_67 (by decide) (fun c_67 => absurd (by decide) c_67) (fun c_67 => ?_)
            refine lv_aload_n hx hb d_Md_takeBlock_70 rfl (lv_at hl 3 rfl) ?_
            refine lv_bipush (v := 8) hx hb d_Md_takeBlock_71 (by decide) ?_
            refine lv_iload_n hx hb d_Md_takeBlock_73 rfl (lv_at hl 2 rfl) ?_
            refine cV (As := [.int 8, .int (nI a)]) (rest := []) (n := 2) (wc := [(m0, .inr (6, mF g K (nI a99, 0, p) (nI st.length) (nI (ps.length + 1)) (nI (d + 1), nI la, zI co, lo_, lA_, nI T.length, nI X.length, nI se, sta, dco)))]) (wr := [((g 0), .inl (cA 3, 2000, .inl fd)), ((g 7), .inl (cA 3, 400, .inl ex)), ((g 8), .inl (cA 1, 400, .inr (.inl ti))), ((g 10), .inl (cA 3, 4, .inl pe)), ((g 11), .inl (cA 3, 2001, .inl bk)), ((g 18), .inl (cA 3, 2000, .inl kd)), ((g 19), .inl (cA 3, 2000, .inl fr)), ((g 20), .inl (cA 3, 2000, .inl to)), ((g 21), .inl (cA 3, 2000, .inl re)), ((g 23), .inl (cA 3, 2000, .inl ow)), ((g 24), .inl (cA 3, 2000, .inl fi)), ((g 25), .inl (cA 3, 2000, .inl be))]) ⟨hx, hb, hml, hown, hts⟩ hno hlocks hl.1 (c_Md_stop l hl9 D cA ad H.size m0 g K (nI st.length) (nI (ps.length + 1)) (nI (d + 1), nI la, zI co, lo_, lA_, nI T.length, nI X.length, nI se, sta, dco) (nI a99) p (8 : Int32) (nI a)) iw3_216 iw3_218 sel_Md_stop iw1_7 iw3_219 (by decide +kernel) rfl ⟨Nat.le_of_ble_eq_true rfl, Nat.le_of_ble_eq_true rfl⟩ ⟨Nat.le_of_ble_eq_true rfl, Nat.le_of_ble_eq_true rfl⟩ rfl (Nat.le_of_ble_eq_true rfl) d_Md_takeBlock_74 hE hP hD hS hA [0] [1, 2, 3, 4, 5, 6, 7, 8, 9, 10, 11, 12] rfl rfl rfl rfl (by decide) (ci := 6) rfl rfl 0 rfl (fun _ h => h.elim) (fun v_74 u_74 H locs hp_74 hP hD hS => ?_)
            obtain rfl := hp_74
            have hP : va_P D cls [(m0, .inr (6, mF g K (nI a99, 8, nI a) (nI st.length) (nI (ps.length + 1)) (nI (d + 1), nI la, zI co, lo_, lA_, nI T.length, nI X.length, nI se, sta, dco))), ((g 0), .inl (cA 3, 2000, .inl fd)), ((g 7), .inl (cA 3, 400, .inl ex)), ((g 8), .inl (cA 1, 400, .inr (.inl ti))), ((g 10), .inl (cA 3, 4, .inl pe)), ((g 11), .inl (cA 3, 2001, .inl bk)), ((g 18), .inl (cA 3, 2000, .inl kd)), ((g 19), .inl (cA 3, 2000, .inl fr)), ((g 20), .inl (cA 3, 2000, .inl to)), ((g 21), .inl (cA 3, 2000, .inl re)), ((g 23), .inl (cA 3, 2000, .inl ow)), ((g 24), .inl (cA 3, 2000, .inl fi)), ((g 25), .inl (cA 3, 2000, .inl be))] H := hP.sub [12, 0, 1, 2, 3, 4, 5, 6, 7, 8, 9, 10, 11] rfl
            have hD : va_D A [(m0, .inr (6, mF g K (nI a99, 8, nI a) (nI st.length) (nI (ps.length + 1)) (nI (d + 1), nI la, zI co, lo_, lA_, nI T.length, nI X.length, nI se, sta, dco))), ((g 0), .inl (cA 3, 2000, .inl fd)), ((g 7), .inl (cA 3, 400, .inl ex)), ((g 8), .inl (cA 1, 400, .inr (.inl ti))), ((g 10), .inl (cA 3, 4, .inl pe)), ((g 11), .inl (cA 3, 2001, .inl bk)), ((g 18), .inl (cA 3, 2000, .inl kd)), ((g 19), .inl (cA 3, 2000, .inl fr)), ((g 20), .inl (cA 3, 2000, .inl to)), ((g 21), .inl (cA 3, 2000, .inl re)), ((g 23), .inl (cA 3, 2000, .inl ow)), ((g 24), .inl (cA 3, 2000, .inl fi)), ((g 25), .inl (cA 3, 2000, .inl be))] := hD.sub [12, 0, 1, 2, 3, 4, 5, 6, 7, 8, 9, 10, 11] (by decide) rfl
            refine W.cs (cells' := 0) (slots' := 0) rfl rfl ?_
            refine W.eq (g2 := F0 m 77 ls []) rfl ?_
            refine lv_aload_n hx hb d_Md_takeBlock_77 rfl (lv_at hl 3 rfl) ?_
            refine va_get (D := D) (ci := 6) (v := .ref (g 11)) (C := R_Md) (T := F_Md) (N := 44) hx hb hts (fun w h => List.mem_cons_of_mem _ (i_Md w h)) hown hE.1 hP 0 rfl rfl 11 (by decide) (hts _ (List.mem_cons_of_mem _ iw3_65)) (fun _ h9 => h9) rfl d_Md_takeBlock_78 ?_
            refine lv_aload_n hx hb d_Md_takeBlock_81 rfl (lv_at hl 3 rfl) ?_
            refine va_get (D := D) (ci := 6) (v := .int (nI (d + 1))) (C := R_Md) (T := F_Md) (N := 44) hx hb hts (fun w h => List.mem_cons_of_mem _ (i_Md w h)) hown hE.1 hP 0 rfl rfl 12 (by decide) (hts _ (List.mem_cons_of_mem _ iw3_66)) (fun _ h9 => h9) rfl d_Md_takeBlock_82 ?_
            refine lv_iload_n hx hb d_Md_takeBlock_85 rfl (lv_at hl 4 rfl) ?_
            refine va_iast hx hb hE.1 hP hD hS 5 3 rfl rfl (vp_in_nI (by omega) (by omega)) d_Md_takeBlock_86 (fun H locs hP hD hS => ?_)
            have hP : va_P D cls [(m0, .inr (6, mF g K (nI a99, 8, nI a) (nI st.length) (nI (ps.length + 1)) (nI (d + 1), nI la, zI co, lo_, lA_, nI T.length, nI X.length, nI se, sta, dco))), ((g 0), .inl (cA 3, 2000, .inl fd)), ((g 7), .inl (cA 3, 400, .inl ex)), ((g 8), .inl (cA 1, 400, .inr (.inl ti))), ((g 10), .inl (cA 3, 4, .inl pe)), ((g 11), .inl (cA 3, 2001, .inl (upd bk (nI (d + 1)).toNatClampNeg (nI op)))), ((g 18), .inl (cA 3, 2000, .inl kd)), ((g 19), .inl (cA 3, 2000, .inl fr)), ((g 20), .inl (cA 3, 2000, .inl to)), ((g 21), .inl (cA 3, 2000, .inl re)), ((g 23), .inl (cA 3, 2000, .inl ow)), ((g 24), .inl (cA 3, 2000, .inl fi)), ((g 25), .inl (cA 3, 2000, .inl be))] H := hP
            have hD : va_D A [(m0, .inr (6, mF g K (nI a99, 8, nI a) (nI st.length) (nI (ps.length + 1)) (nI (d + 1), nI la, zI co, lo_, lA_, nI T.length, nI X.length, nI se, sta, dco))), ((g 0), .inl (cA 3, 2000, .inl fd)), ((g 7), .inl (cA 3, 400, .inl ex)), ((g 8), .inl (cA 1, 400, .inr (.inl ti))), ((g 10), .inl (cA 3, 4, .inl pe)), ((g 11), .inl (cA 3, 2001, .inl (upd bk (nI (d + 1)).toNatClampNeg (nI op)))), ((g 18), .inl (cA 3, 2000, .inl kd)), ((g 19), .inl (cA 3, 2000, .inl fr)), ((g 20), .inl (cA 3, 2000, .inl to)), ((g 21), .inl (cA 3, 2000, .inl re)), ((g 23), .inl (cA 3, 2000, .inl ow)), ((g 24), .inl (cA 3, 2000, .inl fi)), ((g 25), .inl (cA 3, 2000, .inl be))] := hD
            refine lv_aload_n hx hb d_Md_takeBlock_87 rfl (lv_at hl 3 rfl) ?_
            refine lv_dup hx hb d_Md_takeBlock_88 rfl ?_
            refine va_get (D := D) (ci := 6) (v := .int (nI (d + 1))) (C := R_Md) (T := F_Md) (N := 44) hx hb hts (fun w h => List.mem_cons_of_mem _ (i_Md w h)) hown hE.1 hP 0 rfl rfl 12 (by decide) (hts _ (List.mem_cons_of_mem _ iw3_66)) (fun _ h9 => h9) rfl d_Md_takeBlock_89 ?_
            refine lv_iconst (v := 1) hx hb d_Md_takeBlock_92 (by decide) ?_
            refine lv_iadd hx hb d_Md_takeBlock_93 ?_
            rw [nI_1]
            refine va_put (D := D) (ci := 6) (v := .int (nI (d + 1 + 1))) (ty := .int) (C := R_Md) (T := F_Md) (N := 44) hx hb hts (fun w h => List.mem_cons_of_mem _ (i_Md w h)) t_Md tk_Md n_Md hown hE.1 hP hD hS 0 rfl rfl 12 (by decide) (hts _ (List.mem_cons_of_mem _ iw3_66)) (fun _ h9 => h9) rfl (by decide +kernel) rfl rfl (Nat.le_of_ble_eq_true rfl) d_Md_takeBlock_94 (fun H locs hP hD hS => ?_)
            have hP : va_P D cls [(m0, .inr (6, mF g K (nI a99, 8, nI a) (nI st.length) (nI (ps.length + 1)) (nI (d + 1 + 1), nI la, zI co, lo_, lA_, nI T.length, nI X.length, nI se, sta, dco))), ((g 0), .inl (cA 3, 2000, .inl fd)), ((g 7), .inl (cA 3, 400, .inl ex)), ((g 8), .inl (cA 1, 400, .inr (.inl ti))), ((g 10), .inl (cA 3, 4, .inl pe)), ((g 11), .inl (cA 3, 2001, .inl (upd bk (nI (d + 1)).toNatClampNeg (nI op)))), ((g 18), .inl (cA 3, 2000, .inl kd)), ((g 19), .inl (cA 3, 2000, .inl fr)), ((g 20), .inl (cA 3, 2000, .inl to)), ((g 21), .inl (cA 3, 2000, .inl re)), ((g 23), .inl (cA 3, 2000, .inl ow)), ((g 24), .inl (cA 3, 2000, .inl fi)), ((g 25), .inl (cA 3, 2000, .inl be))] H := hP
            have hD : va_D A [(m0, .inr (6, mF g K (nI a99, 8, nI a) (nI st.length) (nI (ps.length + 1)) (nI (d + 1 + 1), nI la, zI co, lo_, lA_, nI T.length, nI X.length, nI se, sta, dco))), ((g 0), .inl (cA 3, 2000, .inl fd)), ((g 7), .inl (cA 3, 400, .inl ex)), ((g 8), .inl (cA 1, 400, .inr (.inl ti))), ((g 10), .inl (cA 3, 4, .inl pe)), ((g 11), .inl (cA 3, 2001, .inl (upd bk (nI (d + 1)).toNatClampNeg (nI op)))), ((g 18), .inl (cA 3, 2000, .inl kd)), ((g 19), .inl (cA 3, 2000, .inl fr)), ((g 20), .inl (cA 3, 2000, .inl to)), ((g 21), .inl (cA 3, 2000, .inl re)), ((g 23), .inl (cA 3, 2000, .inl ow)), ((g 24), .inl (cA 3, 2000, .inl fi)), ((g 25), .inl (cA 3, 2000, .inl be))] := hD
            rw [nI_clamp (n := d + 1) (by omega)] at hP hD
            have hx9 : ¬ v99 = 0 := hw99.mp ((lg_cmp_lt _ _).mp (Int32.not_le.mp c_62))
            have hno9 : ¬ (a99 = a + 1 ∧ (b a = 64 ∨ tVal (b a) = true)) := by
              rintro ⟨q1, q2⟩
              first
              | exact c_19 (by rw [q1])
              | exact q2.elim (fun q => c_30 (by rw [q]; rfl)) (fun q => by rw [q] at c_42; exact absurd c_42 (by decide))
            exact cRv ((((nI a99, 8, nI a), nI st.length, nI (ps.length + 1), (nI (d + 1 + 1), nI la, zI co, lo_, lA_, nI T.length, nI X.length, nI se, sta, dco)), (ex, ti, pe, upd bk (d + 1) (nI op), kd, fr, to, re, ow, fi, be)) : NU) hx hb hr hlocks d_Md_takeBlock_97 hS hP hD (⟨rfl, nP_T (mb_T (pBlock_F hr99 hx9 hno9)) ⟨⟨by decide, by decide⟩, rfl, T.length, by (try simp only [List.length_cons]); omega, rfl⟩⟩) (Nat.le_refl _) (Nat.le_refl _)
        · refine lv_iconst (v := 1) hx hb d_Md_takeBlock_45 (by decide) ?_
          refine lv_goto (tgt := 50) hx hb d_Md_takeBlock_46 (by decide) ?_
          refine lv_istore (lv' := [(5, .int 1), (3, .long w99), (2, .int (nI a)), (0, .ref m0), (1, .int (nI op))]) hx hb d_Md_takeBlock_50 hl (by decide) rfl (fun ls hl => ?_)
          refine lv_aload_n hx hb d_Md_takeBlock_52 rfl (lv_at hl 3 rfl) ?_
          refine va_get (D := D) (ci := 6) (v := .int 0) (C := R_Md) (T := F_Md) (N := 44) hx hb hts (fun w h => List.mem_cons_of_mem _ (i_Md w h)) hown hE.1 hP 0 rfl rfl 3 (by decide) (hts _ (List.mem_cons_of_mem _ iw3_57)) (fun _ h9 => h9) rfl d_Md_takeBlock_53 ?_
          refine lv_if_ne (tgt := 77) hx hb d_Md_takeBlock_56 (by decide) (fun c_56 => absurd (by decide) c_56) (fun c_56 => ?_)
          refine lv_lload_n hx hb d_Md_takeBlock_59 rfl (lv_at hl 1 rfl) ?_
          refine lv_lconst (v := 0) hx hb d_Md_takeBlock_60 (by decide) ?_
          refine W.lcmp hx hb d_Md_takeBlock_61 ?_
          refine lv_if_ge (tgt := 77) hx hb d_Md_takeBlock_62 (by decide) (fun c_62 => ?_) (fun c_62 => ?_)
          · refine lv_aload_n hx hb d_Md_takeBlock_77 rfl (lv_at hl 3 rfl) ?_
            refine va_get (D := D) (ci := 6) (v := .ref (g 11)) (C := R_Md) (T := F_Md) (N := 44) hx hb hts (fun w h => List.mem_cons_of_mem _ (i_Md w h)) hown hE.1 hP 0 rfl rfl 11 (by decide) (hts _ (List.mem_cons_of_mem _ iw3_65)) (fun _ h9 => h9) rfl d_Md_takeBlock_78 ?_
            refine lv_aload_n hx hb d_Md_takeBlock_81 rfl (lv_at hl 3 rfl) ?_
            refine va_get (D := D) (ci := 6) (v := .int (nI (d + 1))) (C := R_Md) (T := F_Md) (N := 44) hx hb hts (fun w h => List.mem_cons_of_mem _ (i_Md w h)) hown hE.1 hP 0 rfl rfl 12 (by decide) (hts _ (List.mem_cons_of_mem _ iw3_66)) (fun _ h9 => h9) rfl d_Md_takeBlock_82 ?_
            refine lv_iload_n hx hb d_Md_takeBlock_85 rfl (lv_at hl 4 rfl) ?_
            refine va_iast hx hb hE.1 hP hD hS 5 3 rfl rfl (vp_in_nI (by omega) (by omega)) d_Md_takeBlock_86 (fun H locs hP hD hS => ?_)
            have hP : va_P D cls [(m0, .inr (6, mF g K (nI a99, 0, p) (nI st.length) (nI (ps.length + 1)) (nI (d + 1), nI la, zI co, lo_, lA_, nI T.length, nI X.length, nI se, sta, dco))), ((g 0), .inl (cA 3, 2000, .inl fd)), ((g 7), .inl (cA 3, 400, .inl ex)), ((g 8), .inl (cA 1, 400, .inr (.inl ti))), ((g 10), .inl (cA 3, 4, .inl pe)), ((g 11), .inl (cA 3, 2001, .inl (upd bk (nI (d + 1)).toNatClampNeg (nI op)))), ((g 18), .inl (cA 3, 2000, .inl kd)), ((g 19), .inl (cA 3, 2000, .inl fr)), ((g 20), .inl (cA 3, 2000, .inl to)), ((g 21), .inl (cA 3, 2000, .inl re)), ((g 23), .inl (cA 3, 2000, .inl ow)), ((g 24), .inl (cA 3, 2000, .inl fi)), ((g 25), .inl (cA 3, 2000, .inl be))] H := hP
            have hD : va_D A [(m0, .inr (6, mF g K (nI a99, 0, p) (nI st.length) (nI (ps.length + 1)) (nI (d + 1), nI la, zI co, lo_, lA_, nI T.length, nI X.length, nI se, sta, dco))), ((g 0), .inl (cA 3, 2000, .inl fd)), ((g 7), .inl (cA 3, 400, .inl ex)), ((g 8), .inl (cA 1, 400, .inr (.inl ti))), ((g 10), .inl (cA 3, 4, .inl pe)), ((g 11), .inl (cA 3, 2001, .inl (upd bk (nI (d + 1)).toNatClampNeg (nI op)))), ((g 18), .inl (cA 3, 2000, .inl kd)), ((g 19), .inl (cA 3, 2000, .inl fr)), ((g 20), .inl (cA 3, 2000, .inl to)), ((g 21), .inl (cA 3, 2000, .inl re)), ((g 23), .inl (cA 3, 2000, .inl ow)), ((g 24), .inl (cA 3, 2000, .inl fi)), ((g 25), .inl (cA 3, 2000, .inl be))] := hD
            refine lv_aload_n hx hb d_Md_takeBlock_87 rfl (lv_at hl 3 rfl) ?_
            refine lv_dup hx hb d_Md_takeBlock_88 rfl ?_
            refine va_get (D := D) (ci := 6) (v := .int (nI (d + 1))) (C := R_Md) (T := F_Md) (N := 44) hx hb hts (fun w h => List.mem_cons_of_mem _ (i_Md w h)) hown hE.1 hP 0 rfl rfl 12 (by decide) (hts _ (List.mem_cons_of_mem _ iw3_66)) (fun _ h9 => h9) rfl d_Md_takeBlock_89 ?_
            refine lv_iconst (v := 1) hx hb d_Md_takeBlock_92 (by decide) ?_
            refine lv_iadd hx hb d_Md_takeBlock_93 ?_
            rw [nI_1]
            refine va_put (D := D) (ci := 6) (v := .int (nI (d + 1 + 1))) (ty := .int) (C := R_Md) (T := F_Md) (N := 44) hx hb hts (fun w h => List.mem_cons_of_mem _ (i_Md w h)) t_Md tk_Md n_Md hown hE.1 hP hD hS 0 rfl rfl 12 (by decide) (hts _ (List.mem_cons_of_mem _ iw3_66)) (fun _ h9 => h9) rfl (by decide +kernel) rfl rfl (Nat.le_of_ble_eq_true rfl) d_Md_takeBlock_94 (fun H locs hP hD hS => ?_)
            have hP : va_P D cls [(m0, .inr (6, mF g K (nI a99, 0, p) (nI st.length) (nI (ps.length + 1)) (nI (d + 1 + 1), nI la, zI co, lo_, lA_, nI T.length, nI X.length, nI se, sta, dco))), ((g 0), .inl (cA 3, 2000, .inl fd)), ((g 7), .inl (cA 3, 400, .inl ex)), ((g 8), .inl (cA 1, 400, .inr (.inl ti))), ((g 10), .inl (cA 3, 4, .inl pe)), ((g 11), .inl (cA 3, 2001, .inl (upd bk (nI (d + 1)).toNatClampNeg (nI op)))), ((g 18), .inl (cA 3, 2000, .inl kd)), ((g 19), .inl (cA 3, 2000, .inl fr)), ((g 20), .inl (cA 3, 2000, .inl to)), ((g 21), .inl (cA 3, 2000, .inl re)), ((g 23), .inl (cA 3, 2000, .inl ow)), ((g 24), .inl (cA 3, 2000, .inl fi)), ((g 25), .inl (cA 3, 2000, .inl be))] H := hP
            have hD : va_D A [(m0, .inr (6, mF g K (nI a99, 0, p) (nI st.length) (nI (ps.length + 1)) (nI (d + 1 + 1), nI la, zI co, lo_, lA_, nI T.length, nI X.length, nI se, sta, dco))), ((g 0), .inl (cA 3, 2000, .inl fd)), ((g 7), .inl (cA 3, 400, .inl ex)), ((g 8), .inl (cA 1, 400, .inr (.inl ti))), ((g 10), .inl (cA 3, 4, .inl pe)), ((g 11), .inl (cA 3, 2001, .inl (upd bk (nI (d + 1)).toNatClampNeg (nI op)))), ((g 18), .inl (cA 3, 2000, .inl kd)), ((g 19), .inl (cA 3, 2000, .inl fr)), ((g 20), .inl (cA 3, 2000, .inl to)), ((g 21), .inl (cA 3, 2000, .inl re)), ((g 23), .inl (cA 3, 2000, .inl ow)), ((g 24), .inl (cA 3, 2000, .inl fi)), ((g 25), .inl (cA 3, 2000, .inl be))] := hD
            rw [nI_clamp (n := d + 1) (by omega)] at hP hD
            have hx9 : v99 = 0 := Decidable.byContradiction (fun q => absurd (hw99.mpr q) (Int64.not_lt.mpr ((lg_cmp_ge _ _).mp c_62)))
            exact cRv ((((nI a99, 0, p), nI st.length, nI (ps.length + 1), (nI (d + 1 + 1), nI la, zI co, lo_, lA_, nI T.length, nI X.length, nI se, sta, dco)), (ex, ti, pe, upd bk (d + 1) (nI op), kd, fr, to, re, ow, fi, be)) : NU) hx hb hr hlocks d_Md_takeBlock_97 hS hP hD (⟨rfl, nP_E (mb_E (pBlock_0 hr99 hx9)) ⟨⟨rfl, rfl, rfl, rfl⟩, (fun z hz => by cases hz; exact ⟨rfl, hBL.push (by omega)⟩), hlc, hst, hpe, hTH, hXH⟩⟩) (Nat.le_refl _) (Nat.le_refl _)
          · refine lv_iload hx hb d_Md_takeBlock_65 (lv_at hl 0 rfl) ?_
            refine lv_if_ne (tgt := 77) hx hb d_Md_takeBlock_67 (by decide) (fun c_67 => ?_) (fun c_67 => absurd c_67 (by decide))
            refine lv_aload_n hx hb d_Md_takeBlock_77 rfl (lv_at hl 3 rfl) ?_
            refine va_get (D := D) (ci := 6) (v := .ref (g 11)) (C := R_Md) (T := F_Md) (N := 44) hx hb hts (fun w h => List.mem_cons_of_mem _ (i_Md w h)) hown hE.1 hP 0 rfl rfl 11 (by decide) (hts _ (List.mem_cons_of_mem _ iw3_65)) (fun _ h9 => h9) rfl d_Md_takeBlock_78 ?_
            refine lv_aload_n hx hb d_Md_takeBlock_81 rfl (lv_at hl 3 rfl) ?_
            refine va_get (D := D) (ci := 6) (v := .int (nI (d + 1))) (C := R_Md) (T := F_Md) (N := 44) hx hb hts (fun w h => List.mem_cons_of_mem _ (i_Md w h)) hown hE.1 hP 0 rfl rfl 12 (by decide) (hts _ (List.mem_cons_of_mem _ iw3_66)) (fun _ h9 => h9) rfl d_Md_takeBlock_82 ?_
            refine lv_iload_n hx hb d_Md_takeBlock_85 rfl (lv_at hl 4 rfl) ?_
            refine va_iast hx hb hE.1 hP hD hS 5 3 rfl rfl (vp_in_nI (by omega) (by omega)) d_Md_takeBlock_86 (fun H locs hP hD hS => ?_)
            have hP : va_P D cls [(m0, .inr (6, mF g K (nI a99, 0, p) (nI st.length) (nI (ps.length + 1)) (nI (d + 1), nI la, zI co, lo_, lA_, nI T.length, nI X.length, nI se, sta, dco))), ((g 0), .inl (cA 3, 2000, .inl fd)), ((g 7), .inl (cA 3, 400, .inl ex)), ((g 8), .inl (cA 1, 400, .inr (.inl ti))), ((g 10), .inl (cA 3, 4, .inl pe)), ((g 11), .inl (cA 3, 2001, .inl (upd bk (nI (d + 1)).toNatClampNeg (nI op)))), ((g 18), .inl (cA 3, 2000, .inl kd)), ((g 19), .inl (cA 3, 2000, .inl fr)), ((g 20), .inl (cA 3, 2000, .inl to)), ((g 21), .inl (cA 3, 2000, .inl re)), ((g 23), .inl (cA 3, 2000, .inl ow)), ((g 24), .inl (cA 3, 2000, .inl fi)), ((g 25), .inl (cA 3, 2000, .inl be))] H := hP
            have hD : va_D A [(m0, .inr (6, mF g K (nI a99, 0, p) (nI st.length) (nI (ps.length + 1)) (nI (d + 1), nI la, zI co, lo_, lA_, nI T.length, nI X.length, nI se, sta, dco))), ((g 0), .inl (cA 3, 2000, .inl fd)), ((g 7), .inl (cA 3, 400, .inl ex)), ((g 8), .inl (cA 1, 400, .inr (.inl ti))), ((g 10), .inl (cA 3, 4, .inl pe)), ((g 11), .inl (cA 3, 2001, .inl (upd bk (nI (d + 1)).toNatClampNeg (nI op)))), ((g 18), .inl (cA 3, 2000, .inl kd)), ((g 19), .inl (cA 3, 2000, .inl fr)), ((g 20), .inl (cA 3, 2000, .inl to)), ((g 21), .inl (cA 3, 2000, .inl re)), ((g 23), .inl (cA 3, 2000, .inl ow)), ((g 24), .inl (cA 3, 2000, .inl fi)), ((g 25), .inl (cA 3, 2000, .inl be))] := hD
            refine lv_aload_n hx hb d_Md_takeBlock_87 rfl (lv_at hl 3 rfl) ?_
            refine lv_dup hx hb d_Md_takeBlock_88 rfl ?_
            refine va_get (D := D) (ci := 6) (v := .int (nI (d + 1))) (C := R_Md) (T := F_Md) (N := 44) hx hb hts (fun w h => List.mem_cons_of_mem _ (i_Md w h)) hown hE.1 hP 0 rfl rfl 12 (by decide) (hts _ (List.mem_cons_of_mem _ iw3_66)) (fun _ h9 => h9) rfl d_Md_takeBlock_89 ?_
            refine lv_iconst (v := 1) hx hb d_Md_takeBlock_92 (by decide) ?_
            refine lv_iadd hx hb d_Md_takeBlock_93 ?_
            rw [nI_1]
            refine va_put (D := D) (ci := 6) (v := .int (nI (d + 1 + 1))) (ty := .int) (C := R_Md) (T := F_Md) (N := 44) hx hb hts (fun w h => List.mem_cons_of_mem _ (i_Md w h)) t_Md tk_Md n_Md hown hE.1 hP hD hS 0 rfl rfl 12 (by decide) (hts _ (List.mem_cons_of_mem _ iw3_66)) (fun _ h9 => h9) rfl (by decide +kernel) rfl rfl (Nat.le_of_ble_eq_true rfl) d_Md_takeBlock_94 (fun H locs hP hD hS => ?_)
            have hP : va_P D cls [(m0, .inr (6, mF g K (nI a99, 0, p) (nI st.length) (nI (ps.length + 1)) (nI (d + 1 + 1), nI la, zI co, lo_, lA_, nI T.length, nI X.length, nI se, sta, dco))), ((g 0), .inl (cA 3, 2000, .inl fd)), ((g 7), .inl (cA 3, 400, .inl ex)), ((g 8), .inl (cA 1, 400, .inr (.inl ti))), ((g 10), .inl (cA 3, 4, .inl pe)), ((g 11), .inl (cA 3, 2001, .inl (upd bk (nI (d + 1)).toNatClampNeg (nI op)))), ((g 18), .inl (cA 3, 2000, .inl kd)), ((g 19), .inl (cA 3, 2000, .inl fr)), ((g 20), .inl (cA 3, 2000, .inl to)), ((g 21), .inl (cA 3, 2000, .inl re)), ((g 23), .inl (cA 3, 2000, .inl ow)), ((g 24), .inl (cA 3, 2000, .inl fi)), ((g 25), .inl (cA 3, 2000, .inl be))] H := hP
            have hD : va_D A [(m0, .inr (6, mF g K (nI a99, 0, p) (nI st.length) (nI (ps.length + 1)) (nI (d + 1 + 1), nI la, zI co, lo_, lA_, nI T.length, nI X.length, nI se, sta, dco))), ((g 0), .inl (cA 3, 2000, .inl fd)), ((g 7), .inl (cA 3, 400, .inl ex)), ((g 8), .inl (cA 1, 400, .inr (.inl ti))), ((g 10), .inl (cA 3, 4, .inl pe)), ((g 11), .inl (cA 3, 2001, .inl (upd bk (nI (d + 1)).toNatClampNeg (nI op)))), ((g 18), .inl (cA 3, 2000, .inl kd)), ((g 19), .inl (cA 3, 2000, .inl fr)), ((g 20), .inl (cA 3, 2000, .inl to)), ((g 21), .inl (cA 3, 2000, .inl re)), ((g 23), .inl (cA 3, 2000, .inl ow)), ((g 24), .inl (cA 3, 2000, .inl fi)), ((g 25), .inl (cA 3, 2000, .inl be))] := hD
            rw [nI_clamp (n := d + 1) (by omega)] at hP hD
            have hx9 : ¬ v99 = 0 := hw99.mp ((lg_cmp_lt _ _).mp (Int32.not_le.mp c_62))
            have hy9 : b a = 64 ∨ tVal (b a) = true := by first | exact Or.inl ((nI_eq (a := b a) (b := 64) (by have := hb9 a; omega) (by decide)).mp c_30) | exact Or.inr (zI_n0 c_42)
            exact cRv ((((nI a99, 0, p), nI st.length, nI (ps.length + 1), (nI (d + 1 + 1), nI la, zI co, lo_, lA_, nI T.length, nI X.length, nI se, sta, dco)), (ex, ti, pe, upd bk (d + 1) (nI op), kd, fr, to, re, ow, fi, be)) : NU) hx hb hr hlocks d_Md_takeBlock_97 hS hP hD (⟨rfl, nP_E (mb_E (pBlock_E hr99 hx9 ((nI_eq (by omega) (by omega)).mp c_19) hy9)) ⟨⟨rfl, rfl, rfl, rfl⟩, (fun z hz => by cases hz; exact ⟨rfl, hBL.push (by omega)⟩), hlc, hst, hpe, hTH, hXH⟩⟩) (Nat.le_refl _) (Nat.le_refl _)
set_option maxHeartbeats 4000000 in
set_option maxRecDepth 100000 in
/-- takeOther(begin) -/
theorem c_Md_takeOther (l : Launch) (hl9 : l.stackTraces = false) (D : va_G) (cA : Nat → ClassId) (ad : Nat → Nat) (sz : Nat) (m0 : Nat) (g : Nat → Nat) (K : MK) (fd : Nat → Int32) (b : Nat → Nat) (N lm a : Nat) (ps : List Nat) (hps : ps.length ≤ 2) (hlm : lm ≤ N) (hN : N ≤ 2000) (hfd : ∀ i, i < N → fd i = nI (b i)) (hb9 : ∀ i, b i < 256) (ha : a ≤ lm) (p : Int32) (st : List IT) (hs9 : st.length ≤ 300) (d : Nat) (E : Nat → Bool) (hd9 : d < 2000) (la : Nat) (co : Bool) (lo_ : Int64) (lA_ : Int32) (lc : Option (Nat × Nat)) (T : TL) (hT9 : T.length < 2000) (X : XL) (hX9 : X.length < 2000) (se : Nat) (sta dco : Int64) (ex : Nat → Int32) (ti : Nat → Int64) (pe bk kd fr to re ow fi be : Nat → Int32) (hBL : BL d E bk) (hlc : ∀ z, lc = some z → lo_ = lN z.1 ∧ lA_ = nI z.2) (hst : ST ex ti (.inl 21 :: st)) (hpe : PE pe (lm :: ps)) (hTH : TH kd fr to re T) (hXH : XH ow fi be X) (bg : Nat) :
    cM l y_Md_takeOther (.code y_Md_takeOther b_Md_takeOther 5 none :: wAll) ({ frames := 3, cells := 0, slots := 0, locals := 66 }) D cA ad [.ref m0, .int (nI bg)] [(m0, .inr (6, mF g K (nI a, 0, p) (nI (st.length + 1)) (nI (ps.length + 1)) (nI (d + 1), nI la, zI co, lo_, lA_, nI T.length, nI X.length, nI se, sta, dco))), ((g 0), .inl (cA 3, 2000, .inl fd)), ((g 7), .inl (cA 3, 400, .inl ex)), ((g 8), .inl (cA 1, 400, .inr (.inl ti))), ((g 10), .inl (cA 3, 4, .inl pe)), ((g 11), .inl (cA 3, 2001, .inl bk)), ((g 18), .inl (cA 3, 2000, .inl kd)), ((g 19), .inl (cA 3, 2000, .inl fr)), ((g 20), .inl (cA 3, 2000, .inl to)), ((g 21), .inl (cA 3, 2000, .inl re)), ((g 23), .inl (cA 3, 2000, .inl ow)), ((g 24), .inl (cA 3, 2000, .inl fi)), ((g 25), .inl (cA 3, 2000, .inl be))] sz (fun v u => v = none ∧ nP (mb (pS252 b lm co bg a) (fun sh a2 => mSh b lm st ps la co lc T X se sta dco d E bg sh a2)) p u) (fun _ => False) (nW cA m0 g K fd) (fun _ => (0, 0)) := by
  refine cM.ofW (cc := b_Md_takeOther) (maxL := 5) (ret := none) (by decide) (Nat.le_of_ble_eq_true rfl) ?_
  intro pg ev s m bw meth cdx A ls hF hsz hA hE hP hD hl
  obtain ⟨⟨hx, hb, hml, hown, hts⟩, hr, hno, hlocks, hin⟩ := hF
  subst hsz
  have hown : s.vm.findClass "ModuleBytesModel" = some m.cls := hown
  have hS : va_S A s.heap s.heap [] := va_S.rf
  have hl : lv_has ls 5 [(0, .ref m0), (1, .int (nI bg))] := hl
  have hP : va_P D cls [(m0, .inr (6, mF g K (nI a, 0, p) (nI (st.length + 1)) (nI (ps.length + 1)) (nI (d + 1), nI la, zI co, lo_, lA_, nI T.length, nI X.length, nI se, sta, dco))), ((g 0), .inl (cA 3, 2000, .inl fd)), ((g 7), .inl (cA 3, 400, .inl ex)), ((g 8), .inl (cA 1, 400, .inr (.inl ti))), ((g 10), .inl (cA 3, 4, .inl pe)), ((g 11), .inl (cA 3, 2001, .inl bk)), ((g 18), .inl (cA 3, 2000, .inl kd)), ((g 19), .inl (cA 3, 2000, .inl fr)), ((g 20), .inl (cA 3, 2000, .inl to)), ((g 21), .inl (cA 3, 2000, .inl re)), ((g 23), .inl (cA 3, 2000, .inl ow)), ((g 24), .inl (cA 3, 2000, .inl fi)), ((g 25), .inl (cA 3, 2000, .inl be))] s.heap := hP
  have hD : va_D A [(m0, .inr (6, mF g K (nI a, 0, p) (nI (st.length + 1)) (nI (ps.length + 1)) (nI (d + 1), nI la, zI co, lo_, lA_, nI T.length, nI X.length, nI se, sta, dco))), ((g 0), .inl (cA 3, 2000, .inl fd)), ((g 7), .inl (cA 3, 400, .inl ex)), ((g 8), .inl (cA 1, 400, .inr (.inl ti))), ((g 10), .inl (cA 3, 4, .inl pe)), ((g 11), .inl (cA 3, 2001, .inl bk)), ((g 18), .inl (cA 3, 2000, .inl kd)), ((g 19), .inl (cA 3, 2000, .inl fr)), ((g 20), .inl (cA 3, 2000, .inl to)), ((g 21), .inl (cA 3, 2000, .inl re)), ((g 23), .inl (cA 3, 2000, .inl ow)), ((g 24), .inl (cA 3, 2000, .inl fi)), ((g 25), .inl (cA 3, 2000, .inl be))] := hD
  refine lv_aload_n hx hb d_Md_takeOther_0 rfl (lv_at hl 0 rfl) ?_
  refine cV (As := []) (rest := []) (n := 0) (wc := [(m0, .inr (6, mF g K (nI a, 0, p) (nI (st.length + 1)) (nI (ps.length + 1)) (nI (d + 1), nI la, zI co, lo_, lA_, nI T.length, nI X.length, nI se, sta, dco))), ((g 0), .inl (cA 3, 2000, .inl fd)), ((g 10), .inl (cA 3, 4, .inl pe))]) (wr := [((g 7), .inl (cA 3, 400, .inl ex)), ((g 8), .inl (cA 1, 400, .inr (.inl ti))), ((g 11), .inl (cA 3, 2001, .inl bk)), ((g 18), .inl (cA 3, 2000, .inl kd)), ((g 19), .inl (cA 3, 2000, .inl fr)), ((g 20), .inl (cA 3, 2000, .inl to)), ((g 21), .inl (cA 3, 2000, .inl re)), ((g 23), .inl (cA 3, 2000, .inl ow)), ((g 24), .inl (cA 3, 2000, .inl fi)), ((g 25), .inl (cA 3, 2000, .inl be))]) ⟨hx, hb, hml, hown, hts⟩ hno hlocks hl.1 (c_Md_takeU32 l hl9 D cA ad s.heap.size m0 g K (nI (st.length + 1)) (ps.length + 1) (nI (d + 1), nI la, zI co, lo_, lA_, nI T.length, nI X.length, nI se, sta, dco) fd pe b N lm ⟨by omega, by omega⟩ (show pe (ps.length + 1 - 1) = nI lm from hpe.1) hlm hN hfd hb9 a p (by omega) ) iw3_228 iw3_230 sel_Md_takeU32 iw1_7 iw3_231 (by decide +kernel) rfl ⟨Nat.le_of_ble_eq_true rfl, Nat.le_of_ble_eq_true rfl⟩ ⟨Nat.le_of_ble_eq_true rfl, Nat.le_of_ble_eq_true rfl⟩ rfl (Nat.le_of_ble_eq_true rfl) d_Md_takeOther_1 hE hP hD hS hA [0, 1, 4] [2, 3, 5, 6, 7, 8, 9, 10, 11, 12] rfl rfl rfl rfl (by decide) (ci := 6) rfl rfl 0 rfl (fun _ h => h.elim) (fun v_1 u_1 H locs hp_1 hP hD hS => ?_)
  rcases hp_1 with ⟨f100, q100, hr100, hf100, hB100, ⟨w100, rfl⟩, zz100, hzz100, hzx100⟩ | ⟨v100, a100, hr100, rfl, rfl⟩
  · obtain ⟨x100, y100, z100⟩ := u_1
    cases hB100
    have hzx100 : x100 = nI zz100 := hzx100
    subst hzx100
    have hP : va_P D cls [(m0, .inr (6, mF g K (nI zz100, nI f100, nI q100) (nI (st.length + 1)) (nI (ps.length + 1)) (nI (d + 1), nI la, zI co, lo_, lA_, nI T.length, nI X.length, nI se, sta, dco))), ((g 0), .inl (cA 3, 2000, .inl fd)), ((g 7), .inl (cA 3, 400, .inl ex)), ((g 8), .inl (cA 1, 400, .inr (.inl ti))), ((g 10), .inl (cA 3, 4, .inl pe)), ((g 11), .inl (cA 3, 2001, .inl bk)), ((g 18), .inl (cA 3, 2000, .inl kd)), ((g 19), .inl (cA 3, 2000, .inl fr)), ((g 20), .inl (cA 3, 2000, .inl to)), ((g 21), .inl (cA 3, 2000, .inl re)), ((g 23), .inl (cA 3, 2000, .inl ow)), ((g 24), .inl (cA 3, 2000, .inl fi)), ((g 25), .inl (cA 3, 2000, .inl be))] H := hP.sub [10, 11, 0, 1, 12, 2, 3, 4, 5, 6, 7, 8, 9] rfl
    have hD : va_D A [(m0, .inr (6, mF g K (nI zz100, nI f100, nI q100) (nI (st.length + 1)) (nI (ps.length + 1)) (nI (d + 1), nI la, zI co, lo_, lA_, nI T.length, nI X.length, nI se, sta, dco))), ((g 0), .inl (cA 3, 2000, .inl fd)), ((g 7), .inl (cA 3, 400, .inl ex)), ((g 8), .inl (cA 1, 400, .inr (.inl ti))), ((g 10), .inl (cA 3, 4, .inl pe)), ((g 11), .inl (cA 3, 2001, .inl bk)), ((g 18), .inl (cA 3, 2000, .inl kd)), ((g 19), .inl (cA 3, 2000, .inl fr)), ((g 20), .inl (cA 3, 2000, .inl to)), ((g 21), .inl (cA 3, 2000, .inl re)), ((g 23), .inl (cA 3, 2000, .inl ow)), ((g 24), .inl (cA 3, 2000, .inl fi)), ((g 25), .inl (cA 3, 2000, .inl be))] := hD.sub [10, 11, 0, 1, 12, 2, 3, 4, 5, 6, 7, 8, 9] (by decide) rfl
    refine W.cs (cells' := 0) (slots' := 0) rfl rfl ?_
    refine W.eq (g2 := F0 m 4 ls [.long w100]) rfl ?_
    refine lv_lstore_n (lv' := [(2, .long w100), (0, .ref m0), (1, .int (nI bg))]) hx hb d_Md_takeOther_4 rfl hl (by decide) rfl (fun ls hl => ?_)
    refine lv_aload_n hx hb d_Md_takeOther_5 rfl (lv_at hl 1 rfl) ?_
    refine va_get (D := D) (ci := 6) (v := .int (nI f100)) (C := R_Md) (T := F_Md) (N := 44) hx hb hts (fun w h => List.mem_cons_of_mem _ (i_Md w h)) hown hE.1 hP 0 rfl rfl 3 (by decide) (hts _ (List.mem_cons_of_mem _ iw3_57)) (fun _ h9 => h9) rfl d_Md_takeOther_6 ?_
    refine lv_if_le (tgt := 13) hx hb d_Md_takeOther_9 (by decide) (fun c_9 => absurd c_9 (hf100.nle)) (fun c_9 => ?_)
    exact cRv ((((nI zz100, nI f100, nI q100), nI (st.length + 1), nI (ps.length + 1), (nI (d + 1), nI la, zI co, lo_, lA_, nI T.length, nI X.length, nI se, sta, dco)), (ex, ti, pe, bk, kd, fr, to, re, ow, fi, be)) : NU) hx hb hr hlocks d_Md_takeOther_12 hS hP hD (⟨rfl, nP_T (mb_T (pS252_T hr100)) ⟨hf100, rfl, T.length, by (try simp only [List.length_cons]); omega, rfl⟩⟩) (Nat.le_refl _) (Nat.le_refl _)
  · obtain ⟨hla100, hgt100, hv100⟩ := (pU32_ok (show a ≤ lm by omega) hr100)
    have hP : va_P D cls [(m0, .inr (6, mF g K (nI a100, 0, p) (nI (st.length + 1)) (nI (ps.length + 1)) (nI (d + 1), nI la, zI co, lo_, lA_, nI T.length, nI X.length, nI se, sta, dco))), ((g 0), .inl (cA 3, 2000, .inl fd)), ((g 7), .inl (cA 3, 400, .inl ex)), ((g 8), .inl (cA 1, 400, .inr (.inl ti))), ((g 10), .inl (cA 3, 4, .inl pe)), ((g 11), .inl (cA 3, 2001, .inl bk)), ((g 18), .inl (cA 3, 2000, .inl kd)), ((g 19), .inl (cA 3, 2000, .inl fr)), ((g 20), .inl (cA 3, 2000, .inl to)), ((g 21), .inl (cA 3, 2000, .inl re)), ((g 23), .inl (cA 3, 2000, .inl ow)), ((g 24), .inl (cA 3, 2000, .inl fi)), ((g 25), .inl (cA 3, 2000, .inl be))] H := hP.sub [10, 11, 0, 1, 12, 2, 3, 4, 5, 6, 7, 8, 9] rfl
    have hD : va_D A [(m0, .inr (6, mF g K (nI a100, 0, p) (nI (st.length + 1)) (nI (ps.length + 1)) (nI (d + 1), nI la, zI co, lo_, lA_, nI T.length, nI X.length, nI se, sta, dco))), ((g 0), .inl (cA 3, 2000, .inl fd)), ((g 7), .inl (cA 3, 400, .inl ex)), ((g 8), .inl (cA 1, 400, .inr (.inl ti))), ((g 10), .inl (cA 3, 4, .inl pe)), ((g 11), .inl (cA 3, 2001, .inl bk)), ((g 18), .inl (cA 3, 2000, .inl kd)), ((g 19), .inl (cA 3, 2000, .inl fr)), ((g 20), .inl (cA 3, 2000, .inl to)), ((g 21), .inl (cA 3, 2000, .inl re)), ((g 23), .inl (cA 3, 2000, .inl ow)), ((g 24), .inl (cA 3, 2000, .inl fi)), ((g 25), .inl (cA 3, 2000, .inl be))] := hD.sub [10, 11, 0, 1, 12, 2, 3, 4, 5, 6, 7, 8, 9] (by decide) rfl
    refine W.cs (cells' := 0) (slots' := 0) rfl rfl ?_
    refine W.eq (g2 := F0 m 4 ls [.long (lN v100)]) rfl ?_
    refine lv_lstore_n (lv' := [(2, .long (lN v100)), (0, .ref m0), (1, .int (nI bg))]) hx hb d_Md_takeOther_4 rfl hl (by decide) rfl (fun ls hl => ?_)
    refine lv_aload_n hx hb d_Md_takeOther_5 rfl (lv_at hl 1 rfl) ?_
    refine va_get (D := D) (ci := 6) (v := .int 0) (C := R_Md) (T := F_Md) (N := 44) hx hb hts (fun w h => List.mem_cons_of_mem _ (i_Md w h)) hown hE.1 hP 0 rfl rfl 3 (by decide) (hts _ (List.mem_cons_of_mem _ iw3_57)) (fun _ h9 => h9) rfl d_Md_takeOther_6 ?_
    refine lv_if_le (tgt := 13) hx hb d_Md_takeOther_9 (by decide) (fun c_9 => ?_) (fun c_9 => absurd (by decide) c_9)
    refine lv_lload_n hx hb d_Md_takeOther_13 rfl (lv_at hl 0 rfl) ?_
    refine lv_ldc2 hx hb hown (hts _ (List.mem_cons_of_mem _ iw4_93)) d_Md_takeOther_14 ?_
    refine W.lcmp hx hb d_Md_takeOther_17 ?_
    refine lv_if_le (tgt := 29) hx hb d_Md_takeOther_18 (by decide) (fun c_18 => ?_) (fun c_18 => ?_)
    · refine lv_lload_n hx hb d_Md_takeOther_29 rfl (lv_at hl 0 rfl) ?_
      refine lv_l2i hx hb d_Md_takeOther_30 rfl ?_
      have hok : v100 ≤ 17 := by rw [show (17 : Int64) = lN 17 from rfl] at c_18; exact (pk_lLE (by omega) (by omega)).mp ((lg_cmp_le _ _).mp c_18)
      rw [lN_i]
      rcases (show v100 = 0 ∨ v100 = 1 ∨ v100 = 2 ∨ v100 = 3 ∨ v100 = 4 ∨ v100 = 5 ∨ v100 = 6 ∨ v100 = 7 ∨ v100 = 8 ∨ v100 = 9 ∨ v100 = 10 ∨ v100 = 11 ∨ v100 = 12 ∨ v100 = 13 ∨ v100 = 14 ∨ v100 = 15 ∨ v100 = 16 ∨ v100 = 17 from by omega) with rfl | rfl | rfl | rfl | rfl | rfl | rfl | rfl | rfl | rfl | rfl | rfl | rfl | rfl | rfl | rfl | rfl | rfl
      · have hl : lv_has ls 5 [(2, .long (lN 0)), (0, .ref m0), (1, .int (nI bg))] := hl
        refine W.eq (g2 := F0 m 31 ls [.int 0]) rfl ?_
        refine lv_istore (lv' := [(4, .int 0), (2, .long (lN 0)), (0, .ref m0), (1, .int (nI bg))]) hx hb d_Md_takeOther_31 hl (by decide) rfl (fun ls hl => ?_)
        refine lv_iload hx hb d_Md_takeOther_33 (lv_at hl 0 rfl) ?_
        refine lv_bipush (v := 8) hx hb d_Md_takeOther_35 (by decide) ?_
        refine lv_icmp_eq (tgt := 47) hx hb d_Md_takeOther_37 (by decide) (fun c_37 => absurd c_37 (by decide)) (fun c_37 => ?_)
        refine lv_iload hx hb d_Md_takeOther_40 (lv_at hl 0 rfl) ?_
        refine lv_bipush (v := 9) hx hb d_Md_takeOther_42 (by decide) ?_
        refine lv_icmp_ne (tgt := 61) hx hb d_Md_takeOther_44 (by decide) (fun c_44 => ?_) (fun c_44 => absurd c_44 (by decide))
        refine lv_iload hx hb d_Md_takeOther_61 (lv_at hl 0 rfl) ?_
        refine lv_bipush (v := 8) hx hb d_Md_takeOther_63 (by decide) ?_
        refine lv_icmp_ne (tgt := 78) hx hb d_Md_takeOther_65 (by decide) (fun c_65 => ?_) (fun c_65 => absurd c_65 (by decide))
        refine lv_iload hx hb d_Md_takeOther_78 (lv_at hl 0 rfl) ?_
        refine lv_bipush (v := 10) hx hb d_Md_takeOther_80 (by decide) ?_
        refine lv_icmp_ne (tgt := 96) hx hb d_Md_takeOther_82 (by decide) (fun c_82 => ?_) (fun c_82 => absurd c_82 (by decide))
        refine lv_iload hx hb d_Md_takeOther_96 (lv_at hl 0 rfl) ?_
        refine lv_bipush (v := 11) hx hb d_Md_takeOther_98 (by decide) ?_
        refine lv_icmp_ne (tgt := 112) hx hb d_Md_takeOther_100 (by decide) (fun c_100 => ?_) (fun c_100 => absurd c_100 (by decide))
        refine lv_iload hx hb d_Md_takeOther_112 (lv_at hl 0 rfl) ?_
        refine lv_bipush (v := 12) hx hb d_Md_takeOther_114 (by decide) ?_
        refine lv_icmp_eq (tgt := 126) hx hb d_Md_takeOther_116 (by decide) (fun c_116 => absurd c_116 (by decide)) (fun c_116 => ?_)
        refine lv_iload hx hb d_Md_takeOther_119 (lv_at hl 0 rfl) ?_
        refine lv_bipush (v := 14) hx hb d_Md_takeOther_121 (by decide) ?_
        refine lv_icmp_ne (tgt := 135) hx hb d_Md_takeOther_123 (by decide) (fun c_123 => ?_) (fun c_123 => absurd c_123 (by decide))
        refine lv_iload hx hb d_Md_takeOther_135 (lv_at hl 0 rfl) ?_
        refine lv_bipush (v := 8) hx hb d_Md_takeOther_137 (by decide) ?_
        refine lv_icmp_le (tgt := 147) hx hb d_Md_takeOther_139 (by decide) (fun c_139 => ?_) (fun c_139 => absurd (by decide) c_139)
        exact cRv ((((nI a100, 0, p), nI (st.length + 1), nI (ps.length + 1), (nI (d + 1), nI la, zI co, lo_, lA_, nI T.length, nI X.length, nI se, sta, dco)), (ex, ti, pe, bk, kd, fr, to, re, ow, fi, be)) : NU) hx hb hr hlocks d_Md_takeOther_147 hS hP hD (⟨rfl, nP_E ((mb_E (pS252_E hr100 (fun q => absurd q.1 (by decide))))) ⟨⟨rfl, rfl, rfl, rfl⟩, (fun z hz => by cases hz; exact ⟨rfl, hBL⟩), hlc, hst, hpe, hTH, hXH⟩⟩) (Nat.le_refl _) (Nat.le_refl _)
      · have hl : lv_has ls 5 [(2, .long (lN 1)), (0, .ref m0), (1, .int (nI bg))] := hl
        refine W.eq (g2 := F0 m 31 ls [.int 1]) rfl ?_
        refine lv_istore (lv' := [(4, .int 1), (2, .long (lN 1)), (0, .ref m0), (1, .int (nI bg))]) hx hb d_Md_takeOther_31 hl (by decide) rfl (fun ls hl => ?_)
        refine lv_iload hx hb d_Md_takeOther_33 (lv_at hl 0 rfl) ?_
        refine lv_bipush (v := 8) hx hb d_Md_takeOther_35 (by decide) ?_
        refine lv_icmp_eq (tgt := 47) hx hb d_Md_takeOther_37 (by decide) (fun c_37 => absurd c_37 (by decide)) (fun c_37 => ?_)
        refine lv_iload hx hb d_Md_takeOther_40 (lv_at hl 0 rfl) ?_
        refine lv_bipush (v := 9) hx hb d_Md_takeOther_42 (by decide) ?_
        refine lv_icmp_ne (tgt := 61) hx hb d_Md_takeOther_44 (by decide) (fun c_44 => ?_) (fun c_44 => absurd c_44 (by decide))
        refine lv_iload hx hb d_Md_takeOther_61 (lv_at hl 0 rfl) ?_
        refine lv_bipush (v := 8) hx hb d_Md_takeOther_63 (by decide) ?_
        refine lv_icmp_ne (tgt := 78) hx hb d_Md_takeOther_65 (by decide) (fun c_65 => ?_) (fun c_65 => absurd c_65 (by decide))
        refine lv_iload hx hb d_Md_takeOther_78 (lv_at hl 0 rfl) ?_
        refine lv_bipush (v := 10) hx hb d_Md_takeOther_80 (by decide) ?_
        refine lv_icmp_ne (tgt := 96) hx hb d_Md_takeOther_82 (by decide) (fun c_82 => ?_) (fun c_82 => absurd c_82 (by decide))
        refine lv_iload hx hb d_Md_takeOther_96 (lv_at hl 0 rfl) ?_
        refine lv_bipush (v := 11) hx hb d_Md_takeOther_98 (by decide) ?_
        refine lv_icmp_ne (tgt := 112) hx hb d_Md_takeOther_100 (by decide) (fun c_100 => ?_) (fun c_100 => absurd c_100 (by decide))
        refine lv_iload hx hb d_Md_takeOther_112 (lv_at hl 0 rfl) ?_
        refine lv_bipush (v := 12) hx hb d_Md_takeOther_114 (by decide) ?_
        refine lv_icmp_eq (tgt := 126) hx hb d_Md_takeOther_116 (by decide) (fun c_116 => absurd c_116 (by decide)) (fun c_116 => ?_)
        refine lv_iload hx hb d_Md_takeOther_119 (lv_at hl 0 rfl) ?_
        refine lv_bipush (v := 14) hx hb d_Md_takeOther_121 (by decide) ?_
        refine lv_icmp_ne (tgt := 135) hx hb d_Md_takeOther_123 (by decide) (fun c_123 => ?_) (fun c_123 => absurd c_123 (by decide))
        refine lv_iload hx hb d_Md_takeOther_135 (lv_at hl 0 rfl) ?_
        refine lv_bipush (v := 8) hx hb d_Md_takeOther_137 (by decide) ?_
        refine lv_icmp_le (tgt := 147) hx hb d_Md_takeOther_139 (by decide) (fun c_139 => ?_) (fun c_139 => absurd (by decide) c_139)
        exact cRv ((((nI a100, 0, p), nI (st.length + 1), nI (ps.length + 1), (nI (d + 1), nI la, zI co, lo_, lA_, nI T.length, nI X.length, nI se, sta, dco)), (ex, ti, pe, bk, kd, fr, to, re, ow, fi, be)) : NU) hx hb hr hlocks d_Md_takeOther_147 hS hP hD (⟨rfl, nP_E ((mb_E (pS252_E hr100 (fun q => absurd q.1 (by decide))))) ⟨⟨rfl, rfl, rfl, rfl⟩, (fun z hz => by cases hz; exact ⟨rfl, hBL⟩), hlc, hst, hpe, hTH, hXH⟩⟩) (Nat.le_refl _) (Nat.le_refl _)
      · have hl : lv_has ls 5 [(2, .long (lN 2)), (0, .ref m0), (1, .int (nI bg))] := hl
        refine W.eq (g2 := F0 m 31 ls [.int 2]) rfl ?_
        refine lv_istore (lv' := [(4, .int 2), (2, .long (lN 2)), (0, .ref m0), (1, .int (nI bg))]) hx hb d_Md_takeOther_31 hl (by decide) rfl (fun ls hl => ?_)
        refine lv_iload hx hb d_Md_takeOther_33 (lv_at hl 0 rfl) ?_
        refine lv_bipush (v := 8) hx hb d_Md_takeOther_35 (by decide) ?_
        refine lv_icmp_eq (tgt := 47) hx hb d_Md_takeOther_37 (by decide) (fun c_37 => absurd c_37 (by decide)) (fun c_37 => ?_)
        refine lv_iload hx hb d_Md_takeOther_40 (lv_at hl 0 rfl) ?_
        refine lv_bipush (v := 9) hx hb d_Md_takeOther_42 (by decide) ?_
        refine lv_icmp_ne (tgt := 61) hx hb d_Md_takeOther_44 (by decide) (fun c_44 => ?_) (fun c_44 => absurd c_44 (by decide))
        refine lv_iload hx hb d_Md_takeOther_61 (lv_at hl 0 rfl) ?_
        refine lv_bipush (v := 8) hx hb d_Md_takeOther_63 (by decide) ?_
        refine lv_icmp_ne (tgt := 78) hx hb d_Md_takeOther_65 (by decide) (fun c_65 => ?_) (fun c_65 => absurd c_65 (by decide))
        refine lv_iload hx hb d_Md_takeOther_78 (lv_at hl 0 rfl) ?_
        refine lv_bipush (v := 10) hx hb d_Md_takeOther_80 (by decide) ?_
        refine lv_icmp_ne (tgt := 96) hx hb d_Md_takeOther_82 (by decide) (fun c_82 => ?_) (fun c_82 => absurd c_82 (by decide))
        refine lv_iload hx hb d_Md_takeOther_96 (lv_at hl 0 rfl) ?_
        refine lv_bipush (v := 11) hx hb d_Md_takeOther_98 (by decide) ?_
        refine lv_icmp_ne (tgt := 112) hx hb d_Md_takeOther_100 (by decide) (fun c_100 => ?_) (fun c_100 => absurd c_100 (by decide))
        refine lv_iload hx hb d_Md_takeOther_112 (lv_at hl 0 rfl) ?_
        refine lv_bipush (v := 12) hx hb d_Md_takeOther_114 (by decide) ?_
        refine lv_icmp_eq (tgt := 126) hx hb d_Md_takeOther_116 (by decide) (fun c_116 => absurd c_116 (by decide)) (fun c_116 => ?_)
        refine lv_iload hx hb d_Md_takeOther_119 (lv_at hl 0 rfl) ?_
        refine lv_bipush (v := 14) hx hb d_Md_takeOther_121 (by decide) ?_
        refine lv_icmp_ne (tgt := 135) hx hb d_Md_takeOther_123 (by decide) (fun c_123 => ?_) (fun c_123 => absurd c_123 (by decide))
        refine lv_iload hx hb d_Md_takeOther_135 (lv_at hl 0 rfl) ?_
        refine lv_bipush (v := 8) hx hb d_Md_takeOther_137 (by decide) ?_
        refine lv_icmp_le (tgt := 147) hx hb d_Md_takeOther_139 (by decide) (fun c_139 => ?_) (fun c_139 => absurd (by decide) c_139)
        exact cRv ((((nI a100, 0, p), nI (st.length + 1), nI (ps.length + 1), (nI (d + 1), nI la, zI co, lo_, lA_, nI T.length, nI X.length, nI se, sta, dco)), (ex, ti, pe, bk, kd, fr, to, re, ow, fi, be)) : NU) hx hb hr hlocks d_Md_takeOther_147 hS hP hD (⟨rfl, nP_E ((mb_E (pS252_E hr100 (fun q => absurd q.1 (by decide))))) ⟨⟨rfl, rfl, rfl, rfl⟩, (fun z hz => by cases hz; exact ⟨rfl, hBL⟩), hlc, hst, hpe, hTH, hXH⟩⟩) (Nat.le_refl _) (Nat.le_refl _)
      · have hl : lv_has ls 5 [(2, .long (lN 3)), (0, .ref m0), (1, .int (nI bg))] := hl
        refine W.eq (g2 := F0 m 31 ls [.int 3]) rfl ?_
        refine lv_istore (lv' := [(4, .int 3), (2, .long (lN 3)), (0, .ref m0), (1, .int (nI bg))]) hx hb d_Md_takeOther_31 hl (by decide) rfl (fun ls hl => ?_)
        refine lv_iload hx hb d_Md_takeOther_33 (lv_at hl 0 rfl) ?_
        refine lv_bipush (v := 8) hx hb d_Md_takeOther_35 (by decide) ?_
        refine lv_icmp_eq (tgt := 47) hx hb d_Md_takeOther_37 (by decide) (fun c_37 => absurd c_37 (by decide)) (fun c_37 => ?_)
        refine lv_iload hx hb d_Md_takeOther_40 (lv_at hl 0 rfl) ?_
        refine lv_bipush (v := 9) hx hb d_Md_takeOther_42 (by decide) ?_
        refine lv_icmp_ne (tgt := 61) hx hb d_Md_takeOther_44 (by decide) (fun c_44 => ?_) (fun c_44 => absurd c_44 (by decide))
        refine lv_iload hx hb d_Md_takeOther_61 (lv_at hl 0 rfl) ?_
        refine lv_bipush (v := 8) hx hb d_Md_takeOther_63 (by decide) ?_
        refine lv_icmp_ne (tgt := 78) hx hb d_Md_takeOther_65 (by decide) (fun c_65 => ?_) (fun c_65 => absurd c_65 (by decide))
        refine lv_iload hx hb d_Md_takeOther_78 (lv_at hl 0 rfl) ?_
        refine lv_bipush (v := 10) hx hb d_Md_takeOther_80 (by decide) ?_
        refine lv_icmp_ne (tgt := 96) hx hb d_Md_takeOther_82 (by decide) (fun c_82 => ?_) (fun c_82 => absurd c_82 (by decide))
        refine lv_iload hx hb d_Md_takeOther_96 (lv_at hl 0 rfl) ?_
        refine lv_bipush (v := 11) hx hb d_Md_takeOther_98 (by decide) ?_
        refine lv_icmp_ne (tgt := 112) hx hb d_Md_takeOther_100 (by decide) (fun c_100 => ?_) (fun c_100 => absurd c_100 (by decide))
        refine lv_iload hx hb d_Md_takeOther_112 (lv_at hl 0 rfl) ?_
        refine lv_bipush (v := 12) hx hb d_Md_takeOther_114 (by decide) ?_
        refine lv_icmp_eq (tgt := 126) hx hb d_Md_takeOther_116 (by decide) (fun c_116 => absurd c_116 (by decide)) (fun c_116 => ?_)
        refine lv_iload hx hb d_Md_takeOther_119 (lv_at hl 0 rfl) ?_
        refine lv_bipush (v := 14) hx hb d_Md_takeOther_121 (by decide) ?_
        refine lv_icmp_ne (tgt := 135) hx hb d_Md_takeOther_123 (by decide) (fun c_123 => ?_) (fun c_123 => absurd c_123 (by decide))
        refine lv_iload hx hb d_Md_takeOther_135 (lv_at hl 0 rfl) ?_
        refine lv_bipush (v := 8) hx hb d_Md_takeOther_137 (by decide) ?_
        refine lv_icmp_le (tgt := 147) hx hb d_Md_takeOther_139 (by decide) (fun c_139 => ?_) (fun c_139 => absurd (by decide) c_139)
        exact cRv ((((nI a100, 0, p), nI (st.length + 1), nI (ps.length + 1), (nI (d + 1), nI la, zI co, lo_, lA_, nI T.length, nI X.length, nI se, sta, dco)), (ex, ti, pe, bk, kd, fr, to, re, ow, fi, be)) : NU) hx hb hr hlocks d_Md_takeOther_147 hS hP hD (⟨rfl, nP_E ((mb_E (pS252_E hr100 (fun q => absurd q.1 (by decide))))) ⟨⟨rfl, rfl, rfl, rfl⟩, (fun z hz => by cases hz; exact ⟨rfl, hBL⟩), hlc, hst, hpe, hTH, hXH⟩⟩) (Nat.le_refl _) (Nat.le_refl _)
      · have hl : lv_has ls 5 [(2, .long (lN 4)), (0, .ref m0), (1, .int (nI bg))] := hl
        refine W.eq (g2 := F0 m 31 ls [.int 4]) rfl ?_
        refine lv_istore (lv' := [(4, .int 4), (2, .long (lN 4)), (0, .ref m0), (1, .int (nI bg))]) hx hb d_Md_takeOther_31 hl (by decide) rfl (fun ls hl => ?_)
        refine lv_iload hx hb d_Md_takeOther_33 (lv_at hl 0 rfl) ?_
        refine lv_bipush (v := 8) hx hb d_Md_takeOther_35 (by decide) ?_
        refine lv_icmp_eq (tgt := 47) hx hb d_Md_takeOther_37 (by decide) (fun c_37 => absurd c_37 (by decide)) (fun c_37 => ?_)
        refine lv_iload hx hb d_Md_takeOther_40 (lv_at hl 0 rfl) ?_
        refine lv_bipush (v := 9) hx hb d_Md_takeOther_42 (by decide) ?_
        refine lv_icmp_ne (tgt := 61) hx hb d_Md_takeOther_44 (by decide) (fun c_44 => ?_) (fun c_44 => absurd c_44 (by decide))
        refine lv_iload hx hb d_Md_takeOther_61 (lv_at hl 0 rfl) ?_
        refine lv_bipush (v := 8) hx hb d_Md_takeOther_63 (by decide) ?_
        refine lv_icmp_ne (tgt := 78) hx hb d_Md_takeOther_65 (by decide) (fun c_65 => ?_) (fun c_65 => absurd c_65 (by decide))
        refine lv_iload hx hb d_Md_takeOther_78 (lv_at hl 0 rfl) ?_
        refine lv_bipush (v := 10) hx hb d_Md_takeOther_80 (by decide) ?_
        refine lv_icmp_ne (tgt := 96) hx hb d_Md_takeOther_82 (by decide) (fun c_82 => ?_) (fun c_82 => absurd c_82 (by decide))
        refine lv_iload hx hb d_Md_takeOther_96 (lv_at hl 0 rfl) ?_
        refine lv_bipush (v := 11) hx hb d_Md_takeOther_98 (by decide) ?_
        refine lv_icmp_ne (tgt := 112) hx hb d_Md_takeOther_100 (by decide) (fun c_100 => ?_) (fun c_100 => absurd c_100 (by decide))
        refine lv_iload hx hb d_Md_takeOther_112 (lv_at hl 0 rfl) ?_
        refine lv_bipush (v := 12) hx hb d_Md_takeOther_114 (by decide) ?_
        refine lv_icmp_eq (tgt := 126) hx hb d_Md_takeOther_116 (by decide) (fun c_116 => absurd c_116 (by decide)) (fun c_116 => ?_)
        refine lv_iload hx hb d_Md_takeOther_119 (lv_at hl 0 rfl) ?_
        refine lv_bipush (v := 14) hx hb d_Md_takeOther_121 (by decide) ?_
        refine lv_icmp_ne (tgt := 135) hx hb d_Md_takeOther_123 (by decide) (fun c_123 => ?_) (fun c_123 => absurd c_123 (by decide))
        refine lv_iload hx hb d_Md_takeOther_135 (lv_at hl 0 rfl) ?_
        refine lv_bipush (v := 8) hx hb d_Md_takeOther_137 (by decide) ?_
        refine lv_icmp_le (tgt := 147) hx hb d_Md_takeOther_139 (by decide) (fun c_139 => ?_) (fun c_139 => absurd (by decide) c_139)
        exact cRv ((((nI a100, 0, p), nI (st.length + 1), nI (ps.length + 1), (nI (d + 1), nI la, zI co, lo_, lA_, nI T.length, nI X.length, nI se, sta, dco)), (ex, ti, pe, bk, kd, fr, to, re, ow, fi, be)) : NU) hx hb hr hlocks d_Md_takeOther_147 hS hP hD (⟨rfl, nP_E ((mb_E (pS252_E hr100 (fun q => absurd q.1 (by decide))))) ⟨⟨rfl, rfl, rfl, rfl⟩, (fun z hz => by cases hz; exact ⟨rfl, hBL⟩), hlc, hst, hpe, hTH, hXH⟩⟩) (Nat.le_refl _) (Nat.le_refl _)
      · have hl : lv_has ls 5 [(2, .long (lN 5)), (0, .ref m0), (1, .int (nI bg))] := hl
        refine W.eq (g2 := F0 m 31 ls [.int 5]) rfl ?_
        refine lv_istore (lv' := [(4, .int 5), (2, .long (lN 5)), (0, .ref m0), (1, .int (nI bg))]) hx hb d_Md_takeOther_31 hl (by decide) rfl (fun ls hl => ?_)
        refine lv_iload hx hb d_Md_takeOther_33 (lv_at hl 0 rfl) ?_
        refine lv_bipush (v := 8) hx hb d_Md_takeOther_35 (by decide) ?_
        refine lv_icmp_eq (tgt := 47) hx hb d_Md_takeOther_37 (by decide) (fun c_37 => absurd c_37 (by decide)) (fun c_37 => ?_)
        refine lv_iload hx hb d_Md_takeOther_40 (lv_at hl 0 rfl) ?_
        refine lv_bipush (v := 9) hx hb d_Md_takeOther_42 (by decide) ?_
        refine lv_icmp_ne (tgt := 61) hx hb d_Md_takeOther_44 (by decide) (fun c_44 => ?_) (fun c_44 => absurd c_44 (by decide))
        refine lv_iload hx hb d_Md_takeOther_61 (lv_at hl 0 rfl) ?_
        refine lv_bipush (v := 8) hx hb d_Md_takeOther_63 (by decide) ?_
        refine lv_icmp_ne (tgt := 78) hx hb d_Md_takeOther_65 (by decide) (fun c_65 => ?_) (fun c_65 => absurd c_65 (by decide))
        refine lv_iload hx hb d_Md_takeOther_78 (lv_at hl 0 rfl) ?_
        refine lv_bipush (v := 10) hx hb d_Md_takeOther_80 (by decide) ?_
        refine lv_icmp_ne (tgt := 96) hx hb d_Md_takeOther_82 (by decide) (fun c_82 => ?_) (fun c_82 => absurd c_82 (by decide))
        refine lv_iload hx hb d_Md_takeOther_96 (lv_at hl 0 rfl) ?_
        refine lv_bipush (v := 11) hx hb d_Md_takeOther_98 (by decide) ?_
        refine lv_icmp_ne (tgt := 112) hx hb d_Md_takeOther_100 (by decide) (fun c_100 => ?_) (fun c_100 => absurd c_100 (by decide))
        refine lv_iload hx hb d_Md_takeOther_112 (lv_at hl 0 rfl) ?_
        refine lv_bipush (v := 12) hx hb d_Md_takeOther_114 (by decide) ?_
        refine lv_icmp_eq (tgt := 126) hx hb d_Md_takeOther_116 (by decide) (fun c_116 => absurd c_116 (by decide)) (fun c_116 => ?_)
        refine lv_iload hx hb d_Md_takeOther_119 (lv_at hl 0 rfl) ?_
        refine lv_bipush (v := 14) hx hb d_Md_takeOther_121 (by decide) ?_
        refine lv_icmp_ne (tgt := 135) hx hb d_Md_takeOther_123 (by decide) (fun c_123 => ?_) (fun c_123 => absurd c_123 (by decide))
        refine lv_iload hx hb d_Md_takeOther_135 (lv_at hl 0 rfl) ?_
        refine lv_bipush (v := 8) hx hb d_Md_takeOther_137 (by decide) ?_
        refine lv_icmp_le (tgt := 147) hx hb d_Md_takeOther_139 (by decide) (fun c_139 => ?_) (fun c_139 => absurd (by decide) c_139)
        exact cRv ((((nI a100, 0, p), nI (st.length + 1), nI (ps.length + 1), (nI (d + 1), nI la, zI co, lo_, lA_, nI T.length, nI X.length, nI se, sta, dco)), (ex, ti, pe, bk, kd, fr, to, re, ow, fi, be)) : NU) hx hb hr hlocks d_Md_takeOther_147 hS hP hD (⟨rfl, nP_E ((mb_E (pS252_E hr100 (fun q => absurd q.1 (by decide))))) ⟨⟨rfl, rfl, rfl, rfl⟩, (fun z hz => by cases hz; exact ⟨rfl, hBL⟩), hlc, hst, hpe, hTH, hXH⟩⟩) (Nat.le_refl _) (Nat.le_refl _)
      · have hl : lv_has ls 5 [(2, .long (lN 6)), (0, .ref m0), (1, .int (nI bg))] := hl
        refine W.eq (g2 := F0 m 31 ls [.int 6]) rfl ?_
        refine lv_istore (lv' := [(4, .int 6), (2, .long (lN 6)), (0, .ref m0), (1, .int (nI bg))]) hx hb d_Md_takeOther_31 hl (by decide) rfl (fun ls hl => ?_)
        refine lv_iload hx hb d_Md_takeOther_33 (lv_at hl 0 rfl) ?_
        refine lv_bipush (v := 8) hx hb d_Md_takeOther_35 (by decide) ?_
        refine lv_icmp_eq (tgt := 47) hx hb d_Md_takeOther_37 (by decide) (fun c_37 => absurd c_37 (by decide)) (fun c_37 => ?_)
        refine lv_iload hx hb d_Md_takeOther_40 (lv_at hl 0 rfl) ?_
        refine lv_bipush (v := 9) hx hb d_Md_takeOther_42 (by decide) ?_
        refine lv_icmp_ne (tgt := 61) hx hb d_Md_takeOther_44 (by decide) (fun c_44 => ?_) (fun c_44 => absurd c_44 (by decide))
        refine lv_iload hx hb d_Md_takeOther_61 (lv_at hl 0 rfl) ?_
        refine lv_bipush (v := 8) hx hb d_Md_takeOther_63 (by decide) ?_
        refine lv_icmp_ne (tgt := 78) hx hb d_Md_takeOther_65 (by decide) (fun c_65 => ?_) (fun c_65 => absurd c_65 (by decide))
        refine lv_iload hx hb d_Md_takeOther_78 (lv_at hl 0 rfl) ?_
        refine lv_bipush (v := 10) hx hb d_Md_takeOther_80 (by decide) ?_
        refine lv_icmp_ne (tgt := 96) hx hb d_Md_takeOther_82 (by decide) (fun c_82 => ?_) (fun c_82 => absurd c_82 (by decide))
        refine lv_iload hx hb d_Md_takeOther_96 (lv_at hl 0 rfl) ?_
        refine lv_bipush (v := 11) hx hb d_Md_takeOther_98 (by decide) ?_
        refine lv_icmp_ne (tgt := 112) hx hb d_Md_takeOther_100 (by decide) (fun c_100 => ?_) (fun c_100 => absurd c_100 (by decide))
        refine lv_iload hx hb d_Md_takeOther_112 (lv_at hl 0 rfl) ?_
        refine lv_bipush (v := 12) hx hb d_Md_takeOther_114 (by decide) ?_
        refine lv_icmp_eq (tgt := 126) hx hb d_Md_takeOther_116 (by decide) (fun c_116 => absurd c_116 (by decide)) (fun c_116 => ?_)
        refine lv_iload hx hb d_Md_takeOther_119 (lv_at hl 0 rfl) ?_
        refine lv_bipush (v := 14) hx hb d_Md_takeOther_121 (by decide) ?_
        refine lv_icmp_ne (tgt := 135) hx hb d_Md_takeOther_123 (by decide) (fun c_123 => ?_) (fun c_123 => absurd c_123 (by decide))
        refine lv_iload hx hb d_Md_takeOther_135 (lv_at hl 0 rfl) ?_
        refine lv_bipush (v := 8) hx hb d_Md_takeOther_137 (by decide) ?_
        refine lv_icmp_le (tgt := 147) hx hb d_Md_takeOther_139 (by decide) (fun c_139 => ?_) (fun c_139 => absurd (by decide) c_139)
        exact cRv ((((nI a100, 0, p), nI (st.length + 1), nI (ps.length + 1), (nI (d + 1), nI la, zI co, lo_, lA_, nI T.length, nI X.length, nI se, sta, dco)), (ex, ti, pe, bk, kd, fr, to, re, ow, fi, be)) : NU) hx hb hr hlocks d_Md_takeOther_147 hS hP hD (⟨rfl, nP_E ((mb_E (pS252_E hr100 (fun q => absurd q.1 (by decide))))) ⟨⟨rfl, rfl, rfl, rfl⟩, (fun z hz => by cases hz; exact ⟨rfl, hBL⟩), hlc, hst, hpe, hTH, hXH⟩⟩) (Nat.le_refl _) (Nat.le_refl _)
      · have hl : lv_has ls 5 [(2, .long (lN 7)), (0, .ref m0), (1, .int (nI bg))] := hl
        refine W.eq (g2 := F0 m 31 ls [.int 7]) rfl ?_
        refine lv_istore (lv' := [(4, .int 7), (2, .long (lN 7)), (0, .ref m0), (1, .int (nI bg))]) hx hb d_Md_takeOther_31 hl (by decide) rfl (fun ls hl => ?_)
        refine lv_iload hx hb d_Md_takeOther_33 (lv_at hl 0 rfl) ?_
        refine lv_bipush (v := 8) hx hb d_Md_takeOther_35 (by decide) ?_
        refine lv_icmp_eq (tgt := 47) hx hb d_Md_takeOther_37 (by decide) (fun c_37 => absurd c_37 (by decide)) (fun c_37 => ?_)
        refine lv_iload hx hb d_Md_takeOther_40 (lv_at hl 0 rfl) ?_
        refine lv_bipush (v := 9) hx hb d_Md_takeOther_42 (by decide) ?_
        refine lv_icmp_ne (tgt := 61) hx hb d_Md_takeOther_44 (by decide) (fun c_44 => ?_) (fun c_44 => absurd c_44 (by decide))
        refine lv_iload hx hb d_Md_takeOther_61 (lv_at hl 0 rfl) ?_
        refine lv_bipush (v := 8) hx hb d_Md_takeOther_63 (by decide) ?_
        refine lv_icmp_ne (tgt := 78) hx hb d_Md_takeOther_65 (by decide) (fun c_65 => ?_) (fun c_65 => absurd c_65 (by decide))
        refine lv_iload hx hb d_Md_takeOther_78 (lv_at hl 0 rfl) ?_
        refine lv_bipush (v := 10) hx hb d_Md_takeOther_80 (by decide) ?_
        refine lv_icmp_ne (tgt := 96) hx hb d_Md_takeOther_82 (by decide) (fun c_82 => ?_) (fun c_82 => absurd c_82 (by decide))
        refine lv_iload hx hb d_Md_takeOther_96 (lv_at hl 0 rfl) ?_
        refine lv_bipush (v := 11) hx hb d_Md_takeOther_98 (by decide) ?_
        refine lv_icmp_ne (tgt := 112) hx hb d_Md_takeOther_100 (by decide) (fun c_100 => ?_) (fun c_100 => absurd c_100 (by decide))
        refine lv_iload hx hb d_Md_takeOther_112 (lv_at hl 0 rfl) ?_
        refine lv_bipush (v := 12) hx hb d_Md_takeOther_114 (by decide) ?_
        refine lv_icmp_eq (tgt := 126) hx hb d_Md_takeOther_116 (by decide) (fun c_116 => absurd c_116 (by decide)) (fun c_116 => ?_)
        refine lv_iload hx hb d_Md_takeOther_119 (lv_at hl 0 rfl) ?_
        refine lv_bipush (v := 14) hx hb d_Md_takeOther_121 (by decide) ?_
        refine lv_icmp_ne (tgt := 135) hx hb d_Md_takeOther_123 (by decide) (fun c_123 => ?_) (fun c_123 => absurd c_123 (by decide))
        refine lv_iload hx hb d_Md_takeOther_135 (lv_at hl 0 rfl) ?_
        refine lv_bipush (v := 8) hx hb d_Md_takeOther_137 (by decide) ?_
        refine lv_icmp_le (tgt := 147) hx hb d_Md_takeOther_139 (by decide) (fun c_139 => ?_) (fun c_139 => absurd (by decide) c_139)
        exact cRv ((((nI a100, 0, p), nI (st.length + 1), nI (ps.length + 1), (nI (d + 1), nI la, zI co, lo_, lA_, nI T.length, nI X.length, nI se, sta, dco)), (ex, ti, pe, bk, kd, fr, to, re, ow, fi, be)) : NU) hx hb hr hlocks d_Md_takeOther_147 hS hP hD (⟨rfl, nP_E ((mb_E (pS252_E hr100 (fun q => absurd q.1 (by decide))))) ⟨⟨rfl, rfl, rfl, rfl⟩, (fun z hz => by cases hz; exact ⟨rfl, hBL⟩), hlc, hst, hpe, hTH, hXH⟩⟩) (Nat.le_refl _) (Nat.le_refl _)
      · have hl : lv_has ls 5 [(2, .long (lN 8)), (0, .ref m0), (1, .int (nI bg))] := hl
        refine W.eq (g2 := F0 m 31 ls [.int 8]) rfl ?_
        refine lv_istore (lv' := [(4, .int 8), (2, .long (lN 8)), (0, .ref m0), (1, .int (nI bg))]) hx hb d_Md_takeOther_31 hl (by decide) rfl (fun ls hl => ?_)
        refine lv_iload hx hb d_Md_takeOther_33 (lv_at hl 0 rfl) ?_
        refine lv_bipush (v := 8) hx hb d_Md_takeOther_35 (by decide) ?_
        refine lv_icmp_eq (tgt := 47) hx hb d_Md_takeOther_37 (by decide) (fun c_37 => ?_) (fun c_37 => absurd (by decide) c_37)
        refine lv_aload_n hx hb d_Md_takeOther_47 rfl (lv_at hl 2 rfl) ?_
        refine va_get (D := D) (ci := 6) (v := .int (zI co)) (C := R_Md) (T := F_Md) (N := 44) hx hb hts (fun w h => List.mem_cons_of_mem _ (i_Md w h)) hown hE.1 hP 0 rfl rfl 14 (by decide) (hts _ (List.mem_cons_of_mem _ iw3_68)) (fun _ h9 => h9) rfl d_Md_takeOther_48 ?_
        refine lv_if_ne (tgt := 61) hx hb d_Md_takeOther_51 (by decide) (fun c_51 => ?_) (fun c_51 => ?_)
        · refine lv_iload hx hb d_Md_takeOther_61 (lv_at hl 0 rfl) ?_
          refine lv_bipush (v := 8) hx hb d_Md_takeOther_63 (by decide) ?_
          refine lv_icmp_ne (tgt := 78) hx hb d_Md_takeOther_65 (by decide) (fun c_65 => absurd (by decide) c_65) (fun c_65 => ?_)
          refine lv_aload_n hx hb d_Md_takeOther_68 rfl (lv_at hl 2 rfl) ?_
          refine lv_iconst (v := 1) hx hb d_Md_takeOther_69 (by decide) ?_
          refine lv_bipush (v := 18) hx hb d_Md_takeOther_70 (by decide) ?_
          refine cV (As := [.int 1, .int 18]) (rest := []) (n := 2) (wc := [(m0, .inr (6, mF g K (nI a100, 0, p) (nI (st.length + 1)) (nI (ps.length + 1)) (nI (d + 1), nI la, zI co, lo_, lA_, nI T.length, nI X.length, nI se, sta, dco))), ((g 7), .inl (cA 3, 400, .inl ex)), ((g 8), .inl (cA 1, 400, .inr (.inl ti)))]) (wr := [((g 0), .inl (cA 3, 2000, .inl fd)), ((g 10), .inl (cA 3, 4, .inl pe)), ((g 11), .inl (cA 3, 2001, .inl bk)), ((g 18), .inl (cA 3, 2000, .inl kd)), ((g 19), .inl (cA 3, 2000, .inl fr)), ((g 20), .inl (cA 3, 2000, .inl to)), ((g 21), .inl (cA 3, 2000, .inl re)), ((g 23), .inl (cA 3, 2000, .inl ow)), ((g 24), .inl (cA 3, 2000, .inl fi)), ((g 25), .inl (cA 3, 2000, .inl be))]) ⟨hx, hb, hml, hown, hts⟩ hno hlocks hl.1 (c_Md_wantTwo l hl9 D cA ad H.size m0 g K (nI a100, 0, p) (nI (ps.length + 1)) (nI (d + 1), nI la, zI co, lo_, lA_, nI T.length, nI X.length, nI se, sta, dco) ex ti (.inl 21 :: st) hst (by (try simp only [List.length_cons]); omega) (1 : Int32) 1 rfl (18 : Int32) 18 rfl) iw4_22 iw4_24 sel_Md_wantTwo iw1_7 iw4_25 (by decide +kernel) rfl ⟨Nat.le_of_ble_eq_true rfl, Nat.le_of_ble_eq_true rfl⟩ ⟨Nat.le_of_ble_eq_true rfl, Nat.le_of_ble_eq_true rfl⟩ rfl (Nat.le_of_ble_eq_true rfl) d_Md_takeOther_72 hE hP hD hS hA [0, 2, 3] [1, 4, 5, 6, 7, 8, 9, 10, 11, 12] rfl rfl rfl rfl (by decide) (ci := 6) rfl rfl 0 rfl (fun _ h => h.elim) (fun v_72 u_72 H locs hp_72 hP hD hS => ?_)
          obtain ⟨rfl, hst101⟩ := hp_72
          obtain ⟨ex101, ti101⟩ := u_72
          have hP : va_P D cls [(m0, .inr (6, mF g K (nI a100, 0, p) (nI (st.length + 3)) (nI (ps.length + 1)) (nI (d + 1), nI la, zI co, lo_, lA_, nI T.length, nI X.length, nI se, sta, dco))), ((g 0), .inl (cA 3, 2000, .inl fd)), ((g 7), .inl (cA 3, 400, .inl ex101)), ((g 8), .inl (cA 1, 400, .inr (.inl ti101))), ((g 10), .inl (cA 3, 4, .inl pe)), ((g 11), .inl (cA 3, 2001, .inl bk)), ((g 18), .inl (cA 3, 2000, .inl kd)), ((g 19), .inl (cA 3, 2000, .inl fr)), ((g 20), .inl (cA 3, 2000, .inl to)), ((g 21), .inl (cA 3, 2000, .inl re)), ((g 23), .inl (cA 3, 2000, .inl ow)), ((g 24), .inl (cA 3, 2000, .inl fi)), ((g 25), .inl (cA 3, 2000, .inl be))] H := hP.sub [10, 0, 11, 12, 1, 2, 3, 4, 5, 6, 7, 8, 9] rfl
          have hD : va_D A [(m0, .inr (6, mF g K (nI a100, 0, p) (nI (st.length + 3)) (nI (ps.length + 1)) (nI (d + 1), nI la, zI co, lo_, lA_, nI T.length, nI X.length, nI se, sta, dco))), ((g 0), .inl (cA 3, 2000, .inl fd)), ((g 7), .inl (cA 3, 400, .inl ex101)), ((g 8), .inl (cA 1, 400, .inr (.inl ti101))), ((g 10), .inl (cA 3, 4, .inl pe)), ((g 11), .inl (cA 3, 2001, .inl bk)), ((g 18), .inl (cA 3, 2000, .inl kd)), ((g 19), .inl (cA 3, 2000, .inl fr)), ((g 20), .inl (cA 3, 2000, .inl to)), ((g 21), .inl (cA 3, 2000, .inl re)), ((g 23), .inl (cA 3, 2000, .inl ow)), ((g 24), .inl (cA 3, 2000, .inl fi)), ((g 25), .inl (cA 3, 2000, .inl be))] := hD.sub [10, 0, 11, 12, 1, 2, 3, 4, 5, 6, 7, 8, 9] (by decide) rfl
          refine W.cs (cells' := 0) (slots' := 0) rfl rfl ?_
          refine W.eq (g2 := F0 m 75 ls []) rfl ?_
          refine lv_goto (tgt := 147) hx hb d_Md_takeOther_75 (by decide) ?_
          exact cRv ((((nI a100, 0, p), nI (st.length + 3), nI (ps.length + 1), (nI (d + 1), nI la, zI co, lo_, lA_, nI T.length, nI X.length, nI se, sta, dco)), (ex101, ti101, pe, bk, kd, fr, to, re, ow, fi, be)) : NU) hx hb hr hlocks d_Md_takeOther_147 hS hP hD (⟨rfl, nP_E ((mb_E (pS252_E hr100 (fun q => by rw [zI_n0 c_51] at q; exact absurd q.2 (by decide))))) ⟨⟨rfl, rfl, rfl, rfl⟩, (fun z hz => by cases hz; exact ⟨rfl, hBL⟩), hlc, hst101, hpe, hTH, hXH⟩⟩) (Nat.le_refl _) (Nat.le_refl _)
        · refine lv_aload_n hx hb d_Md_takeOther_54 rfl (lv_at hl 2 rfl) ?_
          refine lv_bipush (v := 11) hx hb d_Md_takeOther_55 (by decide) ?_
          refine lv_iload_n hx hb d_Md_takeOther_57 rfl (lv_at hl 3 rfl) ?_
          refine cV (As := [.int 11, .int (nI bg)]) (rest := []) (n := 2) (wc := [(m0, .inr (6, mF g K (nI a100, 0, p) (nI (st.length + 1)) (nI (ps.length + 1)) (nI (d + 1), nI la, zI co, lo_, lA_, nI T.length, nI X.length, nI se, sta, dco)))]) (wr := [((g 0), .inl (cA 3, 2000, .inl fd)), ((g 7), .inl (cA 3, 400, .inl ex)), ((g 8), .inl (cA 1, 400, .inr (.inl ti))), ((g 10), .inl (cA 3, 4, .inl pe)), ((g 11), .inl (cA 3, 2001, .inl bk)), ((g 18), .inl (cA 3, 2000, .inl kd)), ((g 19), .inl (cA 3, 2000, .inl fr)), ((g 20), .inl (cA 3, 2000, .inl to)), ((g 21), .inl (cA 3, 2000, .inl re)), ((g 23), .inl (cA 3, 2000, .inl ow)), ((g 24), .inl (cA 3, 2000, .inl fi)), ((g 25), .inl (cA 3, 2000, .inl be))]) ⟨hx, hb, hml, hown, hts⟩ hno hlocks hl.1 (c_Md_stop l hl9 D cA ad H.size m0 g K (nI (st.length + 1)) (nI (ps.length + 1)) (nI (d + 1), nI la, zI co, lo_, lA_, nI T.length, nI X.length, nI se, sta, dco) (nI a100) p (11 : Int32) (nI bg)) iw3_216 iw3_218 sel_Md_stop iw1_7 iw3_219 (by decide +kernel) rfl ⟨Nat.le_of_ble_eq_true rfl, Nat.le_of_ble_eq_true rfl⟩ ⟨Nat.le_of_ble_eq_true rfl, Nat.le_of_ble_eq_true rfl⟩ rfl (Nat.le_of_ble_eq_true rfl) d_Md_takeOther_58 hE hP hD hS hA [0] [1, 2, 3, 4, 5, 6, 7, 8, 9, 10, 11, 12] rfl rfl rfl rfl (by decide) (ci := 6) rfl rfl 0 rfl (fun _ h => h.elim) (fun v_58 u_58 H locs hp_58 hP hD hS => ?_)
          obtain rfl := hp_58
          have hP : va_P D cls [(m0, .inr (6, mF g K (nI a100, 11, nI bg) (nI (st.length + 1)) (nI (ps.length + 1)) (nI (d + 1), nI la, zI co, lo_, lA_, nI T.length, nI X.length, nI se, sta, dco))), ((g 0), .inl (cA 3, 2000, .inl fd)), ((g 7), .inl (cA 3, 400, .inl ex)), ((g 8), .inl (cA 1, 400, .inr (.inl ti))), ((g 10), .inl (cA 3, 4, .inl pe)), ((g 11), .inl (cA 3, 2001, .inl bk)), ((g 18), .inl (cA 3, 2000, .inl kd)), ((g 19), .inl (cA 3, 2000, .inl fr)), ((g 20), .inl (cA 3, 2000, .inl to)), ((g 21), .inl (cA 3, 2000, .inl re)), ((g 23), .inl (cA 3, 2000, .inl ow)), ((g 24), .inl (cA 3, 2000, .inl fi)), ((g 25), .inl (cA 3, 2000, .inl be))] H := hP.sub [12, 0, 1, 2, 3, 4, 5, 6, 7, 8, 9, 10, 11] rfl
          have hD : va_D A [(m0, .inr (6, mF g K (nI a100, 11, nI bg) (nI (st.length + 1)) (nI (ps.length + 1)) (nI (d + 1), nI la, zI co, lo_, lA_, nI T.length, nI X.length, nI se, sta, dco))), ((g 0), .inl (cA 3, 2000, .inl fd)), ((g 7), .inl (cA 3, 400, .inl ex)), ((g 8), .inl (cA 1, 400, .inr (.inl ti))), ((g 10), .inl (cA 3, 4, .inl pe)), ((g 11), .inl (cA 3, 2001, .inl bk)), ((g 18), .inl (cA 3, 2000, .inl kd)), ((g 19), .inl (cA 3, 2000, .inl fr)), ((g 20), .inl (cA 3, 2000, .inl to)), ((g 21), .inl (cA 3, 2000, .inl re)), ((g 23), .inl (cA 3, 2000, .inl ow)), ((g 24), .inl (cA 3, 2000, .inl fi)), ((g 25), .inl (cA 3, 2000, .inl be))] := hD.sub [12, 0, 1, 2, 3, 4, 5, 6, 7, 8, 9, 10, 11] (by decide) rfl
          refine W.cs (cells' := 0) (slots' := 0) rfl rfl ?_
          refine W.eq (g2 := F0 m 61 ls []) rfl ?_
          refine lv_iload hx hb d_Md_takeOther_61 (lv_at hl 0 rfl) ?_
          refine lv_bipush (v := 8) hx hb d_Md_takeOther_63 (by decide) ?_
          refine lv_icmp_ne (tgt := 78) hx hb d_Md_takeOther_65 (by decide) (fun c_65 => absurd (by decide) c_65) (fun c_65 => ?_)
          refine lv_aload_n hx hb d_Md_takeOther_68 rfl (lv_at hl 2 rfl) ?_
          refine lv_iconst (v := 1) hx hb d_Md_takeOther_69 (by decide) ?_
          refine lv_bipush (v := 18) hx hb d_Md_takeOther_70 (by decide) ?_
          refine cV (As := [.int 1, .int 18]) (rest := []) (n := 2) (wc := [(m0, .inr (6, mF g K (nI a100, 11, nI bg) (nI (st.length + 1)) (nI (ps.length + 1)) (nI (d + 1), nI la, zI co, lo_, lA_, nI T.length, nI X.length, nI se, sta, dco))), ((g 7), .inl (cA 3, 400, .inl ex)), ((g 8), .inl (cA 1, 400, .inr (.inl ti)))]) (wr := [((g 0), .inl (cA 3, 2000, .inl fd)), ((g 10), .inl (cA 3, 4, .inl pe)), ((g 11), .inl (cA 3, 2001, .inl bk)), ((g 18), .inl (cA 3, 2000, .inl kd)), ((g 19), .inl (cA 3, 2000, .inl fr)), ((g 20), .inl (cA 3, 2000, .inl to)), ((g 21), .inl (cA 3, 2000, .inl re)), ((g 23), .inl (cA 3, 2000, .inl ow)), ((g 24), .inl (cA 3, 2000, .inl fi)), ((g 25), .inl (cA 3, 2000, .inl be))]) ⟨hx, hb, hml, hown, hts⟩ hno hlocks hl.1 (c_Md_wantTwo l hl9 D cA ad H.size m0 g K (nI a100, 11, nI bg) (nI (ps.length + 1)) (nI (d + 1), nI la, zI co, lo_, lA_, nI T.length, nI X.length, nI se, sta, dco) ex ti (.inl 21 :: st) hst (by (try simp only [List.length_cons]); omega) (1 : Int32) 1 rfl (18 : Int32) 18 rfl) iw4_22 iw4_24 sel_Md_wantTwo iw1_7 iw4_25 (by decide +kernel) rfl ⟨Nat.le_of_ble_eq_true rfl, Nat.le_of_ble_eq_true rfl⟩ ⟨Nat.le_of_ble_eq_true rfl, Nat.le_of_ble_eq_true rfl⟩ rfl (Nat.le_of_ble_eq_true rfl) d_Md_takeOther_72 hE hP hD hS hA [0, 2, 3] [1, 4, 5, 6, 7, 8, 9, 10, 11, 12] rfl rfl rfl rfl (by decide) (ci := 6) rfl rfl 0 rfl (fun _ h => h.elim) (fun v_72 u_72 H locs hp_72 hP hD hS => ?_)
          obtain ⟨rfl, hst102⟩ := hp_72
          obtain ⟨ex102, ti102⟩ := u_72
          have hP : va_P D cls [(m0, .inr (6, mF g K (nI a100, 11, nI bg) (nI (st.length + 3)) (nI (ps.length + 1)) (nI (d + 1), nI la, zI co, lo_, lA_, nI T.length, nI X.length, nI se, sta, dco))), ((g 0), .inl (cA 3, 2000, .inl fd)), ((g 7), .inl (cA 3, 400, .inl ex102)), ((g 8), .inl (cA 1, 400, .inr (.inl ti102))), ((g 10), .inl (cA 3, 4, .inl pe)), ((g 11), .inl (cA 3, 2001, .inl bk)), ((g 18), .inl (cA 3, 2000, .inl kd)), ((g 19), .inl (cA 3, 2000, .inl fr)), ((g 20), .inl (cA 3, 2000, .inl to)), ((g 21), .inl (cA 3, 2000, .inl re)), ((g 23), .inl (cA 3, 2000, .inl ow)), ((g 24), .inl (cA 3, 2000, .inl fi)), ((g 25), .inl (cA 3, 2000, .inl be))] H := hP.sub [10, 0, 11, 12, 1, 2, 3, 4, 5, 6, 7, 8, 9] rfl
          have hD : va_D A [(m0, .inr (6, mF g K (nI a100, 11, nI bg) (nI (st.length + 3)) (nI (ps.length + 1)) (nI (d + 1), nI la, zI co, lo_, lA_, nI T.length, nI X.length, nI se, sta, dco))), ((g 0), .inl (cA 3, 2000, .inl fd)), ((g 7), .inl (cA 3, 400, .inl ex102)), ((g 8), .inl (cA 1, 400, .inr (.inl ti102))), ((g 10), .inl (cA 3, 4, .inl pe)), ((g 11), .inl (cA 3, 2001, .inl bk)), ((g 18), .inl (cA 3, 2000, .inl kd)), ((g 19), .inl (cA 3, 2000, .inl fr)), ((g 20), .inl (cA 3, 2000, .inl to)), ((g 21), .inl (cA 3, 2000, .inl re)), ((g 23), .inl (cA 3, 2000, .inl ow)), ((g 24), .inl (cA 3, 2000, .inl fi)), ((g 25), .inl (cA 3, 2000, .inl be))] := hD.sub [10, 0, 11, 12, 1, 2, 3, 4, 5, 6, 7, 8, 9] (by decide) rfl
          refine W.cs (cells' := 0) (slots' := 0) rfl rfl ?_
          refine W.eq (g2 := F0 m 75 ls []) rfl ?_
          refine lv_goto (tgt := 147) hx hb d_Md_takeOther_75 (by decide) ?_
          exact cRv ((((nI a100, 11, nI bg), nI (st.length + 3), nI (ps.length + 1), (nI (d + 1), nI la, zI co, lo_, lA_, nI T.length, nI X.length, nI se, sta, dco)), (ex102, ti102, pe, bk, kd, fr, to, re, ow, fi, be)) : NU) hx hb hr hlocks d_Md_takeOther_147 hS hP hD (⟨rfl, nP_T (mb_T (pS252_F hr100 ⟨by decide, zI_0.mp c_51⟩)) ⟨⟨by decide, by decide⟩, rfl, T.length, by (try simp only [List.length_cons]); omega, rfl⟩⟩) (Nat.le_refl _) (Nat.le_refl _)
      · have hl : lv_has ls 5 [(2, .long (lN 9)), (0, .ref m0), (1, .int (nI bg))] := hl
        refine W.eq (g2 := F0 m 31 ls [.int 9]) rfl ?_
        refine lv_istore (lv' := [(4, .int 9), (2, .long (lN 9)), (0, .ref m0), (1, .int (nI bg))]) hx hb d_Md_takeOther_31 hl (by decide) rfl (fun ls hl => ?_)
        refine lv_iload hx hb d_Md_takeOther_33 (lv_at hl 0 rfl) ?_
        refine lv_bipush (v := 8) hx hb d_Md_takeOther_35 (by decide) ?_
        refine lv_icmp_eq (tgt := 47) hx hb d_Md_takeOther_37 (by decide) (fun c_37 => absurd c_37 (by decide)) (fun c_37 => ?_)
        refine lv_iload hx hb d_Md_takeOther_40 (lv_at hl 0 rfl) ?_
        refine lv_bipush (v := 9) hx hb d_Md_takeOther_42 (by decide) ?_
        refine lv_icmp_ne (tgt := 61) hx hb d_Md_takeOther_44 (by decide) (fun c_44 => absurd (by decide) c_44) (fun c_44 => ?_)
        refine lv_aload_n hx hb d_Md_takeOther_47 rfl (lv_at hl 2 rfl) ?_
        refine va_get (D := D) (ci := 6) (v := .int (zI co)) (C := R_Md) (T := F_Md) (N := 44) hx hb hts (fun w h => List.mem_cons_of_mem _ (i_Md w h)) hown hE.1 hP 0 rfl rfl 14 (by decide) (hts _ (List.mem_cons_of_mem _ iw3_68)) (fun _ h9 => h9) rfl d_Md_takeOther_48 ?_
        refine lv_if_ne (tgt := 61) hx hb d_Md_takeOther_51 (by decide) (fun c_51 => ?_) (fun c_51 => ?_)
        · refine lv_iload hx hb d_Md_takeOther_61 (lv_at hl 0 rfl) ?_
          refine lv_bipush (v := 8) hx hb d_Md_takeOther_63 (by decide) ?_
          refine lv_icmp_ne (tgt := 78) hx hb d_Md_takeOther_65 (by decide) (fun c_65 => ?_) (fun c_65 => absurd c_65 (by decide))
          refine lv_iload hx hb d_Md_takeOther_78 (lv_at hl 0 rfl) ?_
          refine lv_bipush (v := 10) hx hb d_Md_takeOther_80 (by decide) ?_
          refine lv_icmp_ne (tgt := 96) hx hb d_Md_takeOther_82 (by decide) (fun c_82 => ?_) (fun c_82 => absurd c_82 (by decide))
          refine lv_iload hx hb d_Md_takeOther_96 (lv_at hl 0 rfl) ?_
          refine lv_bipush (v := 11) hx hb d_Md_takeOther_98 (by decide) ?_
          refine lv_icmp_ne (tgt := 112) hx hb d_Md_takeOther_100 (by decide) (fun c_100 => ?_) (fun c_100 => absurd c_100 (by decide))
          refine lv_iload hx hb d_Md_takeOther_112 (lv_at hl 0 rfl) ?_
          refine lv_bipush (v := 12) hx hb d_Md_takeOther_114 (by decide) ?_
          refine lv_icmp_eq (tgt := 126) hx hb d_Md_takeOther_116 (by decide) (fun c_116 => absurd c_116 (by decide)) (fun c_116 => ?_)
          refine lv_iload hx hb d_Md_takeOther_119 (lv_at hl 0 rfl) ?_
          refine lv_bipush (v := 14) hx hb d_Md_takeOther_121 (by decide) ?_
          refine lv_icmp_ne (tgt := 135) hx hb d_Md_takeOther_123 (by decide) (fun c_123 => ?_) (fun c_123 => absurd c_123 (by decide))
          refine lv_iload hx hb d_Md_takeOther_135 (lv_at hl 0 rfl) ?_
          refine lv_bipush (v := 8) hx hb d_Md_takeOther_137 (by decide) ?_
          refine lv_icmp_le (tgt := 147) hx hb d_Md_takeOther_139 (by decide) (fun c_139 => absurd c_139 (by decide)) (fun c_139 => ?_)
          refine lv_aload_n hx hb d_Md_takeOther_142 rfl (lv_at hl 2 rfl) ?_
          refine lv_iconst (v := 1) hx hb d_Md_takeOther_143 (by decide) ?_
          refine cV (As := [.int 1]) (rest := []) (n := 1) (wc := [(m0, .inr (6, mF g K (nI a100, 0, p) (nI (st.length + 1)) (nI (ps.length + 1)) (nI (d + 1), nI la, zI co, lo_, lA_, nI T.length, nI X.length, nI se, sta, dco))), ((g 7), .inl (cA 3, 400, .inl ex)), ((g 8), .inl (cA 1, 400, .inr (.inl ti)))]) (wr := [((g 0), .inl (cA 3, 2000, .inl fd)), ((g 10), .inl (cA 3, 4, .inl pe)), ((g 11), .inl (cA 3, 2001, .inl bk)), ((g 18), .inl (cA 3, 2000, .inl kd)), ((g 19), .inl (cA 3, 2000, .inl fr)), ((g 20), .inl (cA 3, 2000, .inl to)), ((g 21), .inl (cA 3, 2000, .inl re)), ((g 23), .inl (cA 3, 2000, .inl ow)), ((g 24), .inl (cA 3, 2000, .inl fi)), ((g 25), .inl (cA 3, 2000, .inl be))]) ⟨hx, hb, hml, hown, hts⟩ hno hlocks hl.1 (c_Md_want l hl9 D cA ad H.size m0 g K (nI a100, 0, p) (nI (ps.length + 1)) (nI (d + 1), nI la, zI co, lo_, lA_, nI T.length, nI X.length, nI se, sta, dco) ex ti (.inl 21 :: st) hst (by (try simp only [List.length_cons]); omega) (1 : Int32) 1 rfl) iw3_220 iw3_222 sel_Md_want iw1_7 iw3_223 (by decide +kernel) rfl ⟨Nat.le_of_ble_eq_true rfl, Nat.le_of_ble_eq_true rfl⟩ ⟨Nat.le_of_ble_eq_true rfl, Nat.le_of_ble_eq_true rfl⟩ rfl (Nat.le_of_ble_eq_true rfl) d_Md_takeOther_144 hE hP hD hS hA [0, 2, 3] [1, 4, 5, 6, 7, 8, 9, 10, 11, 12] rfl rfl rfl rfl (by decide) (ci := 6) rfl rfl 0 rfl (fun _ h => h.elim) (fun v_144 u_144 H locs hp_144 hP hD hS => ?_)
          obtain ⟨rfl, hst103⟩ := hp_144
          obtain ⟨ex103, ti103⟩ := u_144
          have hP : va_P D cls [(m0, .inr (6, mF g K (nI a100, 0, p) (nI (st.length + 2)) (nI (ps.length + 1)) (nI (d + 1), nI la, zI co, lo_, lA_, nI T.length, nI X.length, nI se, sta, dco))), ((g 0), .inl (cA 3, 2000, .inl fd)), ((g 7), .inl (cA 3, 400, .inl ex103)), ((g 8), .inl (cA 1, 400, .inr (.inl ti103))), ((g 10), .inl (cA 3, 4, .inl pe)), ((g 11), .inl (cA 3, 2001, .inl bk)), ((g 18), .inl (cA 3, 2000, .inl kd)), ((g 19), .inl (cA 3, 2000, .inl fr)), ((g 20), .inl (cA 3, 2000, .inl to)), ((g 21), .inl (cA 3, 2000, .inl re)), ((g 23), .inl (cA 3, 2000, .inl ow)), ((g 24), .inl (cA 3, 2000, .inl fi)), ((g 25), .inl (cA 3, 2000, .inl be))] H := hP.sub [10, 0, 11, 12, 1, 2, 3, 4, 5, 6, 7, 8, 9] rfl
          have hD : va_D A [(m0, .inr (6, mF g K (nI a100, 0, p) (nI (st.length + 2)) (nI (ps.length + 1)) (nI (d + 1), nI la, zI co, lo_, lA_, nI T.length, nI X.length, nI se, sta, dco))), ((g 0), .inl (cA 3, 2000, .inl fd)), ((g 7), .inl (cA 3, 400, .inl ex103)), ((g 8), .inl (cA 1, 400, .inr (.inl ti103))), ((g 10), .inl (cA 3, 4, .inl pe)), ((g 11), .inl (cA 3, 2001, .inl bk)), ((g 18), .inl (cA 3, 2000, .inl kd)), ((g 19), .inl (cA 3, 2000, .inl fr)), ((g 20), .inl (cA 3, 2000, .inl to)), ((g 21), .inl (cA 3, 2000, .inl re)), ((g 23), .inl (cA 3, 2000, .inl ow)), ((g 24), .inl (cA 3, 2000, .inl fi)), ((g 25), .inl (cA 3, 2000, .inl be))] := hD.sub [10, 0, 11, 12, 1, 2, 3, 4, 5, 6, 7, 8, 9] (by decide) rfl
          refine W.cs (cells' := 0) (slots' := 0) rfl rfl ?_
          refine W.eq (g2 := F0 m 147 ls []) rfl ?_
          exact cRv ((((nI a100, 0, p), nI (st.length + 2), nI (ps.length + 1), (nI (d + 1), nI la, zI co, lo_, lA_, nI T.length, nI X.length, nI se, sta, dco)), (ex103, ti103, pe, bk, kd, fr, to, re, ow, fi, be)) : NU) hx hb hr hlocks d_Md_takeOther_147 hS hP hD (⟨rfl, nP_E ((mb_E (pS252_E hr100 (fun q => by rw [zI_n0 c_51] at q; exact absurd q.2 (by decide))))) ⟨⟨rfl, rfl, rfl, rfl⟩, (fun z hz => by cases hz; exact ⟨rfl, hBL⟩), hlc, hst103, hpe, hTH, hXH⟩⟩) (Nat.le_refl _) (Nat.le_refl _)
        · refine lv_aload_n hx hb d_Md_takeOther_54 rfl (lv_at hl 2 rfl) ?_
          refine lv_bipush (v := 11) hx hb d_Md_takeOther_55 (by decide) ?_
          refine lv_iload_n hx hb d_Md_takeOther_57 rfl (lv_at hl 3 rfl) ?_
          refine cV (As := [.int 11, .int (nI bg)]) (rest := []) (n := 2) (wc := [(m0, .inr (6, mF g K (nI a100, 0, p) (nI (st.length + 1)) (nI (ps.length + 1)) (nI (d + 1), nI la, zI co, lo_, lA_, nI T.length, nI X.length, nI se, sta, dco)))]) (wr := [((g 0), .inl (cA 3, 2000, .inl fd)), ((g 7), .inl (cA 3, 400, .inl ex)), ((g 8), .inl (cA 1, 400, .inr (.inl ti))), ((g 10), .inl (cA 3, 4, .inl pe)), ((g 11), .inl (cA 3, 2001, .inl bk)), ((g 18), .inl (cA 3, 2000, .inl kd)), ((g 19), .inl (cA 3, 2000, .inl fr)), ((g 20), .inl (cA 3, 2000, .inl to)), ((g 21), .inl (cA 3, 2000, .inl re)), ((g 23), .inl (cA 3, 2000, .inl ow)), ((g 24), .inl (cA 3, 2000, .inl fi)), ((g 25), .inl (cA 3, 2000, .inl be))]) ⟨hx, hb, hml, hown, hts⟩ hno hlocks hl.1 (c_Md_stop l hl9 D cA ad H.size m0 g K (nI (st.length + 1)) (nI (ps.length + 1)) (nI (d + 1), nI la, zI co, lo_, lA_, nI T.length, nI X.length, nI se, sta, dco) (nI a100) p (11 : Int32) (nI bg)) iw3_216 iw3_218 sel_Md_stop iw1_7 iw3_219 (by decide +kernel) rfl ⟨Nat.le_of_ble_eq_true rfl, Nat.le_of_ble_eq_true rfl⟩ ⟨Nat.le_of_ble_eq_true rfl, Nat.le_of_ble_eq_true rfl⟩ rfl (Nat.le_of_ble_eq_true rfl) d_Md_takeOther_58 hE hP hD hS hA [0] [1, 2, 3, 4, 5, 6, 7, 8, 9, 10, 11, 12] rfl rfl rfl rfl (by decide) (ci := 6) rfl rfl 0 rfl (fun _ h => h.elim) (fun v_58 u_58 H locs hp_58 hP hD hS => ?_)
          obtain rfl := hp_58
          have hP : va_P D cls [(m0, .inr (6, mF g K (nI a100, 11, nI bg) (nI (st.length + 1)) (nI (ps.length + 1)) (nI (d + 1), nI la, zI co, lo_, lA_, nI T.length, nI X.length, nI se, sta, dco))), ((g 0), .inl (cA 3, 2000, .inl fd)), ((g 7), .inl (cA 3, 400, .inl ex)), ((g 8), .inl (cA 1, 400, .inr (.inl ti))), ((g 10), .inl (cA 3, 4, .inl pe)), ((g 11), .inl (cA 3, 2001, .inl bk)), ((g 18), .inl (cA 3, 2000, .inl kd)), ((g 19), .inl (cA 3, 2000, .inl fr)), ((g 20), .inl (cA 3, 2000, .inl to)), ((g 21), .inl (cA 3, 2000, .inl re)), ((g 23), .inl (cA 3, 2000, .inl ow)), ((g 24), .inl (cA 3, 2000, .inl fi)), ((g 25), .inl (cA 3, 2000, .inl be))] H := hP.sub [12, 0, 1, 2, 3, 4, 5, 6, 7, 8, 9, 10, 11] rfl
          have hD : va_D A [(m0, .inr (6, mF g K (nI a100, 11, nI bg) (nI (st.length + 1)) (nI (ps.length + 1)) (nI (d + 1), nI la, zI co, lo_, lA_, nI T.length, nI X.length, nI se, sta, dco))), ((g 0), .inl (cA 3, 2000, .inl fd)), ((g 7), .inl (cA 3, 400, .inl ex)), ((g 8), .inl (cA 1, 400, .inr (.inl ti))), ((g 10), .inl (cA 3, 4, .inl pe)), ((g 11), .inl (cA 3, 2001, .inl bk)), ((g 18), .inl (cA 3, 2000, .inl kd)), ((g 19), .inl (cA 3, 2000, .inl fr)), ((g 20), .inl (cA 3, 2000, .inl to)), ((g 21), .inl (cA 3, 2000, .inl re)), ((g 23), .inl (cA 3, 2000, .inl ow)), ((g 24), .inl (cA 3, 2000, .inl fi)), ((g 25), .inl (cA 3, 2000, .inl be))] := hD.sub [12, 0, 1, 2, 3, 4, 5, 6, 7, 8, 9, 10, 11] (by decide) rfl
          refine W.cs (cells' := 0) (slots' := 0) rfl rfl ?_
          refine W.eq (g2 := F0 m 61 ls []) rfl ?_
          refine lv_iload hx hb d_Md_takeOther_61 (lv_at hl 0 rfl) ?_
          refine lv_bipush (v := 8) hx hb d_Md_takeOther_63 (by decide) ?_
          refine lv_icmp_ne (tgt := 78) hx hb d_Md_takeOther_65 (by decide) (fun c_65 => ?_) (fun c_65 => absurd c_65 (by decide))
          refine lv_iload hx hb d_Md_takeOther_78 (lv_at hl 0 rfl) ?_
          refine lv_bipush (v := 10) hx hb d_Md_takeOther_80 (by decide) ?_
          refine lv_icmp_ne (tgt := 96) hx hb d_Md_takeOther_82 (by decide) (fun c_82 => ?_) (fun c_82 => absurd c_82 (by decide))
          refine lv_iload hx hb d_Md_takeOther_96 (lv_at hl 0 rfl) ?_
          refine lv_bipush (v := 11) hx hb d_Md_takeOther_98 (by decide) ?_
          refine lv_icmp_ne (tgt := 112) hx hb d_Md_takeOther_100 (by decide) (fun c_100 => ?_) (fun c_100 => absurd c_100 (by decide))
          refine lv_iload hx hb d_Md_takeOther_112 (lv_at hl 0 rfl) ?_
          refine lv_bipush (v := 12) hx hb d_Md_takeOther_114 (by decide) ?_
          refine lv_icmp_eq (tgt := 126) hx hb d_Md_takeOther_116 (by decide) (fun c_116 => absurd c_116 (by decide)) (fun c_116 => ?_)
          refine lv_iload hx hb d_Md_takeOther_119 (lv_at hl 0 rfl) ?_
          refine lv_bipush (v := 14) hx hb d_Md_takeOther_121 (by decide) ?_
          refine lv_icmp_ne (tgt := 135) hx hb d_Md_takeOther_123 (by decide) (fun c_123 => ?_) (fun c_123 => absurd c_123 (by decide))
          refine lv_iload hx hb d_Md_takeOther_135 (lv_at hl 0 rfl) ?_
          refine lv_bipush (v := 8) hx hb d_Md_takeOther_137 (by decide) ?_
          refine lv_icmp_le (tgt := 147) hx hb d_Md_takeOther_139 (by decide) (fun c_139 => absurd c_139 (by decide)) (fun c_139 => ?_)
          refine lv_aload_n hx hb d_Md_takeOther_142 rfl (lv_at hl 2 rfl) ?_
          refine lv_iconst (v := 1) hx hb d_Md_takeOther_143 (by decide) ?_
          refine cV (As := [.int 1]) (rest := []) (n := 1) (wc := [(m0, .inr (6, mF g K (nI a100, 11, nI bg) (nI (st.length + 1)) (nI (ps.length + 1)) (nI (d + 1), nI la, zI co, lo_, lA_, nI T.length, nI X.length, nI se, sta, dco))), ((g 7), .inl (cA 3, 400, .inl ex)), ((g 8), .inl (cA 1, 400, .inr (.inl ti)))]) (wr := [((g 0), .inl (cA 3, 2000, .inl fd)), ((g 10), .inl (cA 3, 4, .inl pe)), ((g 11), .inl (cA 3, 2001, .inl bk)), ((g 18), .inl (cA 3, 2000, .inl kd)), ((g 19), .inl (cA 3, 2000, .inl fr)), ((g 20), .inl (cA 3, 2000, .inl to)), ((g 21), .inl (cA 3, 2000, .inl re)), ((g 23), .inl (cA 3, 2000, .inl ow)), ((g 24), .inl (cA 3, 2000, .inl fi)), ((g 25), .inl (cA 3, 2000, .inl be))]) ⟨hx, hb, hml, hown, hts⟩ hno hlocks hl.1 (c_Md_want l hl9 D cA ad H.size m0 g K (nI a100, 11, nI bg) (nI (ps.length + 1)) (nI (d + 1), nI la, zI co, lo_, lA_, nI T.length, nI X.length, nI se, sta, dco) ex ti (.inl 21 :: st) hst (by (try simp only [List.length_cons]); omega) (1 : Int32) 1 rfl) iw3_220 iw3_222 sel_Md_want iw1_7 iw3_223 (by decide +kernel) rfl ⟨Nat.le_of_ble_eq_true rfl, Nat.le_of_ble_eq_true rfl⟩ ⟨Nat.le_of_ble_eq_true rfl, Nat.le_of_ble_eq_true rfl⟩ rfl (Nat.le_of_ble_eq_true rfl) d_Md_takeOther_144 hE hP hD hS hA [0, 2, 3] [1, 4, 5, 6, 7, 8, 9, 10, 11, 12] rfl rfl rfl rfl (by decide) (ci := 6) rfl rfl 0 rfl (fun _ h => h.elim) (fun v_144 u_144 H locs hp_144 hP hD hS => ?_)
          obtain ⟨rfl, hst104⟩ := hp_144
          obtain ⟨ex104, ti104⟩ := u_144
          have hP : va_P D cls [(m0, .inr (6, mF g K (nI a100, 11, nI bg) (nI (st.length + 2)) (nI (ps.length + 1)) (nI (d + 1), nI la, zI co, lo_, lA_, nI T.length, nI X.length, nI se, sta, dco))), ((g 0), .inl (cA 3, 2000, .inl fd)), ((g 7), .inl (cA 3, 400, .inl ex104)), ((g 8), .inl (cA 1, 400, .inr (.inl ti104))), ((g 10), .inl (cA 3, 4, .inl pe)), ((g 11), .inl (cA 3, 2001, .inl bk)), ((g 18), .inl (cA 3, 2000, .inl kd)), ((g 19), .inl (cA 3, 2000, .inl fr)), ((g 20), .inl (cA 3, 2000, .inl to)), ((g 21), .inl (cA 3, 2000, .inl re)), ((g 23), .inl (cA 3, 2000, .inl ow)), ((g 24), .inl (cA 3, 2000, .inl fi)), ((g 25), .inl (cA 3, 2000, .inl be))] H := hP.sub [10, 0, 11, 12, 1, 2, 3, 4, 5, 6, 7, 8, 9] rfl
          have hD : va_D A [(m0, .inr (6, mF g K (nI a100, 11, nI bg) (nI (st.length + 2)) (nI (ps.length + 1)) (nI (d + 1), nI la, zI co, lo_, lA_, nI T.length, nI X.length, nI se, sta, dco))), ((g 0), .inl (cA 3, 2000, .inl fd)), ((g 7), .inl (cA 3, 400, .inl ex104)), ((g 8), .inl (cA 1, 400, .inr (.inl ti104))), ((g 10), .inl (cA 3, 4, .inl pe)), ((g 11), .inl (cA 3, 2001, .inl bk)), ((g 18), .inl (cA 3, 2000, .inl kd)), ((g 19), .inl (cA 3, 2000, .inl fr)), ((g 20), .inl (cA 3, 2000, .inl to)), ((g 21), .inl (cA 3, 2000, .inl re)), ((g 23), .inl (cA 3, 2000, .inl ow)), ((g 24), .inl (cA 3, 2000, .inl fi)), ((g 25), .inl (cA 3, 2000, .inl be))] := hD.sub [10, 0, 11, 12, 1, 2, 3, 4, 5, 6, 7, 8, 9] (by decide) rfl
          refine W.cs (cells' := 0) (slots' := 0) rfl rfl ?_
          refine W.eq (g2 := F0 m 147 ls []) rfl ?_
          exact cRv ((((nI a100, 11, nI bg), nI (st.length + 2), nI (ps.length + 1), (nI (d + 1), nI la, zI co, lo_, lA_, nI T.length, nI X.length, nI se, sta, dco)), (ex104, ti104, pe, bk, kd, fr, to, re, ow, fi, be)) : NU) hx hb hr hlocks d_Md_takeOther_147 hS hP hD (⟨rfl, nP_T (mb_T (pS252_F hr100 ⟨by decide, zI_0.mp c_51⟩)) ⟨⟨by decide, by decide⟩, rfl, T.length, by (try simp only [List.length_cons]); omega, rfl⟩⟩) (Nat.le_refl _) (Nat.le_refl _)
      · have hl : lv_has ls 5 [(2, .long (lN 10)), (0, .ref m0), (1, .int (nI bg))] := hl
        refine W.eq (g2 := F0 m 31 ls [.int 10]) rfl ?_
        refine lv_istore (lv' := [(4, .int 10), (2, .long (lN 10)), (0, .ref m0), (1, .int (nI bg))]) hx hb d_Md_takeOther_31 hl (by decide) rfl (fun ls hl => ?_)
        refine lv_iload hx hb d_Md_takeOther_33 (lv_at hl 0 rfl) ?_
        refine lv_bipush (v := 8) hx hb d_Md_takeOther_35 (by decide) ?_
        refine lv_icmp_eq (tgt := 47) hx hb d_Md_takeOther_37 (by decide) (fun c_37 => absurd c_37 (by decide)) (fun c_37 => ?_)
        refine lv_iload hx hb d_Md_takeOther_40 (lv_at hl 0 rfl) ?_
        refine lv_bipush (v := 9) hx hb d_Md_takeOther_42 (by decide) ?_
        refine lv_icmp_ne (tgt := 61) hx hb d_Md_takeOther_44 (by decide) (fun c_44 => ?_) (fun c_44 => absurd c_44 (by decide))
        refine lv_iload hx hb d_Md_takeOther_61 (lv_at hl 0 rfl) ?_
        refine lv_bipush (v := 8) hx hb d_Md_takeOther_63 (by decide) ?_
        refine lv_icmp_ne (tgt := 78) hx hb d_Md_takeOther_65 (by decide) (fun c_65 => ?_) (fun c_65 => absurd c_65 (by decide))
        refine lv_iload hx hb d_Md_takeOther_78 (lv_at hl 0 rfl) ?_
        refine lv_bipush (v := 10) hx hb d_Md_takeOther_80 (by decide) ?_
        refine lv_icmp_ne (tgt := 96) hx hb d_Md_takeOther_82 (by decide) (fun c_82 => absurd (by decide) c_82) (fun c_82 => ?_)
        refine lv_aload_n hx hb d_Md_takeOther_85 rfl (lv_at hl 2 rfl) ?_
        refine lv_bipush (v := 18) hx hb d_Md_takeOther_86 (by decide) ?_
        refine lv_bipush (v := 18) hx hb d_Md_takeOther_88 (by decide) ?_
        refine cV (As := [.int 18, .int 18]) (rest := []) (n := 2) (wc := [(m0, .inr (6, mF g K (nI a100, 0, p) (nI (st.length + 1)) (nI (ps.length + 1)) (nI (d + 1), nI la, zI co, lo_, lA_, nI T.length, nI X.length, nI se, sta, dco))), ((g 7), .inl (cA 3, 400, .inl ex)), ((g 8), .inl (cA 1, 400, .inr (.inl ti)))]) (wr := [((g 0), .inl (cA 3, 2000, .inl fd)), ((g 10), .inl (cA 3, 4, .inl pe)), ((g 11), .inl (cA 3, 2001, .inl bk)), ((g 18), .inl (cA 3, 2000, .inl kd)), ((g 19), .inl (cA 3, 2000, .inl fr)), ((g 20), .inl (cA 3, 2000, .inl to)), ((g 21), .inl (cA 3, 2000, .inl re)), ((g 23), .inl (cA 3, 2000, .inl ow)), ((g 24), .inl (cA 3, 2000, .inl fi)), ((g 25), .inl (cA 3, 2000, .inl be))]) ⟨hx, hb, hml, hown, hts⟩ hno hlocks hl.1 (c_Md_wantTwo l hl9 D cA ad H.size m0 g K (nI a100, 0, p) (nI (ps.length + 1)) (nI (d + 1), nI la, zI co, lo_, lA_, nI T.length, nI X.length, nI se, sta, dco) ex ti (.inl 21 :: st) hst (by (try simp only [List.length_cons]); omega) (18 : Int32) 18 rfl (18 : Int32) 18 rfl) iw4_22 iw4_24 sel_Md_wantTwo iw1_7 iw4_25 (by decide +kernel) rfl ⟨Nat.le_of_ble_eq_true rfl, Nat.le_of_ble_eq_true rfl⟩ ⟨Nat.le_of_ble_eq_true rfl, Nat.le_of_ble_eq_true rfl⟩ rfl (Nat.le_of_ble_eq_true rfl) d_Md_takeOther_90 hE hP hD hS hA [0, 2, 3] [1, 4, 5, 6, 7, 8, 9, 10, 11, 12] rfl rfl rfl rfl (by decide) (ci := 6) rfl rfl 0 rfl (fun _ h => h.elim) (fun v_90 u_90 H locs hp_90 hP hD hS => ?_)
        obtain ⟨rfl, hst105⟩ := hp_90
        obtain ⟨ex105, ti105⟩ := u_90
        have hP : va_P D cls [(m0, .inr (6, mF g K (nI a100, 0, p) (nI (st.length + 3)) (nI (ps.length + 1)) (nI (d + 1), nI la, zI co, lo_, lA_, nI T.length, nI X.length, nI se, sta, dco))), ((g 0), .inl (cA 3, 2000, .inl fd)), ((g 7), .inl (cA 3, 400, .inl ex105)), ((g 8), .inl (cA 1, 400, .inr (.inl ti105))), ((g 10), .inl (cA 3, 4, .inl pe)), ((g 11), .inl (cA 3, 2001, .inl bk)), ((g 18), .inl (cA 3, 2000, .inl kd)), ((g 19), .inl (cA 3, 2000, .inl fr)), ((g 20), .inl (cA 3, 2000, .inl to)), ((g 21), .inl (cA 3, 2000, .inl re)), ((g 23), .inl (cA 3, 2000, .inl ow)), ((g 24), .inl (cA 3, 2000, .inl fi)), ((g 25), .inl (cA 3, 2000, .inl be))] H := hP.sub [10, 0, 11, 12, 1, 2, 3, 4, 5, 6, 7, 8, 9] rfl
        have hD : va_D A [(m0, .inr (6, mF g K (nI a100, 0, p) (nI (st.length + 3)) (nI (ps.length + 1)) (nI (d + 1), nI la, zI co, lo_, lA_, nI T.length, nI X.length, nI se, sta, dco))), ((g 0), .inl (cA 3, 2000, .inl fd)), ((g 7), .inl (cA 3, 400, .inl ex105)), ((g 8), .inl (cA 1, 400, .inr (.inl ti105))), ((g 10), .inl (cA 3, 4, .inl pe)), ((g 11), .inl (cA 3, 2001, .inl bk)), ((g 18), .inl (cA 3, 2000, .inl kd)), ((g 19), .inl (cA 3, 2000, .inl fr)), ((g 20), .inl (cA 3, 2000, .inl to)), ((g 21), .inl (cA 3, 2000, .inl re)), ((g 23), .inl (cA 3, 2000, .inl ow)), ((g 24), .inl (cA 3, 2000, .inl fi)), ((g 25), .inl (cA 3, 2000, .inl be))] := hD.sub [10, 0, 11, 12, 1, 2, 3, 4, 5, 6, 7, 8, 9] (by decide) rfl
        refine W.cs (cells' := 0) (slots' := 0) rfl rfl ?_
        refine W.eq (g2 := F0 m 93 ls []) rfl ?_
        refine lv_goto (tgt := 147) hx hb d_Md_takeOther_93 (by decide) ?_
        exact cRv ((((nI a100, 0, p), nI (st.length + 3), nI (ps.length + 1), (nI (d + 1), nI la, zI co, lo_, lA_, nI T.length, nI X.length, nI se, sta, dco)), (ex105, ti105, pe, bk, kd, fr, to, re, ow, fi, be)) : NU) hx hb hr hlocks d_Md_takeOther_147 hS hP hD (⟨rfl, nP_E ((mb_E (pS252_E hr100 (fun q => absurd q.1 (by decide))))) ⟨⟨rfl, rfl, rfl, rfl⟩, (fun z hz => by cases hz; exact ⟨rfl, hBL⟩), hlc, hst105, hpe, hTH, hXH⟩⟩) (Nat.le_refl _) (Nat.le_refl _)
      · have hl : lv_has ls 5 [(2, .long (lN 11)), (0, .ref m0), (1, .int (nI bg))] := hl
        refine W.eq (g2 := F0 m 31 ls [.int 11]) rfl ?_
        refine lv_istore (lv' := [(4, .int 11), (2, .long (lN 11)), (0, .ref m0), (1, .int (nI bg))]) hx hb d_Md_takeOther_31 hl (by decide) rfl (fun ls hl => ?_)
        refine lv_iload hx hb d_Md_takeOther_33 (lv_at hl 0 rfl) ?_
        refine lv_bipush (v := 8) hx hb d_Md_takeOther_35 (by decide) ?_
        refine lv_icmp_eq (tgt := 47) hx hb d_Md_takeOther_37 (by decide) (fun c_37 => absurd c_37 (by decide)) (fun c_37 => ?_)
        refine lv_iload hx hb d_Md_takeOther_40 (lv_at hl 0 rfl) ?_
        refine lv_bipush (v := 9) hx hb d_Md_takeOther_42 (by decide) ?_
        refine lv_icmp_ne (tgt := 61) hx hb d_Md_takeOther_44 (by decide) (fun c_44 => ?_) (fun c_44 => absurd c_44 (by decide))
        refine lv_iload hx hb d_Md_takeOther_61 (lv_at hl 0 rfl) ?_
        refine lv_bipush (v := 8) hx hb d_Md_takeOther_63 (by decide) ?_
        refine lv_icmp_ne (tgt := 78) hx hb d_Md_takeOther_65 (by decide) (fun c_65 => ?_) (fun c_65 => absurd c_65 (by decide))
        refine lv_iload hx hb d_Md_takeOther_78 (lv_at hl 0 rfl) ?_
        refine lv_bipush (v := 10) hx hb d_Md_takeOther_80 (by decide) ?_
        refine lv_icmp_ne (tgt := 96) hx hb d_Md_takeOther_82 (by decide) (fun c_82 => ?_) (fun c_82 => absurd c_82 (by decide))
        refine lv_iload hx hb d_Md_takeOther_96 (lv_at hl 0 rfl) ?_
        refine lv_bipush (v := 11) hx hb d_Md_takeOther_98 (by decide) ?_
        refine lv_icmp_ne (tgt := 112) hx hb d_Md_takeOther_100 (by decide) (fun c_100 => absurd (by decide) c_100) (fun c_100 => ?_)
        refine lv_aload_n hx hb d_Md_takeOther_103 rfl (lv_at hl 2 rfl) ?_
        refine lv_bipush (v := 18) hx hb d_Md_takeOther_104 (by decide) ?_
        refine cV (As := [.int 18]) (rest := []) (n := 1) (wc := [(m0, .inr (6, mF g K (nI a100, 0, p) (nI (st.length + 1)) (nI (ps.length + 1)) (nI (d + 1), nI la, zI co, lo_, lA_, nI T.length, nI X.length, nI se, sta, dco))), ((g 7), .inl (cA 3, 400, .inl ex)), ((g 8), .inl (cA 1, 400, .inr (.inl ti)))]) (wr := [((g 0), .inl (cA 3, 2000, .inl fd)), ((g 10), .inl (cA 3, 4, .inl pe)), ((g 11), .inl (cA 3, 2001, .inl bk)), ((g 18), .inl (cA 3, 2000, .inl kd)), ((g 19), .inl (cA 3, 2000, .inl fr)), ((g 20), .inl (cA 3, 2000, .inl to)), ((g 21), .inl (cA 3, 2000, .inl re)), ((g 23), .inl (cA 3, 2000, .inl ow)), ((g 24), .inl (cA 3, 2000, .inl fi)), ((g 25), .inl (cA 3, 2000, .inl be))]) ⟨hx, hb, hml, hown, hts⟩ hno hlocks hl.1 (c_Md_want l hl9 D cA ad H.size m0 g K (nI a100, 0, p) (nI (ps.length + 1)) (nI (d + 1), nI la, zI co, lo_, lA_, nI T.length, nI X.length, nI se, sta, dco) ex ti (.inl 21 :: st) hst (by (try simp only [List.length_cons]); omega) (18 : Int32) 18 rfl) iw3_220 iw3_222 sel_Md_want iw1_7 iw3_223 (by decide +kernel) rfl ⟨Nat.le_of_ble_eq_true rfl, Nat.le_of_ble_eq_true rfl⟩ ⟨Nat.le_of_ble_eq_true rfl, Nat.le_of_ble_eq_true rfl⟩ rfl (Nat.le_of_ble_eq_true rfl) d_Md_takeOther_106 hE hP hD hS hA [0, 2, 3] [1, 4, 5, 6, 7, 8, 9, 10, 11, 12] rfl rfl rfl rfl (by decide) (ci := 6) rfl rfl 0 rfl (fun _ h => h.elim) (fun v_106 u_106 H locs hp_106 hP hD hS => ?_)
        obtain ⟨rfl, hst106⟩ := hp_106
        obtain ⟨ex106, ti106⟩ := u_106
        have hP : va_P D cls [(m0, .inr (6, mF g K (nI a100, 0, p) (nI (st.length + 2)) (nI (ps.length + 1)) (nI (d + 1), nI la, zI co, lo_, lA_, nI T.length, nI X.length, nI se, sta, dco))), ((g 0), .inl (cA 3, 2000, .inl fd)), ((g 7), .inl (cA 3, 400, .inl ex106)), ((g 8), .inl (cA 1, 400, .inr (.inl ti106))), ((g 10), .inl (cA 3, 4, .inl pe)), ((g 11), .inl (cA 3, 2001, .inl bk)), ((g 18), .inl (cA 3, 2000, .inl kd)), ((g 19), .inl (cA 3, 2000, .inl fr)), ((g 20), .inl (cA 3, 2000, .inl to)), ((g 21), .inl (cA 3, 2000, .inl re)), ((g 23), .inl (cA 3, 2000, .inl ow)), ((g 24), .inl (cA 3, 2000, .inl fi)), ((g 25), .inl (cA 3, 2000, .inl be))] H := hP.sub [10, 0, 11, 12, 1, 2, 3, 4, 5, 6, 7, 8, 9] rfl
        have hD : va_D A [(m0, .inr (6, mF g K (nI a100, 0, p) (nI (st.length + 2)) (nI (ps.length + 1)) (nI (d + 1), nI la, zI co, lo_, lA_, nI T.length, nI X.length, nI se, sta, dco))), ((g 0), .inl (cA 3, 2000, .inl fd)), ((g 7), .inl (cA 3, 400, .inl ex106)), ((g 8), .inl (cA 1, 400, .inr (.inl ti106))), ((g 10), .inl (cA 3, 4, .inl pe)), ((g 11), .inl (cA 3, 2001, .inl bk)), ((g 18), .inl (cA 3, 2000, .inl kd)), ((g 19), .inl (cA 3, 2000, .inl fr)), ((g 20), .inl (cA 3, 2000, .inl to)), ((g 21), .inl (cA 3, 2000, .inl re)), ((g 23), .inl (cA 3, 2000, .inl ow)), ((g 24), .inl (cA 3, 2000, .inl fi)), ((g 25), .inl (cA 3, 2000, .inl be))] := hD.sub [10, 0, 11, 12, 1, 2, 3, 4, 5, 6, 7, 8, 9] (by decide) rfl
        refine W.cs (cells' := 0) (slots' := 0) rfl rfl ?_
        refine W.eq (g2 := F0 m 109 ls []) rfl ?_
        refine lv_goto (tgt := 147) hx hb d_Md_takeOther_109 (by decide) ?_
        exact cRv ((((nI a100, 0, p), nI (st.length + 2), nI (ps.length + 1), (nI (d + 1), nI la, zI co, lo_, lA_, nI T.length, nI X.length, nI se, sta, dco)), (ex106, ti106, pe, bk, kd, fr, to, re, ow, fi, be)) : NU) hx hb hr hlocks d_Md_takeOther_147 hS hP hD (⟨rfl, nP_E ((mb_E (pS252_E hr100 (fun q => absurd q.1 (by decide))))) ⟨⟨rfl, rfl, rfl, rfl⟩, (fun z hz => by cases hz; exact ⟨rfl, hBL⟩), hlc, hst106, hpe, hTH, hXH⟩⟩) (Nat.le_refl _) (Nat.le_refl _)
      · have hl : lv_has ls 5 [(2, .long (lN 12)), (0, .ref m0), (1, .int (nI bg))] := hl
        refine W.eq (g2 := F0 m 31 ls [.int 12]) rfl ?_
        refine lv_istore (lv' := [(4, .int 12), (2, .long (lN 12)), (0, .ref m0), (1, .int (nI bg))]) hx hb d_Md_takeOther_31 hl (by decide) rfl (fun ls hl => ?_)
        refine lv_iload hx hb d_Md_takeOther_33 (lv_at hl 0 rfl) ?_
        refine lv_bipush (v := 8) hx hb d_Md_takeOther_35 (by decide) ?_
        refine lv_icmp_eq (tgt := 47) hx hb d_Md_takeOther_37 (by decide) (fun c_37 => absurd c_37 (by decide)) (fun c_37 => ?_)
        refine lv_iload hx hb d_Md_takeOther_40 (lv_at hl 0 rfl) ?_
        refine lv_bipush (v := 9) hx hb d_Md_takeOther_42 (by decide) ?_
        refine lv_icmp_ne (tgt := 61) hx hb d_Md_takeOther_44 (by decide) (fun c_44 => ?_) (fun c_44 => absurd c_44 (by decide))
        refine lv_iload hx hb d_Md_takeOther_61 (lv_at hl 0 rfl) ?_
        refine lv_bipush (v := 8) hx hb d_Md_takeOther_63 (by decide) ?_
        refine lv_icmp_ne (tgt := 78) hx hb d_Md_takeOther_65 (by decide) (fun c_65 => ?_) (fun c_65 => absurd c_65 (by decide))
        refine lv_iload hx hb d_Md_takeOther_78 (lv_at hl 0 rfl) ?_
        refine lv_bipush (v := 10) hx hb d_Md_takeOther_80 (by decide) ?_
        refine lv_icmp_ne (tgt := 96) hx hb d_Md_takeOther_82 (by decide) (fun c_82 => ?_) (fun c_82 => absurd c_82 (by decide))
        refine lv_iload hx hb d_Md_takeOther_96 (lv_at hl 0 rfl) ?_
        refine lv_bipush (v := 11) hx hb d_Md_takeOther_98 (by decide) ?_
        refine lv_icmp_ne (tgt := 112) hx hb d_Md_takeOther_100 (by decide) (fun c_100 => ?_) (fun c_100 => absurd c_100 (by decide))
        refine lv_iload hx hb d_Md_takeOther_112 (lv_at hl 0 rfl) ?_
        refine lv_bipush (v := 12) hx hb d_Md_takeOther_114 (by decide) ?_
        refine lv_icmp_eq (tgt := 126) hx hb d_Md_takeOther_116 (by decide) (fun c_116 => ?_) (fun c_116 => absurd (by decide) c_116)
        refine lv_aload_n hx hb d_Md_takeOther_126 rfl (lv_at hl 2 rfl) ?_
        refine lv_iconst (v := 1) hx hb d_Md_takeOther_127 (by decide) ?_
        refine lv_iconst (v := 1) hx hb d_Md_takeOther_128 (by decide) ?_
        refine cV (As := [.int 1, .int 1]) (rest := []) (n := 2) (wc := [(m0, .inr (6, mF g K (nI a100, 0, p) (nI (st.length + 1)) (nI (ps.length + 1)) (nI (d + 1), nI la, zI co, lo_, lA_, nI T.length, nI X.length, nI se, sta, dco))), ((g 7), .inl (cA 3, 400, .inl ex)), ((g 8), .inl (cA 1, 400, .inr (.inl ti)))]) (wr := [((g 0), .inl (cA 3, 2000, .inl fd)), ((g 10), .inl (cA 3, 4, .inl pe)), ((g 11), .inl (cA 3, 2001, .inl bk)), ((g 18), .inl (cA 3, 2000, .inl kd)), ((g 19), .inl (cA 3, 2000, .inl fr)), ((g 20), .inl (cA 3, 2000, .inl to)), ((g 21), .inl (cA 3, 2000, .inl re)), ((g 23), .inl (cA 3, 2000, .inl ow)), ((g 24), .inl (cA 3, 2000, .inl fi)), ((g 25), .inl (cA 3, 2000, .inl be))]) ⟨hx, hb, hml, hown, hts⟩ hno hlocks hl.1 (c_Md_wantTwo l hl9 D cA ad H.size m0 g K (nI a100, 0, p) (nI (ps.length + 1)) (nI (d + 1), nI la, zI co, lo_, lA_, nI T.length, nI X.length, nI se, sta, dco) ex ti (.inl 21 :: st) hst (by (try simp only [List.length_cons]); omega) (1 : Int32) 1 rfl (1 : Int32) 1 rfl) iw4_22 iw4_24 sel_Md_wantTwo iw1_7 iw4_25 (by decide +kernel) rfl ⟨Nat.le_of_ble_eq_true rfl, Nat.le_of_ble_eq_true rfl⟩ ⟨Nat.le_of_ble_eq_true rfl, Nat.le_of_ble_eq_true rfl⟩ rfl (Nat.le_of_ble_eq_true rfl) d_Md_takeOther_129 hE hP hD hS hA [0, 2, 3] [1, 4, 5, 6, 7, 8, 9, 10, 11, 12] rfl rfl rfl rfl (by decide) (ci := 6) rfl rfl 0 rfl (fun _ h => h.elim) (fun v_129 u_129 H locs hp_129 hP hD hS => ?_)
        obtain ⟨rfl, hst107⟩ := hp_129
        obtain ⟨ex107, ti107⟩ := u_129
        have hP : va_P D cls [(m0, .inr (6, mF g K (nI a100, 0, p) (nI (st.length + 3)) (nI (ps.length + 1)) (nI (d + 1), nI la, zI co, lo_, lA_, nI T.length, nI X.length, nI se, sta, dco))), ((g 0), .inl (cA 3, 2000, .inl fd)), ((g 7), .inl (cA 3, 400, .inl ex107)), ((g 8), .inl (cA 1, 400, .inr (.inl ti107))), ((g 10), .inl (cA 3, 4, .inl pe)), ((g 11), .inl (cA 3, 2001, .inl bk)), ((g 18), .inl (cA 3, 2000, .inl kd)), ((g 19), .inl (cA 3, 2000, .inl fr)), ((g 20), .inl (cA 3, 2000, .inl to)), ((g 21), .inl (cA 3, 2000, .inl re)), ((g 23), .inl (cA 3, 2000, .inl ow)), ((g 24), .inl (cA 3, 2000, .inl fi)), ((g 25), .inl (cA 3, 2000, .inl be))] H := hP.sub [10, 0, 11, 12, 1, 2, 3, 4, 5, 6, 7, 8, 9] rfl
        have hD : va_D A [(m0, .inr (6, mF g K (nI a100, 0, p) (nI (st.length + 3)) (nI (ps.length + 1)) (nI (d + 1), nI la, zI co, lo_, lA_, nI T.length, nI X.length, nI se, sta, dco))), ((g 0), .inl (cA 3, 2000, .inl fd)), ((g 7), .inl (cA 3, 400, .inl ex107)), ((g 8), .inl (cA 1, 400, .inr (.inl ti107))), ((g 10), .inl (cA 3, 4, .inl pe)), ((g 11), .inl (cA 3, 2001, .inl bk)), ((g 18), .inl (cA 3, 2000, .inl kd)), ((g 19), .inl (cA 3, 2000, .inl fr)), ((g 20), .inl (cA 3, 2000, .inl to)), ((g 21), .inl (cA 3, 2000, .inl re)), ((g 23), .inl (cA 3, 2000, .inl ow)), ((g 24), .inl (cA 3, 2000, .inl fi)), ((g 25), .inl (cA 3, 2000, .inl be))] := hD.sub [10, 0, 11, 12, 1, 2, 3, 4, 5, 6, 7, 8, 9] (by decide) rfl
        refine W.cs (cells' := 0) (slots' := 0) rfl rfl ?_
        refine W.eq (g2 := F0 m 132 ls []) rfl ?_
        refine lv_goto (tgt := 147) hx hb d_Md_takeOther_132 (by decide) ?_
        exact cRv ((((nI a100, 0, p), nI (st.length + 3), nI (ps.length + 1), (nI (d + 1), nI la, zI co, lo_, lA_, nI T.length, nI X.length, nI se, sta, dco)), (ex107, ti107, pe, bk, kd, fr, to, re, ow, fi, be)) : NU) hx hb hr hlocks d_Md_takeOther_147 hS hP hD (⟨rfl, nP_E ((mb_E (pS252_E hr100 (fun q => absurd q.1 (by decide))))) ⟨⟨rfl, rfl, rfl, rfl⟩, (fun z hz => by cases hz; exact ⟨rfl, hBL⟩), hlc, hst107, hpe, hTH, hXH⟩⟩) (Nat.le_refl _) (Nat.le_refl _)
      · have hl : lv_has ls 5 [(2, .long (lN 13)), (0, .ref m0), (1, .int (nI bg))] := hl
        refine W.eq (g2 := F0 m 31 ls [.int 13]) rfl ?_
        refine lv_istore (lv' := [(4, .int 13), (2, .long (lN 13)), (0, .ref m0), (1, .int (nI bg))]) hx hb d_Md_takeOther_31 hl (by decide) rfl (fun ls hl => ?_)
        refine lv_iload hx hb d_Md_takeOther_33 (lv_at hl 0 rfl) ?_
        refine lv_bipush (v := 8) hx hb d_Md_takeOther_35 (by decide) ?_
        refine lv_icmp_eq (tgt := 47) hx hb d_Md_takeOther_37 (by decide) (fun c_37 => absurd c_37 (by decide)) (fun c_37 => ?_)
        refine lv_iload hx hb d_Md_takeOther_40 (lv_at hl 0 rfl) ?_
        refine lv_bipush (v := 9) hx hb d_Md_takeOther_42 (by decide) ?_
        refine lv_icmp_ne (tgt := 61) hx hb d_Md_takeOther_44 (by decide) (fun c_44 => ?_) (fun c_44 => absurd c_44 (by decide))
        refine lv_iload hx hb d_Md_takeOther_61 (lv_at hl 0 rfl) ?_
        refine lv_bipush (v := 8) hx hb d_Md_takeOther_63 (by decide) ?_
        refine lv_icmp_ne (tgt := 78) hx hb d_Md_takeOther_65 (by decide) (fun c_65 => ?_) (fun c_65 => absurd c_65 (by decide))
        refine lv_iload hx hb d_Md_takeOther_78 (lv_at hl 0 rfl) ?_
        refine lv_bipush (v := 10) hx hb d_Md_takeOther_80 (by decide) ?_
        refine lv_icmp_ne (tgt := 96) hx hb d_Md_takeOther_82 (by decide) (fun c_82 => ?_) (fun c_82 => absurd c_82 (by decide))
        refine lv_iload hx hb d_Md_takeOther_96 (lv_at hl 0 rfl) ?_
        refine lv_bipush (v := 11) hx hb d_Md_takeOther_98 (by decide) ?_
        refine lv_icmp_ne (tgt := 112) hx hb d_Md_takeOther_100 (by decide) (fun c_100 => ?_) (fun c_100 => absurd c_100 (by decide))
        refine lv_iload hx hb d_Md_takeOther_112 (lv_at hl 0 rfl) ?_
        refine lv_bipush (v := 12) hx hb d_Md_takeOther_114 (by decide) ?_
        refine lv_icmp_eq (tgt := 126) hx hb d_Md_takeOther_116 (by decide) (fun c_116 => absurd c_116 (by decide)) (fun c_116 => ?_)
        refine lv_iload hx hb d_Md_takeOther_119 (lv_at hl 0 rfl) ?_
        refine lv_bipush (v := 14) hx hb d_Md_takeOther_121 (by decide) ?_
        refine lv_icmp_ne (tgt := 135) hx hb d_Md_takeOther_123 (by decide) (fun c_123 => ?_) (fun c_123 => absurd c_123 (by decide))
        refine lv_iload hx hb d_Md_takeOther_135 (lv_at hl 0 rfl) ?_
        refine lv_bipush (v := 8) hx hb d_Md_takeOther_137 (by decide) ?_
        refine lv_icmp_le (tgt := 147) hx hb d_Md_takeOther_139 (by decide) (fun c_139 => absurd c_139 (by decide)) (fun c_139 => ?_)
        refine lv_aload_n hx hb d_Md_takeOther_142 rfl (lv_at hl 2 rfl) ?_
        refine lv_iconst (v := 1) hx hb d_Md_takeOther_143 (by decide) ?_
        refine cV (As := [.int 1]) (rest := []) (n := 1) (wc := [(m0, .inr (6, mF g K (nI a100, 0, p) (nI (st.length + 1)) (nI (ps.length + 1)) (nI (d + 1), nI la, zI co, lo_, lA_, nI T.length, nI X.length, nI se, sta, dco))), ((g 7), .inl (cA 3, 400, .inl ex)), ((g 8), .inl (cA 1, 400, .inr (.inl ti)))]) (wr := [((g 0), .inl (cA 3, 2000, .inl fd)), ((g 10), .inl (cA 3, 4, .inl pe)), ((g 11), .inl (cA 3, 2001, .inl bk)), ((g 18), .inl (cA 3, 2000, .inl kd)), ((g 19), .inl (cA 3, 2000, .inl fr)), ((g 20), .inl (cA 3, 2000, .inl to)), ((g 21), .inl (cA 3, 2000, .inl re)), ((g 23), .inl (cA 3, 2000, .inl ow)), ((g 24), .inl (cA 3, 2000, .inl fi)), ((g 25), .inl (cA 3, 2000, .inl be))]) ⟨hx, hb, hml, hown, hts⟩ hno hlocks hl.1 (c_Md_want l hl9 D cA ad H.size m0 g K (nI a100, 0, p) (nI (ps.length + 1)) (nI (d + 1), nI la, zI co, lo_, lA_, nI T.length, nI X.length, nI se, sta, dco) ex ti (.inl 21 :: st) hst (by (try simp only [List.length_cons]); omega) (1 : Int32) 1 rfl) iw3_220 iw3_222 sel_Md_want iw1_7 iw3_223 (by decide +kernel) rfl ⟨Nat.le_of_ble_eq_true rfl, Nat.le_of_ble_eq_true rfl⟩ ⟨Nat.le_of_ble_eq_true rfl, Nat.le_of_ble_eq_true rfl⟩ rfl (Nat.le_of_ble_eq_true rfl) d_Md_takeOther_144 hE hP hD hS hA [0, 2, 3] [1, 4, 5, 6, 7, 8, 9, 10, 11, 12] rfl rfl rfl rfl (by decide) (ci := 6) rfl rfl 0 rfl (fun _ h => h.elim) (fun v_144 u_144 H locs hp_144 hP hD hS => ?_)
        obtain ⟨rfl, hst108⟩ := hp_144
        obtain ⟨ex108, ti108⟩ := u_144
        have hP : va_P D cls [(m0, .inr (6, mF g K (nI a100, 0, p) (nI (st.length + 2)) (nI (ps.length + 1)) (nI (d + 1), nI la, zI co, lo_, lA_, nI T.length, nI X.length, nI se, sta, dco))), ((g 0), .inl (cA 3, 2000, .inl fd)), ((g 7), .inl (cA 3, 400, .inl ex108)), ((g 8), .inl (cA 1, 400, .inr (.inl ti108))), ((g 10), .inl (cA 3, 4, .inl pe)), ((g 11), .inl (cA 3, 2001, .inl bk)), ((g 18), .inl (cA 3, 2000, .inl kd)), ((g 19), .inl (cA 3, 2000, .inl fr)), ((g 20), .inl (cA 3, 2000, .inl to)), ((g 21), .inl (cA 3, 2000, .inl re)), ((g 23), .inl (cA 3, 2000, .inl ow)), ((g 24), .inl (cA 3, 2000, .inl fi)), ((g 25), .inl (cA 3, 2000, .inl be))] H := hP.sub [10, 0, 11, 12, 1, 2, 3, 4, 5, 6, 7, 8, 9] rfl
        have hD : va_D A [(m0, .inr (6, mF g K (nI a100, 0, p) (nI (st.length + 2)) (nI (ps.length + 1)) (nI (d + 1), nI la, zI co, lo_, lA_, nI T.length, nI X.length, nI se, sta, dco))), ((g 0), .inl (cA 3, 2000, .inl fd)), ((g 7), .inl (cA 3, 400, .inl ex108)), ((g 8), .inl (cA 1, 400, .inr (.inl ti108))), ((g 10), .inl (cA 3, 4, .inl pe)), ((g 11), .inl (cA 3, 2001, .inl bk)), ((g 18), .inl (cA 3, 2000, .inl kd)), ((g 19), .inl (cA 3, 2000, .inl fr)), ((g 20), .inl (cA 3, 2000, .inl to)), ((g 21), .inl (cA 3, 2000, .inl re)), ((g 23), .inl (cA 3, 2000, .inl ow)), ((g 24), .inl (cA 3, 2000, .inl fi)), ((g 25), .inl (cA 3, 2000, .inl be))] := hD.sub [10, 0, 11, 12, 1, 2, 3, 4, 5, 6, 7, 8, 9] (by decide) rfl
        refine W.cs (cells' := 0) (slots' := 0) rfl rfl ?_
        refine W.eq (g2 := F0 m 147 ls []) rfl ?_
        exact cRv ((((nI a100, 0, p), nI (st.length + 2), nI (ps.length + 1), (nI (d + 1), nI la, zI co, lo_, lA_, nI T.length, nI X.length, nI se, sta, dco)), (ex108, ti108, pe, bk, kd, fr, to, re, ow, fi, be)) : NU) hx hb hr hlocks d_Md_takeOther_147 hS hP hD (⟨rfl, nP_E ((mb_E (pS252_E hr100 (fun q => absurd q.1 (by decide))))) ⟨⟨rfl, rfl, rfl, rfl⟩, (fun z hz => by cases hz; exact ⟨rfl, hBL⟩), hlc, hst108, hpe, hTH, hXH⟩⟩) (Nat.le_refl _) (Nat.le_refl _)
      · have hl : lv_has ls 5 [(2, .long (lN 14)), (0, .ref m0), (1, .int (nI bg))] := hl
        refine W.eq (g2 := F0 m 31 ls [.int 14]) rfl ?_
        refine lv_istore (lv' := [(4, .int 14), (2, .long (lN 14)), (0, .ref m0), (1, .int (nI bg))]) hx hb d_Md_takeOther_31 hl (by decide) rfl (fun ls hl => ?_)
        refine lv_iload hx hb d_Md_takeOther_33 (lv_at hl 0 rfl) ?_
        refine lv_bipush (v := 8) hx hb d_Md_takeOther_35 (by decide) ?_
        refine lv_icmp_eq (tgt := 47) hx hb d_Md_takeOther_37 (by decide) (fun c_37 => absurd c_37 (by decide)) (fun c_37 => ?_)
        refine lv_iload hx hb d_Md_takeOther_40 (lv_at hl 0 rfl) ?_
        refine lv_bipush (v := 9) hx hb d_Md_takeOther_42 (by decide) ?_
        refine lv_icmp_ne (tgt := 61) hx hb d_Md_takeOther_44 (by decide) (fun c_44 => ?_) (fun c_44 => absurd c_44 (by decide))
        refine lv_iload hx hb d_Md_takeOther_61 (lv_at hl 0 rfl) ?_
        refine lv_bipush (v := 8) hx hb d_Md_takeOther_63 (by decide) ?_
        refine lv_icmp_ne (tgt := 78) hx hb d_Md_takeOther_65 (by decide) (fun c_65 => ?_) (fun c_65 => absurd c_65 (by decide))
        refine lv_iload hx hb d_Md_takeOther_78 (lv_at hl 0 rfl) ?_
        refine lv_bipush (v := 10) hx hb d_Md_takeOther_80 (by decide) ?_
        refine lv_icmp_ne (tgt := 96) hx hb d_Md_takeOther_82 (by decide) (fun c_82 => ?_) (fun c_82 => absurd c_82 (by decide))
        refine lv_iload hx hb d_Md_takeOther_96 (lv_at hl 0 rfl) ?_
        refine lv_bipush (v := 11) hx hb d_Md_takeOther_98 (by decide) ?_
        refine lv_icmp_ne (tgt := 112) hx hb d_Md_takeOther_100 (by decide) (fun c_100 => ?_) (fun c_100 => absurd c_100 (by decide))
        refine lv_iload hx hb d_Md_takeOther_112 (lv_at hl 0 rfl) ?_
        refine lv_bipush (v := 12) hx hb d_Md_takeOther_114 (by decide) ?_
        refine lv_icmp_eq (tgt := 126) hx hb d_Md_takeOther_116 (by decide) (fun c_116 => absurd c_116 (by decide)) (fun c_116 => ?_)
        refine lv_iload hx hb d_Md_takeOther_119 (lv_at hl 0 rfl) ?_
        refine lv_bipush (v := 14) hx hb d_Md_takeOther_121 (by decide) ?_
        refine lv_icmp_ne (tgt := 135) hx hb d_Md_takeOther_123 (by decide) (fun c_123 => absurd (by decide) c_123) (fun c_123 => ?_)
        refine lv_aload_n hx hb d_Md_takeOther_126 rfl (lv_at hl 2 rfl) ?_
        refine lv_iconst (v := 1) hx hb d_Md_takeOther_127 (by decide) ?_
        refine lv_iconst (v := 1) hx hb d_Md_takeOther_128 (by decide) ?_
        refine cV (As := [.int 1, .int 1]) (rest := []) (n := 2) (wc := [(m0, .inr (6, mF g K (nI a100, 0, p) (nI (st.length + 1)) (nI (ps.length + 1)) (nI (d + 1), nI la, zI co, lo_, lA_, nI T.length, nI X.length, nI se, sta, dco))), ((g 7), .inl (cA 3, 400, .inl ex)), ((g 8), .inl (cA 1, 400, .inr (.inl ti)))]) (wr := [((g 0), .inl (cA 3, 2000, .inl fd)), ((g 10), .inl (cA 3, 4, .inl pe)), ((g 11), .inl (cA 3, 2001, .inl bk)), ((g 18), .inl (cA 3, 2000, .inl kd)), ((g 19), .inl (cA 3, 2000, .inl fr)), ((g 20), .inl (cA 3, 2000, .inl to)), ((g 21), .inl (cA 3, 2000, .inl re)), ((g 23), .inl (cA 3, 2000, .inl ow)), ((g 24), .inl (cA 3, 2000, .inl fi)), ((g 25), .inl (cA 3, 2000, .inl be))]) ⟨hx, hb, hml, hown, hts⟩ hno hlocks hl.1 (c_Md_wantTwo l hl9 D cA ad H.size m0 g K (nI a100, 0, p) (nI (ps.length + 1)) (nI (d + 1), nI la, zI co, lo_, lA_, nI T.length, nI X.length, nI se, sta, dco) ex ti (.inl 21 :: st) hst (by (try simp only [List.length_cons]); omega) (1 : Int32) 1 rfl (1 : Int32) 1 rfl) iw4_22 iw4_24 sel_Md_wantTwo iw1_7 iw4_25 (by decide +kernel) rfl ⟨Nat.le_of_ble_eq_true rfl, Nat.le_of_ble_eq_true rfl⟩ ⟨Nat.le_of_ble_eq_true rfl, Nat.le_of_ble_eq_true rfl⟩ rfl (Nat.le_of_ble_eq_true rfl) d_Md_takeOther_129 hE hP hD hS hA [0, 2, 3] [1, 4, 5, 6, 7, 8, 9, 10, 11, 12] rfl rfl rfl rfl (by decide) (ci := 6) rfl rfl 0 rfl (fun _ h => h.elim) (fun v_129 u_129 H locs hp_129 hP hD hS => ?_)
        obtain ⟨rfl, hst109⟩ := hp_129
        obtain ⟨ex109, ti109⟩ := u_129
        have hP : va_P D cls [(m0, .inr (6, mF g K (nI a100, 0, p) (nI (st.length + 3)) (nI (ps.length + 1)) (nI (d + 1), nI la, zI co, lo_, lA_, nI T.length, nI X.length, nI se, sta, dco))), ((g 0), .inl (cA 3, 2000, .inl fd)), ((g 7), .inl (cA 3, 400, .inl ex109)), ((g 8), .inl (cA 1, 400, .inr (.inl ti109))), ((g 10), .inl (cA 3, 4, .inl pe)), ((g 11), .inl (cA 3, 2001, .inl bk)), ((g 18), .inl (cA 3, 2000, .inl kd)), ((g 19), .inl (cA 3, 2000, .inl fr)), ((g 20), .inl (cA 3, 2000, .inl to)), ((g 21), .inl (cA 3, 2000, .inl re)), ((g 23), .inl (cA 3, 2000, .inl ow)), ((g 24), .inl (cA 3, 2000, .inl fi)), ((g 25), .inl (cA 3, 2000, .inl be))] H := hP.sub [10, 0, 11, 12, 1, 2, 3, 4, 5, 6, 7, 8, 9] rfl
        have hD : va_D A [(m0, .inr (6, mF g K (nI a100, 0, p) (nI (st.length + 3)) (nI (ps.length + 1)) (nI (d + 1), nI la, zI co, lo_, lA_, nI T.length, nI X.length, nI se, sta, dco))), ((g 0), .inl (cA 3, 2000, .inl fd)), ((g 7), .inl (cA 3, 400, .inl ex109)), ((g 8), .inl (cA 1, 400, .inr (.inl ti109))), ((g 10), .inl (cA 3, 4, .inl pe)), ((g 11), .inl (cA 3, 2001, .inl bk)), ((g 18), .inl (cA 3, 2000, .inl kd)), ((g 19), .inl (cA 3, 2000, .inl fr)), ((g 20), .inl (cA 3, 2000, .inl to)), ((g 21), .inl (cA 3, 2000, .inl re)), ((g 23), .inl (cA 3, 2000, .inl ow)), ((g 24), .inl (cA 3, 2000, .inl fi)), ((g 25), .inl (cA 3, 2000, .inl be))] := hD.sub [10, 0, 11, 12, 1, 2, 3, 4, 5, 6, 7, 8, 9] (by decide) rfl
        refine W.cs (cells' := 0) (slots' := 0) rfl rfl ?_
        refine W.eq (g2 := F0 m 132 ls []) rfl ?_
        refine lv_goto (tgt := 147) hx hb d_Md_takeOther_132 (by decide) ?_
        exact cRv ((((nI a100, 0, p), nI (st.length + 3), nI (ps.length + 1), (nI (d + 1), nI la, zI co, lo_, lA_, nI T.length, nI X.length, nI se, sta, dco)), (ex109, ti109, pe, bk, kd, fr, to, re, ow, fi, be)) : NU) hx hb hr hlocks d_Md_takeOther_147 hS hP hD (⟨rfl, nP_E ((mb_E (pS252_E hr100 (fun q => absurd q.1 (by decide))))) ⟨⟨rfl, rfl, rfl, rfl⟩, (fun z hz => by cases hz; exact ⟨rfl, hBL⟩), hlc, hst109, hpe, hTH, hXH⟩⟩) (Nat.le_refl _) (Nat.le_refl _)
      · have hl : lv_has ls 5 [(2, .long (lN 15)), (0, .ref m0), (1, .int (nI bg))] := hl
        refine W.eq (g2 := F0 m 31 ls [.int 15]) rfl ?_
        refine lv_istore (lv' := [(4, .int 15), (2, .long (lN 15)), (0, .ref m0), (1, .int (nI bg))]) hx hb d_Md_takeOther_31 hl (by decide) rfl (fun ls hl => ?_)
        refine lv_iload hx hb d_Md_takeOther_33 (lv_at hl 0 rfl) ?_
        refine lv_bipush (v := 8) hx hb d_Md_takeOther_35 (by decide) ?_
        refine lv_icmp_eq (tgt := 47) hx hb d_Md_takeOther_37 (by decide) (fun c_37 => absurd c_37 (by decide)) (fun c_37 => ?_)
        refine lv_iload hx hb d_Md_takeOther_40 (lv_at hl 0 rfl) ?_
        refine lv_bipush (v := 9) hx hb d_Md_takeOther_42 (by decide) ?_
        refine lv_icmp_ne (tgt := 61) hx hb d_Md_takeOther_44 (by decide) (fun c_44 => ?_) (fun c_44 => absurd c_44 (by decide))
        refine lv_iload hx hb d_Md_takeOther_61 (lv_at hl 0 rfl) ?_
        refine lv_bipush (v := 8) hx hb d_Md_takeOther_63 (by decide) ?_
        refine lv_icmp_ne (tgt := 78) hx hb d_Md_takeOther_65 (by decide) (fun c_65 => ?_) (fun c_65 => absurd c_65 (by decide))
        refine lv_iload hx hb d_Md_takeOther_78 (lv_at hl 0 rfl) ?_
        refine lv_bipush (v := 10) hx hb d_Md_takeOther_80 (by decide) ?_
        refine lv_icmp_ne (tgt := 96) hx hb d_Md_takeOther_82 (by decide) (fun c_82 => ?_) (fun c_82 => absurd c_82 (by decide))
        refine lv_iload hx hb d_Md_takeOther_96 (lv_at hl 0 rfl) ?_
        refine lv_bipush (v := 11) hx hb d_Md_takeOther_98 (by decide) ?_
        refine lv_icmp_ne (tgt := 112) hx hb d_Md_takeOther_100 (by decide) (fun c_100 => ?_) (fun c_100 => absurd c_100 (by decide))
        refine lv_iload hx hb d_Md_takeOther_112 (lv_at hl 0 rfl) ?_
        refine lv_bipush (v := 12) hx hb d_Md_takeOther_114 (by decide) ?_
        refine lv_icmp_eq (tgt := 126) hx hb d_Md_takeOther_116 (by decide) (fun c_116 => absurd c_116 (by decide)) (fun c_116 => ?_)
        refine lv_iload hx hb d_Md_takeOther_119 (lv_at hl 0 rfl) ?_
        refine lv_bipush (v := 14) hx hb d_Md_takeOther_121 (by decide) ?_
        refine lv_icmp_ne (tgt := 135) hx hb d_Md_takeOther_123 (by decide) (fun c_123 => ?_) (fun c_123 => absurd c_123 (by decide))
        refine lv_iload hx hb d_Md_takeOther_135 (lv_at hl 0 rfl) ?_
        refine lv_bipush (v := 8) hx hb d_Md_takeOther_137 (by decide) ?_
        refine lv_icmp_le (tgt := 147) hx hb d_Md_takeOther_139 (by decide) (fun c_139 => absurd c_139 (by decide)) (fun c_139 => ?_)
        refine lv_aload_n hx hb d_Md_takeOther_142 rfl (lv_at hl 2 rfl) ?_
        refine lv_iconst (v := 1) hx hb d_Md_takeOther_143 (by decide) ?_
        refine cV (As := [.int 1]) (rest := []) (n := 1) (wc := [(m0, .inr (6, mF g K (nI a100, 0, p) (nI (st.length + 1)) (nI (ps.length + 1)) (nI (d + 1), nI la, zI co, lo_, lA_, nI T.length, nI X.length, nI se, sta, dco))), ((g 7), .inl (cA 3, 400, .inl ex)), ((g 8), .inl (cA 1, 400, .inr (.inl ti)))]) (wr := [((g 0), .inl (cA 3, 2000, .inl fd)), ((g 10), .inl (cA 3, 4, .inl pe)), ((g 11), .inl (cA 3, 2001, .inl bk)), ((g 18), .inl (cA 3, 2000, .inl kd)), ((g 19), .inl (cA 3, 2000, .inl fr)), ((g 20), .inl (cA 3, 2000, .inl to)), ((g 21), .inl (cA 3, 2000, .inl re)), ((g 23), .inl (cA 3, 2000, .inl ow)), ((g 24), .inl (cA 3, 2000, .inl fi)), ((g 25), .inl (cA 3, 2000, .inl be))]) ⟨hx, hb, hml, hown, hts⟩ hno hlocks hl.1 (c_Md_want l hl9 D cA ad H.size m0 g K (nI a100, 0, p) (nI (ps.length + 1)) (nI (d + 1), nI la, zI co, lo_, lA_, nI T.length, nI X.length, nI se, sta, dco) ex ti (.inl 21 :: st) hst (by (try simp only [List.length_cons]); omega) (1 : Int32) 1 rfl) iw3_220 iw3_222 sel_Md_want iw1_7 iw3_223 (by decide +kernel) rfl ⟨Nat.le_of_ble_eq_true rfl, Nat.le_of_ble_eq_true rfl⟩ ⟨Nat.le_of_ble_eq_true rfl, Nat.le_of_ble_eq_true rfl⟩ rfl (Nat.le_of_ble_eq_true rfl) d_Md_takeOther_144 hE hP hD hS hA [0, 2, 3] [1, 4, 5, 6, 7, 8, 9, 10, 11, 12] rfl rfl rfl rfl (by decide) (ci := 6) rfl rfl 0 rfl (fun _ h => h.elim) (fun v_144 u_144 H locs hp_144 hP hD hS => ?_)
        obtain ⟨rfl, hst110⟩ := hp_144
        obtain ⟨ex110, ti110⟩ := u_144
        have hP : va_P D cls [(m0, .inr (6, mF g K (nI a100, 0, p) (nI (st.length + 2)) (nI (ps.length + 1)) (nI (d + 1), nI la, zI co, lo_, lA_, nI T.length, nI X.length, nI se, sta, dco))), ((g 0), .inl (cA 3, 2000, .inl fd)), ((g 7), .inl (cA 3, 400, .inl ex110)), ((g 8), .inl (cA 1, 400, .inr (.inl ti110))), ((g 10), .inl (cA 3, 4, .inl pe)), ((g 11), .inl (cA 3, 2001, .inl bk)), ((g 18), .inl (cA 3, 2000, .inl kd)), ((g 19), .inl (cA 3, 2000, .inl fr)), ((g 20), .inl (cA 3, 2000, .inl to)), ((g 21), .inl (cA 3, 2000, .inl re)), ((g 23), .inl (cA 3, 2000, .inl ow)), ((g 24), .inl (cA 3, 2000, .inl fi)), ((g 25), .inl (cA 3, 2000, .inl be))] H := hP.sub [10, 0, 11, 12, 1, 2, 3, 4, 5, 6, 7, 8, 9] rfl
        have hD : va_D A [(m0, .inr (6, mF g K (nI a100, 0, p) (nI (st.length + 2)) (nI (ps.length + 1)) (nI (d + 1), nI la, zI co, lo_, lA_, nI T.length, nI X.length, nI se, sta, dco))), ((g 0), .inl (cA 3, 2000, .inl fd)), ((g 7), .inl (cA 3, 400, .inl ex110)), ((g 8), .inl (cA 1, 400, .inr (.inl ti110))), ((g 10), .inl (cA 3, 4, .inl pe)), ((g 11), .inl (cA 3, 2001, .inl bk)), ((g 18), .inl (cA 3, 2000, .inl kd)), ((g 19), .inl (cA 3, 2000, .inl fr)), ((g 20), .inl (cA 3, 2000, .inl to)), ((g 21), .inl (cA 3, 2000, .inl re)), ((g 23), .inl (cA 3, 2000, .inl ow)), ((g 24), .inl (cA 3, 2000, .inl fi)), ((g 25), .inl (cA 3, 2000, .inl be))] := hD.sub [10, 0, 11, 12, 1, 2, 3, 4, 5, 6, 7, 8, 9] (by decide) rfl
        refine W.cs (cells' := 0) (slots' := 0) rfl rfl ?_
        refine W.eq (g2 := F0 m 147 ls []) rfl ?_
        exact cRv ((((nI a100, 0, p), nI (st.length + 2), nI (ps.length + 1), (nI (d + 1), nI la, zI co, lo_, lA_, nI T.length, nI X.length, nI se, sta, dco)), (ex110, ti110, pe, bk, kd, fr, to, re, ow, fi, be)) : NU) hx hb hr hlocks d_Md_takeOther_147 hS hP hD (⟨rfl, nP_E ((mb_E (pS252_E hr100 (fun q => absurd q.1 (by decide))))) ⟨⟨rfl, rfl, rfl, rfl⟩, (fun z hz => by cases hz; exact ⟨rfl, hBL⟩), hlc, hst110, hpe, hTH, hXH⟩⟩) (Nat.le_refl _) (Nat.le_refl _)
      · have hl : lv_has ls 5 [(2, .long (lN 16)), (0, .ref m0), (1, .int (nI bg))] := hl
        refine W.eq (g2 := F0 m 31 ls [.int 16]) rfl ?_
        refine lv_istore (lv' := [(4, .int 16), (2, .long (lN 16)), (0, .ref m0), (1, .int (nI bg))]) hx hb d_Md_takeOther_31 hl (by decide) rfl (fun ls hl => ?_)
        refine lv_iload hx hb d_Md_takeOther_33 (lv_at hl 0 rfl) ?_
        refine lv_bipush (v := 8) hx hb d_Md_takeOther_35 (by decide) ?_
        refine lv_icmp_eq (tgt := 47) hx hb d_Md_takeOther_37 (by decide) (fun c_37 => absurd c_37 (by decide)) (fun c_37 => ?_)
        refine lv_iload hx hb d_Md_takeOther_40 (lv_at hl 0 rfl) ?_
        refine lv_bipush (v := 9) hx hb d_Md_takeOther_42 (by decide) ?_
        refine lv_icmp_ne (tgt := 61) hx hb d_Md_takeOther_44 (by decide) (fun c_44 => ?_) (fun c_44 => absurd c_44 (by decide))
        refine lv_iload hx hb d_Md_takeOther_61 (lv_at hl 0 rfl) ?_
        refine lv_bipush (v := 8) hx hb d_Md_takeOther_63 (by decide) ?_
        refine lv_icmp_ne (tgt := 78) hx hb d_Md_takeOther_65 (by decide) (fun c_65 => ?_) (fun c_65 => absurd c_65 (by decide))
        refine lv_iload hx hb d_Md_takeOther_78 (lv_at hl 0 rfl) ?_
        refine lv_bipush (v := 10) hx hb d_Md_takeOther_80 (by decide) ?_
        refine lv_icmp_ne (tgt := 96) hx hb d_Md_takeOther_82 (by decide) (fun c_82 => ?_) (fun c_82 => absurd c_82 (by decide))
        refine lv_iload hx hb d_Md_takeOther_96 (lv_at hl 0 rfl) ?_
        refine lv_bipush (v := 11) hx hb d_Md_takeOther_98 (by decide) ?_
        refine lv_icmp_ne (tgt := 112) hx hb d_Md_takeOther_100 (by decide) (fun c_100 => ?_) (fun c_100 => absurd c_100 (by decide))
        refine lv_iload hx hb d_Md_takeOther_112 (lv_at hl 0 rfl) ?_
        refine lv_bipush (v := 12) hx hb d_Md_takeOther_114 (by decide) ?_
        refine lv_icmp_eq (tgt := 126) hx hb d_Md_takeOther_116 (by decide) (fun c_116 => absurd c_116 (by decide)) (fun c_116 => ?_)
        refine lv_iload hx hb d_Md_takeOther_119 (lv_at hl 0 rfl) ?_
        refine lv_bipush (v := 14) hx hb d_Md_takeOther_121 (by decide) ?_
        refine lv_icmp_ne (tgt := 135) hx hb d_Md_takeOther_123 (by decide) (fun c_123 => ?_) (fun c_123 => absurd c_123 (by decide))
        refine lv_iload hx hb d_Md_takeOther_135 (lv_at hl 0 rfl) ?_
        refine lv_bipush (v := 8) hx hb d_Md_takeOther_137 (by decide) ?_
        refine lv_icmp_le (tgt := 147) hx hb d_Md_takeOther_139 (by decide) (fun c_139 => absurd c_139 (by decide)) (fun c_139 => ?_)
        refine lv_aload_n hx hb d_Md_takeOther_142 rfl (lv_at hl 2 rfl) ?_
        refine lv_iconst (v := 1) hx hb d_Md_takeOther_143 (by decide) ?_
        refine cV (As := [.int 1]) (rest := []) (n := 1) (wc := [(m0, .inr (6, mF g K (nI a100, 0, p) (nI (st.length + 1)) (nI (ps.length + 1)) (nI (d + 1), nI la, zI co, lo_, lA_, nI T.length, nI X.length, nI se, sta, dco))), ((g 7), .inl (cA 3, 400, .inl ex)), ((g 8), .inl (cA 1, 400, .inr (.inl ti)))]) (wr := [((g 0), .inl (cA 3, 2000, .inl fd)), ((g 10), .inl (cA 3, 4, .inl pe)), ((g 11), .inl (cA 3, 2001, .inl bk)), ((g 18), .inl (cA 3, 2000, .inl kd)), ((g 19), .inl (cA 3, 2000, .inl fr)), ((g 20), .inl (cA 3, 2000, .inl to)), ((g 21), .inl (cA 3, 2000, .inl re)), ((g 23), .inl (cA 3, 2000, .inl ow)), ((g 24), .inl (cA 3, 2000, .inl fi)), ((g 25), .inl (cA 3, 2000, .inl be))]) ⟨hx, hb, hml, hown, hts⟩ hno hlocks hl.1 (c_Md_want l hl9 D cA ad H.size m0 g K (nI a100, 0, p) (nI (ps.length + 1)) (nI (d + 1), nI la, zI co, lo_, lA_, nI T.length, nI X.length, nI se, sta, dco) ex ti (.inl 21 :: st) hst (by (try simp only [List.length_cons]); omega) (1 : Int32) 1 rfl) iw3_220 iw3_222 sel_Md_want iw1_7 iw3_223 (by decide +kernel) rfl ⟨Nat.le_of_ble_eq_true rfl, Nat.le_of_ble_eq_true rfl⟩ ⟨Nat.le_of_ble_eq_true rfl, Nat.le_of_ble_eq_true rfl⟩ rfl (Nat.le_of_ble_eq_true rfl) d_Md_takeOther_144 hE hP hD hS hA [0, 2, 3] [1, 4, 5, 6, 7, 8, 9, 10, 11, 12] rfl rfl rfl rfl (by decide) (ci := 6) rfl rfl 0 rfl (fun _ h => h.elim) (fun v_144 u_144 H locs hp_144 hP hD hS => ?_)
        obtain ⟨rfl, hst111⟩ := hp_144
        obtain ⟨ex111, ti111⟩ := u_144
        have hP : va_P D cls [(m0, .inr (6, mF g K (nI a100, 0, p) (nI (st.length + 2)) (nI (ps.length + 1)) (nI (d + 1), nI la, zI co, lo_, lA_, nI T.length, nI X.length, nI se, sta, dco))), ((g 0), .inl (cA 3, 2000, .inl fd)), ((g 7), .inl (cA 3, 400, .inl ex111)), ((g 8), .inl (cA 1, 400, .inr (.inl ti111))), ((g 10), .inl (cA 3, 4, .inl pe)), ((g 11), .inl (cA 3, 2001, .inl bk)), ((g 18), .inl (cA 3, 2000, .inl kd)), ((g 19), .inl (cA 3, 2000, .inl fr)), ((g 20), .inl (cA 3, 2000, .inl to)), ((g 21), .inl (cA 3, 2000, .inl re)), ((g 23), .inl (cA 3, 2000, .inl ow)), ((g 24), .inl (cA 3, 2000, .inl fi)), ((g 25), .inl (cA 3, 2000, .inl be))] H := hP.sub [10, 0, 11, 12, 1, 2, 3, 4, 5, 6, 7, 8, 9] rfl
        have hD : va_D A [(m0, .inr (6, mF g K (nI a100, 0, p) (nI (st.length + 2)) (nI (ps.length + 1)) (nI (d + 1), nI la, zI co, lo_, lA_, nI T.length, nI X.length, nI se, sta, dco))), ((g 0), .inl (cA 3, 2000, .inl fd)), ((g 7), .inl (cA 3, 400, .inl ex111)), ((g 8), .inl (cA 1, 400, .inr (.inl ti111))), ((g 10), .inl (cA 3, 4, .inl pe)), ((g 11), .inl (cA 3, 2001, .inl bk)), ((g 18), .inl (cA 3, 2000, .inl kd)), ((g 19), .inl (cA 3, 2000, .inl fr)), ((g 20), .inl (cA 3, 2000, .inl to)), ((g 21), .inl (cA 3, 2000, .inl re)), ((g 23), .inl (cA 3, 2000, .inl ow)), ((g 24), .inl (cA 3, 2000, .inl fi)), ((g 25), .inl (cA 3, 2000, .inl be))] := hD.sub [10, 0, 11, 12, 1, 2, 3, 4, 5, 6, 7, 8, 9] (by decide) rfl
        refine W.cs (cells' := 0) (slots' := 0) rfl rfl ?_
        refine W.eq (g2 := F0 m 147 ls []) rfl ?_
        exact cRv ((((nI a100, 0, p), nI (st.length + 2), nI (ps.length + 1), (nI (d + 1), nI la, zI co, lo_, lA_, nI T.length, nI X.length, nI se, sta, dco)), (ex111, ti111, pe, bk, kd, fr, to, re, ow, fi, be)) : NU) hx hb hr hlocks d_Md_takeOther_147 hS hP hD (⟨rfl, nP_E ((mb_E (pS252_E hr100 (fun q => absurd q.1 (by decide))))) ⟨⟨rfl, rfl, rfl, rfl⟩, (fun z hz => by cases hz; exact ⟨rfl, hBL⟩), hlc, hst111, hpe, hTH, hXH⟩⟩) (Nat.le_refl _) (Nat.le_refl _)
      · have hl : lv_has ls 5 [(2, .long (lN 17)), (0, .ref m0), (1, .int (nI bg))] := hl
        refine W.eq (g2 := F0 m 31 ls [.int 17]) rfl ?_
        refine lv_istore (lv' := [(4, .int 17), (2, .long (lN 17)), (0, .ref m0), (1, .int (nI bg))]) hx hb d_Md_takeOther_31 hl (by decide) rfl (fun ls hl => ?_)
        refine lv_iload hx hb d_Md_takeOther_33 (lv_at hl 0 rfl) ?_
        refine lv_bipush (v := 8) hx hb d_Md_takeOther_35 (by decide) ?_
        refine lv_icmp_eq (tgt := 47) hx hb d_Md_takeOther_37 (by decide) (fun c_37 => absurd c_37 (by decide)) (fun c_37 => ?_)
        refine lv_iload hx hb d_Md_takeOther_40 (lv_at hl 0 rfl) ?_
        refine lv_bipush (v := 9) hx hb d_Md_takeOther_42 (by decide) ?_
        refine lv_icmp_ne (tgt := 61) hx hb d_Md_takeOther_44 (by decide) (fun c_44 => ?_) (fun c_44 => absurd c_44 (by decide))
        refine lv_iload hx hb d_Md_takeOther_61 (lv_at hl 0 rfl) ?_
        refine lv_bipush (v := 8) hx hb d_Md_takeOther_63 (by decide) ?_
        refine lv_icmp_ne (tgt := 78) hx hb d_Md_takeOther_65 (by decide) (fun c_65 => ?_) (fun c_65 => absurd c_65 (by decide))
        refine lv_iload hx hb d_Md_takeOther_78 (lv_at hl 0 rfl) ?_
        refine lv_bipush (v := 10) hx hb d_Md_takeOther_80 (by decide) ?_
        refine lv_icmp_ne (tgt := 96) hx hb d_Md_takeOther_82 (by decide) (fun c_82 => ?_) (fun c_82 => absurd c_82 (by decide))
        refine lv_iload hx hb d_Md_takeOther_96 (lv_at hl 0 rfl) ?_
        refine lv_bipush (v := 11) hx hb d_Md_takeOther_98 (by decide) ?_
        refine lv_icmp_ne (tgt := 112) hx hb d_Md_takeOther_100 (by decide) (fun c_100 => ?_) (fun c_100 => absurd c_100 (by decide))
        refine lv_iload hx hb d_Md_takeOther_112 (lv_at hl 0 rfl) ?_
        refine lv_bipush (v := 12) hx hb d_Md_takeOther_114 (by decide) ?_
        refine lv_icmp_eq (tgt := 126) hx hb d_Md_takeOther_116 (by decide) (fun c_116 => absurd c_116 (by decide)) (fun c_116 => ?_)
        refine lv_iload hx hb d_Md_takeOther_119 (lv_at hl 0 rfl) ?_
        refine lv_bipush (v := 14) hx hb d_Md_takeOther_121 (by decide) ?_
        refine lv_icmp_ne (tgt := 135) hx hb d_Md_takeOther_123 (by decide) (fun c_123 => ?_) (fun c_123 => absurd c_123 (by decide))
        refine lv_iload hx hb d_Md_takeOther_135 (lv_at hl 0 rfl) ?_
        refine lv_bipush (v := 8) hx hb d_Md_takeOther_137 (by decide) ?_
        refine lv_icmp_le (tgt := 147) hx hb d_Md_takeOther_139 (by decide) (fun c_139 => absurd c_139 (by decide)) (fun c_139 => ?_)
        refine lv_aload_n hx hb d_Md_takeOther_142 rfl (lv_at hl 2 rfl) ?_
        refine lv_iconst (v := 1) hx hb d_Md_takeOther_143 (by decide) ?_
        refine cV (As := [.int 1]) (rest := []) (n := 1) (wc := [(m0, .inr (6, mF g K (nI a100, 0, p) (nI (st.length + 1)) (nI (ps.length + 1)) (nI (d + 1), nI la, zI co, lo_, lA_, nI T.length, nI X.length, nI se, sta, dco))), ((g 7), .inl (cA 3, 400, .inl ex)), ((g 8), .inl (cA 1, 400, .inr (.inl ti)))]) (wr := [((g 0), .inl (cA 3, 2000, .inl fd)), ((g 10), .inl (cA 3, 4, .inl pe)), ((g 11), .inl (cA 3, 2001, .inl bk)), ((g 18), .inl (cA 3, 2000, .inl kd)), ((g 19), .inl (cA 3, 2000, .inl fr)), ((g 20), .inl (cA 3, 2000, .inl to)), ((g 21), .inl (cA 3, 2000, .inl re)), ((g 23), .inl (cA 3, 2000, .inl ow)), ((g 24), .inl (cA 3, 2000, .inl fi)), ((g 25), .inl (cA 3, 2000, .inl be))]) ⟨hx, hb, hml, hown, hts⟩ hno hlocks hl.1 (c_Md_want l hl9 D cA ad H.size m0 g K (nI a100, 0, p) (nI (ps.length + 1)) (nI (d + 1), nI la, zI co, lo_, lA_, nI T.length, nI X.length, nI se, sta, dco) ex ti (.inl 21 :: st) hst (by (try simp only [List.length_cons]); omega) (1 : Int32) 1 rfl) iw3_220 iw3_222 sel_Md_want iw1_7 iw3_223 (by decide +kernel) rfl ⟨Nat.le_of_ble_eq_true rfl, Nat.le_of_ble_eq_true rfl⟩ ⟨Nat.le_of_ble_eq_true rfl, Nat.le_of_ble_eq_true rfl⟩ rfl (Nat.le_of_ble_eq_true rfl) d_Md_takeOther_144 hE hP hD hS hA [0, 2, 3] [1, 4, 5, 6, 7, 8, 9, 10, 11, 12] rfl rfl rfl rfl (by decide) (ci := 6) rfl rfl 0 rfl (fun _ h => h.elim) (fun v_144 u_144 H locs hp_144 hP hD hS => ?_)
        obtain ⟨rfl, hst112⟩ := hp_144
        obtain ⟨ex112, ti112⟩ := u_144
        have hP : va_P D cls [(m0, .inr (6, mF g K (nI a100, 0, p) (nI (st.length + 2)) (nI (ps.length + 1)) (nI (d + 1), nI la, zI co, lo_, lA_, nI T.length, nI X.length, nI se, sta, dco))), ((g 0), .inl (cA 3, 2000, .inl fd)), ((g 7), .inl (cA 3, 400, .inl ex112)), ((g 8), .inl (cA 1, 400, .inr (.inl ti112))), ((g 10), .inl (cA 3, 4, .inl pe)), ((g 11), .inl (cA 3, 2001, .inl bk)), ((g 18), .inl (cA 3, 2000, .inl kd)), ((g 19), .inl (cA 3, 2000, .inl fr)), ((g 20), .inl (cA 3, 2000, .inl to)), ((g 21), .inl (cA 3, 2000, .inl re)), ((g 23), .inl (cA 3, 2000, .inl ow)), ((g 24), .inl (cA 3, 2000, .inl fi)), ((g 25), .inl (cA 3, 2000, .inl be))] H := hP.sub [10, 0, 11, 12, 1, 2, 3, 4, 5, 6, 7, 8, 9] rfl
        have hD : va_D A [(m0, .inr (6, mF g K (nI a100, 0, p) (nI (st.length + 2)) (nI (ps.length + 1)) (nI (d + 1), nI la, zI co, lo_, lA_, nI T.length, nI X.length, nI se, sta, dco))), ((g 0), .inl (cA 3, 2000, .inl fd)), ((g 7), .inl (cA 3, 400, .inl ex112)), ((g 8), .inl (cA 1, 400, .inr (.inl ti112))), ((g 10), .inl (cA 3, 4, .inl pe)), ((g 11), .inl (cA 3, 2001, .inl bk)), ((g 18), .inl (cA 3, 2000, .inl kd)), ((g 19), .inl (cA 3, 2000, .inl fr)), ((g 20), .inl (cA 3, 2000, .inl to)), ((g 21), .inl (cA 3, 2000, .inl re)), ((g 23), .inl (cA 3, 2000, .inl ow)), ((g 24), .inl (cA 3, 2000, .inl fi)), ((g 25), .inl (cA 3, 2000, .inl be))] := hD.sub [10, 0, 11, 12, 1, 2, 3, 4, 5, 6, 7, 8, 9] (by decide) rfl
        refine W.cs (cells' := 0) (slots' := 0) rfl rfl ?_
        refine W.eq (g2 := F0 m 147 ls []) rfl ?_
        exact cRv ((((nI a100, 0, p), nI (st.length + 2), nI (ps.length + 1), (nI (d + 1), nI la, zI co, lo_, lA_, nI T.length, nI X.length, nI se, sta, dco)), (ex112, ti112, pe, bk, kd, fr, to, re, ow, fi, be)) : NU) hx hb hr hlocks d_Md_takeOther_147 hS hP hD (⟨rfl, nP_E ((mb_E (pS252_E hr100 (fun q => absurd q.1 (by decide))))) ⟨⟨rfl, rfl, rfl, rfl⟩, (fun z hz => by cases hz; exact ⟨rfl, hBL⟩), hlc, hst112, hpe, hTH, hXH⟩⟩) (Nat.le_refl _) (Nat.le_refl _)
    · have hbad : 17 < v100 := by rw [show (17 : Int64) = lN 17 from rfl] at c_18; exact (pk_lLT (by omega) (by omega)).mp (Int64.not_le.mp (fun q => c_18 ((lg_cmp_le _ _).mpr q)))
      refine lv_aload_n hx hb d_Md_takeOther_21 rfl (lv_at hl 1 rfl) ?_
      refine lv_bipush (v := 10) hx hb d_Md_takeOther_22 (by decide) ?_
      refine lv_iload_n hx hb d_Md_takeOther_24 rfl (lv_at hl 2 rfl) ?_
      refine cV (As := [.int 10, .int (nI bg)]) (rest := []) (n := 2) (wc := [(m0, .inr (6, mF g K (nI a100, 0, p) (nI (st.length + 1)) (nI (ps.length + 1)) (nI (d + 1), nI la, zI co, lo_, lA_, nI T.length, nI X.length, nI se, sta, dco)))]) (wr := [((g 0), .inl (cA 3, 2000, .inl fd)), ((g 7), .inl (cA 3, 400, .inl ex)), ((g 8), .inl (cA 1, 400, .inr (.inl ti))), ((g 10), .inl (cA 3, 4, .inl pe)), ((g 11), .inl (cA 3, 2001, .inl bk)), ((g 18), .inl (cA 3, 2000, .inl kd)), ((g 19), .inl (cA 3, 2000, .inl fr)), ((g 20), .inl (cA 3, 2000, .inl to)), ((g 21), .inl (cA 3, 2000, .inl re)), ((g 23), .inl (cA 3, 2000, .inl ow)), ((g 24), .inl (cA 3, 2000, .inl fi)), ((g 25), .inl (cA 3, 2000, .inl be))]) ⟨hx, hb, hml, hown, hts⟩ hno hlocks hl.1 (c_Md_stop l hl9 D cA ad H.size m0 g K (nI (st.length + 1)) (nI (ps.length + 1)) (nI (d + 1), nI la, zI co, lo_, lA_, nI T.length, nI X.length, nI se, sta, dco) (nI a100) p (10 : Int32) (nI bg)) iw3_216 iw3_218 sel_Md_stop iw1_7 iw3_219 (by decide +kernel) rfl ⟨Nat.le_of_ble_eq_true rfl, Nat.le_of_ble_eq_true rfl⟩ ⟨Nat.le_of_ble_eq_true rfl, Nat.le_of_ble_eq_true rfl⟩ rfl (Nat.le_of_ble_eq_true rfl) d_Md_takeOther_25 hE hP hD hS hA [0] [1, 2, 3, 4, 5, 6, 7, 8, 9, 10, 11, 12] rfl rfl rfl rfl (by decide) (ci := 6) rfl rfl 0 rfl (fun _ h => h.elim) (fun v_25 u_25 H locs hp_25 hP hD hS => ?_)
      obtain rfl := hp_25
      have hP : va_P D cls [(m0, .inr (6, mF g K (nI a100, 10, nI bg) (nI (st.length + 1)) (nI (ps.length + 1)) (nI (d + 1), nI la, zI co, lo_, lA_, nI T.length, nI X.length, nI se, sta, dco))), ((g 0), .inl (cA 3, 2000, .inl fd)), ((g 7), .inl (cA 3, 400, .inl ex)), ((g 8), .inl (cA 1, 400, .inr (.inl ti))), ((g 10), .inl (cA 3, 4, .inl pe)), ((g 11), .inl (cA 3, 2001, .inl bk)), ((g 18), .inl (cA 3, 2000, .inl kd)), ((g 19), .inl (cA 3, 2000, .inl fr)), ((g 20), .inl (cA 3, 2000, .inl to)), ((g 21), .inl (cA 3, 2000, .inl re)), ((g 23), .inl (cA 3, 2000, .inl ow)), ((g 24), .inl (cA 3, 2000, .inl fi)), ((g 25), .inl (cA 3, 2000, .inl be))] H := hP.sub [12, 0, 1, 2, 3, 4, 5, 6, 7, 8, 9, 10, 11] rfl
      have hD : va_D A [(m0, .inr (6, mF g K (nI a100, 10, nI bg) (nI (st.length + 1)) (nI (ps.length + 1)) (nI (d + 1), nI la, zI co, lo_, lA_, nI T.length, nI X.length, nI se, sta, dco))), ((g 0), .inl (cA 3, 2000, .inl fd)), ((g 7), .inl (cA 3, 400, .inl ex)), ((g 8), .inl (cA 1, 400, .inr (.inl ti))), ((g 10), .inl (cA 3, 4, .inl pe)), ((g 11), .inl (cA 3, 2001, .inl bk)), ((g 18), .inl (cA 3, 2000, .inl kd)), ((g 19), .inl (cA 3, 2000, .inl fr)), ((g 20), .inl (cA 3, 2000, .inl to)), ((g 21), .inl (cA 3, 2000, .inl re)), ((g 23), .inl (cA 3, 2000, .inl ow)), ((g 24), .inl (cA 3, 2000, .inl fi)), ((g 25), .inl (cA 3, 2000, .inl be))] := hD.sub [12, 0, 1, 2, 3, 4, 5, 6, 7, 8, 9, 10, 11] (by decide) rfl
      refine W.cs (cells' := 0) (slots' := 0) rfl rfl ?_
      refine W.eq (g2 := F0 m 28 ls []) rfl ?_
      exact cRv ((((nI a100, 10, nI bg), nI (st.length + 1), nI (ps.length + 1), (nI (d + 1), nI la, zI co, lo_, lA_, nI T.length, nI X.length, nI se, sta, dco)), (ex, ti, pe, bk, kd, fr, to, re, ow, fi, be)) : NU) hx hb hr hlocks d_Md_takeOther_28 hS hP hD (⟨rfl, nP_T ((mb_E (pS252_E hr100 (fun q => by omega))).trans (show mSh b lm st ps la co lc T X se sta dco d E bg (sh252 v100) a100 = .inl (10, bg) by rw [show sh252 v100 = 0 from by unfold sh252; rw [if_neg (by omega), if_pos hbad]]; rfl)) ⟨⟨by decide, by decide⟩, rfl, T.length, by (try simp only [List.length_cons]); omega, rfl⟩⟩) (Nat.le_refl _) (Nat.le_refl _)
def mRare (b : Nat → Nat) (lm : Nat) (st : List IT) (ps : List Nat) (la : Nat) (co : Bool) (lc : Option (Nat × Nat)) (T : TL) (X : XL) (se : Nat) (sta dco : Int64) (d : Nat) (E : Nat → Bool) (bg op a : Nat) : MRes := if op = 252 then mb (pS252 b lm co bg a) (fun sh a2 => mSh b lm st ps la co lc T X se sta dco d E bg sh a2) else mSh b lm st ps la co lc T X se sta dco d E bg (shOf op) a
set_option maxHeartbeats 4000000 in
set_option maxRecDepth 100000 in
/-- takeRare(op, begin) -/
theorem c_Md_takeRare (l : Launch) (hl9 : l.stackTraces = false) (D : va_G) (cA : Nat → ClassId) (ad : Nat → Nat) (sz : Nat) (m0 : Nat) (g : Nat → Nat) (K : MK) (fd : Nat → Int32) (b : Nat → Nat) (N lm a : Nat) (ps : List Nat) (hps : ps.length ≤ 2) (hlm : lm ≤ N) (hN : N ≤ 2000) (hfd : ∀ i, i < N → fd i = nI (b i)) (hb9 : ∀ i, b i < 256) (ha : a ≤ lm) (p : Int32) (st : List IT) (hs9 : st.length ≤ 300) (d : Nat) (E : Nat → Bool) (hd9 : d < 2000) (la : Nat) (co : Bool) (lo_ : Int64) (lA_ : Int32) (lc : Option (Nat × Nat)) (T : TL) (hT9 : T.length < 2000) (X : XL) (hX9 : X.length < 2000) (se : Nat) (sta dco : Int64) (ex : Nat → Int32) (ti : Nat → Int64) (pe bk kd fr to re ow fi be : Nat → Int32) (hBL : BL d E bk) (hlc : ∀ z, lc = some z → lo_ = lN z.1 ∧ lA_ = nI z.2) (hst : ST ex ti (.inl 21 :: st)) (hpe : PE pe (lm :: ps)) (hTH : TH kd fr to re T) (hXH : XH ow fi be X) (op : Nat) (hop : op < 256) (bg : Nat) (r1 : ¬ (69 ≤ op ∧ op ≤ 196)) (r2 : ¬ (40 ≤ op ∧ op ≤ 62)) (r3 : ¬ (32 ≤ op ∧ op ≤ 38)) (r4 : ¬ (op = 0 ∨ op = 1 ∨ op = 15 ∨ op = 26 ∨ op = 27 ∨ op = 209)) (r5 : ¬ (op = 12 ∨ op = 13 ∨ op = 16 ∨ op = 210)) (r6 : ¬ op = 17) :
    cM l y_Md_takeRare (.code y_Md_takeRare b_Md_takeRare 3 none :: wAll) ({ frames := 4, cells := 0, slots := 0, locals := 90 }) D cA ad [.ref m0, .int (nI op), .int (nI bg)] [(m0, .inr (6, mF g K (nI a, 0, p) (nI (st.length + 1)) (nI (ps.length + 1)) (nI (d + 1), nI la, zI co, lo_, lA_, nI T.length, nI X.length, nI se, sta, dco))), ((g 0), .inl (cA 3, 2000, .inl fd)), ((g 7), .inl (cA 3, 400, .inl ex)), ((g 8), .inl (cA 1, 400, .inr (.inl ti))), ((g 10), .inl (cA 3, 4, .inl pe)), ((g 11), .inl (cA 3, 2001, .inl bk)), ((g 18), .inl (cA 3, 2000, .inl kd)), ((g 19), .inl (cA 3, 2000, .inl fr)), ((g 20), .inl (cA 3, 2000, .inl to)), ((g 21), .inl (cA 3, 2000, .inl re)), ((g 23), .inl (cA 3, 2000, .inl ow)), ((g 24), .inl (cA 3, 2000, .inl fi)), ((g 25), .inl (cA 3, 2000, .inl be))] sz (fun v u => v = none ∧ nP (mRare b lm st ps la co lc T X se sta dco d E bg op a) p u) (fun _ => False) (nW cA m0 g K fd) (fun _ => (0, 0)) := by
  refine cM.ofW (cc := b_Md_takeRare) (maxL := 3) (ret := none) (by decide) (Nat.le_of_ble_eq_true rfl) ?_
  intro pg ev s m bw meth cdx A ls hF hsz hA hE hP hD hl
  obtain ⟨⟨hx, hb, hml, hown, hts⟩, hr, hno, hlocks, hin⟩ := hF
  subst hsz
  have hown : s.vm.findClass "ModuleBytesModel" = some m.cls := hown
  have hS : va_S A s.heap s.heap [] := va_S.rf
  have hl : lv_has ls 3 [(0, .ref m0), (1, .int (nI op)), (2, .int (nI bg))] := hl
  have hP : va_P D cls [(m0, .inr (6, mF g K (nI a, 0, p) (nI (st.length + 1)) (nI (ps.length + 1)) (nI (d + 1), nI la, zI co, lo_, lA_, nI T.length, nI X.length, nI se, sta, dco))), ((g 0), .inl (cA 3, 2000, .inl fd)), ((g 7), .inl (cA 3, 400, .inl ex)), ((g 8), .inl (cA 1, 400, .inr (.inl ti))), ((g 10), .inl (cA 3, 4, .inl pe)), ((g 11), .inl (cA 3, 2001, .inl bk)), ((g 18), .inl (cA 3, 2000, .inl kd)), ((g 19), .inl (cA 3, 2000, .inl fr)), ((g 20), .inl (cA 3, 2000, .inl to)), ((g 21), .inl (cA 3, 2000, .inl re)), ((g 23), .inl (cA 3, 2000, .inl ow)), ((g 24), .inl (cA 3, 2000, .inl fi)), ((g 25), .inl (cA 3, 2000, .inl be))] s.heap := hP
  have hD : va_D A [(m0, .inr (6, mF g K (nI a, 0, p) (nI (st.length + 1)) (nI (ps.length + 1)) (nI (d + 1), nI la, zI co, lo_, lA_, nI T.length, nI X.length, nI se, sta, dco))), ((g 0), .inl (cA 3, 2000, .inl fd)), ((g 7), .inl (cA 3, 400, .inl ex)), ((g 8), .inl (cA 1, 400, .inr (.inl ti))), ((g 10), .inl (cA 3, 4, .inl pe)), ((g 11), .inl (cA 3, 2001, .inl bk)), ((g 18), .inl (cA 3, 2000, .inl kd)), ((g 19), .inl (cA 3, 2000, .inl fr)), ((g 20), .inl (cA 3, 2000, .inl to)), ((g 21), .inl (cA 3, 2000, .inl re)), ((g 23), .inl (cA 3, 2000, .inl ow)), ((g 24), .inl (cA 3, 2000, .inl fi)), ((g 25), .inl (cA 3, 2000, .inl be))] := hD
  refine lv_iload_n hx hb d_Md_takeRare_0 rfl (lv_at hl 1 rfl) ?_
  by_cases k_14 : op = 14
  · subst k_14
    refine W.eq (g2 := F0 m 1 ls [.int 14]) rfl ?_
    refine lv_lookup (off := 91) (tgt := 92) hx hb d_Md_takeRare_1 (by decide) (by decide) (by decide) ?_
    refine lv_aload_n hx hb d_Md_takeRare_92 rfl (lv_at hl 0 rfl) ?_
    refine lv_bipush (v := 101) hx hb d_Md_takeRare_93 (by decide) ?_
    refine lv_iconst (v := 1) hx hb d_Md_takeRare_95 (by decide) ?_
    refine cV (As := [.int 101, .int 1]) (rest := []) (n := 2) (wc := [(m0, .inr (6, mF g K (nI a, 0, p) (nI (st.length + 1)) (nI (ps.length + 1)) (nI (d + 1), nI la, zI co, lo_, lA_, nI T.length, nI X.length, nI se, sta, dco))), ((g 7), .inl (cA 3, 400, .inl ex)), ((g 8), .inl (cA 1, 400, .inr (.inl ti)))]) (wr := [((g 0), .inl (cA 3, 2000, .inl fd)), ((g 10), .inl (cA 3, 4, .inl pe)), ((g 11), .inl (cA 3, 2001, .inl bk)), ((g 18), .inl (cA 3, 2000, .inl kd)), ((g 19), .inl (cA 3, 2000, .inl fr)), ((g 20), .inl (cA 3, 2000, .inl to)), ((g 21), .inl (cA 3, 2000, .inl re)), ((g 23), .inl (cA 3, 2000, .inl ow)), ((g 24), .inl (cA 3, 2000, .inl fi)), ((g 25), .inl (cA 3, 2000, .inl be))]) ⟨hx, hb, hml, hown, hts⟩ hno hlocks hl.1 (c_Md_wantTwo l hl9 D cA ad s.heap.size m0 g K (nI a, 0, p) (nI (ps.length + 1)) (nI (d + 1), nI la, zI co, lo_, lA_, nI T.length, nI X.length, nI se, sta, dco) ex ti (.inl 21 :: st) hst (by (try simp only [List.length_cons]); omega) (101 : Int32) 101 rfl (1 : Int32) 1 rfl) iw4_22 iw4_24 sel_Md_wantTwo iw1_7 iw4_25 (by decide +kernel) rfl ⟨Nat.le_of_ble_eq_true rfl, Nat.le_of_ble_eq_true rfl⟩ ⟨Nat.le_of_ble_eq_true rfl, Nat.le_of_ble_eq_true rfl⟩ rfl (Nat.le_of_ble_eq_true rfl) d_Md_takeRare_96 hE hP hD hS hA [0, 2, 3] [1, 4, 5, 6, 7, 8, 9, 10, 11, 12] rfl rfl rfl rfl (by decide) (ci := 6) rfl rfl 0 rfl (fun _ h => h.elim) (fun v_96 u_96 H locs hp_96 hP hD hS => ?_)
    obtain ⟨rfl, hst113⟩ := hp_96
    obtain ⟨ex113, ti113⟩ := u_96
    have hP : va_P D cls [(m0, .inr (6, mF g K (nI a, 0, p) (nI (st.length + 3)) (nI (ps.length + 1)) (nI (d + 1), nI la, zI co, lo_, lA_, nI T.length, nI X.length, nI se, sta, dco))), ((g 0), .inl (cA 3, 2000, .inl fd)), ((g 7), .inl (cA 3, 400, .inl ex113)), ((g 8), .inl (cA 1, 400, .inr (.inl ti113))), ((g 10), .inl (cA 3, 4, .inl pe)), ((g 11), .inl (cA 3, 2001, .inl bk)), ((g 18), .inl (cA 3, 2000, .inl kd)), ((g 19), .inl (cA 3, 2000, .inl fr)), ((g 20), .inl (cA 3, 2000, .inl to)), ((g 21), .inl (cA 3, 2000, .inl re)), ((g 23), .inl (cA 3, 2000, .inl ow)), ((g 24), .inl (cA 3, 2000, .inl fi)), ((g 25), .inl (cA 3, 2000, .inl be))] H := hP.sub [10, 0, 11, 12, 1, 2, 3, 4, 5, 6, 7, 8, 9] rfl
    have hD : va_D A [(m0, .inr (6, mF g K (nI a, 0, p) (nI (st.length + 3)) (nI (ps.length + 1)) (nI (d + 1), nI la, zI co, lo_, lA_, nI T.length, nI X.length, nI se, sta, dco))), ((g 0), .inl (cA 3, 2000, .inl fd)), ((g 7), .inl (cA 3, 400, .inl ex113)), ((g 8), .inl (cA 1, 400, .inr (.inl ti113))), ((g 10), .inl (cA 3, 4, .inl pe)), ((g 11), .inl (cA 3, 2001, .inl bk)), ((g 18), .inl (cA 3, 2000, .inl kd)), ((g 19), .inl (cA 3, 2000, .inl fr)), ((g 20), .inl (cA 3, 2000, .inl to)), ((g 21), .inl (cA 3, 2000, .inl re)), ((g 23), .inl (cA 3, 2000, .inl ow)), ((g 24), .inl (cA 3, 2000, .inl fi)), ((g 25), .inl (cA 3, 2000, .inl be))] := hD.sub [10, 0, 11, 12, 1, 2, 3, 4, 5, 6, 7, 8, 9] (by decide) rfl
    refine W.cs (cells' := 0) (slots' := 0) rfl rfl ?_
    refine W.eq (g2 := F0 m 99 ls []) rfl ?_
    refine lv_goto (tgt := 182) hx hb d_Md_takeRare_99 (by decide) ?_
    exact cRv ((((nI a, 0, p), nI (st.length + 3), nI (ps.length + 1), (nI (d + 1), nI la, zI co, lo_, lA_, nI T.length, nI X.length, nI se, sta, dco)), (ex113, ti113, pe, bk, kd, fr, to, re, ow, fi, be)) : NU) hx hb hr hlocks d_Md_takeRare_182 hS hP hD (⟨rfl, nP_E ((show mRare b lm st ps la co lc T X se sta dco d E bg 14 a = _ from rfl)) ⟨⟨rfl, rfl, rfl, rfl⟩, (fun z hz => by cases hz; exact ⟨rfl, hBL⟩), hlc, hst113, hpe, hTH, hXH⟩⟩) (Nat.le_refl _) (Nat.le_refl _)
  by_cases k_28 : op = 28
  · subst k_28
    refine W.eq (g2 := F0 m 1 ls [.int 28]) rfl ?_
    refine lv_lookup (off := 101) (tgt := 102) hx hb d_Md_takeRare_1 (by decide) (by decide) (by decide) ?_
    refine lv_aload_n hx hb d_Md_takeRare_102 rfl (lv_at hl 0 rfl) ?_
    refine lv_iconst (v := 3) hx hb d_Md_takeRare_103 (by decide) ?_
    refine cV (As := [.int 3]) (rest := []) (n := 1) (wc := [(m0, .inr (6, mF g K (nI a, 0, p) (nI (st.length + 1)) (nI (ps.length + 1)) (nI (d + 1), nI la, zI co, lo_, lA_, nI T.length, nI X.length, nI se, sta, dco))), ((g 7), .inl (cA 3, 400, .inl ex)), ((g 8), .inl (cA 1, 400, .inr (.inl ti)))]) (wr := [((g 0), .inl (cA 3, 2000, .inl fd)), ((g 10), .inl (cA 3, 4, .inl pe)), ((g 11), .inl (cA 3, 2001, .inl bk)), ((g 18), .inl (cA 3, 2000, .inl kd)), ((g 19), .inl (cA 3, 2000, .inl fr)), ((g 20), .inl (cA 3, 2000, .inl to)), ((g 21), .inl (cA 3, 2000, .inl re)), ((g 23), .inl (cA 3, 2000, .inl ow)), ((g 24), .inl (cA 3, 2000, .inl fi)), ((g 25), .inl (cA 3, 2000, .inl be))]) ⟨hx, hb, hml, hown, hts⟩ hno hlocks hl.1 (c_Md_wantRow l hl9 D cA ad s.heap.size m0 g K (nI a, 0, p) (nI (ps.length + 1)) (nI (d + 1), nI la, zI co, lo_, lA_, nI T.length, nI X.length, nI se, sta, dco) ex ti (.inl 21 :: st) hst (by (try simp only [List.length_cons]); omega) (3 : Int32) 3 rfl) iw4_35 iw4_37 sel_Md_wantRow iw1_7 iw4_38 (by decide +kernel) rfl ⟨Nat.le_of_ble_eq_true rfl, Nat.le_of_ble_eq_true rfl⟩ ⟨Nat.le_of_ble_eq_true rfl, Nat.le_of_ble_eq_true rfl⟩ rfl (Nat.le_of_ble_eq_true rfl) d_Md_takeRare_104 hE hP hD hS hA [0, 2, 3] [1, 4, 5, 6, 7, 8, 9, 10, 11, 12] rfl rfl rfl rfl (by decide) (ci := 6) rfl rfl 0 rfl (fun _ h => h.elim) (fun v_104 u_104 H locs hp_104 hP hD hS => ?_)
    obtain ⟨rfl, hst114⟩ := hp_104
    obtain ⟨ex114, ti114⟩ := u_104
    have hP : va_P D cls [(m0, .inr (6, mF g K (nI a, 0, p) (nI (st.length + 2)) (nI (ps.length + 1)) (nI (d + 1), nI la, zI co, lo_, lA_, nI T.length, nI X.length, nI se, sta, dco))), ((g 0), .inl (cA 3, 2000, .inl fd)), ((g 7), .inl (cA 3, 400, .inl ex114)), ((g 8), .inl (cA 1, 400, .inr (.inl ti114))), ((g 10), .inl (cA 3, 4, .inl pe)), ((g 11), .inl (cA 3, 2001, .inl bk)), ((g 18), .inl (cA 3, 2000, .inl kd)), ((g 19), .inl (cA 3, 2000, .inl fr)), ((g 20), .inl (cA 3, 2000, .inl to)), ((g 21), .inl (cA 3, 2000, .inl re)), ((g 23), .inl (cA 3, 2000, .inl ow)), ((g 24), .inl (cA 3, 2000, .inl fi)), ((g 25), .inl (cA 3, 2000, .inl be))] H := hP.sub [10, 0, 11, 12, 1, 2, 3, 4, 5, 6, 7, 8, 9] rfl
    have hD : va_D A [(m0, .inr (6, mF g K (nI a, 0, p) (nI (st.length + 2)) (nI (ps.length + 1)) (nI (d + 1), nI la, zI co, lo_, lA_, nI T.length, nI X.length, nI se, sta, dco))), ((g 0), .inl (cA 3, 2000, .inl fd)), ((g 7), .inl (cA 3, 400, .inl ex114)), ((g 8), .inl (cA 1, 400, .inr (.inl ti114))), ((g 10), .inl (cA 3, 4, .inl pe)), ((g 11), .inl (cA 3, 2001, .inl bk)), ((g 18), .inl (cA 3, 2000, .inl kd)), ((g 19), .inl (cA 3, 2000, .inl fr)), ((g 20), .inl (cA 3, 2000, .inl to)), ((g 21), .inl (cA 3, 2000, .inl re)), ((g 23), .inl (cA 3, 2000, .inl ow)), ((g 24), .inl (cA 3, 2000, .inl fi)), ((g 25), .inl (cA 3, 2000, .inl be))] := hD.sub [10, 0, 11, 12, 1, 2, 3, 4, 5, 6, 7, 8, 9] (by decide) rfl
    refine W.cs (cells' := 0) (slots' := 0) rfl rfl ?_
    refine W.eq (g2 := F0 m 107 ls []) rfl ?_
    refine lv_goto (tgt := 182) hx hb d_Md_takeRare_107 (by decide) ?_
    exact cRv ((((nI a, 0, p), nI (st.length + 2), nI (ps.length + 1), (nI (d + 1), nI la, zI co, lo_, lA_, nI T.length, nI X.length, nI se, sta, dco)), (ex114, ti114, pe, bk, kd, fr, to, re, ow, fi, be)) : NU) hx hb hr hlocks d_Md_takeRare_182 hS hP hD (⟨rfl, nP_E ((show mRare b lm st ps la co lc T X se sta dco d E bg 28 a = _ from rfl)) ⟨⟨rfl, rfl, rfl, rfl⟩, (fun z hz => by cases hz; exact ⟨rfl, hBL⟩), hlc, hst114, hpe, hTH, hXH⟩⟩) (Nat.le_refl _) (Nat.le_refl _)
  by_cases k_63 : op = 63
  · subst k_63
    refine W.eq (g2 := F0 m 1 ls [.int 63]) rfl ?_
    refine lv_lookup (off := 109) (tgt := 110) hx hb d_Md_takeRare_1 (by decide) (by decide) (by decide) ?_
    refine lv_aload_n hx hb d_Md_takeRare_110 rfl (lv_at hl 0 rfl) ?_
    refine lv_bipush (v := 18) hx hb d_Md_takeRare_111 (by decide) ?_
    refine cV (As := [.int 18]) (rest := []) (n := 1) (wc := [(m0, .inr (6, mF g K (nI a, 0, p) (nI (st.length + 1)) (nI (ps.length + 1)) (nI (d + 1), nI la, zI co, lo_, lA_, nI T.length, nI X.length, nI se, sta, dco))), ((g 7), .inl (cA 3, 400, .inl ex)), ((g 8), .inl (cA 1, 400, .inr (.inl ti)))]) (wr := [((g 0), .inl (cA 3, 2000, .inl fd)), ((g 10), .inl (cA 3, 4, .inl pe)), ((g 11), .inl (cA 3, 2001, .inl bk)), ((g 18), .inl (cA 3, 2000, .inl kd)), ((g 19), .inl (cA 3, 2000, .inl fr)), ((g 20), .inl (cA 3, 2000, .inl to)), ((g 21), .inl (cA 3, 2000, .inl re)), ((g 23), .inl (cA 3, 2000, .inl ow)), ((g 24), .inl (cA 3, 2000, .inl fi)), ((g 25), .inl (cA 3, 2000, .inl be))]) ⟨hx, hb, hml, hown, hts⟩ hno hlocks hl.1 (c_Md_want l hl9 D cA ad s.heap.size m0 g K (nI a, 0, p) (nI (ps.length + 1)) (nI (d + 1), nI la, zI co, lo_, lA_, nI T.length, nI X.length, nI se, sta, dco) ex ti (.inl 21 :: st) hst (by (try simp only [List.length_cons]); omega) (18 : Int32) 18 rfl) iw3_220 iw3_222 sel_Md_want iw1_7 iw3_223 (by decide +kernel) rfl ⟨Nat.le_of_ble_eq_true rfl, Nat.le_of_ble_eq_true rfl⟩ ⟨Nat.le_of_ble_eq_true rfl, Nat.le_of_ble_eq_true rfl⟩ rfl (Nat.le_of_ble_eq_true rfl) d_Md_takeRare_113 hE hP hD hS hA [0, 2, 3] [1, 4, 5, 6, 7, 8, 9, 10, 11, 12] rfl rfl rfl rfl (by decide) (ci := 6) rfl rfl 0 rfl (fun _ h => h.elim) (fun v_113 u_113 H locs hp_113 hP hD hS => ?_)
    obtain ⟨rfl, hst115⟩ := hp_113
    obtain ⟨ex115, ti115⟩ := u_113
    have hP : va_P D cls [(m0, .inr (6, mF g K (nI a, 0, p) (nI (st.length + 2)) (nI (ps.length + 1)) (nI (d + 1), nI la, zI co, lo_, lA_, nI T.length, nI X.length, nI se, sta, dco))), ((g 0), .inl (cA 3, 2000, .inl fd)), ((g 7), .inl (cA 3, 400, .inl ex115)), ((g 8), .inl (cA 1, 400, .inr (.inl ti115))), ((g 10), .inl (cA 3, 4, .inl pe)), ((g 11), .inl (cA 3, 2001, .inl bk)), ((g 18), .inl (cA 3, 2000, .inl kd)), ((g 19), .inl (cA 3, 2000, .inl fr)), ((g 20), .inl (cA 3, 2000, .inl to)), ((g 21), .inl (cA 3, 2000, .inl re)), ((g 23), .inl (cA 3, 2000, .inl ow)), ((g 24), .inl (cA 3, 2000, .inl fi)), ((g 25), .inl (cA 3, 2000, .inl be))] H := hP.sub [10, 0, 11, 12, 1, 2, 3, 4, 5, 6, 7, 8, 9] rfl
    have hD : va_D A [(m0, .inr (6, mF g K (nI a, 0, p) (nI (st.length + 2)) (nI (ps.length + 1)) (nI (d + 1), nI la, zI co, lo_, lA_, nI T.length, nI X.length, nI se, sta, dco))), ((g 0), .inl (cA 3, 2000, .inl fd)), ((g 7), .inl (cA 3, 400, .inl ex115)), ((g 8), .inl (cA 1, 400, .inr (.inl ti115))), ((g 10), .inl (cA 3, 4, .inl pe)), ((g 11), .inl (cA 3, 2001, .inl bk)), ((g 18), .inl (cA 3, 2000, .inl kd)), ((g 19), .inl (cA 3, 2000, .inl fr)), ((g 20), .inl (cA 3, 2000, .inl to)), ((g 21), .inl (cA 3, 2000, .inl re)), ((g 23), .inl (cA 3, 2000, .inl ow)), ((g 24), .inl (cA 3, 2000, .inl fi)), ((g 25), .inl (cA 3, 2000, .inl be))] := hD.sub [10, 0, 11, 12, 1, 2, 3, 4, 5, 6, 7, 8, 9] (by decide) rfl
    refine W.cs (cells' := 0) (slots' := 0) rfl rfl ?_
    refine W.eq (g2 := F0 m 116 ls []) rfl ?_
    refine lv_goto (tgt := 182) hx hb d_Md_takeRare_116 (by decide) ?_
    exact cRv ((((nI a, 0, p), nI (st.length + 2), nI (ps.length + 1), (nI (d + 1), nI la, zI co, lo_, lA_, nI T.length, nI X.length, nI se, sta, dco)), (ex115, ti115, pe, bk, kd, fr, to, re, ow, fi, be)) : NU) hx hb hr hlocks d_Md_takeRare_182 hS hP hD (⟨rfl, nP_E ((show mRare b lm st ps la co lc T X se sta dco d E bg 63 a = _ from rfl)) ⟨⟨rfl, rfl, rfl, rfl⟩, (fun z hz => by cases hz; exact ⟨rfl, hBL⟩), hlc, hst115, hpe, hTH, hXH⟩⟩) (Nat.le_refl _) (Nat.le_refl _)
  by_cases k_64 : op = 64
  · subst k_64
    refine W.eq (g2 := F0 m 1 ls [.int 64]) rfl ?_
    refine lv_lookup (off := 109) (tgt := 110) hx hb d_Md_takeRare_1 (by decide) (by decide) (by decide) ?_
    refine lv_aload_n hx hb d_Md_takeRare_110 rfl (lv_at hl 0 rfl) ?_
    refine lv_bipush (v := 18) hx hb d_Md_takeRare_111 (by decide) ?_
    refine cV (As := [.int 18]) (rest := []) (n := 1) (wc := [(m0, .inr (6, mF g K (nI a, 0, p) (nI (st.length + 1)) (nI (ps.length + 1)) (nI (d + 1), nI la, zI co, lo_, lA_, nI T.length, nI X.length, nI se, sta, dco))), ((g 7), .inl (cA 3, 400, .inl ex)), ((g 8), .inl (cA 1, 400, .inr (.inl ti)))]) (wr := [((g 0), .inl (cA 3, 2000, .inl fd)), ((g 10), .inl (cA 3, 4, .inl pe)), ((g 11), .inl (cA 3, 2001, .inl bk)), ((g 18), .inl (cA 3, 2000, .inl kd)), ((g 19), .inl (cA 3, 2000, .inl fr)), ((g 20), .inl (cA 3, 2000, .inl to)), ((g 21), .inl (cA 3, 2000, .inl re)), ((g 23), .inl (cA 3, 2000, .inl ow)), ((g 24), .inl (cA 3, 2000, .inl fi)), ((g 25), .inl (cA 3, 2000, .inl be))]) ⟨hx, hb, hml, hown, hts⟩ hno hlocks hl.1 (c_Md_want l hl9 D cA ad s.heap.size m0 g K (nI a, 0, p) (nI (ps.length + 1)) (nI (d + 1), nI la, zI co, lo_, lA_, nI T.length, nI X.length, nI se, sta, dco) ex ti (.inl 21 :: st) hst (by (try simp only [List.length_cons]); omega) (18 : Int32) 18 rfl) iw3_220 iw3_222 sel_Md_want iw1_7 iw3_223 (by decide +kernel) rfl ⟨Nat.le_of_ble_eq_true rfl, Nat.le_of_ble_eq_true rfl⟩ ⟨Nat.le_of_ble_eq_true rfl, Nat.le_of_ble_eq_true rfl⟩ rfl (Nat.le_of_ble_eq_true rfl) d_Md_takeRare_113 hE hP hD hS hA [0, 2, 3] [1, 4, 5, 6, 7, 8, 9, 10, 11, 12] rfl rfl rfl rfl (by decide) (ci := 6) rfl rfl 0 rfl (fun _ h => h.elim) (fun v_113 u_113 H locs hp_113 hP hD hS => ?_)
    obtain ⟨rfl, hst116⟩ := hp_113
    obtain ⟨ex116, ti116⟩ := u_113
    have hP : va_P D cls [(m0, .inr (6, mF g K (nI a, 0, p) (nI (st.length + 2)) (nI (ps.length + 1)) (nI (d + 1), nI la, zI co, lo_, lA_, nI T.length, nI X.length, nI se, sta, dco))), ((g 0), .inl (cA 3, 2000, .inl fd)), ((g 7), .inl (cA 3, 400, .inl ex116)), ((g 8), .inl (cA 1, 400, .inr (.inl ti116))), ((g 10), .inl (cA 3, 4, .inl pe)), ((g 11), .inl (cA 3, 2001, .inl bk)), ((g 18), .inl (cA 3, 2000, .inl kd)), ((g 19), .inl (cA 3, 2000, .inl fr)), ((g 20), .inl (cA 3, 2000, .inl to)), ((g 21), .inl (cA 3, 2000, .inl re)), ((g 23), .inl (cA 3, 2000, .inl ow)), ((g 24), .inl (cA 3, 2000, .inl fi)), ((g 25), .inl (cA 3, 2000, .inl be))] H := hP.sub [10, 0, 11, 12, 1, 2, 3, 4, 5, 6, 7, 8, 9] rfl
    have hD : va_D A [(m0, .inr (6, mF g K (nI a, 0, p) (nI (st.length + 2)) (nI (ps.length + 1)) (nI (d + 1), nI la, zI co, lo_, lA_, nI T.length, nI X.length, nI se, sta, dco))), ((g 0), .inl (cA 3, 2000, .inl fd)), ((g 7), .inl (cA 3, 400, .inl ex116)), ((g 8), .inl (cA 1, 400, .inr (.inl ti116))), ((g 10), .inl (cA 3, 4, .inl pe)), ((g 11), .inl (cA 3, 2001, .inl bk)), ((g 18), .inl (cA 3, 2000, .inl kd)), ((g 19), .inl (cA 3, 2000, .inl fr)), ((g 20), .inl (cA 3, 2000, .inl to)), ((g 21), .inl (cA 3, 2000, .inl re)), ((g 23), .inl (cA 3, 2000, .inl ow)), ((g 24), .inl (cA 3, 2000, .inl fi)), ((g 25), .inl (cA 3, 2000, .inl be))] := hD.sub [10, 0, 11, 12, 1, 2, 3, 4, 5, 6, 7, 8, 9] (by decide) rfl
    refine W.cs (cells' := 0) (slots' := 0) rfl rfl ?_
    refine W.eq (g2 := F0 m 116 ls []) rfl ?_
    refine lv_goto (tgt := 182) hx hb d_Md_takeRare_116 (by decide) ?_
    exact cRv ((((nI a, 0, p), nI (st.length + 2), nI (ps.length + 1), (nI (d + 1), nI la, zI co, lo_, lA_, nI T.length, nI X.length, nI se, sta, dco)), (ex116, ti116, pe, bk, kd, fr, to, re, ow, fi, be)) : NU) hx hb hr hlocks d_Md_takeRare_182 hS hP hD (⟨rfl, nP_E ((show mRare b lm st ps la co lc T X se sta dco d E bg 64 a = _ from rfl)) ⟨⟨rfl, rfl, rfl, rfl⟩, (fun z hz => by cases hz; exact ⟨rfl, hBL⟩), hlc, hst116, hpe, hTH, hXH⟩⟩) (Nat.le_refl _) (Nat.le_refl _)
  by_cases k_65 : op = 65
  · subst k_65
    refine W.eq (g2 := F0 m 1 ls [.int 65]) rfl ?_
    refine lv_lookup (off := 118) (tgt := 119) hx hb d_Md_takeRare_1 (by decide) (by decide) (by decide) ?_
    refine lv_aload_n hx hb d_Md_takeRare_119 rfl (lv_at hl 0 rfl) ?_
    refine lv_bipush (v := 32) hx hb d_Md_takeRare_120 (by decide) ?_
    refine cV (As := [.int 32]) (rest := []) (n := 1) (wc := [(m0, .inr (6, mF g K (nI a, 0, p) (nI (st.length + 1)) (nI (ps.length + 1)) (nI (d + 1), nI la, zI co, lo_, lA_, nI T.length, nI X.length, nI se, sta, dco))), ((g 0), .inl (cA 3, 2000, .inl fd)), ((g 10), .inl (cA 3, 4, .inl pe))]) (wr := [((g 7), .inl (cA 3, 400, .inl ex)), ((g 8), .inl (cA 1, 400, .inr (.inl ti))), ((g 11), .inl (cA 3, 2001, .inl bk)), ((g 18), .inl (cA 3, 2000, .inl kd)), ((g 19), .inl (cA 3, 2000, .inl fr)), ((g 20), .inl (cA 3, 2000, .inl to)), ((g 21), .inl (cA 3, 2000, .inl re)), ((g 23), .inl (cA 3, 2000, .inl ow)), ((g 24), .inl (cA 3, 2000, .inl fi)), ((g 25), .inl (cA 3, 2000, .inl be))]) ⟨hx, hb, hml, hown, hts⟩ hno hlocks hl.1 (c_Md_takeSigned32 l hl9 D cA ad s.heap.size m0 g K (nI (st.length + 1)) (ps.length + 1) (nI (d + 1), nI la, zI co, lo_, lA_, nI T.length, nI X.length, nI se, sta, dco) fd pe b N lm ⟨by omega, by omega⟩ (show pe (ps.length + 1 - 1) = nI lm from hpe.1) hlm hN hfd hb9 a p (by omega) ) iw4_76 iw4_78 sel_Md_takeSigned iw1_7 iw4_79 (by decide +kernel) rfl ⟨Nat.le_of_ble_eq_true rfl, Nat.le_of_ble_eq_true rfl⟩ ⟨Nat.le_of_ble_eq_true rfl, Nat.le_of_ble_eq_true rfl⟩ rfl (Nat.le_of_ble_eq_true rfl) d_Md_takeRare_122 hE hP hD hS hA [0, 1, 4] [2, 3, 5, 6, 7, 8, 9, 10, 11, 12] rfl rfl rfl rfl (by decide) (ci := 6) rfl rfl 0 rfl (fun _ h => h.elim) (fun v_122 u_122 H locs hp_122 hP hD hS => ?_)
    rcases hp_122 with ⟨f117, q117, hr117, hf117, hB117, ⟨w117, rfl⟩, zz117, hzz117, hzx117⟩ | ⟨v117, a117, hr117, rfl, ⟨w117, rfl⟩⟩
    · obtain ⟨x117, y117, z117⟩ := u_122
      cases hB117
      have hzx117 : x117 = nI zz117 := hzx117
      subst hzx117
      have hP : va_P D cls [(m0, .inr (6, mF g K (nI zz117, nI f117, nI q117) (nI (st.length + 1)) (nI (ps.length + 1)) (nI (d + 1), nI la, zI co, lo_, lA_, nI T.length, nI X.length, nI se, sta, dco))), ((g 0), .inl (cA 3, 2000, .inl fd)), ((g 7), .inl (cA 3, 400, .inl ex)), ((g 8), .inl (cA 1, 400, .inr (.inl ti))), ((g 10), .inl (cA 3, 4, .inl pe)), ((g 11), .inl (cA 3, 2001, .inl bk)), ((g 18), .inl (cA 3, 2000, .inl kd)), ((g 19), .inl (cA 3, 2000, .inl fr)), ((g 20), .inl (cA 3, 2000, .inl to)), ((g 21), .inl (cA 3, 2000, .inl re)), ((g 23), .inl (cA 3, 2000, .inl ow)), ((g 24), .inl (cA 3, 2000, .inl fi)), ((g 25), .inl (cA 3, 2000, .inl be))] H := hP.sub [10, 11, 0, 1, 12, 2, 3, 4, 5, 6, 7, 8, 9] rfl
      have hD : va_D A [(m0, .inr (6, mF g K (nI zz117, nI f117, nI q117) (nI (st.length + 1)) (nI (ps.length + 1)) (nI (d + 1), nI la, zI co, lo_, lA_, nI T.length, nI X.length, nI se, sta, dco))), ((g 0), .inl (cA 3, 2000, .inl fd)), ((g 7), .inl (cA 3, 400, .inl ex)), ((g 8), .inl (cA 1, 400, .inr (.inl ti))), ((g 10), .inl (cA 3, 4, .inl pe)), ((g 11), .inl (cA 3, 2001, .inl bk)), ((g 18), .inl (cA 3, 2000, .inl kd)), ((g 19), .inl (cA 3, 2000, .inl fr)), ((g 20), .inl (cA 3, 2000, .inl to)), ((g 21), .inl (cA 3, 2000, .inl re)), ((g 23), .inl (cA 3, 2000, .inl ow)), ((g 24), .inl (cA 3, 2000, .inl fi)), ((g 25), .inl (cA 3, 2000, .inl be))] := hD.sub [10, 11, 0, 1, 12, 2, 3, 4, 5, 6, 7, 8, 9] (by decide) rfl
      refine W.cs (cells' := 0) (slots' := 0) rfl rfl ?_
      refine W.eq (g2 := F0 m 125 ls [.long w117]) rfl ?_
      refine lv_pop2_2 hx hb d_Md_takeRare_125 rfl ?_
      refine lv_goto (tgt := 182) hx hb d_Md_takeRare_126 (by decide) ?_
      exact cRv ((((nI zz117, nI f117, nI q117), nI (st.length + 1), nI (ps.length + 1), (nI (d + 1), nI la, zI co, lo_, lA_, nI T.length, nI X.length, nI se, sta, dco)), (ex, ti, pe, bk, kd, fr, to, re, ow, fi, be)) : NU) hx hb hr hlocks d_Md_takeRare_182 hS hP hD (⟨rfl, nP_T (((show mRare b lm st ps la co lc T X se sta dco d E bg 65 a = mb (pS32 b lm a) (fun _ a2 => .inr (a2, .inl 21 :: st, lm :: ps, some (d, E), la, co, lc, T, X, se, sta, dco)) from rfl)).trans (mb_T hr117)) ⟨hf117, rfl, T.length, by (try simp only [List.length_cons]); omega, rfl⟩⟩) (Nat.le_refl _) (Nat.le_refl _)
    · obtain ⟨hla117, hgt117⟩ := (pSg_ok2 (n := 4) (show a ≤ lm by omega) hr117)
      have hP : va_P D cls [(m0, .inr (6, mF g K (nI a117, 0, p) (nI (st.length + 1)) (nI (ps.length + 1)) (nI (d + 1), nI la, zI co, lo_, lA_, nI T.length, nI X.length, nI se, sta, dco))), ((g 0), .inl (cA 3, 2000, .inl fd)), ((g 7), .inl (cA 3, 400, .inl ex)), ((g 8), .inl (cA 1, 400, .inr (.inl ti))), ((g 10), .inl (cA 3, 4, .inl pe)), ((g 11), .inl (cA 3, 2001, .inl bk)), ((g 18), .inl (cA 3, 2000, .inl kd)), ((g 19), .inl (cA 3, 2000, .inl fr)), ((g 20), .inl (cA 3, 2000, .inl to)), ((g 21), .inl (cA 3, 2000, .inl re)), ((g 23), .inl (cA 3, 2000, .inl ow)), ((g 24), .inl (cA 3, 2000, .inl fi)), ((g 25), .inl (cA 3, 2000, .inl be))] H := hP.sub [10, 11, 0, 1, 12, 2, 3, 4, 5, 6, 7, 8, 9] rfl
      have hD : va_D A [(m0, .inr (6, mF g K (nI a117, 0, p) (nI (st.length + 1)) (nI (ps.length + 1)) (nI (d + 1), nI la, zI co, lo_, lA_, nI T.length, nI X.length, nI se, sta, dco))), ((g 0), .inl (cA 3, 2000, .inl fd)), ((g 7), .inl (cA 3, 400, .inl ex)), ((g 8), .inl (cA 1, 400, .inr (.inl ti))), ((g 10), .inl (cA 3, 4, .inl pe)), ((g 11), .inl (cA 3, 2001, .inl bk)), ((g 18), .inl (cA 3, 2000, .inl kd)), ((g 19), .inl (cA 3, 2000, .inl fr)), ((g 20), .inl (cA 3, 2000, .inl to)), ((g 21), .inl (cA 3, 2000, .inl re)), ((g 23), .inl (cA 3, 2000, .inl ow)), ((g 24), .inl (cA 3, 2000, .inl fi)), ((g 25), .inl (cA 3, 2000, .inl be))] := hD.sub [10, 11, 0, 1, 12, 2, 3, 4, 5, 6, 7, 8, 9] (by decide) rfl
      refine W.cs (cells' := 0) (slots' := 0) rfl rfl ?_
      refine W.eq (g2 := F0 m 125 ls [.long w117]) rfl ?_
      refine lv_pop2_2 hx hb d_Md_takeRare_125 rfl ?_
      refine lv_goto (tgt := 182) hx hb d_Md_takeRare_126 (by decide) ?_
      exact cRv ((((nI a117, 0, p), nI (st.length + 1), nI (ps.length + 1), (nI (d + 1), nI la, zI co, lo_, lA_, nI T.length, nI X.length, nI se, sta, dco)), (ex, ti, pe, bk, kd, fr, to, re, ow, fi, be)) : NU) hx hb hr hlocks d_Md_takeRare_182 hS hP hD (⟨rfl, nP_E (((show mRare b lm st ps la co lc T X se sta dco d E bg 65 a = mb (pS32 b lm a) (fun _ a2 => .inr (a2, .inl 21 :: st, lm :: ps, some (d, E), la, co, lc, T, X, se, sta, dco)) from rfl)).trans (mb_E hr117)) ⟨⟨rfl, rfl, rfl, rfl⟩, (fun z hz => by cases hz; exact ⟨rfl, hBL⟩), hlc, hst, hpe, hTH, hXH⟩⟩) (Nat.le_refl _) (Nat.le_refl _)
  by_cases k_66 : op = 66
  · subst k_66
    refine W.eq (g2 := F0 m 1 ls [.int 66]) rfl ?_
    refine lv_lookup (off := 128) (tgt := 129) hx hb d_Md_takeRare_1 (by decide) (by decide) (by decide) ?_
    refine lv_aload_n hx hb d_Md_takeRare_129 rfl (lv_at hl 0 rfl) ?_
    refine lv_bipush (v := 64) hx hb d_Md_takeRare_130 (by decide) ?_
    refine cV (As := [.int 64]) (rest := []) (n := 1) (wc := [(m0, .inr (6, mF g K (nI a, 0, p) (nI (st.length + 1)) (nI (ps.length + 1)) (nI (d + 1), nI la, zI co, lo_, lA_, nI T.length, nI X.length, nI se, sta, dco))), ((g 0), .inl (cA 3, 2000, .inl fd)), ((g 10), .inl (cA 3, 4, .inl pe))]) (wr := [((g 7), .inl (cA 3, 400, .inl ex)), ((g 8), .inl (cA 1, 400, .inr (.inl ti))), ((g 11), .inl (cA 3, 2001, .inl bk)), ((g 18), .inl (cA 3, 2000, .inl kd)), ((g 19), .inl (cA 3, 2000, .inl fr)), ((g 20), .inl (cA 3, 2000, .inl to)), ((g 21), .inl (cA 3, 2000, .inl re)), ((g 23), .inl (cA 3, 2000, .inl ow)), ((g 24), .inl (cA 3, 2000, .inl fi)), ((g 25), .inl (cA 3, 2000, .inl be))]) ⟨hx, hb, hml, hown, hts⟩ hno hlocks hl.1 (c_Md_takeSigned64 l hl9 D cA ad s.heap.size m0 g K (nI (st.length + 1)) (ps.length + 1) (nI (d + 1), nI la, zI co, lo_, lA_, nI T.length, nI X.length, nI se, sta, dco) fd pe b N lm ⟨by omega, by omega⟩ (show pe (ps.length + 1 - 1) = nI lm from hpe.1) hlm hN hfd hb9 a p (by omega) ) iw4_76 iw4_78 sel_Md_takeSigned iw1_7 iw4_79 (by decide +kernel) rfl ⟨Nat.le_of_ble_eq_true rfl, Nat.le_of_ble_eq_true rfl⟩ ⟨Nat.le_of_ble_eq_true rfl, Nat.le_of_ble_eq_true rfl⟩ rfl (Nat.le_of_ble_eq_true rfl) d_Md_takeRare_132 hE hP hD hS hA [0, 1, 4] [2, 3, 5, 6, 7, 8, 9, 10, 11, 12] rfl rfl rfl rfl (by decide) (ci := 6) rfl rfl 0 rfl (fun _ h => h.elim) (fun v_132 u_132 H locs hp_132 hP hD hS => ?_)
    rcases hp_132 with ⟨f118, q118, hr118, hf118, hB118, ⟨w118, rfl⟩, zz118, hzz118, hzx118⟩ | ⟨v118, a118, hr118, rfl, ⟨w118, rfl⟩⟩
    · obtain ⟨x118, y118, z118⟩ := u_132
      cases hB118
      have hzx118 : x118 = nI zz118 := hzx118
      subst hzx118
      have hP : va_P D cls [(m0, .inr (6, mF g K (nI zz118, nI f118, nI q118) (nI (st.length + 1)) (nI (ps.length + 1)) (nI (d + 1), nI la, zI co, lo_, lA_, nI T.length, nI X.length, nI se, sta, dco))), ((g 0), .inl (cA 3, 2000, .inl fd)), ((g 7), .inl (cA 3, 400, .inl ex)), ((g 8), .inl (cA 1, 400, .inr (.inl ti))), ((g 10), .inl (cA 3, 4, .inl pe)), ((g 11), .inl (cA 3, 2001, .inl bk)), ((g 18), .inl (cA 3, 2000, .inl kd)), ((g 19), .inl (cA 3, 2000, .inl fr)), ((g 20), .inl (cA 3, 2000, .inl to)), ((g 21), .inl (cA 3, 2000, .inl re)), ((g 23), .inl (cA 3, 2000, .inl ow)), ((g 24), .inl (cA 3, 2000, .inl fi)), ((g 25), .inl (cA 3, 2000, .inl be))] H := hP.sub [10, 11, 0, 1, 12, 2, 3, 4, 5, 6, 7, 8, 9] rfl
      have hD : va_D A [(m0, .inr (6, mF g K (nI zz118, nI f118, nI q118) (nI (st.length + 1)) (nI (ps.length + 1)) (nI (d + 1), nI la, zI co, lo_, lA_, nI T.length, nI X.length, nI se, sta, dco))), ((g 0), .inl (cA 3, 2000, .inl fd)), ((g 7), .inl (cA 3, 400, .inl ex)), ((g 8), .inl (cA 1, 400, .inr (.inl ti))), ((g 10), .inl (cA 3, 4, .inl pe)), ((g 11), .inl (cA 3, 2001, .inl bk)), ((g 18), .inl (cA 3, 2000, .inl kd)), ((g 19), .inl (cA 3, 2000, .inl fr)), ((g 20), .inl (cA 3, 2000, .inl to)), ((g 21), .inl (cA 3, 2000, .inl re)), ((g 23), .inl (cA 3, 2000, .inl ow)), ((g 24), .inl (cA 3, 2000, .inl fi)), ((g 25), .inl (cA 3, 2000, .inl be))] := hD.sub [10, 11, 0, 1, 12, 2, 3, 4, 5, 6, 7, 8, 9] (by decide) rfl
      refine W.cs (cells' := 0) (slots' := 0) rfl rfl ?_
      refine W.eq (g2 := F0 m 135 ls [.long w118]) rfl ?_
      refine lv_pop2_2 hx hb d_Md_takeRare_135 rfl ?_
      refine lv_goto (tgt := 182) hx hb d_Md_takeRare_136 (by decide) ?_
      exact cRv ((((nI zz118, nI f118, nI q118), nI (st.length + 1), nI (ps.length + 1), (nI (d + 1), nI la, zI co, lo_, lA_, nI T.length, nI X.length, nI se, sta, dco)), (ex, ti, pe, bk, kd, fr, to, re, ow, fi, be)) : NU) hx hb hr hlocks d_Md_takeRare_182 hS hP hD (⟨rfl, nP_T (((show mRare b lm st ps la co lc T X se sta dco d E bg 66 a = mb (pS64 b lm a) (fun _ a2 => .inr (a2, .inl 21 :: st, lm :: ps, some (d, E), la, co, lc, T, X, se, sta, dco)) from rfl)).trans (mb_T hr118)) ⟨hf118, rfl, T.length, by (try simp only [List.length_cons]); omega, rfl⟩⟩) (Nat.le_refl _) (Nat.le_refl _)
    · obtain ⟨hla118, hgt118⟩ := (pSg_ok2 (n := 9) (show a ≤ lm by omega) hr118)
      have hP : va_P D cls [(m0, .inr (6, mF g K (nI a118, 0, p) (nI (st.length + 1)) (nI (ps.length + 1)) (nI (d + 1), nI la, zI co, lo_, lA_, nI T.length, nI X.length, nI se, sta, dco))), ((g 0), .inl (cA 3, 2000, .inl fd)), ((g 7), .inl (cA 3, 400, .inl ex)), ((g 8), .inl (cA 1, 400, .inr (.inl ti))), ((g 10), .inl (cA 3, 4, .inl pe)), ((g 11), .inl (cA 3, 2001, .inl bk)), ((g 18), .inl (cA 3, 2000, .inl kd)), ((g 19), .inl (cA 3, 2000, .inl fr)), ((g 20), .inl (cA 3, 2000, .inl to)), ((g 21), .inl (cA 3, 2000, .inl re)), ((g 23), .inl (cA 3, 2000, .inl ow)), ((g 24), .inl (cA 3, 2000, .inl fi)), ((g 25), .inl (cA 3, 2000, .inl be))] H := hP.sub [10, 11, 0, 1, 12, 2, 3, 4, 5, 6, 7, 8, 9] rfl
      have hD : va_D A [(m0, .inr (6, mF g K (nI a118, 0, p) (nI (st.length + 1)) (nI (ps.length + 1)) (nI (d + 1), nI la, zI co, lo_, lA_, nI T.length, nI X.length, nI se, sta, dco))), ((g 0), .inl (cA 3, 2000, .inl fd)), ((g 7), .inl (cA 3, 400, .inl ex)), ((g 8), .inl (cA 1, 400, .inr (.inl ti))), ((g 10), .inl (cA 3, 4, .inl pe)), ((g 11), .inl (cA 3, 2001, .inl bk)), ((g 18), .inl (cA 3, 2000, .inl kd)), ((g 19), .inl (cA 3, 2000, .inl fr)), ((g 20), .inl (cA 3, 2000, .inl to)), ((g 21), .inl (cA 3, 2000, .inl re)), ((g 23), .inl (cA 3, 2000, .inl ow)), ((g 24), .inl (cA 3, 2000, .inl fi)), ((g 25), .inl (cA 3, 2000, .inl be))] := hD.sub [10, 11, 0, 1, 12, 2, 3, 4, 5, 6, 7, 8, 9] (by decide) rfl
      refine W.cs (cells' := 0) (slots' := 0) rfl rfl ?_
      refine W.eq (g2 := F0 m 135 ls [.long w118]) rfl ?_
      refine lv_pop2_2 hx hb d_Md_takeRare_135 rfl ?_
      refine lv_goto (tgt := 182) hx hb d_Md_takeRare_136 (by decide) ?_
      exact cRv ((((nI a118, 0, p), nI (st.length + 1), nI (ps.length + 1), (nI (d + 1), nI la, zI co, lo_, lA_, nI T.length, nI X.length, nI se, sta, dco)), (ex, ti, pe, bk, kd, fr, to, re, ow, fi, be)) : NU) hx hb hr hlocks d_Md_takeRare_182 hS hP hD (⟨rfl, nP_E (((show mRare b lm st ps la co lc T X se sta dco d E bg 66 a = mb (pS64 b lm a) (fun _ a2 => .inr (a2, .inl 21 :: st, lm :: ps, some (d, E), la, co, lc, T, X, se, sta, dco)) from rfl)).trans (mb_E hr118)) ⟨⟨rfl, rfl, rfl, rfl⟩, (fun z hz => by cases hz; exact ⟨rfl, hBL⟩), hlc, hst, hpe, hTH, hXH⟩⟩) (Nat.le_refl _) (Nat.le_refl _)
  by_cases k_67 : op = 67
  · subst k_67
    refine W.eq (g2 := F0 m 1 ls [.int 67]) rfl ?_
    refine lv_lookup (off := 138) (tgt := 139) hx hb d_Md_takeRare_1 (by decide) (by decide) (by decide) ?_
    refine lv_aload_n hx hb d_Md_takeRare_139 rfl (lv_at hl 0 rfl) ?_
    refine lv_ldc2 hx hb hown (hts _ (List.mem_cons_of_mem _ iw4_87)) d_Md_takeRare_140 ?_
    refine cV (As := [.long 4]) (rest := []) (n := 1) (wc := [(m0, .inr (6, mF g K (nI a, 0, p) (nI (st.length + 1)) (nI (ps.length + 1)) (nI (d + 1), nI la, zI co, lo_, lA_, nI T.length, nI X.length, nI se, sta, dco))), ((g 0), .inl (cA 3, 2000, .inl fd)), ((g 10), .inl (cA 3, 4, .inl pe))]) (wr := [((g 7), .inl (cA 3, 400, .inl ex)), ((g 8), .inl (cA 1, 400, .inr (.inl ti))), ((g 11), .inl (cA 3, 2001, .inl bk)), ((g 18), .inl (cA 3, 2000, .inl kd)), ((g 19), .inl (cA 3, 2000, .inl fr)), ((g 20), .inl (cA 3, 2000, .inl to)), ((g 21), .inl (cA 3, 2000, .inl re)), ((g 23), .inl (cA 3, 2000, .inl ow)), ((g 24), .inl (cA 3, 2000, .inl fi)), ((g 25), .inl (cA 3, 2000, .inl be))]) ⟨hx, hb, hml, hown, hts⟩ hno hlocks hl.1 (c_Md_skip l hl9 D cA ad s.heap.size m0 g K (nI (st.length + 1)) (ps.length + 1) (nI (d + 1), nI la, zI co, lo_, lA_, nI T.length, nI X.length, nI se, sta, dco) fd pe b N lm ⟨by omega, by omega⟩ (show pe (ps.length + 1 - 1) = nI lm from hpe.1) hlm hN hfd hb9 a p (by omega) 4 (by decide)) iw3_236 iw3_238 sel_Md_skip iw1_7 iw3_239 (by decide +kernel) rfl ⟨Nat.le_of_ble_eq_true rfl, Nat.le_of_ble_eq_true rfl⟩ ⟨Nat.le_of_ble_eq_true rfl, Nat.le_of_ble_eq_true rfl⟩ rfl (Nat.le_of_ble_eq_true rfl) d_Md_takeRare_143 hE hP hD hS hA [0, 1, 4] [2, 3, 5, 6, 7, 8, 9, 10, 11, 12] rfl rfl rfl rfl (by decide) (ci := 6) rfl rfl 0 rfl (fun _ h => h.elim) (fun v_143 u_143 H locs hp_143 hP hD hS => ?_)
    rcases hp_143 with ⟨f119, q119, hr119, hf119, hB119, rfl, zz119, hzz119, hzx119⟩ | ⟨v119, a119, hr119, rfl, rfl⟩
    · obtain ⟨x119, y119, z119⟩ := u_143
      cases hB119
      have hzx119 : x119 = nI zz119 := hzx119
      subst hzx119
      have hP : va_P D cls [(m0, .inr (6, mF g K (nI zz119, nI f119, nI q119) (nI (st.length + 1)) (nI (ps.length + 1)) (nI (d + 1), nI la, zI co, lo_, lA_, nI T.length, nI X.length, nI se, sta, dco))), ((g 0), .inl (cA 3, 2000, .inl fd)), ((g 7), .inl (cA 3, 400, .inl ex)), ((g 8), .inl (cA 1, 400, .inr (.inl ti))), ((g 10), .inl (cA 3, 4, .inl pe)), ((g 11), .inl (cA 3, 2001, .inl bk)), ((g 18), .inl (cA 3, 2000, .inl kd)), ((g 19), .inl (cA 3, 2000, .inl fr)), ((g 20), .inl (cA 3, 2000, .inl to)), ((g 21), .inl (cA 3, 2000, .inl re)), ((g 23), .inl (cA 3, 2000, .inl ow)), ((g 24), .inl (cA 3, 2000, .inl fi)), ((g 25), .inl (cA 3, 2000, .inl be))] H := hP.sub [10, 11, 0, 1, 12, 2, 3, 4, 5, 6, 7, 8, 9] rfl
      have hD : va_D A [(m0, .inr (6, mF g K (nI zz119, nI f119, nI q119) (nI (st.length + 1)) (nI (ps.length + 1)) (nI (d + 1), nI la, zI co, lo_, lA_, nI T.length, nI X.length, nI se, sta, dco))), ((g 0), .inl (cA 3, 2000, .inl fd)), ((g 7), .inl (cA 3, 400, .inl ex)), ((g 8), .inl (cA 1, 400, .inr (.inl ti))), ((g 10), .inl (cA 3, 4, .inl pe)), ((g 11), .inl (cA 3, 2001, .inl bk)), ((g 18), .inl (cA 3, 2000, .inl kd)), ((g 19), .inl (cA 3, 2000, .inl fr)), ((g 20), .inl (cA 3, 2000, .inl to)), ((g 21), .inl (cA 3, 2000, .inl re)), ((g 23), .inl (cA 3, 2000, .inl ow)), ((g 24), .inl (cA 3, 2000, .inl fi)), ((g 25), .inl (cA 3, 2000, .inl be))] := hD.sub [10, 11, 0, 1, 12, 2, 3, 4, 5, 6, 7, 8, 9] (by decide) rfl
      refine W.cs (cells' := 0) (slots' := 0) rfl rfl ?_
      refine W.eq (g2 := F0 m 146 ls []) rfl ?_
      refine lv_goto (tgt := 182) hx hb d_Md_takeRare_146 (by decide) ?_
      exact cRv ((((nI zz119, nI f119, nI q119), nI (st.length + 1), nI (ps.length + 1), (nI (d + 1), nI la, zI co, lo_, lA_, nI T.length, nI X.length, nI se, sta, dco)), (ex, ti, pe, bk, kd, fr, to, re, ow, fi, be)) : NU) hx hb hr hlocks d_Md_takeRare_182 hS hP hD (⟨rfl, nP_T (((show mRare b lm st ps la co lc T X se sta dco d E bg 67 a = mb (pSkip lm 4 a) (fun _ a2 => .inr (a2, .inl 21 :: st, lm :: ps, some (d, E), la, co, lc, T, X, se, sta, dco)) from rfl)).trans (mb_T hr119)) ⟨hf119, rfl, T.length, by (try simp only [List.length_cons]); omega, rfl⟩⟩) (Nat.le_refl _) (Nat.le_refl _)
    · obtain ⟨hla119, hgt119, hs119⟩ := (pSkip_ok2 (show a ≤ lm by omega) hr119)
      have hP : va_P D cls [(m0, .inr (6, mF g K (nI a119, 0, p) (nI (st.length + 1)) (nI (ps.length + 1)) (nI (d + 1), nI la, zI co, lo_, lA_, nI T.length, nI X.length, nI se, sta, dco))), ((g 0), .inl (cA 3, 2000, .inl fd)), ((g 7), .inl (cA 3, 400, .inl ex)), ((g 8), .inl (cA 1, 400, .inr (.inl ti))), ((g 10), .inl (cA 3, 4, .inl pe)), ((g 11), .inl (cA 3, 2001, .inl bk)), ((g 18), .inl (cA 3, 2000, .inl kd)), ((g 19), .inl (cA 3, 2000, .inl fr)), ((g 20), .inl (cA 3, 2000, .inl to)), ((g 21), .inl (cA 3, 2000, .inl re)), ((g 23), .inl (cA 3, 2000, .inl ow)), ((g 24), .inl (cA 3, 2000, .inl fi)), ((g 25), .inl (cA 3, 2000, .inl be))] H := hP.sub [10, 11, 0, 1, 12, 2, 3, 4, 5, 6, 7, 8, 9] rfl
      have hD : va_D A [(m0, .inr (6, mF g K (nI a119, 0, p) (nI (st.length + 1)) (nI (ps.length + 1)) (nI (d + 1), nI la, zI co, lo_, lA_, nI T.length, nI X.length, nI se, sta, dco))), ((g 0), .inl (cA 3, 2000, .inl fd)), ((g 7), .inl (cA 3, 400, .inl ex)), ((g 8), .inl (cA 1, 400, .inr (.inl ti))), ((g 10), .inl (cA 3, 4, .inl pe)), ((g 11), .inl (cA 3, 2001, .inl bk)), ((g 18), .inl (cA 3, 2000, .inl kd)), ((g 19), .inl (cA 3, 2000, .inl fr)), ((g 20), .inl (cA 3, 2000, .inl to)), ((g 21), .inl (cA 3, 2000, .inl re)), ((g 23), .inl (cA 3, 2000, .inl ow)), ((g 24), .inl (cA 3, 2000, .inl fi)), ((g 25), .inl (cA 3, 2000, .inl be))] := hD.sub [10, 11, 0, 1, 12, 2, 3, 4, 5, 6, 7, 8, 9] (by decide) rfl
      refine W.cs (cells' := 0) (slots' := 0) rfl rfl ?_
      refine W.eq (g2 := F0 m 146 ls []) rfl ?_
      refine lv_goto (tgt := 182) hx hb d_Md_takeRare_146 (by decide) ?_
      exact cRv ((((nI a119, 0, p), nI (st.length + 1), nI (ps.length + 1), (nI (d + 1), nI la, zI co, lo_, lA_, nI T.length, nI X.length, nI se, sta, dco)), (ex, ti, pe, bk, kd, fr, to, re, ow, fi, be)) : NU) hx hb hr hlocks d_Md_takeRare_182 hS hP hD (⟨rfl, nP_E (((show mRare b lm st ps la co lc T X se sta dco d E bg 67 a = mb (pSkip lm 4 a) (fun _ a2 => .inr (a2, .inl 21 :: st, lm :: ps, some (d, E), la, co, lc, T, X, se, sta, dco)) from rfl)).trans (mb_E hr119)) ⟨⟨rfl, rfl, rfl, rfl⟩, (fun z hz => by cases hz; exact ⟨rfl, hBL⟩), hlc, hst, hpe, hTH, hXH⟩⟩) (Nat.le_refl _) (Nat.le_refl _)
  by_cases k_68 : op = 68
  · subst k_68
    refine W.eq (g2 := F0 m 1 ls [.int 68]) rfl ?_
    refine lv_lookup (off := 148) (tgt := 149) hx hb d_Md_takeRare_1 (by decide) (by decide) (by decide) ?_
    refine lv_aload_n hx hb d_Md_takeRare_149 rfl (lv_at hl 0 rfl) ?_
    refine lv_ldc2 hx hb hown (hts _ (List.mem_cons_of_mem _ iw4_88)) d_Md_takeRare_150 ?_
    refine cV (As := [.long 8]) (rest := []) (n := 1) (wc := [(m0, .inr (6, mF g K (nI a, 0, p) (nI (st.length + 1)) (nI (ps.length + 1)) (nI (d + 1), nI la, zI co, lo_, lA_, nI T.length, nI X.length, nI se, sta, dco))), ((g 0), .inl (cA 3, 2000, .inl fd)), ((g 10), .inl (cA 3, 4, .inl pe))]) (wr := [((g 7), .inl (cA 3, 400, .inl ex)), ((g 8), .inl (cA 1, 400, .inr (.inl ti))), ((g 11), .inl (cA 3, 2001, .inl bk)), ((g 18), .inl (cA 3, 2000, .inl kd)), ((g 19), .inl (cA 3, 2000, .inl fr)), ((g 20), .inl (cA 3, 2000, .inl to)), ((g 21), .inl (cA 3, 2000, .inl re)), ((g 23), .inl (cA 3, 2000, .inl ow)), ((g 24), .inl (cA 3, 2000, .inl fi)), ((g 25), .inl (cA 3, 2000, .inl be))]) ⟨hx, hb, hml, hown, hts⟩ hno hlocks hl.1 (c_Md_skip l hl9 D cA ad s.heap.size m0 g K (nI (st.length + 1)) (ps.length + 1) (nI (d + 1), nI la, zI co, lo_, lA_, nI T.length, nI X.length, nI se, sta, dco) fd pe b N lm ⟨by omega, by omega⟩ (show pe (ps.length + 1 - 1) = nI lm from hpe.1) hlm hN hfd hb9 a p (by omega) 8 (by decide)) iw3_236 iw3_238 sel_Md_skip iw1_7 iw3_239 (by decide +kernel) rfl ⟨Nat.le_of_ble_eq_true rfl, Nat.le_of_ble_eq_true rfl⟩ ⟨Nat.le_of_ble_eq_true rfl, Nat.le_of_ble_eq_true rfl⟩ rfl (Nat.le_of_ble_eq_true rfl) d_Md_takeRare_153 hE hP hD hS hA [0, 1, 4] [2, 3, 5, 6, 7, 8, 9, 10, 11, 12] rfl rfl rfl rfl (by decide) (ci := 6) rfl rfl 0 rfl (fun _ h => h.elim) (fun v_153 u_153 H locs hp_153 hP hD hS => ?_)
    rcases hp_153 with ⟨f120, q120, hr120, hf120, hB120, rfl, zz120, hzz120, hzx120⟩ | ⟨v120, a120, hr120, rfl, rfl⟩
    · obtain ⟨x120, y120, z120⟩ := u_153
      cases hB120
      have hzx120 : x120 = nI zz120 := hzx120
      subst hzx120
      have hP : va_P D cls [(m0, .inr (6, mF g K (nI zz120, nI f120, nI q120) (nI (st.length + 1)) (nI (ps.length + 1)) (nI (d + 1), nI la, zI co, lo_, lA_, nI T.length, nI X.length, nI se, sta, dco))), ((g 0), .inl (cA 3, 2000, .inl fd)), ((g 7), .inl (cA 3, 400, .inl ex)), ((g 8), .inl (cA 1, 400, .inr (.inl ti))), ((g 10), .inl (cA 3, 4, .inl pe)), ((g 11), .inl (cA 3, 2001, .inl bk)), ((g 18), .inl (cA 3, 2000, .inl kd)), ((g 19), .inl (cA 3, 2000, .inl fr)), ((g 20), .inl (cA 3, 2000, .inl to)), ((g 21), .inl (cA 3, 2000, .inl re)), ((g 23), .inl (cA 3, 2000, .inl ow)), ((g 24), .inl (cA 3, 2000, .inl fi)), ((g 25), .inl (cA 3, 2000, .inl be))] H := hP.sub [10, 11, 0, 1, 12, 2, 3, 4, 5, 6, 7, 8, 9] rfl
      have hD : va_D A [(m0, .inr (6, mF g K (nI zz120, nI f120, nI q120) (nI (st.length + 1)) (nI (ps.length + 1)) (nI (d + 1), nI la, zI co, lo_, lA_, nI T.length, nI X.length, nI se, sta, dco))), ((g 0), .inl (cA 3, 2000, .inl fd)), ((g 7), .inl (cA 3, 400, .inl ex)), ((g 8), .inl (cA 1, 400, .inr (.inl ti))), ((g 10), .inl (cA 3, 4, .inl pe)), ((g 11), .inl (cA 3, 2001, .inl bk)), ((g 18), .inl (cA 3, 2000, .inl kd)), ((g 19), .inl (cA 3, 2000, .inl fr)), ((g 20), .inl (cA 3, 2000, .inl to)), ((g 21), .inl (cA 3, 2000, .inl re)), ((g 23), .inl (cA 3, 2000, .inl ow)), ((g 24), .inl (cA 3, 2000, .inl fi)), ((g 25), .inl (cA 3, 2000, .inl be))] := hD.sub [10, 11, 0, 1, 12, 2, 3, 4, 5, 6, 7, 8, 9] (by decide) rfl
      refine W.cs (cells' := 0) (slots' := 0) rfl rfl ?_
      refine W.eq (g2 := F0 m 156 ls []) rfl ?_
      refine lv_goto (tgt := 182) hx hb d_Md_takeRare_156 (by decide) ?_
      exact cRv ((((nI zz120, nI f120, nI q120), nI (st.length + 1), nI (ps.length + 1), (nI (d + 1), nI la, zI co, lo_, lA_, nI T.length, nI X.length, nI se, sta, dco)), (ex, ti, pe, bk, kd, fr, to, re, ow, fi, be)) : NU) hx hb hr hlocks d_Md_takeRare_182 hS hP hD (⟨rfl, nP_T (((show mRare b lm st ps la co lc T X se sta dco d E bg 68 a = mb (pSkip lm 8 a) (fun _ a2 => .inr (a2, .inl 21 :: st, lm :: ps, some (d, E), la, co, lc, T, X, se, sta, dco)) from rfl)).trans (mb_T hr120)) ⟨hf120, rfl, T.length, by (try simp only [List.length_cons]); omega, rfl⟩⟩) (Nat.le_refl _) (Nat.le_refl _)
    · obtain ⟨hla120, hgt120, hs120⟩ := (pSkip_ok2 (show a ≤ lm by omega) hr120)
      have hP : va_P D cls [(m0, .inr (6, mF g K (nI a120, 0, p) (nI (st.length + 1)) (nI (ps.length + 1)) (nI (d + 1), nI la, zI co, lo_, lA_, nI T.length, nI X.length, nI se, sta, dco))), ((g 0), .inl (cA 3, 2000, .inl fd)), ((g 7), .inl (cA 3, 400, .inl ex)), ((g 8), .inl (cA 1, 400, .inr (.inl ti))), ((g 10), .inl (cA 3, 4, .inl pe)), ((g 11), .inl (cA 3, 2001, .inl bk)), ((g 18), .inl (cA 3, 2000, .inl kd)), ((g 19), .inl (cA 3, 2000, .inl fr)), ((g 20), .inl (cA 3, 2000, .inl to)), ((g 21), .inl (cA 3, 2000, .inl re)), ((g 23), .inl (cA 3, 2000, .inl ow)), ((g 24), .inl (cA 3, 2000, .inl fi)), ((g 25), .inl (cA 3, 2000, .inl be))] H := hP.sub [10, 11, 0, 1, 12, 2, 3, 4, 5, 6, 7, 8, 9] rfl
      have hD : va_D A [(m0, .inr (6, mF g K (nI a120, 0, p) (nI (st.length + 1)) (nI (ps.length + 1)) (nI (d + 1), nI la, zI co, lo_, lA_, nI T.length, nI X.length, nI se, sta, dco))), ((g 0), .inl (cA 3, 2000, .inl fd)), ((g 7), .inl (cA 3, 400, .inl ex)), ((g 8), .inl (cA 1, 400, .inr (.inl ti))), ((g 10), .inl (cA 3, 4, .inl pe)), ((g 11), .inl (cA 3, 2001, .inl bk)), ((g 18), .inl (cA 3, 2000, .inl kd)), ((g 19), .inl (cA 3, 2000, .inl fr)), ((g 20), .inl (cA 3, 2000, .inl to)), ((g 21), .inl (cA 3, 2000, .inl re)), ((g 23), .inl (cA 3, 2000, .inl ow)), ((g 24), .inl (cA 3, 2000, .inl fi)), ((g 25), .inl (cA 3, 2000, .inl be))] := hD.sub [10, 11, 0, 1, 12, 2, 3, 4, 5, 6, 7, 8, 9] (by decide) rfl
      refine W.cs (cells' := 0) (slots' := 0) rfl rfl ?_
      refine W.eq (g2 := F0 m 156 ls []) rfl ?_
      refine lv_goto (tgt := 182) hx hb d_Md_takeRare_156 (by decide) ?_
      exact cRv ((((nI a120, 0, p), nI (st.length + 1), nI (ps.length + 1), (nI (d + 1), nI la, zI co, lo_, lA_, nI T.length, nI X.length, nI se, sta, dco)), (ex, ti, pe, bk, kd, fr, to, re, ow, fi, be)) : NU) hx hb hr hlocks d_Md_takeRare_182 hS hP hD (⟨rfl, nP_E (((show mRare b lm st ps la co lc T X se sta dco d E bg 68 a = mb (pSkip lm 8 a) (fun _ a2 => .inr (a2, .inl 21 :: st, lm :: ps, some (d, E), la, co, lc, T, X, se, sta, dco)) from rfl)).trans (mb_E hr120)) ⟨⟨rfl, rfl, rfl, rfl⟩, (fun z hz => by cases hz; exact ⟨rfl, hBL⟩), hlc, hst, hpe, hTH, hXH⟩⟩) (Nat.le_refl _) (Nat.le_refl _)
  by_cases k_208 : op = 208
  · subst k_208
    refine W.eq (g2 := F0 m 1 ls [.int 208]) rfl ?_
    refine lv_lookup (off := 158) (tgt := 159) hx hb d_Md_takeRare_1 (by decide) (by decide) (by decide) ?_
    refine lv_aload_n hx hb d_Md_takeRare_159 rfl (lv_at hl 0 rfl) ?_
    refine lv_iconst (v := 4) hx hb d_Md_takeRare_160 (by decide) ?_
    refine cV (As := [.int 4]) (rest := []) (n := 1) (wc := [(m0, .inr (6, mF g K (nI a, 0, p) (nI (st.length + 1)) (nI (ps.length + 1)) (nI (d + 1), nI la, zI co, lo_, lA_, nI T.length, nI X.length, nI se, sta, dco))), ((g 7), .inl (cA 3, 400, .inl ex)), ((g 8), .inl (cA 1, 400, .inr (.inl ti)))]) (wr := [((g 0), .inl (cA 3, 2000, .inl fd)), ((g 10), .inl (cA 3, 4, .inl pe)), ((g 11), .inl (cA 3, 2001, .inl bk)), ((g 18), .inl (cA 3, 2000, .inl kd)), ((g 19), .inl (cA 3, 2000, .inl fr)), ((g 20), .inl (cA 3, 2000, .inl to)), ((g 21), .inl (cA 3, 2000, .inl re)), ((g 23), .inl (cA 3, 2000, .inl ow)), ((g 24), .inl (cA 3, 2000, .inl fi)), ((g 25), .inl (cA 3, 2000, .inl be))]) ⟨hx, hb, hml, hown, hts⟩ hno hlocks hl.1 (c_Md_want l hl9 D cA ad s.heap.size m0 g K (nI a, 0, p) (nI (ps.length + 1)) (nI (d + 1), nI la, zI co, lo_, lA_, nI T.length, nI X.length, nI se, sta, dco) ex ti (.inl 21 :: st) hst (by (try simp only [List.length_cons]); omega) (4 : Int32) 4 rfl) iw3_220 iw3_222 sel_Md_want iw1_7 iw3_223 (by decide +kernel) rfl ⟨Nat.le_of_ble_eq_true rfl, Nat.le_of_ble_eq_true rfl⟩ ⟨Nat.le_of_ble_eq_true rfl, Nat.le_of_ble_eq_true rfl⟩ rfl (Nat.le_of_ble_eq_true rfl) d_Md_takeRare_161 hE hP hD hS hA [0, 2, 3] [1, 4, 5, 6, 7, 8, 9, 10, 11, 12] rfl rfl rfl rfl (by decide) (ci := 6) rfl rfl 0 rfl (fun _ h => h.elim) (fun v_161 u_161 H locs hp_161 hP hD hS => ?_)
    obtain ⟨rfl, hst121⟩ := hp_161
    obtain ⟨ex121, ti121⟩ := u_161
    have hP : va_P D cls [(m0, .inr (6, mF g K (nI a, 0, p) (nI (st.length + 2)) (nI (ps.length + 1)) (nI (d + 1), nI la, zI co, lo_, lA_, nI T.length, nI X.length, nI se, sta, dco))), ((g 0), .inl (cA 3, 2000, .inl fd)), ((g 7), .inl (cA 3, 400, .inl ex121)), ((g 8), .inl (cA 1, 400, .inr (.inl ti121))), ((g 10), .inl (cA 3, 4, .inl pe)), ((g 11), .inl (cA 3, 2001, .inl bk)), ((g 18), .inl (cA 3, 2000, .inl kd)), ((g 19), .inl (cA 3, 2000, .inl fr)), ((g 20), .inl (cA 3, 2000, .inl to)), ((g 21), .inl (cA 3, 2000, .inl re)), ((g 23), .inl (cA 3, 2000, .inl ow)), ((g 24), .inl (cA 3, 2000, .inl fi)), ((g 25), .inl (cA 3, 2000, .inl be))] H := hP.sub [10, 0, 11, 12, 1, 2, 3, 4, 5, 6, 7, 8, 9] rfl
    have hD : va_D A [(m0, .inr (6, mF g K (nI a, 0, p) (nI (st.length + 2)) (nI (ps.length + 1)) (nI (d + 1), nI la, zI co, lo_, lA_, nI T.length, nI X.length, nI se, sta, dco))), ((g 0), .inl (cA 3, 2000, .inl fd)), ((g 7), .inl (cA 3, 400, .inl ex121)), ((g 8), .inl (cA 1, 400, .inr (.inl ti121))), ((g 10), .inl (cA 3, 4, .inl pe)), ((g 11), .inl (cA 3, 2001, .inl bk)), ((g 18), .inl (cA 3, 2000, .inl kd)), ((g 19), .inl (cA 3, 2000, .inl fr)), ((g 20), .inl (cA 3, 2000, .inl to)), ((g 21), .inl (cA 3, 2000, .inl re)), ((g 23), .inl (cA 3, 2000, .inl ow)), ((g 24), .inl (cA 3, 2000, .inl fi)), ((g 25), .inl (cA 3, 2000, .inl be))] := hD.sub [10, 0, 11, 12, 1, 2, 3, 4, 5, 6, 7, 8, 9] (by decide) rfl
    refine W.cs (cells' := 0) (slots' := 0) rfl rfl ?_
    refine W.eq (g2 := F0 m 164 ls []) rfl ?_
    refine lv_goto (tgt := 182) hx hb d_Md_takeRare_164 (by decide) ?_
    exact cRv ((((nI a, 0, p), nI (st.length + 2), nI (ps.length + 1), (nI (d + 1), nI la, zI co, lo_, lA_, nI T.length, nI X.length, nI se, sta, dco)), (ex121, ti121, pe, bk, kd, fr, to, re, ow, fi, be)) : NU) hx hb hr hlocks d_Md_takeRare_182 hS hP hD (⟨rfl, nP_E ((show mRare b lm st ps la co lc T X se sta dco d E bg 208 a = _ from rfl)) ⟨⟨rfl, rfl, rfl, rfl⟩, (fun z hz => by cases hz; exact ⟨rfl, hBL⟩), hlc, hst121, hpe, hTH, hXH⟩⟩) (Nat.le_refl _) (Nat.le_refl _)
  by_cases k_252 : op = 252
  · subst k_252
    refine W.eq (g2 := F0 m 1 ls [.int 252]) rfl ?_
    refine lv_lookup (off := 166) (tgt := 167) hx hb d_Md_takeRare_1 (by decide) (by decide) (by decide) ?_
    refine lv_aload_n hx hb d_Md_takeRare_167 rfl (lv_at hl 0 rfl) ?_
    refine lv_iload_n hx hb d_Md_takeRare_168 rfl (lv_at hl 2 rfl) ?_
    refine cV (As := [.int (nI bg)]) (rest := []) (n := 1) (wc := [(m0, .inr (6, mF g K (nI a, 0, p) (nI (st.length + 1)) (nI (ps.length + 1)) (nI (d + 1), nI la, zI co, lo_, lA_, nI T.length, nI X.length, nI se, sta, dco))), ((g 0), .inl (cA 3, 2000, .inl fd)), ((g 7), .inl (cA 3, 400, .inl ex)), ((g 8), .inl (cA 1, 400, .inr (.inl ti))), ((g 10), .inl (cA 3, 4, .inl pe)), ((g 11), .inl (cA 3, 2001, .inl bk)), ((g 18), .inl (cA 3, 2000, .inl kd)), ((g 19), .inl (cA 3, 2000, .inl fr)), ((g 20), .inl (cA 3, 2000, .inl to)), ((g 21), .inl (cA 3, 2000, .inl re)), ((g 23), .inl (cA 3, 2000, .inl ow)), ((g 24), .inl (cA 3, 2000, .inl fi)), ((g 25), .inl (cA 3, 2000, .inl be))]) (wr := []) ⟨hx, hb, hml, hown, hts⟩ hno hlocks hl.1 (c_Md_takeOther l hl9 D cA ad s.heap.size m0 g K fd b N lm a ps hps hlm hN hfd hb9 (by omega) p st (by (try simp only [List.length_cons]); omega) d E hd9 la co lo_ lA_ lc T hT9 X hX9 se sta dco ex ti pe bk kd fr to re ow fi be hBL hlc hst hpe hTH hXH bg) iw4_89 iw4_91 sel_Md_takeOther iw1_7 iw4_92 (by decide +kernel) rfl ⟨Nat.le_of_ble_eq_true rfl, Nat.le_of_ble_eq_true rfl⟩ ⟨Nat.le_of_ble_eq_true rfl, Nat.le_of_ble_eq_true rfl⟩ rfl (Nat.le_of_ble_eq_true rfl) d_Md_takeRare_169 hE hP hD hS hA [0, 1, 2, 3, 4, 5, 6, 7, 8, 9, 10, 11, 12] [] rfl rfl rfl rfl (by decide) (ci := 6) rfl rfl 0 rfl (fun _ h => h.elim) (fun v_169 u_169 H locs hp_169 hP hD hS => ?_)
    obtain ⟨rfl, hnp122⟩ := hp_169
    obtain ⟨⟨A122, e122, n122, B122⟩, ex122, ti122, pe122, bk122, kd122, fr122, to122, re122, ow122, fi122, be122⟩ := u_169
    have hP : va_P D cls [(m0, .inr (6, mF g K A122 e122 n122 B122)), ((g 0), .inl (cA 3, 2000, .inl fd)), ((g 7), .inl (cA 3, 400, .inl ex122)), ((g 8), .inl (cA 1, 400, .inr (.inl ti122))), ((g 10), .inl (cA 3, 4, .inl pe122)), ((g 11), .inl (cA 3, 2001, .inl bk122)), ((g 18), .inl (cA 3, 2000, .inl kd122)), ((g 19), .inl (cA 3, 2000, .inl fr122)), ((g 20), .inl (cA 3, 2000, .inl to122)), ((g 21), .inl (cA 3, 2000, .inl re122)), ((g 23), .inl (cA 3, 2000, .inl ow122)), ((g 24), .inl (cA 3, 2000, .inl fi122)), ((g 25), .inl (cA 3, 2000, .inl be122))] H := hP
    have hD : va_D A [(m0, .inr (6, mF g K A122 e122 n122 B122)), ((g 0), .inl (cA 3, 2000, .inl fd)), ((g 7), .inl (cA 3, 400, .inl ex122)), ((g 8), .inl (cA 1, 400, .inr (.inl ti122))), ((g 10), .inl (cA 3, 4, .inl pe122)), ((g 11), .inl (cA 3, 2001, .inl bk122)), ((g 18), .inl (cA 3, 2000, .inl kd122)), ((g 19), .inl (cA 3, 2000, .inl fr122)), ((g 20), .inl (cA 3, 2000, .inl to122)), ((g 21), .inl (cA 3, 2000, .inl re122)), ((g 23), .inl (cA 3, 2000, .inl ow122)), ((g 24), .inl (cA 3, 2000, .inl fi122)), ((g 25), .inl (cA 3, 2000, .inl be122))] := hD
    refine W.cs (cells' := 0) (slots' := 0) rfl rfl ?_
    refine W.eq (g2 := F0 m 172 ls []) rfl ?_
    refine lv_goto (tgt := 182) hx hb d_Md_takeRare_172 (by decide) ?_
    exact cRv ((((A122.1, A122.2.1, A122.2.2), e122, n122, (B122.1, B122.2.1, B122.2.2.1, B122.2.2.2.1, B122.2.2.2.2.1, B122.2.2.2.2.2.1, B122.2.2.2.2.2.2.1, B122.2.2.2.2.2.2.2.1, B122.2.2.2.2.2.2.2.2.1, B122.2.2.2.2.2.2.2.2.2)), (ex122, ti122, pe122, bk122, kd122, fr122, to122, re122, ow122, fi122, be122)) : NU) hx hb hr hlocks d_Md_takeRare_182 hS hP hD (⟨rfl, hnp122⟩) (Nat.le_refl _) (Nat.le_refl _)
  refine lv_lookup (off := 174) (tgt := 175) hx hb d_Md_takeRare_1 (by decide) (by rw [lv_osw (k := 14) (fun q => k_14 (nI_lit_eq (by omega) (by omega) q)) (by decide), lv_osw (k := 28) (fun q => k_28 (nI_lit_eq (by omega) (by omega) q)) (by decide), lv_osw (k := 63) (fun q => k_63 (nI_lit_eq (by omega) (by omega) q)) (by decide), lv_osw (k := 64) (fun q => k_64 (nI_lit_eq (by omega) (by omega) q)) (by decide), lv_osw (k := 65) (fun q => k_65 (nI_lit_eq (by omega) (by omega) q)) (by decide), lv_osw (k := 66) (fun q => k_66 (nI_lit_eq (by omega) (by omega) q)) (by decide), lv_osw (k := 67) (fun q => k_67 (nI_lit_eq (by omega) (by omega) q)) (by decide), lv_osw (k := 68) (fun q => k_68 (nI_lit_eq (by omega) (by omega) q)) (by decide), lv_osw (k := 208) (fun q => k_208 (nI_lit_eq (by omega) (by omega) q)) (by decide), lv_osw (k := 252) (fun q => k_252 (nI_lit_eq (by omega) (by omega) q)) (by decide)]; rfl) (by decide) ?_
  refine lv_aload_n hx hb d_Md_takeRare_175 rfl (lv_at hl 0 rfl) ?_
  refine lv_bipush (v := 10) hx hb d_Md_takeRare_176 (by decide) ?_
  refine lv_iload_n hx hb d_Md_takeRare_178 rfl (lv_at hl 2 rfl) ?_
  refine cV (As := [.int 10, .int (nI bg)]) (rest := []) (n := 2) (wc := [(m0, .inr (6, mF g K (nI a, 0, p) (nI (st.length + 1)) (nI (ps.length + 1)) (nI (d + 1), nI la, zI co, lo_, lA_, nI T.length, nI X.length, nI se, sta, dco)))]) (wr := [((g 0), .inl (cA 3, 2000, .inl fd)), ((g 7), .inl (cA 3, 400, .inl ex)), ((g 8), .inl (cA 1, 400, .inr (.inl ti))), ((g 10), .inl (cA 3, 4, .inl pe)), ((g 11), .inl (cA 3, 2001, .inl bk)), ((g 18), .inl (cA 3, 2000, .inl kd)), ((g 19), .inl (cA 3, 2000, .inl fr)), ((g 20), .inl (cA 3, 2000, .inl to)), ((g 21), .inl (cA 3, 2000, .inl re)), ((g 23), .inl (cA 3, 2000, .inl ow)), ((g 24), .inl (cA 3, 2000, .inl fi)), ((g 25), .inl (cA 3, 2000, .inl be))]) ⟨hx, hb, hml, hown, hts⟩ hno hlocks hl.1 (c_Md_stop l hl9 D cA ad s.heap.size m0 g K (nI (st.length + 1)) (nI (ps.length + 1)) (nI (d + 1), nI la, zI co, lo_, lA_, nI T.length, nI X.length, nI se, sta, dco) (nI a) p (10 : Int32) (nI bg)) iw3_216 iw3_218 sel_Md_stop iw1_7 iw3_219 (by decide +kernel) rfl ⟨Nat.le_of_ble_eq_true rfl, Nat.le_of_ble_eq_true rfl⟩ ⟨Nat.le_of_ble_eq_true rfl, Nat.le_of_ble_eq_true rfl⟩ rfl (Nat.le_of_ble_eq_true rfl) d_Md_takeRare_179 hE hP hD hS hA [0] [1, 2, 3, 4, 5, 6, 7, 8, 9, 10, 11, 12] rfl rfl rfl rfl (by decide) (ci := 6) rfl rfl 0 rfl (fun _ h => h.elim) (fun v_179 u_179 H locs hp_179 hP hD hS => ?_)
  obtain rfl := hp_179
  have hP : va_P D cls [(m0, .inr (6, mF g K (nI a, 10, nI bg) (nI (st.length + 1)) (nI (ps.length + 1)) (nI (d + 1), nI la, zI co, lo_, lA_, nI T.length, nI X.length, nI se, sta, dco))), ((g 0), .inl (cA 3, 2000, .inl fd)), ((g 7), .inl (cA 3, 400, .inl ex)), ((g 8), .inl (cA 1, 400, .inr (.inl ti))), ((g 10), .inl (cA 3, 4, .inl pe)), ((g 11), .inl (cA 3, 2001, .inl bk)), ((g 18), .inl (cA 3, 2000, .inl kd)), ((g 19), .inl (cA 3, 2000, .inl fr)), ((g 20), .inl (cA 3, 2000, .inl to)), ((g 21), .inl (cA 3, 2000, .inl re)), ((g 23), .inl (cA 3, 2000, .inl ow)), ((g 24), .inl (cA 3, 2000, .inl fi)), ((g 25), .inl (cA 3, 2000, .inl be))] H := hP.sub [12, 0, 1, 2, 3, 4, 5, 6, 7, 8, 9, 10, 11] rfl
  have hD : va_D A [(m0, .inr (6, mF g K (nI a, 10, nI bg) (nI (st.length + 1)) (nI (ps.length + 1)) (nI (d + 1), nI la, zI co, lo_, lA_, nI T.length, nI X.length, nI se, sta, dco))), ((g 0), .inl (cA 3, 2000, .inl fd)), ((g 7), .inl (cA 3, 400, .inl ex)), ((g 8), .inl (cA 1, 400, .inr (.inl ti))), ((g 10), .inl (cA 3, 4, .inl pe)), ((g 11), .inl (cA 3, 2001, .inl bk)), ((g 18), .inl (cA 3, 2000, .inl kd)), ((g 19), .inl (cA 3, 2000, .inl fr)), ((g 20), .inl (cA 3, 2000, .inl to)), ((g 21), .inl (cA 3, 2000, .inl re)), ((g 23), .inl (cA 3, 2000, .inl ow)), ((g 24), .inl (cA 3, 2000, .inl fi)), ((g 25), .inl (cA 3, 2000, .inl be))] := hD.sub [12, 0, 1, 2, 3, 4, 5, 6, 7, 8, 9, 10, 11] (by decide) rfl
  refine W.cs (cells' := 0) (slots' := 0) rfl rfl ?_
  refine W.eq (g2 := F0 m 182 ls []) rfl ?_
  exact cRv ((((nI a, 10, nI bg), nI (st.length + 1), nI (ps.length + 1), (nI (d + 1), nI la, zI co, lo_, lA_, nI T.length, nI X.length, nI se, sta, dco)), (ex, ti, pe, bk, kd, fr, to, re, ow, fi, be)) : NU) hx hb hr hlocks d_Md_takeRare_182 hS hP hD (⟨rfl, nP_T ((show mRare b lm st ps la co lc T X se sta dco d E bg op a = .inl (10, bg) by rw [mRare, if_neg k_252, show shOf op = 0 from by unfold shOf; repeat rw [if_neg (by omega)]]; rfl)) ⟨⟨by decide, by decide⟩, rfl, T.length, by (try simp only [List.length_cons]); omega, rfl⟩⟩) (Nat.le_refl _) (Nat.le_refl _)
