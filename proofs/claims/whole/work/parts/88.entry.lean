/-! WHAT NEVER CHANGES, AT THE LAW'S ENTRY -/
theorem wt_1 {w : Cond} (k : Nat) (h : tables_1_1[k]? = some w) : w ∈ lw_tbl := List.mem_append_right _ (List.mem_append_left _ (List.mem_of_getElem? h))
theorem wt_2 {w : Cond} (k : Nat) (h : tables_1_2[k]? = some w) : w ∈ lw_tbl := List.mem_append_right _ (List.mem_append_right _ (List.mem_append_left _ (List.mem_of_getElem? h)))
theorem wt_3 {w : Cond} (k : Nat) (h : tables_1_3[k]? = some w) : w ∈ lw_tbl := List.mem_append_right _ (List.mem_append_right _ (List.mem_append_right _ (List.mem_append_left _ (List.mem_of_getElem? h))))
theorem wt_4 {w : Cond} (k : Nat) (h : tables_1_4[k]? = some w) : w ∈ lw_tbl := List.mem_append_right _ (List.mem_append_right _ (List.mem_append_right _ (List.mem_append_right _ (List.mem_of_getElem? h))))
theorem ac_of {s : State} {args : Array Value} {ty : FieldType} (hn : ∀ C, ty ≠ .object C) (h : (Cond.arrayClass ty).before args s = true) : ∃ c, ArrOfT s c ty ∧ va_RA s c ty := by
  obtain ⟨c, k, comp, h1, h2, h3⟩ := Cond.arrayClass_spec h
  refine ⟨c, fun N z => ⟨(fun k h => by cases h), k, h2, comp, h3⟩, ?_⟩
  cases ty with
  | object C => exact absurd rfl (hn C)
  | _ => exact h1
theorem ao_of {s : State} {args : Array Value} {C : String} (h : (Cond.arrayOver (.object C)).before args s = true) : ∃ c, ArrOfT s c (.object C) ∧ va_RA s c (.object C) := by
  obtain ⟨comp, c, k, h1, h2, h3, h4, h5⟩ := Cond.arrayOver_spec h
  exact ⟨c, fun N z => ⟨(fun k h => by cases h), k, h3, comp, h4⟩, k, comp, h3, h4, h1, h5⟩
set_option maxHeartbeats 4000000 in
set_option maxRecDepth 100000 in
theorem law_EF {s : State} {b : Nat} (hts : ∀ w ∈ lw_tbl, w.before #[Value.ref b] s = true) (hgv : (Jvm.Cond.and given_1 narrow_1).before #[Value.ref b] s = true) : ∃ (D : va_G) (cA : Nat → ClassId) (ad : Nat → Nat), EF D cA ad (fun q => s.heap.size ≤ q) s s.heap := by
  have hs := flat_of_before _ hgv
  have hA : ∀ a : Nat, a < s.heap.size → ¬ (s.heap.size ≤ a) := fun a h1 h2 => absurd h1 (Nat.not_lt.mpr h2)
  obtain ⟨c0, d0, k0⟩ := u_known (n := 3) (C := R_Tb) (T := F_Tb) (N := 3) hts (fun w h => wa_in _ (i_Tb w h)) (hts _ (wa_in _ iw1_31))
  obtain ⟨c1, d1, k1⟩ := u_known (n := 6) (C := R_Ct) (T := F_Ct) (N := 6) hts (fun w h => wa_in _ (i_Ct w h)) (hts _ (wa_in _ iw1_24))
  obtain ⟨c2, d2, k2⟩ := u_known (n := 5) (C := R_Sr) (T := F_Sr) (N := 5) hts (fun w h => wa_in _ (i_Sr w h)) (hts _ (wa_in _ iw1_91))
  obtain ⟨c3, d3, k3⟩ := u_known (n := 4) (C := R_Xr) (T := F_Xr) (N := 4) hts (fun w h => wa_in _ (i_Xr w h)) (hts _ (wa_in _ iw1_118))
  obtain ⟨c4, d4, k4⟩ := u_known (n := 4) (C := R_Mr) (T := F_Mr) (N := 4) hts (fun w h => wa_in _ (i_Mr w h)) (hts _ (wa_in _ iw1_85))
  obtain ⟨c5, d5, k5⟩ := u_known (n := 5) (C := R_Mb) (T := F_Mb) (N := 5) hts (fun w h => wa_in _ (i_Mb w h)) (hts _ (wa_in _ iw1_16))
  obtain ⟨c6, d6, k6⟩ := u_known (n := 44) (C := R_Md) (T := F_Md) (N := 44) hts (fun w h => wa_in _ (i_Md w h)) (hts _ (wa_in _ iw3_49))
  obtain ⟨t0, u0⟩ := ac_of (ty := .byte) (fun C h => by cases h) (hts _ (wa_in _ iw1_52))
  obtain ⟨t1, u1⟩ := ac_of (ty := .long) (fun C h => by cases h) (hts _ (wa_in _ iw1_53))
  obtain ⟨t2, u2⟩ := ac_of (ty := .boolean) (fun C h => by cases h) (hts _ (wa_in _ iw1_137))
  obtain ⟨t3, u3⟩ := ac_of (ty := .int) (fun C h => by cases h) (hts _ (wa_in _ iw3_187))
  obtain ⟨t4, u4⟩ := ao_of (C := "ModuleBytes$Table") (hts _ (wt_1 30 rfl))
  obtain ⟨a0, -, -, -, s0, -⟩ := Cond.exactly_spec (hs (Cond.exactly (Term.string "ModuleBytes$Source" 41) "java/lang/String") (by decide +kernel))
  obtain ⟨a1, -, -, -, s1, -⟩ := Cond.exactly_spec (hs (Cond.exactly (Term.string "ModuleBytes$Source" 36) "java/lang/String") (by decide +kernel))
  have el2 : ∀ j : Nat, j < 11 → (Term.elem (Term.static "ModuleBytes" "SEEN_COLUMNS" "[I") (.int (Int32.ofNat j))).eval #[Value.ref b] s none [] s = some (fT c_seen j) := by
    intro j hj
    rcases (show j = 0 ∨ j = 1 ∨ j = 2 ∨ j = 3 ∨ j = 4 ∨ j = 5 ∨ j = 6 ∨ j = 7 ∨ j = 8 ∨ j = 9 ∨ j = 10 by omega) with rfl | rfl | rfl | rfl | rfl | rfl | rfl | rfl | rfl | rfl | rfl
    · exact va_eqt (hs (Cond.eq (Term.elem (Term.static "ModuleBytes" "SEEN_COLUMNS" "[I") (.int 0)) (.int 0)) (by decide +kernel))
    · exact va_eqt (hs (Cond.eq (Term.elem (Term.static "ModuleBytes" "SEEN_COLUMNS" "[I") (.int 1)) (.int 4)) (by decide +kernel))
    · exact va_eqt (hs (Cond.eq (Term.elem (Term.static "ModuleBytes" "SEEN_COLUMNS" "[I") (.int 2)) (.int 1)) (by decide +kernel))
    · exact va_eqt (hs (Cond.eq (Term.elem (Term.static "ModuleBytes" "SEEN_COLUMNS" "[I") (.int 3)) (.int 4)) (by decide +kernel))
    · exact va_eqt (hs (Cond.eq (Term.elem (Term.static "ModuleBytes" "SEEN_COLUMNS" "[I") (.int 4)) (.int 4)) (by decide +kernel))
    · exact va_eqt (hs (Cond.eq (Term.elem (Term.static "ModuleBytes" "SEEN_COLUMNS" "[I") (.int 5)) (.int 6)) (by decide +kernel))
    · exact va_eqt (hs (Cond.eq (Term.elem (Term.static "ModuleBytes" "SEEN_COLUMNS" "[I") (.int 6)) (.int 2)) (by decide +kernel))
    · exact va_eqt (hs (Cond.eq (Term.elem (Term.static "ModuleBytes" "SEEN_COLUMNS" "[I") (.int 7)) (.int 7)) (by decide +kernel))
    · exact va_eqt (hs (Cond.eq (Term.elem (Term.static "ModuleBytes" "SEEN_COLUMNS" "[I") (.int 8)) (.int 6)) (by decide +kernel))
    · exact va_eqt (hs (Cond.eq (Term.elem (Term.static "ModuleBytes" "SEEN_COLUMNS" "[I") (.int 9)) (.int 7)) (by decide +kernel))
    · exact va_eqt (hs (Cond.eq (Term.elem (Term.static "ModuleBytes" "SEEN_COLUMNS" "[I") (.int 10)) (.int 7)) (by decide +kernel))
  obtain ⟨a2, e2, z2⟩ := va_Tof (ty := .int) (N := 11) (f := fT c_seen) (A := fun q => s.heap.size ≤ q) (by decide) (hs (Cond.arrayOf (Term.static "ModuleBytes" "SEEN_COLUMNS" "[I") .int) (by decide +kernel)) (va_eqt (hs (Cond.eq (Term.length (Term.static "ModuleBytes" "SEEN_COLUMNS" "[I")) (.int 11)) (by decide +kernel))) el2 hA
  have el3 : ∀ j : Nat, j < 11 → (Term.elem (Term.static "ModuleBytes" "OWN_COLUMNS" "[I") (.int (Int32.ofNat j))).eval #[Value.ref b] s none [] s = some (fT c_own j) := by
    intro j hj
    rcases (show j = 0 ∨ j = 1 ∨ j = 2 ∨ j = 3 ∨ j = 4 ∨ j = 5 ∨ j = 6 ∨ j = 7 ∨ j = 8 ∨ j = 9 ∨ j = 10 by omega) with rfl | rfl | rfl | rfl | rfl | rfl | rfl | rfl | rfl | rfl | rfl
    · exact va_eqt (hs (Cond.eq (Term.elem (Term.static "ModuleBytes" "OWN_COLUMNS" "[I") (.int 0)) (.int 4)) (by decide +kernel))
    · exact va_eqt (hs (Cond.eq (Term.elem (Term.static "ModuleBytes" "OWN_COLUMNS" "[I") (.int 1)) (.int 4)) (by decide +kernel))
    · exact va_eqt (hs (Cond.eq (Term.elem (Term.static "ModuleBytes" "OWN_COLUMNS" "[I") (.int 2)) (.int 0)) (by decide +kernel))
    · exact va_eqt (hs (Cond.eq (Term.elem (Term.static "ModuleBytes" "OWN_COLUMNS" "[I") (.int 3)) (.int 0)) (by decide +kernel))
    · exact va_eqt (hs (Cond.eq (Term.elem (Term.static "ModuleBytes" "OWN_COLUMNS" "[I") (.int 4)) (.int 0)) (by decide +kernel))
    · exact va_eqt (hs (Cond.eq (Term.elem (Term.static "ModuleBytes" "OWN_COLUMNS" "[I") (.int 5)) (.int 0)) (by decide +kernel))
    · exact va_eqt (hs (Cond.eq (Term.elem (Term.static "ModuleBytes" "OWN_COLUMNS" "[I") (.int 6)) (.int 2)) (by decide +kernel))
    · exact va_eqt (hs (Cond.eq (Term.elem (Term.static "ModuleBytes" "OWN_COLUMNS" "[I") (.int 7)) (.int 2)) (by decide +kernel))
    · exact va_eqt (hs (Cond.eq (Term.elem (Term.static "ModuleBytes" "OWN_COLUMNS" "[I") (.int 8)) (.int 2)) (by decide +kernel))
    · exact va_eqt (hs (Cond.eq (Term.elem (Term.static "ModuleBytes" "OWN_COLUMNS" "[I") (.int 9)) (.int 0)) (by decide +kernel))
    · exact va_eqt (hs (Cond.eq (Term.elem (Term.static "ModuleBytes" "OWN_COLUMNS" "[I") (.int 10)) (.int 2)) (by decide +kernel))
  obtain ⟨a3, e3, z3⟩ := va_Tof (ty := .int) (N := 11) (f := fT c_own) (A := fun q => s.heap.size ≤ q) (by decide) (hs (Cond.arrayOf (Term.static "ModuleBytes" "OWN_COLUMNS" "[I") .int) (by decide +kernel)) (va_eqt (hs (Cond.eq (Term.length (Term.static "ModuleBytes" "OWN_COLUMNS" "[I")) (.int 11)) (by decide +kernel))) el3 hA
  have el4 : ∀ j : Nat, j < 8 → (Term.elem (Term.static "ModuleBytes$ModuleReader" "BEGINNING" "[I") (.int (Int32.ofNat j))).eval #[Value.ref b] s none [] s = some (fT c_beg j) := by
    intro j hj
    rcases (show j = 0 ∨ j = 1 ∨ j = 2 ∨ j = 3 ∨ j = 4 ∨ j = 5 ∨ j = 6 ∨ j = 7 by omega) with rfl | rfl | rfl | rfl | rfl | rfl | rfl | rfl
    · exact va_eqt (hs (Cond.eq (Term.elem (Term.static "ModuleBytes$ModuleReader" "BEGINNING" "[I") (.int 0)) (.int 0)) (by decide +kernel))
    · exact va_eqt (hs (Cond.eq (Term.elem (Term.static "ModuleBytes$ModuleReader" "BEGINNING" "[I") (.int 1)) (.int 97)) (by decide +kernel))
    · exact va_eqt (hs (Cond.eq (Term.elem (Term.static "ModuleBytes$ModuleReader" "BEGINNING" "[I") (.int 2)) (.int 115)) (by decide +kernel))
    · exact va_eqt (hs (Cond.eq (Term.elem (Term.static "ModuleBytes$ModuleReader" "BEGINNING" "[I") (.int 3)) (.int 109)) (by decide +kernel))
    · exact va_eqt (hs (Cond.eq (Term.elem (Term.static "ModuleBytes$ModuleReader" "BEGINNING" "[I") (.int 4)) (.int 1)) (by decide +kernel))
    · exact va_eqt (hs (Cond.eq (Term.elem (Term.static "ModuleBytes$ModuleReader" "BEGINNING" "[I") (.int 5)) (.int 0)) (by decide +kernel))
    · exact va_eqt (hs (Cond.eq (Term.elem (Term.static "ModuleBytes$ModuleReader" "BEGINNING" "[I") (.int 6)) (.int 0)) (by decide +kernel))
    · exact va_eqt (hs (Cond.eq (Term.elem (Term.static "ModuleBytes$ModuleReader" "BEGINNING" "[I") (.int 7)) (.int 0)) (by decide +kernel))
  obtain ⟨a4, e4, z4⟩ := va_Tof (ty := .int) (N := 8) (f := fT c_beg) (A := fun q => s.heap.size ≤ q) (by decide) (hs (Cond.arrayOf (Term.static "ModuleBytes$ModuleReader" "BEGINNING" "[I") .int) (by decide +kernel)) (va_eqt (hs (Cond.eq (Term.length (Term.static "ModuleBytes$ModuleReader" "BEGINNING" "[I")) (.int 8)) (by decide +kernel))) el4 hA
  have el5 : ∀ j : Nat, j < 13 → (Term.elem (Term.static "ModuleBytes$ModuleReader" "RANKS" "[I") (.int (Int32.ofNat j))).eval #[Value.ref b] s none [] s = some (fT c_rank j) := by
    intro j hj
    rcases (show j = 0 ∨ j = 1 ∨ j = 2 ∨ j = 3 ∨ j = 4 ∨ j = 5 ∨ j = 6 ∨ j = 7 ∨ j = 8 ∨ j = 9 ∨ j = 10 ∨ j = 11 ∨ j = 12 by omega) with rfl | rfl | rfl | rfl | rfl | rfl | rfl | rfl | rfl | rfl | rfl | rfl | rfl
    · exact va_eqt (hs (Cond.eq (Term.elem (Term.static "ModuleBytes$ModuleReader" "RANKS" "[I") (.int 0)) (.int 0)) (by decide +kernel))
    · exact va_eqt (hs (Cond.eq (Term.elem (Term.static "ModuleBytes$ModuleReader" "RANKS" "[I") (.int 1)) (.int 1)) (by decide +kernel))
    · exact va_eqt (hs (Cond.eq (Term.elem (Term.static "ModuleBytes$ModuleReader" "RANKS" "[I") (.int 2)) (.int 2)) (by decide +kernel))
    · exact va_eqt (hs (Cond.eq (Term.elem (Term.static "ModuleBytes$ModuleReader" "RANKS" "[I") (.int 3)) (.int 3)) (by decide +kernel))
    · exact va_eqt (hs (Cond.eq (Term.elem (Term.static "ModuleBytes$ModuleReader" "RANKS" "[I") (.int 4)) (.int 4)) (by decide +kernel))
    · exact va_eqt (hs (Cond.eq (Term.elem (Term.static "ModuleBytes$ModuleReader" "RANKS" "[I") (.int 5)) (.int 5)) (by decide +kernel))
    · exact va_eqt (hs (Cond.eq (Term.elem (Term.static "ModuleBytes$ModuleReader" "RANKS" "[I") (.int 6)) (.int 6)) (by decide +kernel))
    · exact va_eqt (hs (Cond.eq (Term.elem (Term.static "ModuleBytes$ModuleReader" "RANKS" "[I") (.int 7)) (.int 7)) (by decide +kernel))
    · exact va_eqt (hs (Cond.eq (Term.elem (Term.static "ModuleBytes$ModuleReader" "RANKS" "[I") (.int 8)) (.int 8)) (by decide +kernel))
    · exact va_eqt (hs (Cond.eq (Term.elem (Term.static "ModuleBytes$ModuleReader" "RANKS" "[I") (.int 9)) (.int 9)) (by decide +kernel))
    · exact va_eqt (hs (Cond.eq (Term.elem (Term.static "ModuleBytes$ModuleReader" "RANKS" "[I") (.int 10)) (.int 11)) (by decide +kernel))
    · exact va_eqt (hs (Cond.eq (Term.elem (Term.static "ModuleBytes$ModuleReader" "RANKS" "[I") (.int 11)) (.int 12)) (by decide +kernel))
    · exact va_eqt (hs (Cond.eq (Term.elem (Term.static "ModuleBytes$ModuleReader" "RANKS" "[I") (.int 12)) (.int 10)) (by decide +kernel))
  obtain ⟨a5, e5, z5⟩ := va_Tof (ty := .int) (N := 13) (f := fT c_rank) (A := fun q => s.heap.size ≤ q) (by decide) (hs (Cond.arrayOf (Term.static "ModuleBytes$ModuleReader" "RANKS" "[I") .int) (by decide +kernel)) (va_eqt (hs (Cond.eq (Term.length (Term.static "ModuleBytes$ModuleReader" "RANKS" "[I")) (.int 13)) (by decide +kernel))) el5 hA
  refine ⟨(fun c => ([c0, c1, c2, c3, c4, c5, c6] : List ClassId).getD c c0, fun c => ([d0, d1, d2, d3, d4, d5, d6] : List (Nat → Nat)).getD c d0), fun i => ([t0, t1, t2, t3, t4] : List ClassId).getD i t0, fun i => ([a0, a1, a2, a3, a4, a5] : List Nat).getD i 0, ⟨?_, ?_⟩, ⟨?_, ?_, ?_, ?_, ?_, ?_, ?_, ?_, ?_, ?_⟩, ?_, ?_, ?_, ?_, ?_, ?_, ?_, ?_, ?_, ?_⟩
  · intro c q hq
    rcases (show c = 0 ∨ c = 1 ∨ c = 2 ∨ c = 3 ∨ c = 4 ∨ c = 5 ∨ c = 6 by have := (List.getElem?_eq_some_iff.mp hq).1; simp at this; omega) with rfl | rfl | rfl | rfl | rfl | rfl | rfl
    · cases hq; exact k0
    · cases hq; exact k1
    · cases hq; exact k2
    · cases hq; exact k3
    · cases hq; exact k4
    · cases hq; exact k5
    · cases hq; exact k6
  · intro k q hk
    rcases (show k = 0 ∨ k = 1 ∨ k = 2 ∨ k = 3 ∨ k = 4 by have := (List.getElem?_eq_some_iff.mp hk).1; simp at this; omega) with rfl | rfl | rfl | rfl | rfl
    · cases hk; exact u0
    · cases hk; exact u1
    · cases hk; exact u2
    · cases hk; exact u3
    · cases hk; exact u4
  · exact vk_R.of (hts _ (wt_2 9 rfl)) s0
  · exact vk_R.of (hts _ (wt_2 39 rfl)) s1
  · exact va_Nw.of rfl (hts _ (wt_1 212 rfl))
  · exact va_Nw.of rfl (hts _ (wt_1 214 rfl))
  · exact va_Nw.of rfl (hts _ (wt_1 216 rfl))
  · exact va_Nw.of rfl (hts _ (wt_1 218 rfl))
  · exact va_Nw.of rfl (hts _ (wt_1 32 rfl))
  · exact va_Nw.of rfl (hts _ (wt_1 34 rfl))
  · exact va_Nw.of rfl (hts _ (wt_2 79 rfl))
  · exact va_AO.of (hts _ (wt_1 30 rfl))
  · exact vx_Zqof (hts _ (wt_1 237 rfl)) (hts _ (wa_in _ iw1_9)) (hs (Cond.isRef (Term.static "java/lang/Throwable" "UNASSIGNED_STACK" "[Ljava/lang/StackTraceElement;")) (by decide +kernel)) hA
  · exact vx_Zqof (hts _ (wt_1 239 rfl)) (hts _ (wa_in _ iw1_9)) (hs (Cond.isRef (Term.static "java/lang/Throwable" "SUPPRESSED_SENTINEL" "Ljava/util/List;")) (by decide +kernel)) hA
  · exact va_Zof (hts _ (wt_1 33 rfl)) (hts _ (wa_in _ iw1_1)) e2 hA
  · exact z2
  · exact va_Zof (hts _ (wt_1 35 rfl)) (hts _ (wa_in _ iw1_1)) e3 hA
  · exact z3
  · exact va_Zof (hts _ (wt_1 205 rfl)) (hts _ (wa_in _ iw1_4)) e4 hA
  · exact z4
  · exact va_Zof (hts _ (wt_2 45 rfl)) (hts _ (wa_in _ iw1_4)) e5 hA
  · exact z5
