
theorem wp.self {α : Type} {RF : Nat → Nat → Prop} {r : PR α} {k : α → Nat → Prop} (h : wp RF r k) : wp RF r (fun v a => r = .inr (v, a) ∧ k v a) := h.mono (fun _ _ hr q => ⟨hr, q⟩)
theorem repU_rep {b : Nat → Nat} {lm : Nat} : ∀ (n : Nat) (acc : List Int64) (a : Nat), rep (pU32 b lm) n a = bnd (repU b lm n acc a) (fun _ a1 => .inr ((), a1)) := by
  intro n
  induction n with
  | zero => intro acc a; rfl
  | succ n ih =>
    intro acc a
    rw [rep, repU, bnd_bnd]
    congr 1
    funext v a1
    exact ih _ a1
section R3
variable {b : Nat → Nat} {N : Nat} {RF : Nat → Nat → Prop} {RN : CF → Prop}
variable {lm : Nat} {ps : List Nat} {la : Nat} {co : Bool} {se : Nat} {sta dco : Int64}
theorem M_ft (hs : SYS b N RF RN) (hps : ps.length ≤ 2) (hlm : lm ≤ N) (hN : N ≤ 2000) : ITM b N RF RN lm ps la co se sta dco 5 0 (fun _ a => bnd (pFT b lm a) (fun z a1 => .inr ((z, []), a1))) := by
  refine ITM_simple (fun a z a' _ h => pFT_ok h) (fun a a' z ex o LL ha h => ⟨lm, co, a', by omega, ha, fun _ => h, fun q => absurd q (by decide), fun q => absurd q (by decide), fun q => absurd q (by decide), fun q => absurd q (by decide), fun q => absurd q (by decide), fun q => absurd q (by decide), fun q => absurd q (by decide), fun q => absurd q (by decide), fun q => absurd q (by decide), fun q => absurd q (by decide)⟩) ?_
  intro a st lc T X ha hst hT hX h
  have HB : ∀ (a' : Nat) (k : List IT), a' ≤ lm → k.length ≤ 300 → BD N lm a' k ps ((0, a, none) :: T) X := fun a' k q1 q2 => ⟨q1, hlm, hN, hps, q2, by simp; omega, by omega⟩
  refine I_it hs 5 ⟨ha, hlm, hN, hps, by omega, by omega, by omega⟩ (by decide) ?_
  rw [ms_5]
  rw [pFT, wp_bnd] at h
  refine RS_mb (h.mono (fun _ a0 hr q => ?_))
  have r0 := pType_ok hr
  rw [wp_bnd] at q
  show RN (a0, .inl 103 :: .inl 103 :: st, lm :: ps, none, la, co, lc, (0, a, none) :: T, X, se, sta, dco)
  refine I_row hs 3 (by decide) (HB _ _ (by omega) (by (try simp only [List.length_cons, List.length_append, List.length_nil]); omega)) (q.mono (fun n a1 hr1 q1 => ?_))
  have r1 := pU32_ok (by omega) hr1
  rw [wp_bnd] at q1
  refine I_reps hs 3 (by decide) (pType tVal b lm) (fun a v a' _ r2 => ⟨(pType_ok r2).1, (pType_ok r2).2.1⟩) hps hlm hN (by simp; omega) (by omega) (fun a k r1 r2 r3 => I_3 hs (HB _ _ r1 r2) r3) (.inl 103 :: st) (by (try simp only [List.length_cons, List.length_append, List.length_nil]); omega) n a1 (by omega) (by omega) (q1.mono (fun _ a2 hr2 q2 => ?_))
  have r2 := rep_ok (fun a v a' _ r2 => ⟨(pType_ok r2).1, (pType_ok r2).2.1⟩) n a1 a2 (by omega) hr2
  rw [wp_bnd] at q2
  refine I_row hs 3 (by decide) (HB _ _ (by omega) (by (try simp only [List.length_cons, List.length_append, List.length_nil]); omega)) (q2.mono (fun n2 a3 hr3 q3 => ?_))
  have r3 := pU32_ok (by omega) hr3
  rw [wp_bnd] at q3
  exact I_reps hs 3 (by decide) (pType tVal b lm) (fun a v a' _ r2 => ⟨(pType_ok r2).1, (pType_ok r2).2.1⟩) hps hlm hN (by simp; omega) (by omega) (fun a k r1 r2 r3 => I_3 hs (HB _ _ r1 r2) r3) st (by (try simp only [List.length_cons, List.length_append, List.length_nil]); omega) n2 a3 (by omega) (by omega) q3
theorem H_tab (hs : SYS b N RF RN) (hps : ps.length ≤ 2) (hlm : lm ≤ N) (hN : N ≤ 2000) {a : Nat} {st : List IT} {lc : Option (Nat × Nat)} {T : TL} {X : XL} {bl : Option (Nat × (Nat → Bool))} {cols : Nat → Int64} (hB : BD N lm a st ps T X) (hst : st.length ≤ 260) (h : wp RF (pTab b lm cols a) (fun _ a' => RN (a', st, lm :: ps, bl, la, co, lc, T, X, se, sta, dco))) : RN (a, .inl 4 :: .inl 6 :: st, lm :: ps, bl, la, co, lc, T, X, se, sta, dco) := by
  obtain ⟨h1, h2, h3, h4, h5, h6, h7⟩ := hB
  have HB : ∀ (a' : Nat) (k : List IT), a' ≤ lm → k.length ≤ 300 → BD N lm a' k ps T X := fun a' k q1 q2 => ⟨q1, h2, h3, h4, q2, h6, h7⟩
  rw [pTab, wp_bnd] at h
  refine I_4 hs (HB _ _ h1 (by (try simp only [List.length_cons, List.length_append, List.length_nil]); omega)) (h.mono (fun g a1 hr q => ?_))
  exact I_lim hs (HB _ _ (pType_ok hr).1 (by omega)) (by omega) _ q
theorem M_imp (hs : SYS b N RF RN) (hps : ps.length ≤ 2) (hlm : lm ≤ N) (hN : N ≤ 2000) : ITM b N RF RN lm ps la co se sta dco 10 1 (fun _ a => bnd (pImp b lm a) (fun z a1 => .inr ((z, []), a1))) := by
  refine ITM_simple (fun a z a' ha h => pImp_ok ha h) (fun a a' z ex o LL ha h => ⟨lm, co, a', by omega, ha, fun q => absurd q (by decide), fun _ => h, fun q => absurd q (by decide), fun q => absurd q (by decide), fun q => absurd q (by decide), fun q => absurd q (by decide), fun q => absurd q (by decide), fun q => absurd q (by decide), fun q => absurd q (by decide), fun q => absurd q (by decide), fun q => absurd q (by decide)⟩) ?_
  intro a st lc T X ha hst hT hX h
  have HB : ∀ (a' : Nat) (k : List IT), a' ≤ lm → k.length ≤ 300 → BD N lm a' k ps ((1, a, none) :: T) X := fun a' k q1 q2 => ⟨q1, hlm, hN, hps, q2, by simp; omega, by omega⟩
  refine I_it hs 10 ⟨ha, hlm, hN, hps, by omega, by omega, by omega⟩ (by decide) ?_
  rw [ms_10]
  rw [pImp, wp_bnd] at h
  refine RS_mb (h.mono (fun x a1 hr q => ?_))
  have r1 := pName_ok ha hr
  rw [wp_bnd] at q
  refine RS_mb (q.mono (fun y a2 hr2 q2 => ?_))
  have r2 := pName_ok (by omega) hr2
  rw [wp_bnd] at q2
  refine RS_mb (q2.mono (fun g a3 hr3 q3 => ?_))
  have r3 := pChoice_ok hr3
  show RN (a3, (if g = 1 then _ else if g = 0 then _ else if g = 2 then _ else _) ++ st, _)
  by_cases g0 : g = 0
  · rw [if_pos g0, wp_bnd] at q3
    rw [if_neg (by omega), if_pos g0]
    show RN (a3, .inl 1 :: st, lm :: ps, none, la, co, lc, (1, a, none) :: T, X, se, sta, dco)
    exact I_1 hs (HB _ _ (by omega) (by omega)) q3
  rw [if_neg g0] at q3
  by_cases g1 : g = 1
  · rw [if_pos g1] at q3 ⊢
    show RN (a3, .inl 4 :: .inl 6 :: st, lm :: ps, none, la, co, lc, (1, a, none) :: T, X, se, sta, dco)
    exact H_tab hs hps hlm hN (HB _ _ (by omega) (by omega)) (by omega) q3
  rw [if_neg g1] at q3 ⊢
  rw [if_neg g0]
  by_cases g2 : g = 2
  · rw [if_pos g2] at q3 ⊢
    show RN (a3, .inl 6 :: st, lm :: ps, none, la, co, lc, (1, a, none) :: T, X, se, sta, dco)
    exact I_lim hs (HB _ _ (by omega) (by omega)) (by omega) _ q3
  rw [if_neg g2] at q3 ⊢
  show RN (a3, .inl 28 :: st, lm :: ps, none, la, co, lc, (1, a, none) :: T, X, se, sta, dco)
  exact I_glo hs (HB _ _ (by omega) (by omega)) (by omega) _ q3
theorem M_fun (hs : SYS b N RF RN) (hps : ps.length ≤ 2) (hlm : lm ≤ N) (hN : N ≤ 2000) : ITM b N RF RN lm ps la co se sta dco 11 2 (fun _ a => bnd (pFun b lm a) (fun z a1 => .inr ((z, []), a1))) := by
  refine ITM_simple (fun a z a' ha h => pFun_ok ha h) (fun a a' z ex o LL ha h => ⟨lm, co, a', by omega, ha, fun q => absurd q (by decide), fun q => absurd q (by decide), fun _ => h, fun q => absurd q (by decide), fun q => absurd q (by decide), fun q => absurd q (by decide), fun q => absurd q (by decide), fun q => absurd q (by decide), fun q => absurd q (by decide), fun q => absurd q (by decide), fun q => absurd q (by decide)⟩) ?_
  intro a st lc T X ha hst hT hX h
  refine I_it hs 11 ⟨ha, hlm, hN, hps, by omega, by omega, by omega⟩ (by decide) ?_
  rw [ms_11]
  rw [pFun, wp_bnd] at h
  exact RS_mb h
theorem M_tab (hs : SYS b N RF RN) (hps : ps.length ≤ 2) (hlm : lm ≤ N) (hN : N ≤ 2000) : ITM b N RF RN lm ps la co se sta dco 7 3 (fun _ a => bnd (pTab b lm c_1 a) (fun z a1 => .inr ((z, []), a1))) := by
  refine ITM_simple (fun a z a' ha h => pTab_ok h) (fun a a' z ex o LL ha h => ⟨lm, co, a', by omega, ha, fun q => absurd q (by decide), fun q => absurd q (by decide), fun q => absurd q (by decide), fun _ => h, fun q => absurd q (by decide), fun q => absurd q (by decide), fun q => absurd q (by decide), fun q => absurd q (by decide), fun q => absurd q (by decide), fun q => absurd q (by decide), fun q => absurd q (by decide)⟩) ?_
  intro a st lc T X ha hst hT hX h
  refine I_it hs 7 ⟨ha, hlm, hN, hps, by omega, by omega, by omega⟩ (by decide) ?_
  exact H_tab hs hps hlm hN ⟨ha, hlm, hN, hps, by omega, by simp; omega, by omega⟩ (by omega) h
theorem M_mem (hs : SYS b N RF RN) (hps : ps.length ≤ 2) (hlm : lm ≤ N) (hN : N ≤ 2000) : ITM b N RF RN lm ps la co se sta dco 8 4 (fun _ a => bnd (pMem b lm c_1 a) (fun z a1 => .inr ((z, []), a1))) := by
  refine ITM_simple (fun a z a' ha h => pMem_ok ha h) (fun a a' z ex o LL ha h => ⟨lm, co, a', by omega, ha, fun q => absurd q (by decide), fun q => absurd q (by decide), fun q => absurd q (by decide), fun q => absurd q (by decide), fun _ => h, fun q => absurd q (by decide), fun q => absurd q (by decide), fun q => absurd q (by decide), fun q => absurd q (by decide), fun q => absurd q (by decide), fun q => absurd q (by decide)⟩) ?_
  intro a st lc T X ha hst hT hX h
  refine I_it hs 8 ⟨ha, hlm, hN, hps, by omega, by omega, by omega⟩ (by decide) ?_
  exact I_lim hs ⟨ha, hlm, hN, hps, by omega, by simp; omega, by omega⟩ (by omega) _ h
theorem M_exp (hs : SYS b N RF RN) (hps : ps.length ≤ 2) (hlm : lm ≤ N) (hN : N ≤ 2000) : ITM b N RF RN lm ps la co se sta dco 12 6 (fun _ a => bnd (pExp b lm a) (fun z a1 => .inr ((z, []), a1))) := by
  refine ITM_simple (fun a z a' ha h => pExp_ok ha h) (fun a a' z ex o LL ha h => ⟨lm, co, a', by omega, ha, fun q => absurd q (by decide), fun q => absurd q (by decide), fun q => absurd q (by decide), fun q => absurd q (by decide), fun q => absurd q (by decide), fun q => absurd q (by decide), fun _ => h, fun q => absurd q (by decide), fun q => absurd q (by decide), fun q => absurd q (by decide), fun q => absurd q (by decide)⟩) ?_
  intro a st lc T X ha hst hT hX h
  refine I_it hs 12 ⟨ha, hlm, hN, hps, by omega, by omega, by omega⟩ (by decide) ?_
  rw [ms_12]
  rw [pExp, wp_bnd] at h
  refine RS_mb (h.mono (fun x a1 hr q => ?_))
  have r1 := pName_ok ha hr
  rw [wp_bnd] at q
  refine RS_mb (q.mono (fun g a2 hr2 q2 => ?_))
  have r2 := pChoice_ok hr2
  rw [wp_bnd] at q2
  exact I_1 hs ⟨by omega, hlm, hN, hps, by omega, by simp; omega, by omega⟩ q2
theorem M_own (hs : SYS b N RF RN) (hps : ps.length ≤ 2) (hlm : lm ≤ N) (hN : N ≤ 2000) : ITM b N RF RN lm ps la co se sta dco 9 5 (fun _ a => bnd (pOwn b lm co a) (fun z a1 => .inr ((z, []), a1))) := by
  intro a st lc T X nl ha hst hT hX h
  have HB : ∀ (a' : Nat) (k : List IT), a' ≤ lm → k.length ≤ 300 → BD N lm a' k ps ((5, a, none) :: T) X := fun a' k q1 q2 => ⟨q1, hlm, hN, hps, q2, by simp; omega, by omega⟩
  refine I_it hs 9 ⟨ha, hlm, hN, hps, by omega, by omega, by omega⟩ (by decide) ?_
  rw [wp_bnd, pOwn, wp_bnd] at h
  show RN (a, .inl 28 :: .inl 16 :: st, lm :: ps, none, la, co, lc, (5, a, none) :: T, X, se, sta, dco)
  refine I_glo hs (HB _ _ ha (by (try simp only [List.length_cons, List.length_append, List.length_nil]); omega)) (by (try simp only [List.length_cons, List.length_append, List.length_nil]); omega) c_1 (h.mono (fun c0 a1 hr q => ?_))
  have r1 := pGlo_ok hr
  rw [wp_bnd] at q
  refine I_expr hs (HB _ _ (by omega) (by omega)) (by omega) (by omega) (by simp) (by omega) (by omega) (q.mono (fun _ a2 hr2 q2 => ?_))
  have r2 := pExpr_ok (by omega) hr2
  refine q2 none [(T.length, a1, some a2)] lc (OW.one (by omega) (by omega)) (by simp; omega) (fun LL _ => ⟨lm, co, a2, by omega, ha, fun q => absurd q (by decide), fun q => absurd q (by decide), fun q => absurd q (by decide), fun q => absurd q (by decide), fun q => absurd q (by decide), fun _ => ⟨c0, a1, a2, hr, by omega, rfl, by simp [exO]⟩, fun q => absurd q (by decide), fun q => absurd q (by decide), fun q => absurd q (by decide), fun q => absurd q (by decide), fun q => absurd q (by decide)⟩)
theorem I_bytes (hs : SYS b N RF RN) (hps : ps.length ≤ 2) (hlm : lm ≤ N) (hN : N ≤ 2000) {a : Nat} {st : List IT} {lc : Option (Nat × Nat)} {T : TL} {X : XL} {bl : Option (Nat × (Nat → Bool))} {cols : Nat → Int64} (hB : BD N lm a st ps T X) (h : wp RF (pDatB b lm cols a) (fun _ a' => RN (a', st, lm :: ps, bl, la, co, lc, T, X, se, sta, dco))) : RN (a, .inl 17 :: st, lm :: ps, bl, la, co, lc, T, X, se, sta, dco) := by
  refine I_it hs 17 hB (by decide) ?_
  rw [ms_17]
  rw [pDatB, wp_bnd] at h
  refine RS_mb (h.mono (fun v a1 hr q => ?_))
  rw [wp_bnd] at q
  exact RS_mb q
theorem M_dat (hs : SYS b N RF RN) (hps : ps.length ≤ 2) (hlm : lm ≤ N) (hN : N ≤ 2000) : ITM b N RF RN lm ps la co se sta dco 15 9 (fun _ a => bnd (pDat b lm co a) (fun z a1 => .inr ((z, []), a1))) := by
  intro a st lc T X nl ha hst hT hX h
  have HB : ∀ (a' : Nat) (k : List IT), a' ≤ lm → k.length ≤ 300 → BD N lm a' k ps ((9, a, none) :: T) X := fun a' k q1 q2 => ⟨q1, hlm, hN, hps, q2, by simp; omega, by omega⟩
  have HX : ∀ (a' a2 x2 : Nat) (k : List IT), a' ≤ lm → k.length ≤ 300 → BD N lm a' k ps ((9, a, none) :: T) ((T.length, a2, some x2) :: X) := fun a' a2 x2 k q1 q2 => ⟨q1, hlm, hN, hps, q2, by simp; omega, by simp; omega⟩
  refine I_it hs 15 ⟨ha, hlm, hN, hps, by omega, by omega, by omega⟩ (by decide) ?_
  rw [ms_15]
  rw [wp_bnd, pDat, wp_bnd] at h
  refine RS_mb (h.mono (fun m a1 hr q => ?_))
  have r1 := pNChoice_ok ha hr
  by_cases m1 : m = 1
  · rw [if_pos m1] at q
    subst m1
    show RN (a1, .inl 17 :: st, lm :: ps, none, la, co, lc, (9, a, none) :: T, X, se, sta, dco)
    refine I_bytes hs hps hlm hN (HB _ _ (by omega) (by omega)) (q.mono (fun z a2 hr2 q2 => ?_))
    have r2 := pDatB_ok (by omega) hr2
    exact q2 none [] lc OW.nil (by simp; omega) (fun LL _ => ⟨lm, co, a2, by omega, ha, fun q => absurd q (by decide), fun q => absurd q (by decide), fun q => absurd q (by decide), fun q => absurd q (by decide), fun q => absurd q (by decide), fun q => absurd q (by decide), fun q => absurd q (by decide), fun q => absurd q (by decide), fun q => absurd q (by decide), fun _ => ⟨1, a1, hr, fun _ => hr2, fun q => absurd rfl q⟩, fun q => absurd q (by decide)⟩)
  rw [if_neg m1] at q
  by_cases m2 : m = 2
  · rw [if_pos m2, wp_bnd] at q
    subst m2
    show RN (a1, .inl 1 :: .inl 16 :: .inl 17 :: st, lm :: ps, none, la, co, lc, (9, a, none) :: T, X, se, sta, dco)
    refine I_1 hs (HB _ _ (by omega) (by (try simp only [List.length_cons, List.length_append, List.length_nil]); omega)) (q.mono (fun v a2 hr2 q2 => ?_))
    have r2 := pU32_ok (by omega) hr2
    rw [pDatE, wp_bnd] at q2
    refine I_expr hs (HB _ _ (by omega) (by (try simp only [List.length_cons, List.length_append, List.length_nil]); omega)) (by (try simp only [List.length_cons, List.length_append, List.length_nil]); omega) (by omega) (by simp) (by omega) (by omega) (q2.mono (fun _ a3 hr3 q3 => ?_))
    have r3 := pExpr_ok (by omega) hr3
    refine I_bytes hs hps hlm hN (HX _ _ _ _ (by omega) (by omega)) (q3.mono (fun z a4 hr4 q4 => ?_))
    have r4 := pDatB_ok (by omega) hr4
    exact q4 none [(T.length, a2, some a3)] lc (OW.one (by omega) (by omega)) (by simp; omega) (fun LL _ => ⟨lm, co, a4, by omega, ha, fun q => absurd q (by decide), fun q => absurd q (by decide), fun q => absurd q (by decide), fun q => absurd q (by decide), fun q => absurd q (by decide), fun q => absurd q (by decide), fun q => absurd q (by decide), fun q => absurd q (by decide), fun q => absurd q (by decide), fun _ => ⟨2, a1, hr, fun q => absurd q (by decide), fun _ => ⟨v, a2, a3, fun _ => hr2, fun q => absurd rfl q, by simp [exO], by omega, by omega, hr4⟩⟩, fun q => absurd q (by decide)⟩)
  rw [if_neg m2] at q
  have m0 : m = 0 := by omega
  subst m0
  rw [pDatE, wp_bnd] at q
  show RN (a1, .inl 16 :: .inl 17 :: st, lm :: ps, none, la, co, lc, (9, a, none) :: T, X, se, sta, dco)
  refine I_expr hs (HB _ _ (by omega) (by (try simp only [List.length_cons, List.length_append, List.length_nil]); omega)) (by (try simp only [List.length_cons, List.length_append, List.length_nil]); omega) (by omega) (by simp) (by omega) (by omega) (q.mono (fun _ a3 hr3 q3 => ?_))
  have r3 := pExpr_ok (by omega) hr3
  refine I_bytes hs hps hlm hN (HX _ _ _ _ (by omega) (by omega)) (q3.mono (fun z a4 hr4 q4 => ?_))
  have r4 := pDatB_ok (by omega) hr4
  exact q4 none [(T.length, a1, some a3)] lc (OW.one (by omega) (by omega)) (by simp; omega) (fun LL _ => ⟨lm, co, a4, by omega, ha, fun q => absurd q (by decide), fun q => absurd q (by decide), fun q => absurd q (by decide), fun q => absurd q (by decide), fun q => absurd q (by decide), fun q => absurd q (by decide), fun q => absurd q (by decide), fun q => absurd q (by decide), fun q => absurd q (by decide), fun _ => ⟨0, a1, hr, fun q => absurd q (by decide), fun _ => ⟨0, a1, a3, fun q => absurd q (by decide), fun _ => ⟨rfl, rfl⟩, by simp [exO], by omega, by omega, hr4⟩⟩, fun q => absurd q (by decide)⟩)
/-- expressions, one behind the other, of thing t -/
theorem I_repX (hs : SYS b N RF RN) (hps : ps.length ≤ 2) (hlm : lm ≤ N) (hN : N ≤ 2000) (st : List IT) (hst : st.length ≤ 210) (T : TL) (X : XL) (lc : Option (Nat × Nat)) (t : Nat) (ht : T.length = t + 1) (hT : T.length < 2000) : ∀ (n : Nat) (acc : List Int64) (a : Nat) (Xn : XL), a ≤ lm → n < 4294967296 → OW t Xn → X.length + Xn.length + 8 ≤ a →
    wp RF (repX b lm co n acc a) (fun it a' => ∀ (Xm : XL) (exs : List (Nat × Nat)), OW t Xm → Xm.length + a ≤ a' + Xn.length → it = acc ++ exs.map (fun e => lN e.1) → exO t Xm = exO t Xn ++ exs → RN (a', st, lm :: ps, none, la, co, lc, T, Xm ++ X, se, sta, dco)) →
    RN (a, (if 0 < n then [.inr (100 + 16, n)] else []) ++ st, lm :: ps, none, la, co, lc, T, Xn ++ X, se, sta, dco) := by
  intro n
  induction n with
  | zero => intro acc a Xn ha hn hXn hX h; exact h Xn [] hXn (by omega) (by simp) (by simp)
  | succ n ih =>
    intro acc a Xn ha hn hXn hX h
    rw [if_pos (by omega)]
    show RN (a, .inr (100 + 16, n + 1) :: st, _)
    refine I_rep hs 16 (n + 1) (by decide) ⟨by omega, hn⟩ ⟨ha, hlm, hN, hps, by omega, hT, by rw [List.length_append]; omega⟩ ?_
    rw [repX, wp_bnd] at h
    refine I_expr hs ⟨ha, hlm, hN, hps, by rw [List.length_append]; split <;> simp <;> omega, hT, by rw [List.length_append]; omega⟩ (by rw [List.length_append]; split <;> simp <;> omega) (by rw [List.length_append]; omega) (by omega) (by omega) (by omega) (h.mono (fun _ a1 hr q => ?_))
    have r1 := pExpr_ok ha hr
    have := ih (acc ++ [lN a]) a1 ((t, a, some a1) :: Xn) (by omega) (by omega) (hXn.cons (by omega) (by omega)) (by simp; omega) (q.mono (fun it a' hr2 q2 => ?_))
    · rw [ht, Nat.add_sub_cancel]
      by_cases c : 0 < n
      · rw [if_pos (by omega)]
        rw [if_pos c] at this
        exact this
      · rw [if_neg (by omega)]
        rw [if_neg c] at this
        exact this
    · intro Xm exs e1 e2 e3 e4
      refine q2 Xm ((a, a1) :: exs) e1 (by simp at e2; omega) (by rw [e3]; simp) ?_
      rw [e4]
      simp [exO]
theorem M_el (hs : SYS b N RF RN) (hps : ps.length ≤ 2) (hlm : lm ≤ N) (hN : N ≤ 2000) (hb9 : ∀ i, b i < 256) : ITM b N RF RN lm ps la co se sta dco 13 7 (pEl b lm co) := by
  intro a st lc T X nl ha hst hT hX h
  have HB : ∀ (a' : Nat) (k : List IT), a' ≤ lm → k.length ≤ 300 → BD N lm a' k ps ((7, a, none) :: T) X := fun a' k q1 q2 => ⟨q1, hlm, hN, hps, q2, by simp; omega, by omega⟩
  have HX : ∀ (a' a2 x2 : Nat) (k : List IT), a' ≤ lm → k.length ≤ 300 → BD N lm a' k ps ((7, a, none) :: T) ((T.length, a2, some x2) :: X) := fun a' a2 x2 k q1 q2 => ⟨q1, hlm, hN, hps, q2, by simp; omega, by simp; omega⟩
  refine I_it hs 13 ⟨ha, hlm, hN, hps, by omega, by omega, by omega⟩ (by decide) ?_
  rw [ms_13]
  rw [pEl, wp_bnd] at h
  refine RS_mb (h.mono (fun m a1 hr q => ?_))
  have r1 := pNChoice_ok ha hr
  rw [wp_bnd] at q
  -- the row behind type and expression
  have row : ∀ (c2 : Nat → Int64) (a2 x1 : Nat) (Xn : XL) (t a3 : Nat), pElA b lm co m a1 = .inr (c2, a2) → pElT b lm m a2 = .inr (t, a3) → a1 ≤ a3 → a3 ≤ lm → Xn.length + a1 ≤ a3 → OW T.length Xn → exO T.length Xn = (if m % 2 = 0 then [(x1, a2)] else []) → (m % 2 = 0 → c2 4 = lN x1 ∧ c2 5 = lN a2) →
      wp RF (pElI b lm co nl m (vp_updL (vp_updL c2 1 (lN t)) 6 (elS m)) a3) (fun z a' => ∀ (o : Option (Nat × Nat)) (Xn : XL) (lc' : Option (Nat × Nat)), OW T.length Xn → Xn.length + a ≤ a' → (∀ LL, seg LL nl z.2 → RP b N 7 a z.1 (exO T.length Xn) o LL) → RN (a', st, lm :: ps, none, la, co, lc', (7, a, o) :: T, Xn ++ X, se, sta, dco)) →
      RN (a3, .inl (if 4 ≤ m then 116 else 101) :: st, lm :: ps, none, la, co, lc, (7, a, none) :: T, Xn ++ X, se, sta, dco) := by
    intro c2 a2 x1 Xn t a3 k1 k2 k3 k4 k5 k6 k7 k8 hq
    rw [pElI, wp_bnd] at hq
    have fin : ∀ (n a4 : Nat) (it : List Int64) (a5 : Nat) (Xm : XL) (exs : List (Nat × Nat)), pU32 b lm a3 = .inr (n, a4) → (if 4 ≤ m then repX b lm co n [] a4 else repU b lm n [] a4) = .inr (it, a5) → a4 ≤ a5 → a3 < a4 → OW T.length Xm → Xm.length + a ≤ a5 → exO T.length Xm = (if m % 2 = 0 then [(x1, a2)] else []) ++ exs → (4 ≤ m → it = exs.map (fun e => lN e.1)) →
        (∀ (o : Option (Nat × Nat)) (Xn : XL) (lc' : Option (Nat × Nat)), OW T.length Xn → Xn.length + a ≤ a5 → (∀ LL, seg LL nl it → RP b N 7 a (vp_updL (vp_updL (vp_updL (vp_updL (vp_updL c2 1 (lN t)) 6 (elS m)) 3 (lN n)) 7 (lN nl)) 8 (lN n)) (exO T.length Xn) o LL) → RN (a5, st, lm :: ps, none, la, co, lc', (7, a, o) :: T, Xn ++ X, se, sta, dco)) →
        RN (a5, st, lm :: ps, none, la, co, lc, (7, a, none) :: T, Xm ++ X, se, sta, dco) := by
      intro n a4 it a5 Xm exs j1 j2 j3 j4 j5 j6 j7 j8 j9
      exact j9 none Xm lc j5 j6 (fun LL hseg => ⟨lm, co, a5, by omega, ha, fun q => absurd q (by decide), fun q => absurd q (by decide), fun q => absurd q (by decide), fun q => absurd q (by decide), fun q => absurd q (by decide), fun q => absurd q (by decide), fun q => absurd q (by decide), fun _ => ⟨m, a1, c2, a2, t, a3, n, a4, it, nl, x1, exs, hr, k1, k2, j1, j2, rfl, hseg, j7, k8, j8⟩, fun q => absurd q (by decide), fun q => absurd q (by decide), fun q => absurd q (by decide)⟩)
    by_cases c4 : 4 ≤ m
    · rw [if_pos c4]
      refine I_row hs 16 (by decide) ⟨by omega, hlm, hN, hps, by omega, by simp; omega, by rw [List.length_append]; omega⟩ (hq.mono (fun n a4 hr4 q4 => ?_))
      have r4 := pU32_ok (by omega) hr4
      rw [wp_bnd, if_pos c4] at q4
      refine I_repX hs hps hlm hN st (by omega) _ X lc T.length rfl (by simp; omega) n [] a4 Xn (by omega) (by omega) k6 (by omega) (q4.mono (fun it a5 hr5 q5 => ?_))
      intro Xm exs e1 e2 e3 e4
      have r5 := repX_ok _ _ _ _ _ (by omega) hr5
      exact fin n a4 it a5 Xm exs hr4 (by rw [if_pos c4]; exact hr5) (by omega) (by omega) e1 (by omega) (by rw [e4, k7]) (fun _ => by rw [e3]; simp) q5
    · rw [if_neg c4]
      refine I_row hs 1 (by decide) ⟨by omega, hlm, hN, hps, by omega, by simp; omega, by rw [List.length_append]; omega⟩ (hq.mono (fun n a4 hr4 q4 => ?_))
      have r4 := pU32_ok (by omega) hr4
      rw [wp_bnd, if_neg c4] at q4
      refine I_reps hs 1 (by decide) (pU32 b lm) (fun a v a' r1 r2 => ⟨(pU32_ok r1 r2).1, (pU32_ok r1 r2).2.1⟩) hps hlm hN (by simp; omega) (by rw [List.length_append]; omega) (fun a k r1 r2 r3 => I_1 hs ⟨r1, hlm, hN, hps, r2, by simp; omega, by rw [List.length_append]; omega⟩ r3) st (by (try simp only [List.length_cons, List.length_append, List.length_nil]); omega) n a4 (by omega) (by omega) ?_
      rw [repU_rep n [] a4, wp_bnd]
      refine q4.mono (fun it a5 hr5 q5 => ?_)
      have r5 := repU_ok _ _ _ _ _ (by omega) hr5
      exact fin n a4 it a5 Xn [] hr4 (by rw [if_neg c4]; exact hr5) (by omega) (by omega) k6 (by omega) (by rw [k7]; simp) (fun q => absurd q c4) q5
  -- the type, then the row
  have typ : ∀ (c2 : Nat → Int64) (a2 x1 : Nat) (Xn : XL), pElA b lm co m a1 = .inr (c2, a2) → a1 ≤ a2 → a2 ≤ lm → Xn.length + a1 ≤ a2 → OW T.length Xn → exO T.length Xn = (if m % 2 = 0 then [(x1, a2)] else []) → (m % 2 = 0 → c2 4 = lN x1 ∧ c2 5 = lN a2) →
      wp RF (pElT b lm m a2) (fun t a3 => wp RF (pElI b lm co nl m (vp_updL (vp_updL c2 1 (lN t)) 6 (elS m)) a3) (fun z a' => ∀ (o : Option (Nat × Nat)) (Xn : XL) (lc' : Option (Nat × Nat)), OW T.length Xn → Xn.length + a ≤ a' → (∀ LL, seg LL nl z.2 → RP b N 7 a z.1 (exO T.length Xn) o LL) → RN (a', st, lm :: ps, none, la, co, lc', (7, a, o) :: T, Xn ++ X, se, sta, dco))) →
      RN (a2, (if m = 0 ∨ m = 4 then [] else if 4 ≤ m then [.inl 4] else [.inl 18]) ++ .inl (if 4 ≤ m then 116 else 101) :: st, lm :: ps, none, la, co, lc, (7, a, none) :: T, Xn ++ X, se, sta, dco) := by
    intro c2 a2 x1 Xn k1 k2 k3 k4 k5 k6 k7 hq
    have hq := hq.self
    have HY : ∀ (a' : Nat) (k : List IT), a' ≤ lm → k.length ≤ 300 → BD N lm a' k ps ((7, a, none) :: T) (Xn ++ X) := fun a' k q1 q2 => ⟨q1, hlm, hN, hps, q2, by simp; omega, by rw [List.length_append]; omega⟩
    by_cases m0 : m = 0 ∨ m = 4
    · rw [if_pos m0]
      have e : pElT b lm m a2 = .inr (112, a2) := by rw [pElT, if_pos m0]
      rw [e] at hq
      exact row c2 a2 x1 Xn 112 a2 k1 e k2 k3 k4 k5 k6 k7 hq.2
    rw [if_neg m0]
    by_cases m4 : 4 ≤ m
    · rw [if_pos m4]
      have e : pElT b lm m a2 = pType tRef b lm a2 := by rw [pElT, if_neg m0, if_pos m4]
      rw [e] at hq
      show RN (a2, .inl 4 :: .inl (if 4 ≤ m then 116 else 101) :: st, lm :: ps, none, la, co, lc, (7, a, none) :: T, Xn ++ X, se, sta, dco)
      refine I_4 hs (HY _ _ (by omega) (by (try simp only [List.length_cons, List.length_append, List.length_nil]); omega)) (hq.mono (fun t a3 hr3 q3 => ?_))
      have r3 := pType_ok hr3
      have := row c2 a2 x1 Xn t a3 k1 (by rw [e]; exact hr3) (by omega) (by omega) (by omega) k5 k6 k7 q3.2
      exact this
    · rw [if_neg m4]
      have e : pElT b lm m a2 = bnd (pChoice b lm 0 a2) (fun _ a1 => .inr (112, a1)) := by rw [pElT, if_neg m0, if_neg m4]
      rw [e, wp_bnd] at hq
      show RN (a2, .inl 18 :: .inl (if 4 ≤ m then 116 else 101) :: st, lm :: ps, none, la, co, lc, (7, a, none) :: T, Xn ++ X, se, sta, dco)
      refine I_18 hs (HY _ _ (by omega) (by (try simp only [List.length_cons, List.length_append, List.length_nil]); omega)) (hq.mono (fun t a3 hr3 q3 => ?_))
      have r3 := pChoice_ok hr3
      have := row c2 a2 x1 Xn 112 a3 k1 (by rw [e, bnd_E hr3]) (by omega) (by omega) (by omega) k5 k6 k7 q3.2
      exact this
  have hq := q.self
  rcases (show m = 0 ∨ m = 1 ∨ m = 2 ∨ m = 3 ∨ m = 4 ∨ m = 5 ∨ m = 6 ∨ m = 7 by omega) with rfl | rfl | rfl | rfl | rfl | rfl | rfl | rfl
  · have e : pElA b lm co 0 a1 = pElE b lm co (vp_updL (vp_updL c_1 0 (elM 0)) 2 0) a1 := rfl
    rw [e, pElE, wp_bnd] at hq
    show RN (a1, .inl 16 :: .inl 101 :: st, lm :: ps, none, la, co, lc, (7, a, none) :: T, X, se, sta, dco)
    refine I_expr hs (HB _ _ (by omega) (by (try simp only [List.length_cons, List.length_append, List.length_nil]); omega)) (by (try simp only [List.length_cons, List.length_append, List.length_nil]); omega) (by omega) (by simp) (by omega) (by omega) (hq.mono (fun _ a3 hr3 q3 => ?_))
    have r3 := pExpr_ok (by omega) hr3
    exact typ _ a3 a1 [(T.length, a1, some a3)] (by rw [e]; exact q3.1) (by omega) (by omega) (by simp; omega) (OW.one (by omega) (by omega)) (by simp [exO]) (fun _ => ⟨rfl, rfl⟩) (by have w := q3.2; rw [wp_bnd] at w; exact w)
  · have q := q
    have e : pElA b lm co 1 a1 = .inr (vp_updL (vp_updL c_1 0 (elM 1)) 2 0, a1) := rfl
    rw [e] at hq
    exact typ _ a1 0 [] e (Nat.le_refl _) r1.1 (by simp) OW.nil rfl (fun q => absurd q (by decide)) (by have w := hq.2; rw [wp_bnd] at w; exact w)
  · have e : pElA b lm co 2 a1 = bnd (pU32 b lm a1) (fun v a1 => pElE b lm co (vp_updL (vp_updL c_1 0 (elM 2)) 2 (lN v)) a1) := rfl
    rw [e, wp_bnd] at hq
    show RN (a1, .inl 1 :: .inl 16 :: .inl 18 :: .inl 101 :: st, lm :: ps, none, la, co, lc, (7, a, none) :: T, X, se, sta, dco)
    refine I_1 hs (HB _ _ (by omega) (by (try simp only [List.length_cons, List.length_append, List.length_nil]); omega)) (hq.mono (fun v a2 hr2 q2 => ?_))
    have r2 := pU32_ok (by omega) hr2
    rw [pElE, wp_bnd] at q2
    refine I_expr hs (HB _ _ (by omega) (by (try simp only [List.length_cons, List.length_append, List.length_nil]); omega)) (by (try simp only [List.length_cons, List.length_append, List.length_nil]); omega) (by omega) (by simp) (by omega) (by omega) (q2.mono (fun _ a3 hr3 q3 => ?_))
    have r3 := pExpr_ok (by omega) hr3
    exact typ _ a3 a2 [(T.length, a2, some a3)] q3.1 (by omega) (by omega) (by simp; omega) (OW.one (by omega) (by omega)) (by simp [exO]) (fun _ => ⟨rfl, rfl⟩) (by have w := q3.2; rw [wp_bnd] at w; exact w)
  · have q := q
    have e : pElA b lm co 3 a1 = .inr (vp_updL (vp_updL c_1 0 (elM 3)) 2 0, a1) := rfl
    rw [e] at hq
    exact typ _ a1 0 [] e (Nat.le_refl _) r1.1 (by simp) OW.nil rfl (fun q => absurd q (by decide)) (by have w := hq.2; rw [wp_bnd] at w; exact w)
  · have e : pElA b lm co 4 a1 = pElE b lm co (vp_updL (vp_updL c_1 0 (elM 4)) 2 0) a1 := rfl
    rw [e, pElE, wp_bnd] at hq
    show RN (a1, .inl 16 :: .inl 116 :: st, lm :: ps, none, la, co, lc, (7, a, none) :: T, X, se, sta, dco)
    refine I_expr hs (HB _ _ (by omega) (by (try simp only [List.length_cons, List.length_append, List.length_nil]); omega)) (by (try simp only [List.length_cons, List.length_append, List.length_nil]); omega) (by omega) (by simp) (by omega) (by omega) (hq.mono (fun _ a3 hr3 q3 => ?_))
    have r3 := pExpr_ok (by omega) hr3
    exact typ _ a3 a1 [(T.length, a1, some a3)] (by rw [e]; exact q3.1) (by omega) (by omega) (by simp; omega) (OW.one (by omega) (by omega)) (by simp [exO]) (fun _ => ⟨rfl, rfl⟩) (by have w := q3.2; rw [wp_bnd] at w; exact w)
  · have q := q
    have e : pElA b lm co 5 a1 = .inr (vp_updL (vp_updL c_1 0 (elM 5)) 2 0, a1) := rfl
    rw [e] at hq
    exact typ _ a1 0 [] e (Nat.le_refl _) r1.1 (by simp) OW.nil rfl (fun q => absurd q (by decide)) (by have w := hq.2; rw [wp_bnd] at w; exact w)
  · have e : pElA b lm co 6 a1 = bnd (pU32 b lm a1) (fun v a1 => pElE b lm co (vp_updL (vp_updL c_1 0 (elM 6)) 2 (lN v)) a1) := rfl
    rw [e, wp_bnd] at hq
    show RN (a1, .inl 1 :: .inl 16 :: .inl 4 :: .inl 116 :: st, lm :: ps, none, la, co, lc, (7, a, none) :: T, X, se, sta, dco)
    refine I_1 hs (HB _ _ (by omega) (by (try simp only [List.length_cons, List.length_append, List.length_nil]); omega)) (hq.mono (fun v a2 hr2 q2 => ?_))
    have r2 := pU32_ok (by omega) hr2
    rw [pElE, wp_bnd] at q2
    refine I_expr hs (HB _ _ (by omega) (by (try simp only [List.length_cons, List.length_append, List.length_nil]); omega)) (by (try simp only [List.length_cons, List.length_append, List.length_nil]); omega) (by omega) (by simp) (by omega) (by omega) (q2.mono (fun _ a3 hr3 q3 => ?_))
    have r3 := pExpr_ok (by omega) hr3
    exact typ _ a3 a2 [(T.length, a2, some a3)] q3.1 (by omega) (by omega) (by simp; omega) (OW.one (by omega) (by omega)) (by simp [exO]) (fun _ => ⟨rfl, rfl⟩) (by have w := q3.2; rw [wp_bnd] at w; exact w)
  · have q := q
    have e : pElA b lm co 7 a1 = .inr (vp_updL (vp_updL c_1 0 (elM 7)) 2 0, a1) := rfl
    rw [e] at hq
    exact typ _ a1 0 [] e (Nat.le_refl _) r1.1 (by simp) OW.nil rfl (fun q => absurd q (by decide)) (by have w := hq.2; rw [wp_bnd] at w; exact w)
theorem I_locs (hs : SYS b N RF RN) (hps : ps.length ≤ 2) (hlm : lm ≤ N) (hN : N ≤ 2000) (hb9 : ∀ i, b i < 256) (st : List IT) (hst : st.length ≤ 210) (T : TL) (hT : T.length < 2000) (X : XL) (hX : X.length < 2000) (bl : Option (Nat × (Nat → Bool))) (lA : Nat) : ∀ (n : Nat) (acc : List Int64) (s a : Nat), a ≤ lm → n < 4294967296 → s ≤ a * 4294967296 →
    wp RF (repLoc b lm n acc s a) (fun z a' => z.2 ≤ a' * 4294967296 → RN (a', st, lm :: ps, bl, la, co, some (z.2, lA), T, X, se, sta, dco)) →
    RN (a, (if 0 < n then [.inr (100 + 20, n)] else []) ++ st, lm :: ps, bl, la, co, some (s, lA), T, X, se, sta, dco) := by
  intro n
  induction n with
  | zero => intro acc s a ha hn hs9 h; exact h hs9
  | succ n ih =>
    intro acc s a ha hn hs9 h
    rw [if_pos (by omega)]
    show RN (a, .inr (100 + 20, n + 1) :: st, _)
    refine I_rep hs 20 (n + 1) (by decide) ⟨by omega, hn⟩ ⟨ha, hlm, hN, hps, by omega, hT, hX⟩ ?_
    refine I_it hs 20 ⟨ha, hlm, hN, hps, by rw [List.length_append]; split <;> simp <;> omega, hT, hX⟩ (by decide) ?_
    rw [ms_20]
    rw [repLoc, wp_bnd] at h
    refine RS_mb (h.mono (fun v a1 hr q => ?_))
    have r1 := pU32_ok ha hr
    rw [wp_bnd] at q
    refine RS_mb (q.mono (fun g a2 hr2 q2 => ?_))
    have r2 := pType_ok hr2
    have := ih (acc ++ [lN v] ++ [lN g]) (s + v) a2 (by omega) (by omega) (by omega) q2
    show RN (a2, (if 1 < n + 1 then [.inr (100 + 20, n + 1 - 1)] else []) ++ st, lm :: ps, bl, la, co, some (s + v, lA), T, X, se, sta, dco)
    by_cases c : 0 < n
    · rw [if_pos (by omega)]
      rw [if_pos c] at this
      exact this
    · rw [if_neg (by omega)]
      rw [if_neg c] at this
      exact this
end R3
section R4
variable {b : Nat → Nat} {N : Nat} {RF : Nat → Nat → Prop} {RN : CF → Prop}
variable {lm : Nat} {ps : List Nat} {la : Nat} {co : Bool} {se : Nat} {sta dco : Int64}
theorem M_body (hs : SYS b N RF RN) (hps : ps.length ≤ 1) (hlm : lm ≤ N) (hN : N ≤ 2000) (hb9 : ∀ i, b i < 256) : ITM b N RF RN lm ps la co se sta dco 14 8 (pBody b lm co) := by
  intro a st lc T X nl ha hst hT hX h
  refine I_it hs 14 ⟨ha, hlm, hN, by omega, by omega, by omega, by omega⟩ (by decide) ?_
  rw [ms_14]
  rw [pBody, wp_bnd] at h
  refine RS_mb (h.mono (fun l2 a1 hr q => ?_))
  have r1 := pEnter_ok ha hr
  have HB : ∀ (a' : Nat) (k : List IT), a' ≤ l2 → k.length ≤ 300 → BD N l2 a' k (lm :: ps) ((8, a, none) :: T) X := fun a' k q1 q2 => ⟨q1, by omega, hN, by simp; omega, q2, by simp; omega, by omega⟩
  have hps2 : (lm :: ps).length ≤ 2 := by simp; omega
  have hl2 : l2 ≤ N := by omega
  show RN (a1, .inl 22 :: .inl 16 :: .inl 24 :: st, l2 :: lm :: ps, none, la, co, lc, (8, a, none) :: T, X, se, sta, dco)
  refine I_it hs 22 (HB _ _ (by omega) (by (try simp only [List.length_cons, List.length_append, List.length_nil]); omega)) (by decide) ?_
  show RN (a1, .inl 120 :: .inl 29 :: .inl 16 :: .inl 24 :: st, l2 :: lm :: ps, none, la, co, some (0, a1), (8, a, none) :: T, X, se, sta, dco)
  rw [wp_bnd, pLoc, wp_bnd] at q
  refine I_row hs 20 (by decide) (HB _ _ (by omega) (by (try simp only [List.length_cons, List.length_append, List.length_nil]); omega)) (q.mono (fun n a2 hr2 q2 => ?_))
  have r2 := pU32_ok (by omega) hr2
  rw [wp_bnd] at q2
  refine I_locs hs hps2 hl2 hN hb9 _ (by (try simp only [List.length_cons, List.length_append, List.length_nil]); omega) _ (by simp; omega) X (by omega) none a1 n [] 0 a2 (by omega) (by omega) (Nat.zero_le _) (q2.mono (fun z a3 hr3 q3 => ?_))
  have r3 := repLoc_ok _ _ _ _ _ _ (by omega) hr3
  intro hz
  refine (hs l2 a3 (.inl 16 :: .inl 24 :: st) (lm :: ps) none la co (some (z.2, a1)) ((8, a, none) :: T) X se sta dco (HB _ _ (by omega) (by (try simp only [List.length_cons, List.length_append, List.length_nil]); omega))).2.2.1 z.2 a1 rfl (by omega) ?_
  rw [mEnd]
  by_cases c : 4294967295 < z.2
  · rw [if_pos c] at q3 ⊢
    exact q3
  rw [if_neg c] at q3 ⊢
  have q3 : wp RF (bnd (pExpr b l2 co a3) _) _ := q3
  rw [wp_bnd] at q3
  refine I_expr hs (HB _ _ (by omega) (by (try simp only [List.length_cons, List.length_append, List.length_nil]); omega)) (by (try simp only [List.length_cons, List.length_append, List.length_nil]); omega) (by omega) (by simp) (by omega) (by omega) (q3.mono (fun _ a4 hr4 q4 => ?_))
  have r4 := pExpr_ok (by omega) hr4
  rw [wp_bnd] at q4
  refine I_it hs 24 ⟨by omega, by omega, hN, hps2, by omega, by simp; omega, by simp; omega⟩ (by decide) ?_
  rw [ms_24]
  refine RS_mb (q4.mono (fun _ a5 hr5 q5 => ?_))
  have r5 := pLeave_ok hr5
  refine q5 none [(T.length, a3, some a4)] (some (z.2, a1)) (OW.one (by omega) (by omega)) (by simp; omega) (fun LL hseg => ⟨lm, co, a5, by omega, ha, fun q => absurd q (by decide), fun q => absurd q (by decide), fun q => absurd q (by decide), fun q => absurd q (by decide), fun q => absurd q (by decide), fun q => absurd q (by decide), fun q => absurd q (by decide), fun q => absurd q (by decide), fun _ => ⟨l2, a1, n, a2, z.1, z.2, a3, a4, nl, hr, hr2, hr3, rfl, hseg, by simp [exO]⟩, fun q => absurd q (by decide), fun q => absurd q (by decide)⟩)
end R4
