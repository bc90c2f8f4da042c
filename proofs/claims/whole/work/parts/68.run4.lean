
theorem up_id {LS : Nat → RL} {k : Nat} : va_up LS k (LS k) = LS := by
  funext j
  by_cases e : j = k
  · subst e; rw [va_up_self]
  · rw [va_up_ne _ _ e]

theorem sec_le {b : Nat → Nat} {l2 id a a' : Nat} {S S2 : MS} (ha : a ≤ l2) (hb9 : ∀ i, b i < 256) (h : pSec b l2 id S a = .inr (S2, a')) : a' ≤ l2 := by
  unfold pSec at h
  by_cases c0 : id = 0
  · rw [if_pos c0] at h; obtain ⟨x, a1, q, r⟩ := bnd_ok h; cases r; have := pCus_ok ha q; omega
  rw [if_neg c0] at h
  by_cases c8 : id = 8
  · rw [if_pos c8] at h; obtain ⟨x, a1, q, r⟩ := bnd_ok h; cases r; have := pU32_ok ha q; omega
  rw [if_neg c8] at h
  by_cases c12 : id = 12
  · rw [if_pos c12] at h; obtain ⟨x, a1, q, r⟩ := bnd_ok h; cases r; have := pU32_ok ha q; omega
  rw [if_neg c12] at h
  by_cases c9 : id = 9
  · rw [if_pos c9] at h; obtain ⟨x, a1, q, r⟩ := bnd_ok h; cases r; have := pRowE_ok (fun nl a v a' h1 h2 => pEl_ok hb9 h1 h2) ha q; omega
  rw [if_neg c9] at h
  by_cases c10 : id = 10
  · rw [if_pos c10] at h; obtain ⟨x, a1, q, r⟩ := bnd_ok h; cases r; have := pRowE_ok (fun nl a v a' h1 h2 => pBody_ok h1 h2) ha q; omega
  rw [if_neg c10] at h
  obtain ⟨x, a1, q, r⟩ := bnd_ok h
  cases r
  have hf : ∀ a v a', a ≤ l2 → pItem b l2 S.2.2.2.2.2.1 id a = .inr (v, a') → a' ≤ l2 ∧ a < a' := by
    intro a v a' h1 h2
    unfold pItem at h2
    repeat' split at h2
    · exact pFT_ok h2
    · exact pImp_ok h1 h2
    · exact pFun_ok h1 h2
    · exact pTab_ok h2
    · exact pMem_ok h1 h2
    · exact pOwn_ok h2
    · exact pExp_ok h1 h2
    · exact pDat_ok h1 h2
  have := pRowL_ok hf ha q
  omega
section R5
variable {b : Nat → Nat} {N : Nat} {RF : Nat → Nat → Prop} {RN : CF → Prop}
theorem run_sec (hs : SYS b N RF RN) (hb9 : ∀ i, b i < 256) (hN : N ≤ 2000) {l2 a id sec rk se : Nat} {st : List IT} {ps : List Nat} {lc : Option (Nat × Nat)} {T : TL} {X : XL} {LS : Nat → RL} {LL : List Int64} {dc : Bool} {sta dco : Int64} (hps : ps.length ≤ 1) (hl2 : l2 ≤ N) (hid : id ≤ 12) (ha : a ≤ l2) (hst : st.length ≤ 100) (hT : T.length + 8 ≤ a) (hX : X.length + 8 ≤ a) (hR : REL b N T X LS LL)
    (h : wp RF (pSec b l2 id (LS, LL, sec, sta, dco, dc, rk) a) (fun S2 a' => ∀ (T' : TL) (X' : XL) (lc' : Option (Nat × Nat)), T'.length + 8 ≤ a' → X'.length + 8 ≤ a' → REL b N T' X' S2.1 S2.2.1 → S2.2.2.1 = sec → S2.2.2.2.2.2.2 = rk → RN (a', st, l2 :: ps, none, rk, S2.2.2.2.2.2.1, lc', T', X', se, S2.2.2.2.1, S2.2.2.2.2.1))) :
    RN (a, seT id ++ st, l2 :: ps, none, rk, dc, lc, (if id = 0 then [(10, a, none)] else []) ++ T, X, se, sta, dco) := by
  have HB : ∀ (a' : Nat) (k : List IT), a' ≤ l2 → k.length ≤ 300 → BD N l2 a' k ps T X := fun a' k q1 q2 => ⟨q1, hl2, hN, by omega, q2, by omega, by omega⟩
  have hps2 : ps.length ≤ 2 := by omega
  rcases (show id = 0 ∨ id = 1 ∨ id = 2 ∨ id = 3 ∨ id = 4 ∨ id = 5 ∨ id = 6 ∨ id = 7 ∨ id = 8 ∨ id = 9 ∨ id = 10 ∨ id = 11 ∨ id = 12 by omega) with rfl | rfl | rfl | rfl | rfl | rfl | rfl | rfl | rfl | rfl | rfl | rfl | rfl
  · rw [pSec_0, wp_bnd, pCus, wp_bnd] at h
    show RN (a, .inl 2 :: .inl 25 :: st, l2 :: ps, none, rk, dc, lc, (10, a, none) :: T, X, se, sta, dco)
    refine I_2 hs ⟨ha, hl2, hN, hps2, (by (try simp only [List.length_cons, List.length_append, List.length_nil]); omega), by simp; omega, by omega⟩ (h.mono (fun x a1 hr q => ?_))
    have r1 := pName_ok ha hr
    refine (hs l2 a1 st ps none rk dc lc ((10, a, none) :: T) X se sta dco ⟨by omega, hl2, hN, hps2, by omega, by simp; omega, by omega⟩).1 25 (by omega) (fun _ => by simp) (fun q => by omega) ?_
    have q9 := hR.add (k := 10) (fr := a) (a := a) (it := []) (Xn := []) (o := some (a1, l2 - a1)) (z := vp_updL (vp_updL (up2 c_1 7 x.1 x.2) 3 (lN (l2 - a1))) 6 (lN a1)) (by decide) OW.nil ⟨l2, dc, l2, by omega, ha, fun q => absurd q (by decide), fun q => absurd q (by decide), fun q => absurd q (by decide), fun q => absurd q (by decide), fun q => absurd q (by decide), fun q => absurd q (by decide), fun q => absurd q (by decide), fun q => absurd q (by decide), fun q => absurd q (by decide), fun q => absurd q (by decide), fun _ => ⟨x, a1, hr, rfl, rfl⟩⟩
    rw [List.append_nil] at q9
    exact q ((10, a, some (a1, l2 - a1)) :: T) X lc (by simp; omega) (by omega) q9 rfl rfl
  · rw [pSec_1, wp_bnd, pRowL, wp_bnd] at h
    show RN (a, .inl (100 + 5) :: st, l2 :: ps, none, rk, dc, lc, T, X, se, sta, dco)
    refine I_row hs 5 (by decide) (HB _ _ ha (by omega)) (h.mono (fun n a1 hr q => ?_))
    have r1 := pU32_ok ha hr
    refine I_rows hs (by decide) (by decide) (M_ft hs hps2 hl2 hN) (fun nl a z a' q1 q2 => by obtain ⟨x, a1, r, r2⟩ := bnd_ok q2; cases r2; exact pFT_ok r) hps2 hl2 hN st (by omega) LS n (LS 0) LL a1 lc T X (by omega) (by omega) (by omega) (by omega) (by rw [up_id]; exact hR) ?_
    rw [repE_simple, wp_bnd]
    refine q.mono (fun L' a2 hr2 q2 => ?_)
    intro T' X' lc' e1 e2 e3
    exact q2 T' X' lc' e1 e2 e3 rfl rfl
  · rw [pSec_2, wp_bnd, pRowL, wp_bnd] at h
    show RN (a, .inl (100 + 10) :: st, l2 :: ps, none, rk, dc, lc, T, X, se, sta, dco)
    refine I_row hs 10 (by decide) (HB _ _ ha (by omega)) (h.mono (fun n a1 hr q => ?_))
    have r1 := pU32_ok ha hr
    refine I_rows hs (by decide) (by decide) (M_imp hs hps2 hl2 hN) (fun nl a z a' q1 q2 => by obtain ⟨x, a1, r, r2⟩ := bnd_ok q2; cases r2; exact pImp_ok q1 r) hps2 hl2 hN st (by omega) LS n (LS 1) LL a1 lc T X (by omega) (by omega) (by omega) (by omega) (by rw [up_id]; exact hR) ?_
    rw [repE_simple, wp_bnd]
    refine q.mono (fun L' a2 hr2 q2 => ?_)
    intro T' X' lc' e1 e2 e3
    exact q2 T' X' lc' e1 e2 e3 rfl rfl
  · rw [pSec_3, wp_bnd, pRowL, wp_bnd] at h
    show RN (a, .inl (100 + 11) :: st, l2 :: ps, none, rk, dc, lc, T, X, se, sta, dco)
    refine I_row hs 11 (by decide) (HB _ _ ha (by omega)) (h.mono (fun n a1 hr q => ?_))
    have r1 := pU32_ok ha hr
    refine I_rows hs (by decide) (by decide) (M_fun hs hps2 hl2 hN) (fun nl a z a' q1 q2 => by obtain ⟨x, a1, r, r2⟩ := bnd_ok q2; cases r2; exact pFun_ok q1 r) hps2 hl2 hN st (by omega) LS n (LS 2) LL a1 lc T X (by omega) (by omega) (by omega) (by omega) (by rw [up_id]; exact hR) ?_
    rw [repE_simple, wp_bnd]
    refine q.mono (fun L' a2 hr2 q2 => ?_)
    intro T' X' lc' e1 e2 e3
    exact q2 T' X' lc' e1 e2 e3 rfl rfl
  · rw [pSec_4, wp_bnd, pRowL, wp_bnd] at h
    show RN (a, .inl (100 + 7) :: st, l2 :: ps, none, rk, dc, lc, T, X, se, sta, dco)
    refine I_row hs 7 (by decide) (HB _ _ ha (by omega)) (h.mono (fun n a1 hr q => ?_))
    have r1 := pU32_ok ha hr
    refine I_rows hs (by decide) (by decide) (M_tab hs hps2 hl2 hN) (fun nl a z a' q1 q2 => by obtain ⟨x, a1, r, r2⟩ := bnd_ok q2; cases r2; exact pTab_ok r) hps2 hl2 hN st (by omega) LS n (LS 3) LL a1 lc T X (by omega) (by omega) (by omega) (by omega) (by rw [up_id]; exact hR) ?_
    rw [repE_simple, wp_bnd]
    refine q.mono (fun L' a2 hr2 q2 => ?_)
    intro T' X' lc' e1 e2 e3
    exact q2 T' X' lc' e1 e2 e3 rfl rfl
  · rw [pSec_5, wp_bnd, pRowL, wp_bnd] at h
    show RN (a, .inl (100 + 8) :: st, l2 :: ps, none, rk, dc, lc, T, X, se, sta, dco)
    refine I_row hs 8 (by decide) (HB _ _ ha (by omega)) (h.mono (fun n a1 hr q => ?_))
    have r1 := pU32_ok ha hr
    refine I_rows hs (by decide) (by decide) (M_mem hs hps2 hl2 hN) (fun nl a z a' q1 q2 => by obtain ⟨x, a1, r, r2⟩ := bnd_ok q2; cases r2; exact pMem_ok q1 r) hps2 hl2 hN st (by omega) LS n (LS 4) LL a1 lc T X (by omega) (by omega) (by omega) (by omega) (by rw [up_id]; exact hR) ?_
    rw [repE_simple, wp_bnd]
    refine q.mono (fun L' a2 hr2 q2 => ?_)
    intro T' X' lc' e1 e2 e3
    exact q2 T' X' lc' e1 e2 e3 rfl rfl
  · rw [pSec_6, wp_bnd, pRowL, wp_bnd] at h
    show RN (a, .inl (100 + 9) :: st, l2 :: ps, none, rk, dc, lc, T, X, se, sta, dco)
    refine I_row hs 9 (by decide) (HB _ _ ha (by omega)) (h.mono (fun n a1 hr q => ?_))
    have r1 := pU32_ok ha hr
    refine I_rows hs (by decide) (by decide) (M_own hs hps2 hl2 hN) (fun nl a z a' q1 q2 => by obtain ⟨x, a1, r, r2⟩ := bnd_ok q2; cases r2; exact pOwn_ok r) hps2 hl2 hN st (by omega) LS n (LS 5) LL a1 lc T X (by omega) (by omega) (by omega) (by omega) (by rw [up_id]; exact hR) ?_
    rw [repE_simple, wp_bnd]
    refine q.mono (fun L' a2 hr2 q2 => ?_)
    intro T' X' lc' e1 e2 e3
    exact q2 T' X' lc' e1 e2 e3 rfl rfl
  · rw [pSec_7, wp_bnd, pRowL, wp_bnd] at h
    show RN (a, .inl (100 + 12) :: st, l2 :: ps, none, rk, dc, lc, T, X, se, sta, dco)
    refine I_row hs 12 (by decide) (HB _ _ ha (by omega)) (h.mono (fun n a1 hr q => ?_))
    have r1 := pU32_ok ha hr
    refine I_rows hs (by decide) (by decide) (M_exp hs hps2 hl2 hN) (fun nl a z a' q1 q2 => by obtain ⟨x, a1, r, r2⟩ := bnd_ok q2; cases r2; exact pExp_ok q1 r) hps2 hl2 hN st (by omega) LS n (LS 6) LL a1 lc T X (by omega) (by omega) (by omega) (by omega) (by rw [up_id]; exact hR) ?_
    rw [repE_simple, wp_bnd]
    refine q.mono (fun L' a2 hr2 q2 => ?_)
    intro T' X' lc' e1 e2 e3
    exact q2 T' X' lc' e1 e2 e3 rfl rfl
  · rw [pSec_8, wp_bnd] at h
    show RN (a, .inl 26 :: st, l2 :: ps, none, rk, dc, lc, T, X, se, sta, dco)
    refine I_it hs 26 (HB _ _ ha (by omega)) (by decide) ?_
    rw [ms_26]
    refine RS_mb (h.mono (fun v a1 hr q => ?_))
    have r1 := pU32_ok ha hr
    exact q T X lc (by omega) (by omega) hR rfl rfl
  · rw [pSec_9, wp_bnd, pRowE, wp_bnd] at h
    show RN (a, .inl (100 + 13) :: st, l2 :: ps, none, rk, dc, lc, T, X, se, sta, dco)
    refine I_row hs 13 (by decide) (HB _ _ ha (by omega)) (h.mono (fun n a1 hr q => ?_))
    have r1 := pU32_ok ha hr
    refine I_rows hs (by decide) (by decide) (M_el hs hps2 hl2 hN hb9) (fun nl a z a' q1 q2 => pEl_ok hb9 q1 q2) hps2 hl2 hN st (by omega) LS n (LS 7) LL a1 lc T X (by omega) (by omega) (by omega) (by omega) (by rw [up_id]; exact hR) ?_
    refine q.mono (fun L' a2 hr2 q2 => ?_)
    intro T' X' lc' e1 e2 e3
    exact q2 T' X' lc' e1 e2 e3 rfl rfl
  · rw [pSec_10, wp_bnd, pRowE, wp_bnd] at h
    show RN (a, .inl (100 + 14) :: st, l2 :: ps, none, rk, dc, lc, T, X, se, sta, dco)
    refine I_row hs 14 (by decide) (HB _ _ ha (by omega)) (h.mono (fun n a1 hr q => ?_))
    have r1 := pU32_ok ha hr
    refine I_rows hs (by decide) (by decide) (M_body hs hps hl2 hN hb9) (fun nl a z a' q1 q2 => pBody_ok q1 q2) hps2 hl2 hN st (by omega) LS n (LS 8) LL a1 lc T X (by omega) (by omega) (by omega) (by omega) (by rw [up_id]; exact hR) ?_
    refine q.mono (fun L' a2 hr2 q2 => ?_)
    intro T' X' lc' e1 e2 e3
    exact q2 T' X' lc' e1 e2 e3 rfl rfl
  · rw [pSec_11, wp_bnd, pRowL, wp_bnd] at h
    show RN (a, .inl (100 + 15) :: st, l2 :: ps, none, rk, dc, lc, T, X, se, sta, dco)
    refine I_row hs 15 (by decide) (HB _ _ ha (by omega)) (h.mono (fun n a1 hr q => ?_))
    have r1 := pU32_ok ha hr
    refine I_rows hs (by decide) (by decide) (M_dat hs hps2 hl2 hN) (fun nl a z a' q1 q2 => by obtain ⟨x, a1, r, r2⟩ := bnd_ok q2; cases r2; exact pDat_ok q1 r) hps2 hl2 hN st (by omega) LS n (LS 9) LL a1 lc T X (by omega) (by omega) (by omega) (by omega) (by rw [up_id]; exact hR) ?_
    rw [repE_simple, wp_bnd]
    refine q.mono (fun L' a2 hr2 q2 => ?_)
    intro T' X' lc' e1 e2 e3
    exact q2 T' X' lc' e1 e2 e3 rfl rfl
  · rw [pSec_12, wp_bnd] at h
    show RN (a, .inl 27 :: st, l2 :: ps, none, rk, dc, lc, T, X, se, sta, dco)
    refine I_it hs 27 (HB _ _ ha (by omega)) (by decide) ?_
    rw [ms_27]
    refine RS_mb (h.mono (fun v a1 hr q => ?_))
    have r1 := pU32_ok ha hr
    exact q T X lc (by omega) (by omega) hR rfl rfl
/-- sections, up to the end -/
theorem run_mods (hs : SYS b N RF RN) (hb9 : ∀ i, b i < 256) (hN : N ≤ 2000) : ∀ (k : Nat) (LS : Nat → RL) (LL : List Int64) (sec : Nat) (sta dco : Int64) (dc : Bool) (rk a : Nat) (lc : Option (Nat × Nat)) (T : TL) (X : XL), a ≤ N → N - a < k → rk ≤ 12 → T.length + 8 ≤ a → X.length + 8 ≤ a → REL b N T X LS LL →
    wp RF (pMods b N k (LS, LL, sec, sta, dco, dc, rk) a) (fun S2 a' => ∀ (T' : TL) (X' : XL) (lc' : Option (Nat × Nat)), T'.length + 8 ≤ a' → X'.length + 8 ≤ a' → a' ≤ N → REL b N T' X' S2.1 S2.2.1 → RN (a', [], [N], none, S2.2.2.2.2.2.2, S2.2.2.2.2.2.1, lc', T', X', S2.2.2.1, S2.2.2.2.1, S2.2.2.2.2.1)) →
    RN (a, [.inl 23], [N], none, rk, dc, lc, T, X, sec, sta, dco) := by
  intro k
  induction k with
  | zero => intro LS LL sec sta dco dc rk a lc T X h1 h2; omega
  | succ k ih =>
    intro LS LL sec sta dco dc rk a lc T X ha hk hrk hT hX hR h
    refine (hs N a [] [] none rk dc lc T X sec sta dco ⟨ha, Nat.le_refl _, hN, by simp, by simp, by omega, by omega⟩).1 23 (by omega) (fun q => by omega) (fun _ => ⟨rfl, hrk⟩) ?_
    rw [ms_23]
    rw [pMods_S] at h
    by_cases c : a = N
    · rw [if_pos c]
      rw [if_neg (by omega)] at h
      exact h T X lc hT hX ha hR
    rw [if_neg c]
    rw [if_pos (by omega), wp_bnd] at h
    refine RS_mb (h.mono (fun id a1 hr q => ?_))
    have r1 := pId_ok hr
    rw [wp_bnd] at q
    refine RS_mb (q.mono (fun l2 a2 hr2 q2 => ?_))
    have r2 := pEnter_ok (by omega) hr2
    rw [wp_bnd] at q2
    refine run_sec hs hb9 hN (sec := sec) (by simp) (by omega) r1.2.2 (by omega) (by simp) (by omega) (by omega) hR (q2.mono (fun S2 a3 hr3 q3 => ?_))
    intro T' X' lc' e1 e2 e3 e4 e5
    rw [wp_bnd] at q3
    have h9 : a3 ≤ l2 := sec_le (by omega) hb9 hr3
    refine I_it hs 24 ⟨h9, by omega, hN, by simp, by simp, by omega, by omega⟩ (by decide) ?_
    rw [ms_24]
    refine RS_mb (q3.mono (fun _ a4 hr4 q4 => ?_))
    have r4 := pLeave_ok hr4
    obtain ⟨LS2, LL2, sec2, sta2, dco2, dc2, rk2⟩ := S2
    have e4 : sec2 = sec := e4
    have e5 : rk2 = nrk rk id := e5
    subst e4 e5
    exact ih LS2 LL2 (sec2 + 1) sta2 dco2 dc2 (nrk rk id) a4 lc' T' X' (by omega) (by omega) (nrk_le hrk r1.2.2) (by omega) (by omega) e3 q4
end R5
