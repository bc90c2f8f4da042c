
def seg (LL : List Int64) (nl : Nat) (it : List Int64) : Prop := nl + it.length ≤ LL.length ∧ ∀ i, i < it.length → LL.getD (nl + i) 0 = it.getD i 0
theorem seg.app {LL it l2 : List Int64} {nl : Nat} (h : seg LL nl it) : seg (LL ++ l2) nl it := by
  refine ⟨by rw [List.length_append]; have := h.1; omega, fun i hi => ?_⟩
  have := h.1
  rw [← h.2 i hi, List.getD_eq_getElem?_getD, List.getD_eq_getElem?_getD, List.getElem?_append_left (by omega)]
theorem seg.new {LL it : List Int64} : seg (LL ++ it) LL.length it := by
  refine ⟨by rw [List.length_append]; exact Nat.le_refl _, fun i hi => ?_⟩
  rw [List.getD_eq_getElem?_getD, List.getD_eq_getElem?_getD, List.getElem?_append_right (by omega), Nat.add_sub_cancel_left]
/-- the expressions of thing t -/
def exO (t : Nat) : XL → List (Nat × Nat)
  | [] => []
  | x :: r => if x.1 = t then exO t r ++ [(x.2.1, x.2.2.getD 0)] else exO t r
theorem exO_app (t : Nat) : ∀ (A B : XL), exO t (A ++ B) = exO t B ++ exO t A
  | [], B => by simp [exO]
  | x :: r, B => by
    show exO t (x :: (r ++ B)) = _
    simp only [exO]
    rw [exO_app t r B]
    by_cases h : x.1 = t
    · rw [if_pos h, if_pos h, List.append_assoc]
    · rw [if_neg h, if_neg h]
theorem exO_none {t : Nat} : ∀ {A : XL}, (∀ x ∈ A, ¬ x.1 = t) → exO t A = []
  | [], _ => rfl
  | x :: r, h => by
    simp only [exO]
    rw [if_neg (h x (List.mem_cons_self ..)), exO_none (fun y hy => h y (List.mem_cons_of_mem _ hy))]
/-- expressions of thing t, all of them ended -/
def OW (t : Nat) (X : XL) : Prop := ∀ x ∈ X, x.1 = t ∧ x.2.1 ≤ 2000 ∧ ∃ z : Nat, x.2.2 = some z ∧ z ≤ 2000
theorem OW.nil {t : Nat} : OW t [] := fun x hx => absurd hx (by simp)
theorem OW.one {t f z : Nat} (h1 : f ≤ 2000) (h2 : z ≤ 2000) : OW t [(t, f, some z)] := fun x hx => by rw [List.mem_singleton.mp hx]; exact ⟨rfl, h1, z, rfl, h2⟩
theorem OW.cons {t f z : Nat} {X : XL} (h : OW t X) (h1 : f ≤ 2000) (h2 : z ≤ 2000) : OW t ((t, f, some z) :: X) := fun x hx => (List.mem_cons.mp hx).elim (fun q => by rw [q]; exact ⟨rfl, h1, z, rfl, h2⟩) (fun q => h x q)
/-- the record of kind k that began at fr -/
def RP (b : Nat → Nat) (N k fr : Nat) (z : Nat → Int64) (ex : List (Nat × Nat)) (o : Option (Nat × Nat)) (LL : List Int64) : Prop := ∃ (lm : Nat) (dc : Bool) (a' : Nat), lm ≤ N ∧ fr ≤ lm ∧
  (k = 0 → pFT b lm fr = .inr (z, a')) ∧ (k = 1 → pImp b lm fr = .inr (z, a')) ∧ (k = 2 → pFun b lm fr = .inr (z, a')) ∧ (k = 3 → pTab b lm c_1 fr = .inr (z, a')) ∧ (k = 4 → pMem b lm c_1 fr = .inr (z, a')) ∧
  (k = 5 → ∃ (c0 : Nat → Int64) (a1 a2 : Nat), pGlo b lm c_1 fr = .inr (c0, a1) ∧ a2 ≤ lm ∧ z = vp_updL (vp_updL c0 4 (lN a1)) 5 (lN a2) ∧ ex = [(a1, a2)]) ∧
  (k = 6 → pExp b lm fr = .inr (z, a')) ∧
  (k = 7 → ∃ (m a1 : Nat) (c2 : Nat → Int64) (a2 t a3 n a4 : Nat) (it : List Int64) (nl x1 : Nat) (exs : List (Nat × Nat)), pNChoice b lm 7 fr = .inr (m, a1) ∧ pElA b lm dc m a1 = .inr (c2, a2) ∧ pElT b lm m a2 = .inr (t, a3) ∧ pU32 b lm a3 = .inr (n, a4) ∧ (if 4 ≤ m then repX b lm dc n [] a4 else repU b lm n [] a4) = .inr (it, a') ∧ z = vp_updL (vp_updL (vp_updL (vp_updL (vp_updL c2 1 (lN t)) 6 (elS m)) 3 (lN n)) 7 (lN nl)) 8 (lN n) ∧ seg LL nl it ∧ ex = (if m % 2 = 0 then [(x1, a2)] else []) ++ exs ∧ (m % 2 = 0 → c2 4 = lN x1 ∧ c2 5 = lN a2) ∧ (4 ≤ m → it = exs.map (fun e => lN e.1))) ∧
  (k = 8 → ∃ (l2 a1 n a2 : Nat) (it : List Int64) (s a3 a4 nl : Nat), pEnter b lm fr = .inr (l2, a1) ∧ pU32 b l2 a1 = .inr (n, a2) ∧ repLoc b l2 n [] 0 a2 = .inr ((it, s), a3) ∧ z = vp_updL (vp_updL (vp_updL (vp_updL (vp_updL (vp_updL c_1 0 (lN n)) 6 (lN nl)) 7 (lN (2 * n))) 1 (lN s)) 4 (lN a3)) 5 (lN a4) ∧ seg LL nl it ∧ ex = [(a3, a4)]) ∧
  (k = 9 → ∃ (m a1 : Nat), pNChoice b lm 2 fr = .inr (m, a1) ∧ (m = 1 → pDatB b lm (vp_updL (vp_updL c_1 0 0) 2 0) a1 = .inr (z, a')) ∧ (¬ m = 1 → ∃ (v a2 x2 : Nat), (m = 2 → pU32 b lm a1 = .inr (v, a2)) ∧ (¬ m = 2 → a2 = a1 ∧ v = 0) ∧ ex = [(a2, x2)] ∧ a2 ≤ lm ∧ x2 ≤ lm ∧ pDatB b lm (vp_updL (vp_updL (vp_updL (vp_updL c_1 0 1) 2 (lN v)) 4 (lN a2)) 5 (lN x2)) x2 = .inr (z, a'))) ∧
  (k = 10 → ∃ (nm : Nat × Nat) (a1 : Nat), pName b lm fr = .inr (nm, a1) ∧ z = vp_updL (vp_updL (up2 c_1 7 nm.1 nm.2) 3 (lN (lm - a1))) 6 (lN a1) ∧ o = some (a1, lm - a1))
theorem RP.app {b : Nat → Nat} {N k fr : Nat} {z : Nat → Int64} {ex : List (Nat × Nat)} {o : Option (Nat × Nat)} {LL l2 : List Int64} (h : RP b N k fr z ex o LL) : RP b N k fr z ex o (LL ++ l2) := by
  obtain ⟨lm, dc, a', h1, h2, h3, h4, h5, h6, h7, h8, h9, h10, h11, h12, h13⟩ := h
  refine ⟨lm, dc, a', h1, h2, h3, h4, h5, h6, h7, h8, h9, fun q => ?_, fun q => ?_, h12, h13⟩
  · obtain ⟨m, a1, c2, a2, t, a3, n, a4, it, nl, x1, exs, q1, q2, q3, q4, q5, q6, q7, q8⟩ := h10 q
    exact ⟨m, a1, c2, a2, t, a3, n, a4, it, nl, x1, exs, q1, q2, q3, q4, q5, q6, q7.app, q8⟩
  · obtain ⟨l3, a1, n, a2, it, s, a3, a4, nl, q1, q2, q3, q4, q5, q6⟩ := h11 q
    exact ⟨l3, a1, n, a2, it, s, a3, a4, nl, q1, q2, q3, q4, q5.app, q6⟩
/-- the things of kind k, by number -/
def ofK (k : Nat) : TL → List Nat
  | [] => []
  | x :: r => if x.1 = k then ofK k r ++ [r.length] else ofK k r
def thA : TL → Nat → Nat × Nat × Option (Nat × Nat)
  | [], _ => (0, 0, none)
  | x :: r, t => if t = r.length then x else thA r t
def REL (b : Nat → Nat) (N : Nat) (T : TL) (X : XL) (LS : Nat → RL) (LL : List Int64) : Prop :=
  (∀ x ∈ X, x.1 < T.length ∧ x.2.1 ≤ 2000 ∧ ∃ z : Nat, x.2.2 = some z ∧ z ≤ 2000) ∧ (∀ x ∈ T, x.1 < 11) ∧ ∀ k, k < 11 → (ofK k T).length = (LS k).length ∧ ∀ i, i < (LS k).length → ∃ t fr o, (ofK k T)[i]? = some t ∧ t < T.length ∧ thA T t = (k, fr, o) ∧ RP b N k fr ((LS k).getD i (0, c_1)).2 (exO t X) o LL
theorem REL.nil {b : Nat → Nat} {N : Nat} : REL b N [] [] (fun _ => []) [] := ⟨fun x h => absurd h (by simp), fun x h => absurd h (by simp), fun k hk => ⟨rfl, fun i h => absurd h (Nat.not_lt_zero i)⟩⟩
theorem REL.add {b : Nat → Nat} {N : Nat} {T : TL} {X Xn : XL} {LS : Nat → RL} {LL it : List Int64} {k fr a : Nat} {o : Option (Nat × Nat)} {z : Nat → Int64} (h : REL b N T X LS LL) (hk : k < 11) (hX : OW T.length Xn) (hR : RP b N k fr z (exO T.length Xn) o (LL ++ it)) :
    REL b N ((k, fr, o) :: T) (Xn ++ X) (va_up LS k (LS k ++ [(a, z)])) (LL ++ it) := by
  obtain ⟨h1, h0, h2⟩ := h
  refine ⟨fun x hx => ?_, fun x hx => ?_, fun k' hk' => ?_⟩
  · rcases List.mem_append.mp hx with q | q
    · have := hX x q; exact ⟨by rw [this.1]; simp, this.2⟩
    · have := h1 x q; exact ⟨by simp; omega, this.2⟩
  · rcases List.mem_cons.mp hx with q | q
    · rw [q]; exact hk
    · exact h0 x q
  obtain ⟨e1, e2⟩ := h2 k' hk'
  have hold : ∀ i, i < (LS k').length → ∃ t fr' o', (ofK k' T)[i]? = some t ∧ t < ((k, fr, o) :: T).length ∧ thA ((k, fr, o) :: T) t = (k', fr', o') ∧ RP b N k' fr' ((LS k').getD i (0, c_1)).2 (exO t (Xn ++ X)) o' (LL ++ it) := by
    intro i hi
    obtain ⟨t, fr', o', q1, q2, q3, q4⟩ := e2 i hi
    refine ⟨t, fr', o', q1, by simp; omega, ?_, ?_⟩
    · show (if t = T.length then _ else thA T t) = _
      rw [if_neg (by omega)]
      exact q3
    · rw [exO_app, exO_none (A := Xn) (fun x hx r => by rw [(hX x hx).1] at r; omega), List.append_nil]
      exact q4.app
  by_cases e : k' = k
  · subst e
    rw [show va_up LS k' (LS k' ++ [(a, z)]) k' = LS k' ++ [(a, z)] from va_up_self ..]
    have ho : ofK k' ((k', fr, o) :: T) = ofK k' T ++ [T.length] := if_pos rfl
    rw [ho]
    refine ⟨by rw [List.length_append, List.length_append, e1]; rfl, fun i hi => ?_⟩
    rw [List.length_append, List.length_singleton] at hi
    by_cases q : i < (LS k').length
    · obtain ⟨t, fr', o', q1, q2, q3, q4⟩ := hold i q
      refine ⟨t, fr', o', by rw [List.getElem?_append_left (by rw [e1]; exact q)]; exact q1, q2, q3, ?_⟩
      rw [List.getD_eq_getElem?_getD, List.getElem?_append_left q, ← List.getD_eq_getElem?_getD]
      exact q4
    · have ei : i = (LS k').length := by omega
      subst ei
      refine ⟨T.length, fr, o, by rw [← e1, List.getElem?_append_right (Nat.le_refl _)]; simp, by simp, ?_, ?_⟩
      · show (if T.length = T.length then _ else _) = _
        rw [if_pos rfl]
      · rw [List.getD_eq_getElem?_getD, List.getElem?_append_right (Nat.le_refl _)]
        rw [exO_app, exO_none (A := X) (fun x hx r => by have := (h1 x hx).1; omega), List.nil_append]
        simpa using hR
  · rw [show va_up LS k (LS k ++ [(a, z)]) k' = LS k' from va_up_ne _ _ e]
    have ho : ofK k' ((k, fr, o) :: T) = ofK k' T := if_neg (fun q => e q.symm)
    rw [ho]
    exact ⟨e1, hold⟩
section REC
variable {b : Nat → Nat} {N : Nat} {RF : Nat → Nat → Prop} {RN : CF → Prop}
variable {lm a : Nat} {ps : List Nat} {la : Nat} {co : Bool} {se : Nat} {sta dco : Int64}
def ITM (b : Nat → Nat) (N : Nat) (RF : Nat → Nat → Prop) (RN : CF → Prop) (lm : Nat) (ps : List Nat) (la : Nat) (co : Bool) (se : Nat) (sta dco : Int64) (w k : Nat) (f : Nat → Nat → PR ((Nat → Int64) × List Int64)) : Prop :=
  ∀ (a : Nat) (st : List IT) (lc : Option (Nat × Nat)) (T : TL) (X : XL) (nl : Nat), a ≤ lm → st.length ≤ 200 → T.length + 8 ≤ a → X.length + 8 ≤ a →
    wp RF (f nl a) (fun z a' => ∀ (o : Option (Nat × Nat)) (Xn : XL) (lc' : Option (Nat × Nat)), OW T.length Xn → Xn.length + a ≤ a' → (∀ LL, seg LL nl z.2 → RP b N k a z.1 (exO T.length Xn) o LL) → RN (a', st, lm :: ps, none, la, co, lc', (k, a, o) :: T, Xn ++ X, se, sta, dco)) →
    RN (a, .inl w :: st, lm :: ps, none, la, co, lc, T, X, se, sta, dco)
theorem ITM_simple {w k : Nat} {f0 : Nat → PR (Nat → Int64)} (hok : ∀ a z a', a ≤ lm → f0 a = .inr (z, a') → a' ≤ lm ∧ a < a') (hRP : ∀ a a' z ex o LL, a ≤ lm → f0 a = .inr (z, a') → RP b N k a z ex o LL)
    (hrun : ∀ (a : Nat) (st : List IT) (lc : Option (Nat × Nat)) (T : TL) (X : XL), a ≤ lm → st.length ≤ 200 → T.length + 8 ≤ a → X.length + 8 ≤ a → wp RF (f0 a) (fun _ a' => RN (a', st, lm :: ps, none, la, co, lc, (k, a, none) :: T, X, se, sta, dco)) → RN (a, .inl w :: st, lm :: ps, none, la, co, lc, T, X, se, sta, dco)) :
    ITM b N RF RN lm ps la co se sta dco w k (fun _ a => bnd (f0 a) (fun z a1 => .inr ((z, []), a1))) := by
  intro a st lc T X nl h1 h2 h3 h4 h
  rw [wp_bnd] at h
  refine hrun a st lc T X h1 h2 h3 h4 (h.mono (fun z a' hr q => ?_))
  have := hok _ _ _ h1 hr
  exact q none [] lc OW.nil (by simp; omega) (fun LL _ => hRP _ _ _ _ _ _ h1 hr)
/-- a row of records -/
theorem I_rows (hs : SYS b N RF RN) {w k : Nat} (hw : w < 100) (hk : k < 11) {f : Nat → Nat → PR ((Nat → Int64) × List Int64)} (hI : ITM b N RF RN lm ps la co se sta dco w k f) (hok : ∀ nl a z a', a ≤ lm → f nl a = .inr (z, a') → a' ≤ lm ∧ a < a') (hps : ps.length ≤ 2) (hlm : lm ≤ N) (hN : N ≤ 2000) (st : List IT) (hst : st.length ≤ 190) (LS : Nat → RL) :
    ∀ (n : Nat) (L : RL) (LL : List Int64) (a : Nat) (lc : Option (Nat × Nat)) (T : TL) (X : XL), a ≤ lm → n < 4294967296 → T.length + 8 ≤ a → X.length + 8 ≤ a → REL b N T X (va_up LS k L) LL →
      wp RF (repE f n L LL a) (fun z a' => ∀ (T' : TL) (X' : XL) (lc' : Option (Nat × Nat)), T'.length + 8 ≤ a' → X'.length + 8 ≤ a' → REL b N T' X' (va_up LS k z.1) z.2 → RN (a', st, lm :: ps, none, la, co, lc', T', X', se, sta, dco)) →
      RN (a, (if 0 < n then [.inr (100 + w, n)] else []) ++ st, lm :: ps, none, la, co, lc, T, X, se, sta, dco) := by
  intro n
  induction n with
  | zero => intro L LL a lc T X ha hn hT hX hR h; exact h T X lc hT hX hR
  | succ n ih =>
    intro L LL a lc T X ha hn hT hX hR h
    rw [if_pos (by omega)]
    show RN (a, .inr (100 + w, n + 1) :: st, _)
    refine I_rep hs w (n + 1) hw ⟨by omega, hn⟩ ⟨ha, hlm, hN, hps, by omega, by omega, by omega⟩ ?_
    rw [repE, wp_bnd] at h
    have hgo : ∀ (z : (Nat → Int64) × List Int64) (a1 : Nat), f LL.length a = .inr (z, a1) → wp RF (repE f n (L ++ [(a, z.1)]) (LL ++ z.2) a1) (fun z a' => ∀ (T' : TL) (X' : XL) (lc' : Option (Nat × Nat)), T'.length + 8 ≤ a' → X'.length + 8 ≤ a' → REL b N T' X' (va_up LS k z.1) z.2 → RN (a', st, lm :: ps, none, la, co, lc', T', X', se, sta, dco)) →
        ∀ (o : Option (Nat × Nat)) (Xn : XL) (lc' : Option (Nat × Nat)), OW T.length Xn → Xn.length + a ≤ a1 → (∀ LL', seg LL' LL.length z.2 → RP b N k a z.1 (exO T.length Xn) o LL') → RN (a1, (if 0 < n then [.inr (100 + w, n)] else []) ++ st, lm :: ps, none, la, co, lc', (k, a, o) :: T, Xn ++ X, se, sta, dco) := by
      intro z a1 hr hz o Xn lc' q1 q2 q3
      have q4 := hok _ _ _ _ ha hr
      refine ih _ _ a1 lc' _ _ q4.1 (by omega) (by simp; omega) (by rw [List.length_append]; omega) ?_ hz
      have q5 := hR.add (k := k) (a := a) (it := z.2) hk q1 (q3 _ seg.new)
      rw [show va_up LS k L k = L from va_up_self ..] at q5
      have e : va_up (va_up LS k L) k (L ++ [(a, z.1)]) = va_up LS k (L ++ [(a, z.1)]) := by
        funext j
        by_cases ej : j = k
        · subst ej; rw [va_up_self, va_up_self]
        · rw [va_up_ne _ _ ej, va_up_ne _ _ ej, va_up_ne _ _ ej]
      rw [e] at q5
      exact q5
    by_cases q : 0 < n
    · rw [if_pos (by omega)]
      refine hI a _ lc T X LL.length ha (by simp; omega) hT hX (h.mono (fun z a1 hr hz => ?_))
      have := hgo z a1 hr hz
      rw [if_pos q] at this
      exact this
    · rw [if_neg (by omega)]
      refine hI a _ lc T X LL.length ha (by simp; omega) hT hX (h.mono (fun z a1 hr hz => ?_))
      have := hgo z a1 hr hz
      rw [if_neg q] at this
      exact this
theorem repE_simple (f0 : Nat → PR (Nat → Int64)) : ∀ (n : Nat) (L : RL) (LL : List Int64) (a : Nat), repE (fun _ a => bnd (f0 a) (fun z a1 => .inr ((z, []), a1))) n L LL a = bnd (repL f0 n L a) (fun L' a1 => .inr ((L', LL), a1)) := by
  intro n
  induction n with
  | zero => intro L LL a; rfl
  | succ n ih =>
    intro L LL a
    rw [repE, repL, bnd_bnd, bnd_bnd]
    congr 1
    funext z a1
    rw [bnd_I, ih, List.append_nil]
end REC
