
/-! THE COURSE: from the predicate at the loop's head (RN: it goes on, RF: it has stopped), item by item, to the reading as functions -/
def RS (RF : Nat → Nat → Prop) (RN : CF → Prop) (r : MRes) : Prop := match r with
  | .inl x => RF x.1 x.2
  | .inr c => RN c
def wp {α : Type} (RF : Nat → Nat → Prop) (r : PR α) (k : α → Nat → Prop) : Prop := match r with
  | .inl x => RF x.1 x.2
  | .inr (v, a) => k v a
theorem wp_bnd {α β : Type} {RF : Nat → Nat → Prop} {r : PR α} {f : α → Nat → PR β} {k : β → Nat → Prop} : wp RF (bnd r f) k = wp RF r (fun v a => wp RF (f v a) k) := by
  cases r with
  | inl x => rfl
  | inr x => rfl
theorem wp_I {α : Type} {RF : Nat → Nat → Prop} {v : α} {a : Nat} {k : α → Nat → Prop} : wp RF (.inr (v, a)) k = k v a := rfl
theorem wp_L {α : Type} {RF : Nat → Nat → Prop} {f q : Nat} {k : α → Nat → Prop} : wp RF (.inl (f, q)) k = RF f q := rfl
theorem wp.mono {α : Type} {RF : Nat → Nat → Prop} {r : PR α} {k k' : α → Nat → Prop} (h : wp RF r k) (h2 : ∀ v a, r = .inr (v, a) → k v a → k' v a) : wp RF r k' := by
  cases r with
  | inl x => exact h
  | inr x => exact h2 x.1 x.2 rfl h
theorem RS_mb {α : Type} {RF : Nat → Nat → Prop} {RN : CF → Prop} {r : PR α} {k : α → Nat → MRes} (h : wp RF r (fun v a => RS RF RN (k v a))) : RS RF RN (mb r k) := by
  cases r with
  | inl x => exact h
  | inr x => exact h
abbrev MM : Type := List Nat × Option (Nat × (Nat → Bool)) × Nat × Bool × Option (Nat × Nat) × TL × XL × Nat × Int64 × Int64
def BD (N lm a : Nat) (st : List IT) (ps : List Nat) (T : TL) (X : XL) : Prop := a ≤ lm ∧ lm ≤ N ∧ N ≤ 2000 ∧ ps.length ≤ 2 ∧ st.length ≤ 300 ∧ T.length < 2000 ∧ X.length < 2000
def SYS (b : Nat → Nat) (N : Nat) (RF : Nat → Nat → Prop) (RN : CF → Prop) : Prop :=
  ∀ (lm a : Nat) (st : List IT) (ps : List Nat) (bl : Option (Nat × (Nat → Bool))) (la : Nat) (co : Bool) (lc : Option (Nat × Nat)) (T : TL) (X : XL) (se : Nat) (sta dco : Int64), BD N lm a st ps T X →
  (∀ w, (1 ≤ w ∧ w ≤ 28 ∧ ¬ w = 21) → (w = 16 ∨ w = 25 → 1 ≤ T.length) → (w = 23 → ps = [] ∧ la ≤ 12) → RS RF RN (mStep b lm a st ps bl la co lc T X se sta dco w) → RN (a, .inl w :: st, lm :: ps, bl, la, co, lc, T, X, se, sta, dco)) ∧
  (∀ d E, bl = some (d, E) → d < 2000 → 1 ≤ X.length → RS RF RN (mIns b lm a st ps la co lc T X se sta dco d E) → RN (a, .inl 21 :: st, lm :: ps, bl, la, co, lc, T, X, se, sta, dco)) ∧
  (∀ lo lA, lc = some (lo, lA) → lo < 2 ^ 60 → RS RF RN (mEnd lm a st ps bl la co T X se sta dco lo lA) → RN (a, .inl 29 :: st, lm :: ps, bl, la, co, lc, T, X, se, sta, dco)) ∧
  (∀ w, (100 ≤ w ∧ w < 200) → RS RF RN (mRow b lm a st ps bl la co lc T X se sta dco w) → RN (a, .inl w :: st, lm :: ps, bl, la, co, lc, T, X, se, sta, dco)) ∧
  (∀ w n, w < 100 → (1 ≤ n ∧ n < 4294967296) → RS RF RN (mRep lm a st ps bl la co lc T X se sta dco w n) → RN (a, .inr (100 + w, n) :: st, lm :: ps, bl, la, co, lc, T, X, se, sta, dco))
section RUN
variable {b : Nat → Nat} {N : Nat} {RF : Nat → Nat → Prop} {RN : CF → Prop}
variable {lm a : Nat} {st : List IT} {ps : List Nat} {bl : Option (Nat × (Nat → Bool))} {la : Nat} {co : Bool} {lc : Option (Nat × Nat)} {T : TL} {X : XL} {se : Nat} {sta dco : Int64}
theorem I_it (hs : SYS b N RF RN) (w : Nat) (hB : BD N lm a st ps T X) (h1 : 1 ≤ w ∧ w ≤ 28 ∧ ¬ w = 21 ∧ ¬ w = 16 ∧ ¬ w = 25 ∧ ¬ w = 23) (h : RS RF RN (mStep b lm a st ps bl la co lc T X se sta dco w)) : RN (a, .inl w :: st, lm :: ps, bl, la, co, lc, T, X, se, sta, dco) :=
  (hs lm a st ps bl la co lc T X se sta dco hB).1 w (by omega) (fun q => by omega) (fun q => by omega) h
theorem I_1 (hs : SYS b N RF RN) (hB : BD N lm a st ps T X) (h : wp RF (pU32 b lm a) (fun _ a1 => RN (a1, st, lm :: ps, bl, la, co, lc, T, X, se, sta, dco))) : RN (a, .inl 1 :: st, lm :: ps, bl, la, co, lc, T, X, se, sta, dco) := by
  refine I_it hs 1 hB (by decide) ?_
  rw [ms_1]
  exact RS_mb h
theorem I_2 (hs : SYS b N RF RN) (hB : BD N lm a st ps T X) (h : wp RF (pName b lm a) (fun _ a1 => RN (a1, st, lm :: ps, bl, la, co, lc, T, X, se, sta, dco))) : RN (a, .inl 2 :: st, lm :: ps, bl, la, co, lc, T, X, se, sta, dco) := by
  refine I_it hs 2 hB (by decide) ?_
  rw [ms_2]
  exact RS_mb h
theorem I_3 (hs : SYS b N RF RN) (hB : BD N lm a st ps T X) (h : wp RF (pType tVal b lm a) (fun _ a1 => RN (a1, st, lm :: ps, bl, la, co, lc, T, X, se, sta, dco))) : RN (a, .inl 3 :: st, lm :: ps, bl, la, co, lc, T, X, se, sta, dco) := by
  refine I_it hs 3 hB (by decide) ?_
  rw [ms_3]
  exact RS_mb h
theorem I_4 (hs : SYS b N RF RN) (hB : BD N lm a st ps T X) (h : wp RF (pType tRef b lm a) (fun _ a1 => RN (a1, st, lm :: ps, bl, la, co, lc, T, X, se, sta, dco))) : RN (a, .inl 4 :: st, lm :: ps, bl, la, co, lc, T, X, se, sta, dco) := by
  refine I_it hs 4 hB (by decide) ?_
  rw [ms_4]
  exact RS_mb h
theorem I_18 (hs : SYS b N RF RN) (hB : BD N lm a st ps T X) (h : wp RF (pChoice b lm 0 a) (fun _ a1 => RN (a1, st, lm :: ps, bl, la, co, lc, T, X, se, sta, dco))) : RN (a, .inl 18 :: st, lm :: ps, bl, la, co, lc, T, X, se, sta, dco) := by
  refine I_it hs 18 hB (by decide) ?_
  rw [ms_18]
  exact RS_mb h
theorem I_19 (hs : SYS b N RF RN) (hB : BD N lm a st ps T X) (h : wp RF (pChoice b lm 1 a) (fun _ a1 => RN (a1, st, lm :: ps, bl, la, co, lc, T, X, se, sta, dco))) : RN (a, .inl 19 :: st, lm :: ps, bl, la, co, lc, T, X, se, sta, dco) := by
  refine I_it hs 19 hB (by decide) ?_
  rw [ms_19]
  exact RS_mb h
theorem I_u32p (hs : SYS b N RF RN) (hB : BD N lm a st ps T X) (h : wp RF (pU32 b lm a) (fun _ a1 => RN (a1, st, lm :: ps, bl, la, co, lc, T, X, se, sta, dco))) : RN (a, .inl 1 :: st, lm :: ps, bl, la, co, lc, T, X, se, sta, dco) := I_1 hs hB h
theorem I_row (hs : SYS b N RF RN) (w : Nat) (hw : w < 100) (hB : BD N lm a st ps T X) (h : wp RF (pU32 b lm a) (fun n a1 => RN (a1, (if 0 < n then [.inr (100 + w, n)] else []) ++ st, lm :: ps, bl, la, co, lc, T, X, se, sta, dco))) : RN (a, .inl (100 + w) :: st, lm :: ps, bl, la, co, lc, T, X, se, sta, dco) :=
  (hs lm a st ps bl la co lc T X se sta dco hB).2.2.2.1 (100 + w) (by omega) (RS_mb h)
theorem I_rep (hs : SYS b N RF RN) (w n : Nat) (hw : w < 100) (hn : 1 ≤ n ∧ n < 4294967296) (hB : BD N lm a st ps T X) (h : RN (a, .inl w :: ((if 1 < n then [.inr (100 + w, n - 1)] else []) ++ st), lm :: ps, bl, la, co, lc, T, X, se, sta, dco)) : RN (a, .inr (100 + w, n) :: st, lm :: ps, bl, la, co, lc, T, X, se, sta, dco) :=
  (hs lm a st ps bl la co lc T X se sta dco hB).2.2.2.2 w n hw hn h
/-- a plain item so many times -/
theorem I_reps (hs : SYS b N RF RN) {α : Type} (w : Nat) (hw : w < 100) (f : Nat → PR α) (hf : ∀ a v a', a ≤ lm → f a = .inr (v, a') → a' ≤ lm ∧ a < a') (hps : ps.length ≤ 2) (hlm : lm ≤ N) (hN : N ≤ 2000) (hT : T.length < 2000) (hX : X.length < 2000)
    (hi : ∀ (a : Nat) (st : List IT), a ≤ lm → st.length ≤ 300 → wp RF (f a) (fun _ a1 => RN (a1, st, lm :: ps, bl, la, co, lc, T, X, se, sta, dco)) → RN (a, .inl w :: st, lm :: ps, bl, la, co, lc, T, X, se, sta, dco)) (st : List IT) (hst : st.length ≤ 290) :
    ∀ (n a : Nat), a ≤ lm → n < 4294967296 → wp RF (rep f n a) (fun _ a1 => RN (a1, st, lm :: ps, bl, la, co, lc, T, X, se, sta, dco)) → RN (a, (if 0 < n then [.inr (100 + w, n)] else []) ++ st, lm :: ps, bl, la, co, lc, T, X, se, sta, dco) := by
  intro n
  induction n with
  | zero => intro a ha hn h; exact h
  | succ n ih =>
    intro a ha hn h
    rw [if_pos (by omega)]
    show RN (a, .inr (100 + w, n + 1) :: st, lm :: ps, bl, la, co, lc, T, X, se, sta, dco)
    refine I_rep hs w (n + 1) hw ⟨by omega, hn⟩ ⟨ha, hlm, hN, hps, by omega, hT, hX⟩ ?_
    rw [rep, wp_bnd] at h
    by_cases q : 0 < n
    · rw [if_pos (by omega)]
      refine hi a _ ha (by simp; omega) (h.mono (fun v a1 hr h1 => ?_))
      have := ih a1 (hf _ _ _ ha hr).1 (by omega) h1
      rw [if_pos q] at this
      exact this
    · have e : n = 0 := by omega
      subst e
      rw [if_neg (by omega)]
      exact hi a _ ha (by simp; omega) (h.mono (fun v a1 hr h1 => h1))
theorem rep_last {α : Type} (f : Nat → PR α) : ∀ (n a : Nat), rep f (n + 1) a = bnd (rep f n a) (fun _ a1 => bnd (f a1) (fun _ a2 => .inr ((), a2))) := by
  intro n
  induction n with
  | zero => intro a; rw [rep, rep, bnd_I]; rfl
  | succ n ih =>
    intro a
    rw [rep, rep, bnd_bnd]
    congr 1
    funext v a1
    exact ih a1
/-- what stands behind an instruction -/
theorem I_shape (hs : SYS b N RF RN) (hB : BD N lm a st ps T X) (hst : st.length ≤ 280) (hlm : lm ≤ N) (sh : Nat) (hsh : sh ≤ 13) (bg : Nat) (d : Nat) (E : Nat → Bool) (h : wp RF (pShape b lm bg sh a) (fun _ a1 => RN (a1, .inl 21 :: st, lm :: ps, some (d, E), la, co, lc, T, X, se, sta, dco))) :
    RS RF RN (mSh b lm st ps la co lc T X se sta dco d E bg sh a) := by
  obtain ⟨h1, h2, h3, h4, h5, h6, h7⟩ := hB
  have HB : ∀ (a' : Nat) (k : List IT), a' ≤ lm → k.length ≤ 300 → BD N lm a' k ps T X := fun a' k q1 q2 => ⟨q1, h2, h3, h4, q2, h6, h7⟩
  have hu : ∀ {a v a' : Nat}, a ≤ lm → pU32 b lm a = .inr (v, a') → a' ≤ lm := fun q r => (pU32_ok q r).1
  rcases (show sh = 0 ∨ sh = 1 ∨ sh = 2 ∨ sh = 3 ∨ sh = 4 ∨ sh = 5 ∨ sh = 6 ∨ sh = 7 ∨ sh = 8 ∨ sh = 9 ∨ sh = 10 ∨ sh = 11 ∨ sh = 12 ∨ sh = 13 by omega) with rfl | rfl | rfl | rfl | rfl | rfl | rfl | rfl | rfl | rfl | rfl | rfl | rfl | rfl
  · exact h
  · exact h
  · have h : wp RF (bnd (pU32 b lm a) (fun _ a1 => .inr ((), a1))) _ := h
    rw [wp_bnd] at h
    show RN (a, .inl 1 :: .inl 21 :: st, lm :: ps, some (d, E), la, co, lc, T, X, se, sta, dco)
    exact I_1 hs (HB _ _ h1 (by (try simp only [List.length_cons, List.length_append, List.length_nil]); omega)) h
  · have h : wp RF (bnd (pU32 b lm a) (fun _ a1 => bnd (pU32 b lm a1) (fun _ a2 => .inr ((), a2)))) _ := h
    rw [wp_bnd] at h
    show RN (a, .inl 1 :: .inl 1 :: .inl 21 :: st, lm :: ps, some (d, E), la, co, lc, T, X, se, sta, dco)
    refine I_1 hs (HB _ _ h1 (by (try simp only [List.length_cons, List.length_append, List.length_nil]); omega)) (h.mono (fun v a1 hr q => ?_))
    rw [wp_bnd] at q
    show RN (a1, .inl 1 :: .inl 21 :: st, lm :: ps, some (d, E), la, co, lc, T, X, se, sta, dco)
    exact I_1 hs (HB _ _ (hu h1 hr) (by (try simp only [List.length_cons, List.length_append, List.length_nil]); omega)) q
  · have h : wp RF (bnd (pU32 b lm a) (fun n a1 => rep (pU32 b lm) (n + 1) a1)) _ := h
    rw [wp_bnd] at h
    show RN (a, .inl 101 :: .inl 1 :: .inl 21 :: st, lm :: ps, some (d, E), la, co, lc, T, X, se, sta, dco)
    refine I_row hs 1 (by decide) (HB _ _ h1 (by (try simp only [List.length_cons, List.length_append, List.length_nil]); omega)) (h.mono (fun n a1 hr q => ?_))
    rw [rep_last, wp_bnd] at q
    refine I_reps hs 1 (by decide) (pU32 b lm) (fun a v a' r1 r2 => ⟨(pU32_ok r1 r2).1, (pU32_ok r1 r2).2.1⟩) h4 h2 h3 h6 h7 (fun a k r1 r2 r3 => I_1 hs (HB _ _ r1 r2) r3) _ (by (try simp only [List.length_cons, List.length_append, List.length_nil]); omega) n a1 (hu h1 hr) (pU32_ok h1 hr).2.2 (q.mono (fun _ a2 hr2 q2 => ?_))
    rw [wp_bnd] at q2
    exact I_1 hs (HB _ _ (rep_ok (fun a v a' r1 r2 => ⟨(pU32_ok r1 r2).1, (pU32_ok r1 r2).2.1⟩) _ _ _ (hu h1 hr) hr2).1 (by (try simp only [List.length_cons, List.length_append, List.length_nil]); omega)) q2
  · have h : wp RF (bnd (pU32 b lm a) (fun n a1 => rep (pType tVal b lm) n a1)) _ := h
    rw [wp_bnd] at h
    show RN (a, .inl 103 :: .inl 21 :: st, lm :: ps, some (d, E), la, co, lc, T, X, se, sta, dco)
    refine I_row hs 3 (by decide) (HB _ _ h1 (by (try simp only [List.length_cons, List.length_append, List.length_nil]); omega)) (h.mono (fun n a1 hr q => ?_))
    exact I_reps hs 3 (by decide) (pType tVal b lm) (fun a v a' r1 r2 => ⟨(pType_ok r2).1, (pType_ok r2).2.1⟩) h4 h2 h3 h6 h7 (fun a k r1 r2 r3 => I_3 hs (HB _ _ r1 r2) r3) _ (by (try simp only [List.length_cons, List.length_append, List.length_nil]); omega) n a1 (hu h1 hr) (pU32_ok h1 hr).2.2 q
  · have h : wp RF (bnd (pChoice b lm 0 a) (fun _ a1 => .inr ((), a1))) _ := h
    rw [wp_bnd] at h
    show RN (a, .inl 18 :: .inl 21 :: st, lm :: ps, some (d, E), la, co, lc, T, X, se, sta, dco)
    exact I_18 hs (HB _ _ h1 (by (try simp only [List.length_cons, List.length_append, List.length_nil]); omega)) h
  · have h : wp RF (bnd (pChoice b lm 0 a) (fun _ a1 => bnd (pChoice b lm 0 a1) (fun _ a2 => .inr ((), a2)))) _ := h
    rw [wp_bnd] at h
    show RN (a, .inl 18 :: .inl 18 :: .inl 21 :: st, lm :: ps, some (d, E), la, co, lc, T, X, se, sta, dco)
    refine I_18 hs (HB _ _ h1 (by (try simp only [List.length_cons, List.length_append, List.length_nil]); omega)) (h.mono (fun v a1 hr q => ?_))
    rw [wp_bnd] at q
    show RN (a1, .inl 18 :: .inl 21 :: st, lm :: ps, some (d, E), la, co, lc, T, X, se, sta, dco)
    exact I_18 hs (HB _ _ (pChoice_ok hr).1 (by (try simp only [List.length_cons, List.length_append, List.length_nil]); omega)) q
  · have h : wp RF (bnd (pU32 b lm a) (fun _ a1 => bnd (pChoice b lm 0 a1) (fun _ a2 => .inr ((), a2)))) _ := h
    rw [wp_bnd] at h
    show RN (a, .inl 1 :: .inl 18 :: .inl 21 :: st, lm :: ps, some (d, E), la, co, lc, T, X, se, sta, dco)
    refine I_1 hs (HB _ _ h1 (by (try simp only [List.length_cons, List.length_append, List.length_nil]); omega)) (h.mono (fun v a1 hr q => ?_))
    rw [wp_bnd] at q
    show RN (a1, .inl 18 :: .inl 21 :: st, lm :: ps, some (d, E), la, co, lc, T, X, se, sta, dco)
    exact I_18 hs (HB _ _ (hu h1 hr) (by (try simp only [List.length_cons, List.length_append, List.length_nil]); omega)) q
  · have h : wp RF (bnd (pS32 b lm a) (fun _ a1 => .inr ((), a1))) _ := h
    rw [wp_bnd] at h
    exact RS_mb h
  · have h : wp RF (bnd (pS64 b lm a) (fun _ a1 => .inr ((), a1))) _ := h
    rw [wp_bnd] at h
    exact RS_mb h
  · exact RS_mb (show wp RF (pSkip lm 4 a) _ from h)
  · exact RS_mb (show wp RF (pSkip lm 8 a) _ from h)
  · have h : wp RF (bnd (pType tRef b lm a) (fun _ a1 => .inr ((), a1))) _ := h
    rw [wp_bnd] at h
    show RN (a, .inl 4 :: .inl 21 :: st, lm :: ps, some (d, E), la, co, lc, T, X, se, sta, dco)
    exact I_4 hs (HB _ _ h1 (by (try simp only [List.length_cons, List.length_append, List.length_nil]); omega)) h
/-- an expression, from one of its instructions on -/
theorem I_ins (hs : SYS b N RF RN) (hps : ps.length ≤ 2) (hlm : lm ≤ N) (hN : N ≤ 2000) (hT : T.length < 2000) (hX : X.length + 1 < 2000) (hst : st.length ≤ 270) (o f0 : Nat) : ∀ (k d : Nat) (E : Nat → Bool) (a : Nat), a ≤ lm → lm - a < k → d < a → wp RF (pExprG b lm co k d E a) (fun _ a1 => RN (a1, st, lm :: ps, none, la, co, lc, T, (o, f0, some a1) :: X, se, sta, dco)) → RN (a, .inl 21 :: st, lm :: ps, some (d, E), la, co, lc, T, (o, f0, none) :: X, se, sta, dco) := by
  intro k
  induction k with
  | zero => intro d E a ha hk; omega
  | succ k ih =>
    intro d E a ha hk hd h
    have HB : ∀ (a' : Nat) (k : List IT), a' ≤ lm → k.length ≤ 300 → BD N lm a' k ps T ((o, f0, none) :: X) := fun a' k q1 q2 => ⟨q1, hlm, hN, hps, q2, hT, by simp; omega⟩
    by_cases hal : a < lm
    case neg =>
      have hn : pNext b lm a = .inl (1, lm) := by rw [pNext, if_neg hal]
      refine (hs lm a st ps (some (d, E)) la co lc T ((o, f0, none) :: X) se sta dco (HB _ _ ha (by omega))).2.1 d E rfl (by omega) (by simp) ?_
      rw [eG_T hn] at h
      rw [mIns]
      exact RS_mb (by rw [hn]; exact h)
    refine (hs lm a st ps (some (d, E)) la co lc T ((o, f0, none) :: X) se sta dco (HB _ _ ha (by omega))).2.1 d E rfl (by omega) (by simp) ?_
    rw [pExprG, wp_bnd] at h
    rw [mIns]
    refine RS_mb (h.mono (fun c a1 hr q => ?_))
    obtain ⟨r1, r2, -⟩ := pNext_ok hr
    by_cases c2 : c = 2 ∨ c = 3 ∨ c = 4
    · rw [if_pos c2] at q ⊢
      rw [wp_bnd] at q
      refine RS_mb (q.mono (fun v a2 hr2 q2 => ?_))
      have := pBlock_ok (by omega) hr2
      exact ih (d + 1) _ a2 (by omega) (by omega) (by omega) q2
    rw [if_neg c2] at q ⊢
    by_cases c5 : c = 5
    · rw [if_pos c5] at q ⊢
      by_cases cd : 0 < d ∧ E (d - 1) = true
      · rw [if_pos cd] at q ⊢
        exact ih d _ a1 (by omega) (by omega) (by omega) q
      · rw [if_neg cd] at q ⊢
        exact q
    rw [if_neg c5] at q ⊢
    by_cases c11 : c = 11
    · rw [if_pos c11] at q ⊢
      by_cases cd : d = 0
      · rw [if_pos cd] at q ⊢
        exact q
      · rw [if_neg cd] at q ⊢
        exact ih (d - 1) _ a1 (by omega) (by omega) (by omega) q
    rw [if_neg c11] at q ⊢
    by_cases c252 : c = 252
    · rw [if_pos c252] at q ⊢
      rw [wp_bnd] at q
      refine RS_mb (q.mono (fun sh a2 hr2 q2 => ?_))
      have h9 := pS252_ok (by omega) hr2
      rw [wp_bnd] at q2
      refine I_shape hs (HB _ _ (by omega) (by omega)) (by omega) hlm sh h9.2.2 a d E (q2.mono (fun v a3 hr3 q3 => ?_))
      have h10 := pShape_ok sh (by omega) hr3
      exact ih d E a3 (by omega) (by omega) (by omega) q3
    rw [if_neg c252] at q ⊢
    rw [wp_bnd] at q
    refine I_shape hs (HB _ _ (by omega) (by omega)) (by omega) hlm (shOf c) (shOf_le c) a d E (q.mono (fun v a3 hr3 q3 => ?_))
    have h10 := pShape_ok _ (by omega) hr3
    exact ih d E a3 (by omega) (by omega) (by omega) q3
theorem I_expr (hs : SYS b N RF RN) (hB : BD N lm a st ps T X) (hst : st.length ≤ 270) (hX : X.length + 1 < 2000) (hT1 : 1 ≤ T.length) (ha8 : lm - a < 2000) (ha1 : 0 < a) (h : wp RF (pExpr b lm co a) (fun _ a1 => RN (a1, st, lm :: ps, none, la, co, lc, T, (T.length - 1, a, some a1) :: X, se, sta, dco))) : RN (a, .inl 16 :: st, lm :: ps, bl, la, co, lc, T, X, se, sta, dco) := by
  refine (hs lm a st ps bl la co lc T X se sta dco hB).1 16 (by omega) (fun _ => hT1) (fun q => by omega) ?_
  exact I_ins hs hB.2.2.2.1 hB.2.1 hB.2.2.1 hB.2.2.2.2.2.1 hX (by omega) _ _ 2000 0 _ a hB.1 ha8 ha1 h
theorem I_lim (hs : SYS b N RF RN) (hB : BD N lm a st ps T X) (hst : st.length ≤ 270) (cols : Nat → Int64) (h : wp RF (pLim b lm cols a) (fun _ a1 => RN (a1, st, lm :: ps, bl, la, co, lc, T, X, se, sta, dco))) : RN (a, .inl 6 :: st, lm :: ps, bl, la, co, lc, T, X, se, sta, dco) := by
  obtain ⟨h1, h2, h3, h4, h5, h6, h7⟩ := hB
  have HB : ∀ (a' : Nat) (k : List IT), a' ≤ lm → k.length ≤ 300 → BD N lm a' k ps T X := fun a' k q1 q2 => ⟨q1, h2, h3, h4, q2, h6, h7⟩
  refine I_it hs 6 (HB _ _ h1 h5) (by decide) ?_
  rw [ms_6]
  rw [pLim, wp_bnd] at h
  refine RS_mb (h.mono (fun g a1 hr q => ?_))
  have r1 := pChoice_ok hr
  rw [wp_bnd] at q
  by_cases c : g = 1
  · show RN (_, (if g = 1 then _ else _) ++ st, _)
    rw [if_pos c]
    show RN (a1, .inl 1 :: .inl 1 :: st, lm :: ps, bl, la, co, lc, T, X, se, sta, dco)
    refine I_1 hs (HB _ _ r1.1 (by (try simp only [List.length_cons, List.length_append, List.length_nil]); omega)) (q.mono (fun v a2 hr2 q2 => ?_))
    rw [if_pos c, wp_bnd] at q2
    exact I_1 hs (HB _ _ (pU32_ok r1.1 hr2).1 (by (try simp only [List.length_cons, List.length_append, List.length_nil]); omega)) q2
  · show RN (_, (if g = 1 then _ else _) ++ st, _)
    rw [if_neg c]
    show RN (a1, .inl 1 :: st, lm :: ps, bl, la, co, lc, T, X, se, sta, dco)
    refine I_1 hs (HB _ _ r1.1 (by (try simp only [List.length_cons, List.length_append, List.length_nil]); omega)) (q.mono (fun v a2 hr2 q2 => ?_))
    rw [if_neg c] at q2
    exact q2
theorem I_glo (hs : SYS b N RF RN) (hB : BD N lm a st ps T X) (hst : st.length ≤ 270) (cols : Nat → Int64) (h : wp RF (pGlo b lm cols a) (fun _ a1 => RN (a1, st, lm :: ps, bl, la, co, lc, T, X, se, sta, dco))) : RN (a, .inl 28 :: st, lm :: ps, bl, la, co, lc, T, X, se, sta, dco) := by
  obtain ⟨h1, h2, h3, h4, h5, h6, h7⟩ := hB
  have HB : ∀ (a' : Nat) (k : List IT), a' ≤ lm → k.length ≤ 300 → BD N lm a' k ps T X := fun a' k q1 q2 => ⟨q1, h2, h3, h4, q2, h6, h7⟩
  refine I_it hs 28 (HB _ _ h1 h5) (by decide) ?_
  rw [pGlo, wp_bnd] at h
  show RN (a, .inl 3 :: .inl 19 :: st, lm :: ps, bl, la, co, lc, T, X, se, sta, dco)
  refine I_3 hs (HB _ _ h1 (by (try simp only [List.length_cons, List.length_append, List.length_nil]); omega)) (h.mono (fun g a1 hr q => ?_))
  rw [wp_bnd] at q
  exact I_19 hs (HB _ _ (pType_ok hr).1 (by (try simp only [List.length_cons, List.length_append, List.length_nil]); omega)) q
end RUN
