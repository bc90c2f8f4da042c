def wd (k : Nat) : Nat := [4, 8, 1, 4, 4, 6, 4, 9, 8, 7, 9].getD k 0
def rkOf (id : Nat) : Nat := if id = 10 then 11 else if id = 11 then 12 else if id = 12 then 10 else id
def nrk (rk id : Nat) : Nat := if id = 0 then rk else rkOf id
def pId (b : Nat → Nat) (lm rk a : Nat) : PR Nat := bnd (pNext b lm a) (fun id a1 => if id = 0 then .inr (0, a1) else if 13 ≤ id ∨ rkOf id ≤ rk then .inl (6, a) else .inr (id, a1))
theorem pId_ok {b : Nat → Nat} {lm rk a v a' : Nat} (h : pId b lm rk a = .inr (v, a')) : a' ≤ lm ∧ a < a' ∧ v ≤ 12 := by
  obtain ⟨id, a1, q, r⟩ := bnd_ok h
  obtain ⟨q1, q2, -⟩ := pNext_ok q
  by_cases c0 : id = 0
  · rw [if_pos c0] at r; cases r; omega
  rw [if_neg c0] at r
  by_cases c1 : 13 ≤ id ∨ rkOf id ≤ rk
  · rw [if_pos c1] at r; cases r
  · rw [if_neg c1] at r; cases r; omega
def pBegG (b : Nat → Nat) (lm : Nat) : List Nat → Nat → PR Unit
  | [], a => .inr ((), a)
  | x :: xs, a => bnd (pNext b lm a) (fun g a1 => if g = x then pBegG b lm xs a1 else .inl (5, a))
/-- the module as read so far: records, lists, how many sections, start, count of data, whether it was told, the latest rank -/
abbrev MS : Type := (Nat → RL) × List Int64 × Nat × Int64 × Int64 × Bool × Nat
def pItem (b : Nat → Nat) (lm : Nat) (dc : Bool) (id : Nat) : Nat → PR (Nat → Int64) :=
  if id = 1 then pFT b lm else if id = 2 then pImp b lm else if id = 3 then pFun b lm else if id = 4 then pTab b lm c_1 else if id = 5 then pMem b lm c_1 else if id = 6 then pOwn b lm dc else if id = 7 then pExp b lm else pDat b lm dc
def kOf (id : Nat) : Nat := if id = 11 then 9 else id - 1
def pSec (b : Nat → Nat) (lm id : Nat) (S : MS) (a : Nat) : PR MS :=
  if id = 0 then bnd (pCus b lm a) (fun z a1 => .inr ((va_up S.1 10 (S.1 10 ++ [(a, z)]), S.2), a1))
  else if id = 8 then bnd (pU32 b lm a) (fun v a1 => .inr ((S.1, S.2.1, S.2.2.1, lN v, S.2.2.2.2), a1))
  else if id = 12 then bnd (pU32 b lm a) (fun v a1 => .inr ((S.1, S.2.1, S.2.2.1, S.2.2.2.1, lN v, true, S.2.2.2.2.2.2), a1))
  else if id = 9 then bnd (pRowE b lm (pEl b lm S.2.2.2.2.2.1) (S.1 7) S.2.1 a) (fun z a1 => .inr ((va_up S.1 7 z.1, z.2, S.2.2), a1))
  else if id = 10 then bnd (pRowE b lm (pBody b lm S.2.2.2.2.2.1) (S.1 8) S.2.1 a) (fun z a1 => .inr ((va_up S.1 8 z.1, z.2, S.2.2), a1))
  else bnd (pRowL b lm (pItem b lm S.2.2.2.2.2.1 id) (S.1 (kOf id)) a) (fun z a1 => .inr ((va_up S.1 (kOf id) z, S.2), a1))
section SEC
variable {b : Nat → Nat} {lm a : Nat} {LS : Nat → RL} {LL : List Int64} {sec rk : Nat} {sta dco : Int64} {dc : Bool}
theorem pSec_0 : pSec b lm 0 (LS, LL, sec, sta, dco, dc, rk) a = bnd (pCus b lm a) (fun z a1 => .inr ((va_up LS 10 (LS 10 ++ [(a, z)]), LL, sec, sta, dco, dc, rk), a1)) := rfl
theorem pSec_8 : pSec b lm 8 (LS, LL, sec, sta, dco, dc, rk) a = bnd (pU32 b lm a) (fun v a1 => .inr ((LS, LL, sec, lN v, dco, dc, rk), a1)) := rfl
theorem pSec_12 : pSec b lm 12 (LS, LL, sec, sta, dco, dc, rk) a = bnd (pU32 b lm a) (fun v a1 => .inr ((LS, LL, sec, sta, lN v, true, rk), a1)) := rfl
theorem pSec_9 : pSec b lm 9 (LS, LL, sec, sta, dco, dc, rk) a = bnd (pRowE b lm (pEl b lm dc) (LS 7) LL a) (fun z a1 => .inr ((va_up LS 7 z.1, z.2, sec, sta, dco, dc, rk), a1)) := rfl
theorem pSec_10 : pSec b lm 10 (LS, LL, sec, sta, dco, dc, rk) a = bnd (pRowE b lm (pBody b lm dc) (LS 8) LL a) (fun z a1 => .inr ((va_up LS 8 z.1, z.2, sec, sta, dco, dc, rk), a1)) := rfl
theorem pSec_1 : pSec b lm 1 (LS, LL, sec, sta, dco, dc, rk) a = bnd (pRowL b lm (pFT b lm) (LS 0) a) (fun z a1 => .inr ((va_up LS 0 z, LL, sec, sta, dco, dc, rk), a1)) := rfl
theorem pSec_2 : pSec b lm 2 (LS, LL, sec, sta, dco, dc, rk) a = bnd (pRowL b lm (pImp b lm) (LS 1) a) (fun z a1 => .inr ((va_up LS 1 z, LL, sec, sta, dco, dc, rk), a1)) := rfl
theorem pSec_3 : pSec b lm 3 (LS, LL, sec, sta, dco, dc, rk) a = bnd (pRowL b lm (pFun b lm) (LS 2) a) (fun z a1 => .inr ((va_up LS 2 z, LL, sec, sta, dco, dc, rk), a1)) := rfl
theorem pSec_4 : pSec b lm 4 (LS, LL, sec, sta, dco, dc, rk) a = bnd (pRowL b lm (pTab b lm c_1) (LS 3) a) (fun z a1 => .inr ((va_up LS 3 z, LL, sec, sta, dco, dc, rk), a1)) := rfl
theorem pSec_5 : pSec b lm 5 (LS, LL, sec, sta, dco, dc, rk) a = bnd (pRowL b lm (pMem b lm c_1) (LS 4) a) (fun z a1 => .inr ((va_up LS 4 z, LL, sec, sta, dco, dc, rk), a1)) := rfl
theorem pSec_6 : pSec b lm 6 (LS, LL, sec, sta, dco, dc, rk) a = bnd (pRowL b lm (pOwn b lm dc) (LS 5) a) (fun z a1 => .inr ((va_up LS 5 z, LL, sec, sta, dco, dc, rk), a1)) := rfl
theorem pSec_7 : pSec b lm 7 (LS, LL, sec, sta, dco, dc, rk) a = bnd (pRowL b lm (pExp b lm) (LS 6) a) (fun z a1 => .inr ((va_up LS 6 z, LL, sec, sta, dco, dc, rk), a1)) := rfl
theorem pSec_11 : pSec b lm 11 (LS, LL, sec, sta, dco, dc, rk) a = bnd (pRowL b lm (pDat b lm dc) (LS 9) a) (fun z a1 => .inr ((va_up LS 9 z, LL, sec, sta, dco, dc, rk), a1)) := rfl
end SEC
def pMods (b : Nat → Nat) (lm : Nat) : Nat → MS → Nat → PR MS
  | 0, S, a => .inr (S, a)
  | k + 1, S, a => if a < lm then bnd (pId b lm S.2.2.2.2.2.2 a) (fun id a1 => bnd (pEnter b lm a1) (fun l2 a2 => bnd (pSec b l2 id (S.1, S.2.1, S.2.2.1, S.2.2.2.1, S.2.2.2.2.1, S.2.2.2.2.2.1, nrk S.2.2.2.2.2.2 id) a2) (fun S2 a3 => bnd (pLeave l2 a3) (fun _ a4 =>
      pMods b lm k (S2.1, S2.2.1, S2.2.2.1 + 1, S2.2.2.2) a4)))) else .inr (S, a)
def S0 : MS := (fun _ => [], [], 0, -1, -1, false, 0)
def pCmp (lm : Nat) (S : MS) (a : Nat) : PR MS := if ¬ (S.1 2).length = (S.1 8).length then .inl (13, lm) else if ¬ S.2.2.2.2.1 = -1 ∧ ¬ S.2.2.2.2.1 = lN (S.1 9).length then .inl (14, lm) else .inr (S, a)
def pMod (b : Nat → Nat) (lm : Nat) : PR MS := bnd (pBegG b lm [0, 97, 115, 109, 1, 0, 0, 0] 0) (fun _ a => bnd (pMods b lm 2000 S0 a) (fun S a1 => pCmp lm S a1))
/-- a table that holds records -/
def TO (w lb l0 : Nat) (L : RL) (t : TB) : Prop := t.2.1 = L.length ∧ TR w L t.2.2.2 ∧ L.length * w ≤ t.2.2.1 ∧ t.2.2.1 ≤ 80000 ∧ l0 ≤ t.2.2.1 ∧ L.length ≤ lb
theorem TO.tk {w lb l0 : Nat} {L : RL} {t : TB} (h : TO w lb l0 L t) (hb : lb ≤ 4000) : TK w l0 t := ⟨h.2.2.2.2.1, h.2.2.2.1, by rw [h.1]; exact Nat.le_trans h.2.2.2.2.2 hb, by rw [h.1]; exact h.2.2.1⟩
def MR (lb : Nat) (tt : Nat → TB) (LS : Nat → RL) (tt2 : Nat → TB) : Prop := ∀ k, k < 11 → TO (wd k) lb (tt k).2.2.1 (LS k) (tt2 k)
theorem MR.mono {lb lb' : Nat} {tt : Nat → TB} {LS : Nat → RL} {tt2 : Nat → TB} (h : MR lb tt LS tt2) (hl : lb ≤ lb') : MR lb' tt LS tt2 := fun k hk => ⟨(h k hk).1, (h k hk).2.1, (h k hk).2.2.1, (h k hk).2.2.2.1, (h k hk).2.2.2.2.1, Nat.le_trans (h k hk).2.2.2.2.2 hl⟩
theorem MR.up {lb lb' k : Nat} {tt : Nat → TB} {LS : Nat → RL} {tt2 : Nat → TB} {L : RL} {t : TB} (h : MR lb tt LS tt2) (hl : lb ≤ lb') (hk : TO (wd k) lb' (tt k).2.2.1 L t) : MR lb' tt (va_up LS k L) (va_up tt2 k t) := by
  intro j hj
  unfold va_up
  by_cases e : j = k
  · subst e; rw [if_pos rfl, if_pos rfl]; exact hk
  · rw [if_neg e, if_neg e]; exact (h.mono hl) j hj
theorem MR.tk {lb : Nat} {tt : Nat → TB} {LS : Nat → RL} {tt2 : Nat → TB} (h : MR lb tt LS tt2) (hb : lb ≤ 4000) : ∀ k, k < 11 → TK (wd k) (tt k).2.2.1 (tt2 k) := fun k hk => (h k hk).tk hb
theorem tkUp {tt tt2 : Nat → TB} {k : Nat} {t : TB} (h : ∀ j, j < 11 → TK (wd j) (tt j).2.2.1 (tt2 j)) (hk : TK (wd k) (tt k).2.2.1 t) : ∀ j, j < 11 → TK (wd j) (tt j).2.2.1 (va_up tt2 k t j) := by
  intro j hj
  unfold va_up
  by_cases e : j = k
  · subst e; rw [if_pos rfl]; exact hk
  · rw [if_neg e]; exact h j hj
def lnS (tt : Nat → TB) : Nat := (tt 0).2.2.1 / 4 + (tt 1).2.2.1 / 4 + (tt 2).2.2.1 / 4 + (tt 3).2.2.1 / 4 + (tt 4).2.2.1 / 4 + (tt 5).2.2.1 / 4 + (tt 6).2.2.1 / 4 + (tt 7).2.2.1 / 4 + (tt 8).2.2.1 / 4 + (tt 9).2.2.1 / 4 + (tt 10).2.2.1 / 4
def lnD (tt : Nat → TB) : Nat := 2 * (tt 0).2.2.1 + 2 * (tt 1).2.2.1 + 2 * (tt 2).2.2.1 + 2 * (tt 3).2.2.1 + 2 * (tt 4).2.2.1 + 2 * (tt 5).2.2.1 + 2 * (tt 6).2.2.1 + 2 * (tt 7).2.2.1 + 2 * (tt 8).2.2.1 + 2 * (tt 9).2.2.1 + 2 * (tt 10).2.2.1
theorem k11 {k : Nat} (h : k < 11) : k = 0 ∨ k = 1 ∨ k = 2 ∨ k = 3 ∨ k = 4 ∨ k = 5 ∨ k = 6 ∨ k = 7 ∨ k = 8 ∨ k = 9 ∨ k = 10 := by omega
theorem lnS_up (tt : Nat → TB) (k : Nat) (t : TB) (hk : k < 11) : lnS (va_up tt k t) + (tt k).2.2.1 / 4 = lnS tt + t.2.2.1 / 4 := by
  rcases k11 hk with rfl | rfl | rfl | rfl | rfl | rfl | rfl | rfl | rfl | rfl | rfl <;> simp only [lnS, va_up] <;> simp <;> omega
theorem lnD_up (tt : Nat → TB) (k : Nat) (t : TB) (hk : k < 11) : lnD (va_up tt k t) + 2 * (tt k).2.2.1 = lnD tt + 2 * t.2.2.1 := by
  rcases k11 hk with rfl | rfl | rfl | rfl | rfl | rfl | rfl | rfl | rfl | rfl | rfl <;> simp only [lnD, va_up] <;> simp <;> omega
theorem ln_le {tt : Nat → TB} (h : ∀ j, j < 11 → (tt j).2.2.1 ≤ 80000) (k : Nat) (hk : k < 11) : lnS tt ≤ 200000 + (tt k).2.2.1 / 4 ∧ lnD tt ≤ 1600000 + 2 * (tt k).2.2.1 := by
  have h0 := h 0 (by decide)
  have h1 := h 1 (by decide)
  have h2 := h 2 (by decide)
  have h3 := h 3 (by decide)
  have h4 := h 4 (by decide)
  have h5 := h 5 (by decide)
  have h6 := h 6 (by decide)
  have h7 := h 7 (by decide)
  have h8 := h 8 (by decide)
  have h9 := h 9 (by decide)
  have h10 := h 10 (by decide)
  unfold lnS lnD
  rcases k11 hk with rfl | rfl | rfl | rfl | rfl | rfl | rfl | rfl | rfl | rfl | rfl <;> omega
theorem ln_mono {tt tt2 : Nat → TB} (h : ∀ j, j < 11 → (tt j).2.2.1 ≤ (tt2 j).2.2.1) : lnS tt ≤ lnS tt2 ∧ lnD tt ≤ lnD tt2 := by
  have h0 := h 0 (by decide)
  have h1 := h 1 (by decide)
  have h2 := h 2 (by decide)
  have h3 := h 3 (by decide)
  have h4 := h 4 (by decide)
  have h5 := h 5 (by decide)
  have h6 := h 6 (by decide)
  have h7 := h 7 (by decide)
  have h8 := h 8 (by decide)
  have h9 := h 9 (by decide)
  have h10 := h 10 (by decide)
  unfold lnS lnD
  omega
def clr (tt : Nat → TB) : Nat → TB := fun k => ((tt k).1, 0, (tt k).2.2.1, (tt k).2.2.2)
/-- source, tables, lists, depth and blocks, rank, sections, start, count of data, whether it was told -/
abbrev MD : Type := S4 × (Nat → TB) × TB × (Int32 × (Nat → Int32)) × (Int32 × Int32 × Int64 × Int64 × Int32)
abbrev MC : Type := (Nat → TB) × TB × Int32 × Int64 × Int64
abbrev wCt (cA : Nat → ClassId) (k0 kk tl h1 : Nat) (kf : Nat → Option Nat) (ta : Nat → Nat) (u : MC) : va_W := [(k0, .inr (1, [.ref h1, .ref kk, .ref tl, .int u.2.2.1, .long u.2.2.2.1, .long u.2.2.2.2])), (kk, .inl (cA 4, 11, .inr (.inr (.inr (.inr kf))))), (tl, .inr (0, [.int (nI 1), .ref u.2.1.1, .int (nI u.2.1.2.1)])), (u.2.1.1, .inl (cA 1, u.2.1.2.2.1, .inr (.inl u.2.1.2.2.2))), ((ta 0), .inr (0, [.int (nI 4), .ref ((u.1 0).1), .int (nI ((u.1 0).2.1))])), ((u.1 0).1, .inl (cA 1, (u.1 0).2.2.1, .inr (.inl ((u.1 0).2.2.2)))), ((ta 1), .inr (0, [.int (nI 8), .ref ((u.1 1).1), .int (nI ((u.1 1).2.1))])), ((u.1 1).1, .inl (cA 1, (u.1 1).2.2.1, .inr (.inl ((u.1 1).2.2.2)))), ((ta 2), .inr (0, [.int (nI 1), .ref ((u.1 2).1), .int (nI ((u.1 2).2.1))])), ((u.1 2).1, .inl (cA 1, (u.1 2).2.2.1, .inr (.inl ((u.1 2).2.2.2)))), ((ta 3), .inr (0, [.int (nI 4), .ref ((u.1 3).1), .int (nI ((u.1 3).2.1))])), ((u.1 3).1, .inl (cA 1, (u.1 3).2.2.1, .inr (.inl ((u.1 3).2.2.2)))), ((ta 4), .inr (0, [.int (nI 4), .ref ((u.1 4).1), .int (nI ((u.1 4).2.1))])), ((u.1 4).1, .inl (cA 1, (u.1 4).2.2.1, .inr (.inl ((u.1 4).2.2.2)))), ((ta 5), .inr (0, [.int (nI 6), .ref ((u.1 5).1), .int (nI ((u.1 5).2.1))])), ((u.1 5).1, .inl (cA 1, (u.1 5).2.2.1, .inr (.inl ((u.1 5).2.2.2)))), ((ta 6), .inr (0, [.int (nI 4), .ref ((u.1 6).1), .int (nI ((u.1 6).2.1))])), ((u.1 6).1, .inl (cA 1, (u.1 6).2.2.1, .inr (.inl ((u.1 6).2.2.2)))), ((ta 7), .inr (0, [.int (nI 9), .ref ((u.1 7).1), .int (nI ((u.1 7).2.1))])), ((u.1 7).1, .inl (cA 1, (u.1 7).2.2.1, .inr (.inl ((u.1 7).2.2.2)))), ((ta 8), .inr (0, [.int (nI 8), .ref ((u.1 8).1), .int (nI ((u.1 8).2.1))])), ((u.1 8).1, .inl (cA 1, (u.1 8).2.2.1, .inr (.inl ((u.1 8).2.2.2)))), ((ta 9), .inr (0, [.int (nI 7), .ref ((u.1 9).1), .int (nI ((u.1 9).2.1))])), ((u.1 9).1, .inl (cA 1, (u.1 9).2.2.1, .inr (.inl ((u.1 9).2.2.2)))), ((ta 10), .inr (0, [.int (nI 9), .ref ((u.1 10).1), .int (nI ((u.1 10).2.1))])), ((u.1 10).1, .inl (cA 1, (u.1 10).2.2.1, .inr (.inl ((u.1 10).2.2.2))))]
abbrev wRd (cA : Nat → ClassId) (r0 x0 z0 k0 kk tl h0 h1 : Nat) (kf : Nat → Option Nat) (ta : Nat → Nat) (bs : Nat → Int32) (ki hi : Nat) (u : MD) : va_W := [(r0, .inr (4, [.ref h0, .ref x0, .ref ki, .int u.2.2.2.2.1])), (h0, .inr (2, [.ref hi, .int u.1.1, .int u.1.2.1, .int u.1.2.2.1, .int u.1.2.2.2])), (h1, .inl (cA 0, 2000, .inl bs)), (x0, .inr (3, [.ref h0, .ref z0, .int u.2.2.2.1.1, .int u.2.2.2.2.2.2.2.2])), (z0, .inl (cA 2, 1000, .inl u.2.2.2.1.2)), (k0, .inr (1, [.ref h1, .ref kk, .ref tl, .int u.2.2.2.2.2.1, .long u.2.2.2.2.2.2.1, .long u.2.2.2.2.2.2.2.1])), (kk, .inl (cA 4, 11, .inr (.inr (.inr (.inr kf))))), (tl, .inr (0, [.int (nI 1), .ref u.2.2.1.1, .int (nI u.2.2.1.2.1)])), (u.2.2.1.1, .inl (cA 1, u.2.2.1.2.2.1, .inr (.inl u.2.2.1.2.2.2))), ((ta 0), .inr (0, [.int (nI 4), .ref ((u.2.1 0).1), .int (nI ((u.2.1 0).2.1))])), ((u.2.1 0).1, .inl (cA 1, (u.2.1 0).2.2.1, .inr (.inl ((u.2.1 0).2.2.2)))), ((ta 1), .inr (0, [.int (nI 8), .ref ((u.2.1 1).1), .int (nI ((u.2.1 1).2.1))])), ((u.2.1 1).1, .inl (cA 1, (u.2.1 1).2.2.1, .inr (.inl ((u.2.1 1).2.2.2)))), ((ta 2), .inr (0, [.int (nI 1), .ref ((u.2.1 2).1), .int (nI ((u.2.1 2).2.1))])), ((u.2.1 2).1, .inl (cA 1, (u.2.1 2).2.2.1, .inr (.inl ((u.2.1 2).2.2.2)))), ((ta 3), .inr (0, [.int (nI 4), .ref ((u.2.1 3).1), .int (nI ((u.2.1 3).2.1))])), ((u.2.1 3).1, .inl (cA 1, (u.2.1 3).2.2.1, .inr (.inl ((u.2.1 3).2.2.2)))), ((ta 4), .inr (0, [.int (nI 4), .ref ((u.2.1 4).1), .int (nI ((u.2.1 4).2.1))])), ((u.2.1 4).1, .inl (cA 1, (u.2.1 4).2.2.1, .inr (.inl ((u.2.1 4).2.2.2)))), ((ta 5), .inr (0, [.int (nI 6), .ref ((u.2.1 5).1), .int (nI ((u.2.1 5).2.1))])), ((u.2.1 5).1, .inl (cA 1, (u.2.1 5).2.2.1, .inr (.inl ((u.2.1 5).2.2.2)))), ((ta 6), .inr (0, [.int (nI 4), .ref ((u.2.1 6).1), .int (nI ((u.2.1 6).2.1))])), ((u.2.1 6).1, .inl (cA 1, (u.2.1 6).2.2.1, .inr (.inl ((u.2.1 6).2.2.2)))), ((ta 7), .inr (0, [.int (nI 9), .ref ((u.2.1 7).1), .int (nI ((u.2.1 7).2.1))])), ((u.2.1 7).1, .inl (cA 1, (u.2.1 7).2.2.1, .inr (.inl ((u.2.1 7).2.2.2)))), ((ta 8), .inr (0, [.int (nI 8), .ref ((u.2.1 8).1), .int (nI ((u.2.1 8).2.1))])), ((u.2.1 8).1, .inl (cA 1, (u.2.1 8).2.2.1, .inr (.inl ((u.2.1 8).2.2.2)))), ((ta 9), .inr (0, [.int (nI 7), .ref ((u.2.1 9).1), .int (nI ((u.2.1 9).2.1))])), ((u.2.1 9).1, .inl (cA 1, (u.2.1 9).2.2.1, .inr (.inl ((u.2.1 9).2.2.2)))), ((ta 10), .inr (0, [.int (nI 9), .ref ((u.2.1 10).1), .int (nI ((u.2.1 10).2.1))])), ((u.2.1 10).1, .inl (cA 1, (u.2.1 10).2.2.1, .inr (.inl ((u.2.1 10).2.2.2))))]
theorem pMods_S {b : Nat → Nat} {lm k a : Nat} {LS : Nat → RL} {LL : List Int64} {sec rk : Nat} {sta dco : Int64} {dc : Bool} : pMods b lm (k + 1) (LS, LL, sec, sta, dco, dc, rk) a = if a < lm then bnd (pId b lm rk a) (fun id a1 => bnd (pEnter b lm a1) (fun l2 a2 => bnd (pSec b l2 id (LS, LL, sec, sta, dco, dc, nrk rk id) a2) (fun S2 a3 => bnd (pLeave l2 a3) (fun _ a4 => pMods b lm k (S2.1, S2.2.1, S2.2.2.1 + 1, S2.2.2.2) a4)))) else .inr ((LS, LL, sec, sta, dco, dc, rk), a) := rfl
theorem nrk_le {rk id : Nat} (h : rk ≤ 12) (hi : id ≤ 12) : nrk rk id ≤ 12 := by
  unfold nrk rkOf
  repeat' split
  all_goals omega
theorem clrTK {tt : Nat → TB} (ht : ∀ k, k < 11 → TK (wd k) 4 (tt k)) : ∀ k, k < 11 → TK (wd k) (tt k).2.2.1 (clr tt k) := fun k hk => ⟨Nat.le_refl _, (ht k hk).2.1, Nat.zero_le _, by show 0 * wd k ≤ _; rw [Nat.zero_mul]; exact Nat.zero_le _⟩
theorem clrMR {lb : Nat} {tt : Nat → TB} (ht : ∀ k, k < 11 → TK (wd k) 4 (tt k)) : MR lb tt (fun _ => []) (clr tt) := fun k hk => ⟨rfl, TR.nil, by show 0 * wd k ≤ _; rw [Nat.zero_mul]; exact Nat.zero_le _, (ht k hk).2.1, Nat.le_refl _, Nat.zero_le _⟩
