/-! THE REFERENCE'S COURSE: what it wants next (a row, the latest first), the parts that are open, blocks, things, expressions; one step of it -/
abbrev IT : Type := Nat ⊕ (Nat × Nat)
/-- the row of what is wanted, in its two arrays: an item, or an item so many times -/
def ST (ex : Nat → Int32) (ti : Nat → Int64) : List IT → Prop
  | [] => True
  | .inl w :: r => ex r.length = nI w ∧ ST ex ti r
  | .inr x :: r => (ex r.length = 0 - nI x.1 ∧ ti r.length = lN x.2) ∧ ST ex ti r
theorem ST.keep {ex ex' : Nat → Int32} {ti ti' : Nat → Int64} : ∀ {st : List IT}, ST ex ti st → (∀ j, j < st.length → ex' j = ex j ∧ ti' j = ti j) → ST ex' ti' st
  | [], _, _ => trivial
  | .inl w :: r, h, k => ⟨by rw [(k r.length (by simp)).1]; exact h.1, ST.keep h.2 (fun j hj => k j (by simp; omega))⟩
  | .inr x :: r, h, k => ⟨⟨by rw [(k r.length (by simp)).1]; exact h.1.1, by rw [(k r.length (by simp)).2]; exact h.1.2⟩, ST.keep h.2 (fun j hj => k j (by simp; omega))⟩
theorem ST.push {ex : Nat → Int32} {ti : Nat → Int64} {st : List IT} (h : ST ex ti st) (w : Nat) {x : Int32} (hx : x = nI w) : ST (upd ex st.length x) (vp_updL ti st.length 1) (.inl w :: st) :=
  ⟨by rw [pk_us]; exact hx, h.keep (fun j hj => ⟨pk_un (by omega), pk_uLn (by omega)⟩)⟩
def PE (pe : Nat → Int32) : List Nat → Prop
  | [] => True
  | l :: r => pe r.length = nI l ∧ PE pe r
theorem PE.keep {pe pe' : Nat → Int32} : ∀ {pl : List Nat}, PE pe pl → (∀ j, j < pl.length → pe' j = pe j) → PE pe' pl
  | [], _, _ => trivial
  | l :: r, h, k => ⟨by rw [k r.length (by simp)]; exact h.1, PE.keep h.2 (fun j hj => k j (by simp; omega))⟩
/-- things: kind, where it began, for an own section where its bytes begin and how many -/
abbrev TL : Type := List (Nat × Nat × Option (Nat × Nat))
def TH (kd fr to re : Nat → Int32) : TL → Prop
  | [] => True
  | x :: r => (kd r.length = nI x.1 ∧ fr r.length = nI x.2.1 ∧ ∀ z, x.2.2 = some z → to r.length = nI z.1 ∧ re r.length = nI z.2) ∧ TH kd fr to re r
theorem TH.keep {kd fr to re kd' fr' to' re' : Nat → Int32} : ∀ {T : TL}, TH kd fr to re T → (∀ j, j < T.length → kd' j = kd j ∧ fr' j = fr j ∧ to' j = to j ∧ re' j = re j) → TH kd' fr' to' re' T
  | [], _, _ => trivial
  | x :: r, h, k => by
    obtain ⟨k1, k2, k3, k4⟩ := k r.length (by simp)
    refine ⟨⟨by rw [k1]; exact h.1.1, by rw [k2]; exact h.1.2.1, fun z hz => ?_⟩, TH.keep h.2 (fun j hj => k j (by simp; omega))⟩
    rw [k3, k4]
    exact h.1.2.2 z hz
/-- expressions: the thing that it belongs to, where it begins, what stands behind it -/
abbrev XL : Type := List (Nat × Nat × Option Nat)
def XH (ow fi be : Nat → Int32) : XL → Prop
  | [] => True
  | x :: r => (ow r.length = nI x.1 ∧ fi r.length = nI x.2.1 ∧ ∀ z, x.2.2 = some z → be r.length = nI z) ∧ XH ow fi be r
theorem XH.keep {ow fi be ow' fi' be' : Nat → Int32} : ∀ {X : XL}, XH ow fi be X → (∀ j, j < X.length → ow' j = ow j ∧ fi' j = fi j ∧ be' j = be j) → XH ow' fi' be' X
  | [], _, _ => trivial
  | x :: r, h, k => by
    obtain ⟨k1, k2, k3⟩ := k r.length (by simp)
    refine ⟨⟨by rw [k1]; exact h.1.1, by rw [k2]; exact h.1.2.1, fun z hz => ?_⟩, XH.keep h.2 (fun j hj => k j (by simp; omega))⟩
    rw [k3]
    exact h.1.2.2 z hz
def BL (d : Nat) (E : Nat → Bool) (bk : Nat → Int32) : Prop := bk 0 = 0 ∧ ∀ j, j < d → (bk (j + 1) = 4 ↔ E j = true)
/-- where it stands, what is wanted, parts, blocks, the latest rank, whether data were counted, locals and where they began, things, expressions, sections, start, count of data -/
abbrev CF : Type := Nat × List IT × List Nat × Option (Nat × (Nat → Bool)) × Nat × Bool × Option (Nat × Nat) × TL × XL × Nat × Int64 × Int64
abbrev MRes : Type := (Nat × Nat) ⊕ CF
def mb {α : Type} (r : PR α) (k : α → Nat → MRes) : MRes := match r with
  | .inl x => .inl x
  | .inr (v, a) => k v a
theorem mb_T {α : Type} {r : PR α} {k : α → Nat → MRes} {x : Nat × Nat} (h : r = .inl x) : mb r k = .inl x := by rw [h]; rfl
theorem mb_E {α : Type} {r : PR α} {k : α → Nat → MRes} {v : α} {a : Nat} (h : r = .inr (v, a)) : mb r k = k v a := by rw [h]; rfl
def elT (m : Nat) : List IT := ([[16, 101], [18, 101], [1, 16, 18, 101], [18, 101], [16, 116], [4, 116], [1, 16, 4, 116], [4, 116]].getD m []).map Sum.inl
def daT (m : Nat) : List IT := ([[16, 17], [17], [1, 16, 17]].getD m []).map Sum.inl
def seT (id : Nat) : List IT := ([[2, 25], [105], [110], [111], [107], [108], [109], [112], [26], [113], [114], [115], [27]].getD id []).map Sum.inl
def shT (sh : Nat) : List IT := ([[], [], [1], [1, 1], [101, 1], [103], [18], [18, 18], [1, 18], [], [], [], [], [4]].getD sh []).map Sum.inl
def setL (T : TL) (z : Nat × Nat) : TL := match T with
  | [] => []
  | x :: r => (x.1, x.2.1, some z) :: r
def setX (X : XL) (z : Nat) : XL := match X with
  | [] => []
  | x :: r => (x.1, x.2.1, some z) :: r
section MS
variable (b : Nat → Nat) (lm a : Nat) (st : List IT) (ps : List Nat) (bl : Option (Nat × (Nat → Bool))) (la : Nat) (co : Bool) (lc : Option (Nat × Nat)) (T : TL) (X : XL) (se : Nat) (sta dco : Int64)
/-- an instruction, d blocks open -/
def mSh (d : Nat) (E : Nat → Bool) (bg sh a1 : Nat) : MRes :=
  if sh = 0 then .inl (10, bg)
  else if sh = 9 then mb (pS32 b lm a1) (fun _ a2 => .inr (a2, .inl 21 :: st, lm :: ps, some (d, E), la, co, lc, T, X, se, sta, dco))
  else if sh = 10 then mb (pS64 b lm a1) (fun _ a2 => .inr (a2, .inl 21 :: st, lm :: ps, some (d, E), la, co, lc, T, X, se, sta, dco))
  else if sh = 11 then mb (pSkip lm 4 a1) (fun _ a2 => .inr (a2, .inl 21 :: st, lm :: ps, some (d, E), la, co, lc, T, X, se, sta, dco))
  else if sh = 12 then mb (pSkip lm 8 a1) (fun _ a2 => .inr (a2, .inl 21 :: st, lm :: ps, some (d, E), la, co, lc, T, X, se, sta, dco))
  else .inr (a1, shT sh ++ .inl 21 :: st, lm :: ps, some (d, E), la, co, lc, T, X, se, sta, dco)
def mIns (d : Nat) (E : Nat → Bool) : MRes := mb (pNext b lm a) (fun c a1 =>
  if c = 2 ∨ c = 3 ∨ c = 4 then mb (pBlock b lm a1) (fun _ a2 => .inr (a2, .inl 21 :: st, lm :: ps, some (d + 1, va_up E d (c == 4)), la, co, lc, T, X, se, sta, dco))
  else if c = 5 then (if 0 < d ∧ E (d - 1) = true then .inr (a1, .inl 21 :: st, lm :: ps, some (d, va_up E (d - 1) false), la, co, lc, T, X, se, sta, dco) else .inl (10, a))
  else if c = 11 then (if d = 0 then .inr (a1, st, lm :: ps, none, la, co, lc, T, setX X a1, se, sta, dco) else .inr (a1, .inl 21 :: st, lm :: ps, some (d - 1, E), la, co, lc, T, X, se, sta, dco))
  else if c = 252 then mb (pS252 b lm co a a1) (fun sh a2 => mSh b lm st ps la co lc T X se sta dco d E a sh a2)
  else mSh b lm st ps la co lc T X se sta dco d E a (shOf c) a1)
/-- one step: the item w is wanted -/
def mStep (w : Nat) : MRes :=
  if w = 1 then mb (pU32 b lm a) (fun _ a1 => .inr (a1, st, lm :: ps, bl, la, co, lc, T, X, se, sta, dco))
  else if w = 2 then mb (pName b lm a) (fun _ a1 => .inr (a1, st, lm :: ps, bl, la, co, lc, T, X, se, sta, dco))
  else if w = 3 then mb (pType tVal b lm a) (fun _ a1 => .inr (a1, st, lm :: ps, bl, la, co, lc, T, X, se, sta, dco))
  else if w = 4 then mb (pType tRef b lm a) (fun _ a1 => .inr (a1, st, lm :: ps, bl, la, co, lc, T, X, se, sta, dco))
  else if w = 5 then mb (pType tFun b lm a) (fun _ a1 => .inr (a1, .inl 103 :: .inl 103 :: st, lm :: ps, bl, la, co, lc, (0, a, none) :: T, X, se, sta, dco))
  else if w = 6 then mb (pChoice b lm 1 a) (fun g a1 => .inr (a1, (if g = 1 then [.inl 1, .inl 1] else [.inl 1]) ++ st, lm :: ps, bl, la, co, lc, T, X, se, sta, dco))
  else if w = 7 then .inr (a, .inl 4 :: .inl 6 :: st, lm :: ps, bl, la, co, lc, (3, a, none) :: T, X, se, sta, dco)
  else if w = 8 then .inr (a, .inl 6 :: st, lm :: ps, bl, la, co, lc, (4, a, none) :: T, X, se, sta, dco)
  else if w = 9 then .inr (a, .inl 28 :: .inl 16 :: st, lm :: ps, bl, la, co, lc, (5, a, none) :: T, X, se, sta, dco)
  else if w = 10 then mb (pName b lm a) (fun _ a1 => mb (pName b lm a1) (fun _ a2 => mb (pChoice b lm 3 a2) (fun g a3 => .inr (a3, (if g = 1 then [.inl 4, .inl 6] else if g = 0 then [.inl 1] else if g = 2 then [.inl 6] else [.inl 28]) ++ st, lm :: ps, bl, la, co, lc, (1, a, none) :: T, X, se, sta, dco))))
  else if w = 11 then mb (pU32 b lm a) (fun _ a1 => .inr (a1, st, lm :: ps, bl, la, co, lc, (2, a, none) :: T, X, se, sta, dco))
  else if w = 12 then mb (pName b lm a) (fun _ a1 => mb (pChoice b lm 3 a1) (fun _ a2 => .inr (a2, .inl 1 :: st, lm :: ps, bl, la, co, lc, (6, a, none) :: T, X, se, sta, dco)))
  else if w = 13 then mb (pNChoice b lm 7 a) (fun m a1 => .inr (a1, elT m ++ st, lm :: ps, bl, la, co, lc, (7, a, none) :: T, X, se, sta, dco))
  else if w = 14 then mb (pEnter b lm a) (fun l2 a1 => .inr (a1, .inl 22 :: .inl 16 :: .inl 24 :: st, l2 :: lm :: ps, bl, la, co, lc, (8, a, none) :: T, X, se, sta, dco))
  else if w = 15 then mb (pNChoice b lm 2 a) (fun m a1 => .inr (a1, daT m ++ st, lm :: ps, bl, la, co, lc, (9, a, none) :: T, X, se, sta, dco))
  else if w = 16 then .inr (a, .inl 21 :: st, lm :: ps, some (0, fun _ => false), la, co, lc, T, (T.length - 1, a, none) :: X, se, sta, dco)
  else if w = 17 then mb (pU32 b lm a) (fun n a1 => mb (pSkip lm n a1) (fun _ a2 => .inr (a2, st, lm :: ps, bl, la, co, lc, T, X, se, sta, dco)))
  else if w = 18 then mb (pChoice b lm 0 a) (fun _ a1 => .inr (a1, st, lm :: ps, bl, la, co, lc, T, X, se, sta, dco))
  else if w = 19 then mb (pChoice b lm 1 a) (fun _ a1 => .inr (a1, st, lm :: ps, bl, la, co, lc, T, X, se, sta, dco))
  else if w = 20 then mb (pU32 b lm a) (fun v a1 => mb (pType tVal b lm a1) (fun _ a2 => .inr (a2, st, lm :: ps, bl, la, co, lc.map (fun z => (z.1 + v, z.2)), T, X, se, sta, dco)))
  else if w = 22 then .inr (a, .inl 120 :: .inl 29 :: st, lm :: ps, bl, la, co, some (0, a), T, X, se, sta, dco)
  else if w = 23 then (if a = lm then .inr (a, st, lm :: ps, bl, la, co, lc, T, X, se, sta, dco) else mb (pId b lm la a) (fun id a1 => mb (pEnter b lm a1) (fun l2 a2 => .inr (a2, seT id ++ .inl 24 :: .inl 23 :: st, l2 :: lm :: ps, bl, nrk la id, co, lc, (if id = 0 then [(10, a2, none)] else []) ++ T, X, se + 1, sta, dco))))
  else if w = 24 then mb (pLeave lm a) (fun _ a1 => .inr (a1, st, ps, bl, la, co, lc, T, X, se, sta, dco))
  else if w = 25 then .inr (lm, st, lm :: ps, bl, la, co, lc, setL T (a, lm - a), X, se, sta, dco)
  else if w = 26 then mb (pU32 b lm a) (fun v a1 => .inr (a1, st, lm :: ps, bl, la, co, lc, T, X, se, lN v, dco))
  else if w = 27 then mb (pU32 b lm a) (fun v a1 => .inr (a1, st, lm :: ps, bl, la, true, lc, T, X, se, sta, lN v))
  else if w = 28 then .inr (a, .inl 3 :: .inl 19 :: st, lm :: ps, bl, la, co, lc, T, X, se, sta, dco)
  else .inr (a, st, lm :: ps, bl, la, co, lc, T, X, se, sta, dco)
def mEnd (lo lA : Nat) : MRes := if 4294967295 < lo then .inl (12, lA) else .inr (a, st, lm :: ps, bl, la, co, some (lo, lA), T, X, se, sta, dco)
def mRow (w : Nat) : MRes := mb (pU32 b lm a) (fun n a1 => .inr (a1, (if 0 < n then [.inr (w, n)] else []) ++ st, lm :: ps, bl, la, co, lc, T, X, se, sta, dco))
def mRep (w n : Nat) : MRes := .inr (a, .inl w :: ((if 1 < n then [.inr (100 + w, n - 1)] else []) ++ st), lm :: ps, bl, la, co, lc, T, X, se, sta, dco)
end MS
abbrev AR : Type := (Nat → Int32) × (Nat → Int64) × (Nat → Int32) × (Nat → Int32) × (Nat → Int32) × (Nat → Int32) × (Nat → Int32) × (Nat → Int32) × (Nat → Int32) × (Nat → Int32) × (Nat → Int32)
/-- the object's numbers and the rows: ex ti pe bk kd fr to re ow fi be -/
abbrev NU : Type := (A3 × Int32 × Int32 × MB) × AR
abbrev nW (cA : Nat → ClassId) (m0 : Nat) (g : Nat → Nat) (K : MK) (fd : Nat → Int32) (u : NU) : va_W := [(m0, .inr (6, mF g K u.1.1 u.1.2.1 u.1.2.2.1 u.1.2.2.2)), ((g 0), .inl (cA 3, 2000, .inl fd)), ((g 7), .inl (cA 3, 400, .inl u.2.1)), ((g 8), .inl (cA 1, 400, .inr (.inl u.2.2.1))), ((g 10), .inl (cA 3, 4, .inl u.2.2.2.1)), ((g 11), .inl (cA 3, 2001, .inl u.2.2.2.2.1)), ((g 18), .inl (cA 3, 2000, .inl u.2.2.2.2.2.1)), ((g 19), .inl (cA 3, 2000, .inl u.2.2.2.2.2.2.1)), ((g 20), .inl (cA 3, 2000, .inl u.2.2.2.2.2.2.2.1)), ((g 21), .inl (cA 3, 2000, .inl u.2.2.2.2.2.2.2.2.1)), ((g 23), .inl (cA 3, 2000, .inl u.2.2.2.2.2.2.2.2.2.1)), ((g 24), .inl (cA 3, 2000, .inl u.2.2.2.2.2.2.2.2.2.2.1)), ((g 25), .inl (cA 3, 2000, .inl u.2.2.2.2.2.2.2.2.2.2.2))]
def nF (f q : Nat) (u : NU) : Prop := FL f ∧ u.1.1.2 = (nI f, nI q) ∧ ∃ t : Nat, t ≤ 2000 ∧ u.1.2.2.2.2.2.2.2.2.1 = nI t
def nO (c : CF) (p : Int32) (u : NU) : Prop :=
  (u.1.1 = (nI c.1, 0, p) ∧ u.1.2.1 = nI c.2.1.length ∧ u.1.2.2.1 = nI c.2.2.1.length ∧ u.1.2.2.2.2 = (nI c.2.2.2.2.1, zI c.2.2.2.2.2.1, u.1.2.2.2.2.2.2.1, u.1.2.2.2.2.2.2.2.1, nI c.2.2.2.2.2.2.2.1.length, nI c.2.2.2.2.2.2.2.2.1.length, nI c.2.2.2.2.2.2.2.2.2.1, c.2.2.2.2.2.2.2.2.2.2.1, c.2.2.2.2.2.2.2.2.2.2.2)) ∧
  (∀ z, c.2.2.2.1 = some z → u.1.2.2.2.1 = nI (z.1 + 1) ∧ BL z.1 z.2 u.2.2.2.2.1) ∧ (∀ z, c.2.2.2.2.2.2.1 = some z → u.1.2.2.2.2.2.2.1 = lN z.1 ∧ u.1.2.2.2.2.2.2.2.1 = nI z.2) ∧
  ST u.2.1 u.2.2.1 c.2.1 ∧ PE u.2.2.2.1 c.2.2.1 ∧ TH u.2.2.2.2.2.1 u.2.2.2.2.2.2.1 u.2.2.2.2.2.2.2.1 u.2.2.2.2.2.2.2.2.1 c.2.2.2.2.2.2.2.1 ∧ XH u.2.2.2.2.2.2.2.2.2.1 u.2.2.2.2.2.2.2.2.2.2.1 u.2.2.2.2.2.2.2.2.2.2.2 c.2.2.2.2.2.2.2.2.1
def nP (r : MRes) (p : Int32) (u : NU) : Prop := match r with
  | .inl x => nF x.1 x.2 u
  | .inr c => nO c p u
theorem nP_T {r : MRes} {p : Int32} {u : NU} {f q : Nat} (h : r = .inl (f, q)) (h2 : nF f q u) : nP r p u := by rw [h]; exact h2
theorem nP_E {r : MRes} {p : Int32} {u : NU} {c : CF} (h : r = .inr c) (h2 : nO c p u) : nP r p u := by rw [h]; exact h2
