/-! THE FORM OF EVERY CONTRACT OF THE CLASS: a list of cells in, a list of cells out; what never changes (EF) beside it. -/
abbrev iseN : String := "java/lang/IllegalStateException"
abbrev xN : List String := ["java/lang/RuntimeException", "java/lang/Exception"]
abbrev iS (C : String) : MethodName := ⟨C, "<init>", "(Ljava/lang/String;)V"⟩
/-- the array classes: byte, long, boolean, int, Table -/
abbrev tysF (cA : Nat → ClassId) : List (ClassId × FieldType) := [(cA 0, .byte), (cA 1, .long), (cA 2, .boolean), (cA 3, .int), (cA 4, .object "ModuleBytes$Table")]
def c_seen : List Int32 := [0, 4, 1, 4, 4, 6, 2, 7, 6, 7, 7]
def c_own : List Int32 := [4, 4, 0, 0, 0, 0, 2, 2, 2, 0, 2]
def c_beg : List Int32 := [0, 97, 115, 109, 1, 0, 0, 0]
def c_rank : List Int32 := [0, 1, 2, 3, 4, 5, 6, 7, 8, 9, 11, 12, 10]
def fT (l : List Int32) : Nat → Value := fun j => .int (l.getD j 0)
/-- what the tables hold and only warms -/
def EFw (ad : Nat → Nat) (U : State) : Prop :=
  vk_R "ModuleBytes$Source" 41 "the bytes of the part end" (ad 0) U ∧ vk_R "ModuleBytes$Source" 36 "the bytes are no module" (ad 1) U ∧ va_Nw (.castable iseN iseN) U ∧
  va_Nw (.declares (iS "java/lang/RuntimeException")) U ∧ va_Nw (.declares (iS "java/lang/Exception")) U ∧ va_Nw (.declares (iS "java/lang/Throwable")) U ∧
  va_Nw (.fieldLinkNest "ModuleBytes$Contents" 21 "ModuleBytes" "SEEN_COLUMNS" "[I" "ModuleBytes") U ∧ va_Nw (.fieldLinkNest "ModuleBytes$Contents" 25 "ModuleBytes" "OWN_COLUMNS" "[I" "ModuleBytes") U ∧
  va_Nw (.fieldLinkNest "ModuleBytes$ModuleReader" 125 "ModuleBytes" "SEEN_COLUMNS" "[I" "ModuleBytes") U ∧ va_AO "ModuleBytes$Table" U
theorem EFw.warm {ad : Nat → Nat} {s U : State} (hW : s.WarmedH U.vm) (h : EFw ad s) : EFw ad U := by
  obtain ⟨h1, h2, h3, h4, h5, h6, h7, h8, h9, h10⟩ := h
  exact ⟨vk_R.warm hW h1, vk_R.warm hW h2, va_Nw.warmC hW h3, va_Nw.warmD hW h4, va_Nw.warmD hW h5, va_Nw.warmD hW h6, va_Nw.warmF hW h7, va_Nw.warmF hW h8, va_Nw.warmF hW h9, va_AO.moved hW.alike h10⟩
/-- what the heap holds, outside A -/
def EFh (ad : Nat → Nat) (A : Nat → Prop) (U : State) (H : Heap) : Prop :=
  vx_Zq Bundle.tN "UNASSIGNED_STACK" Bundle.steD A U H ∧ vx_Zq Bundle.tN "SUPPRESSED_SENTINEL" Bundle.listD A U H ∧
  va_Z "ModuleBytes" "SEEN_COLUMNS" "[I" (.ref (ad 2)) A U H ∧ va_T .int (ad 2) 11 (fT c_seen) A U H ∧
  va_Z "ModuleBytes" "OWN_COLUMNS" "[I" (.ref (ad 3)) A U H ∧ va_T .int (ad 3) 11 (fT c_own) A U H ∧
  va_Z "ModuleBytes$ModuleReader" "BEGINNING" "[I" (.ref (ad 4)) A U H ∧ va_T .int (ad 4) 8 (fT c_beg) A U H ∧
  va_Z "ModuleBytes$ModuleReader" "RANKS" "[I" (.ref (ad 5)) A U H ∧ va_T .int (ad 5) 13 (fT c_rank) A U H
theorem EFh.to {ad : Nat → Nat} {A B : Nat → Prop} {s U : State} {H H1 : Heap} (hvm : s.vm.Alike U.vm) (hq : ∀ a : Nat, a < H.size → ¬ A a → H1[a]? = H[a]?) (hAB : ∀ q, B q → A q) (h : EFh ad A s H) : EFh ad B U H1 := by
  obtain ⟨h1, h2, h3, h4, h5, h6, h7, h8, h9, h10⟩ := h
  exact ⟨((h1.moved hvm).kept hq).narrow hAB, ((h2.moved hvm).kept hq).narrow hAB, ((h3.moved hvm).kept hq).narrow hAB, ((h4.moved hvm).kept hq).narrow hAB, ((h5.moved hvm).kept hq).narrow hAB, ((h6.moved hvm).kept hq).narrow hAB,
    ((h7.moved hvm).kept hq).narrow hAB, ((h8.moved hvm).kept hq).narrow hAB, ((h9.moved hvm).kept hq).narrow hAB, ((h10.moved hvm).kept hq).narrow hAB⟩
def EF (D : va_G) (cA : Nat → ClassId) (ad : Nat → Nat) (A : Nat → Prop) (U : State) (H : Heap) : Prop := va_K D cls (tysF cA) U ∧ EFw ad U ∧ EFh ad A U H
theorem EF.to {D : va_G} {cA : Nat → ClassId} {ad : Nat → Nat} {A B : Nat → Prop} {s U : State} {H : Heap} {locs : List Loc} (h : EF D cA ad A s s.heap) (hW : s.WarmedH U.vm) (hS : va_S A s.heap H locs) (hU : U.heap = H) (hAB : ∀ q, B q → A q) : EF D cA ad B U U.heap :=
  ⟨va_K.moved hW.alike h.1, h.2.1.warm hW, h.2.2.to hW.alike (fun a h1 h2 => by rw [hU]; exact hS.2.1 a h1 h2) hAB⟩
def cP (D : va_G) (cA : Nat → ClassId) (ad : Nat → Nat) (av : List Value) (ws : va_W) (sz : Nat) : Array Value → State → Prop :=
  va_Pc av (fun U => U.heap.size = sz ∧ va_P D cls ws U.heap ∧ va_D (fun _ => True) ws ∧ EF D cA ad (va_A ws sz) U U.heap)
theorem cP_blind {D : va_G} {cA : Nat → ClassId} {ad : Nat → Nat} {av : List Value} {ws : va_W} {sz : Nat} : FrameBlind (cP D cA ad av ws sz) := by
  intro a U g mk h
  obtain ⟨h1, h2, h3, h4, h5⟩ := h
  exact ⟨h1, h2, h3, h4, EF.to (U := U.calling g mk a) h5 (State.WarmedH.refl U) (va_S.rf) rfl (fun _ h => h)⟩
def cQ {S : Type} (D : va_G) (post : Option Value → S → Prop) (postT : S → Prop) (w1 : S → va_W) (cn : S → Nat × Nat) (A : Nat → Prop) : Array Value → State → Outcome → State → Nat → Nat → Prop :=
  tx_Qc iseN post postT (fun u t => va_P D cls (w1 u) t.heap ∧ va_D A (w1 u)) cn A
/-- a method's contract: launch, name, words, room; the kept things; arguments, cells; answer, exception, cells behind it, how many came -/
def cM {S : Type} (l : Launch) (y : MethodName) (ww : List Cond) (rm : Room) (D : va_G) (cA : Nat → ClassId) (ad : Nat → Nat) (av : List Value) (ws : va_W) (sz : Nat) (post : Option Value → S → Prop) (postT : S → Prop) (w1 : S → va_W) (cn : S → Nat × Nat) : Prop :=
  tx_Met l y ww rm (cP D cA ad av ws sz) (cQ D post postT w1 cn (va_A ws sz)) (va_A ws sz)
abbrev FX (p : Program) (s : State) (m : MethodId) (args : Array Value) (meth : Method) (c : Code) (y : MethodName) (cc : ByteArray) (maxL : Nat) (ret : Option FieldType) (Ts : List Cond) : Prop :=
  CallFix p m c cc maxL s args Ts y.cls ∧ meth.sig.returnType = ret ∧ c.exceptionTable.toList = [] ∧ meth.locks = false ∧ meth.name = y.name
theorem cM.ofW {S : Type} {l : Launch} {y : MethodName} {ww' : List Cond} {rm : Room} {D : va_G} {cA : Nat → ClassId} {ad : Nat → Nat} {av : List Value} {ws : va_W} {sz : Nat} {post : Option Value → S → Prop} {postT : S → Prop} {w1 : S → va_W} {cn : S → Nat × Nat} {cc : ByteArray} {maxL : Nat} {ret : Option FieldType}
    (hy : plainName y.cls = true) (hlen : (lg_sl av).length ≤ maxL)
    (body : ∀ (p : Program) (e : Env) (s : State) (m : MethodId) (below : List Frame) (meth : Method) (c : Code) (A : Nat → Prop) (ls : Array Slot), FX p s m av.toArray meth c y cc maxL ret (Cond.code y cc maxL ret :: ww') → s.heap.size = sz → (∀ q : Nat, sz ≤ q → A q) → EF D cA ad A s s.heap → va_P D cls ws s.heap → va_D A ws → lv_has ls maxL (lv_args 0 av) →
      W p l e rm s m av.toArray below meth c s.heap [] 0 0 (tx_Q below (cQ D post postT w1 cn A) av.toArray s A) (F0 m 0 ls [])) :
    cM l y (Cond.code y cc maxL ret :: ww') rm D cA ad av ws sz post postT w1 cn := by
  refine tx_Met.ofW (cc := cc) (maxL := maxL) (ret := ret) hy rfl ?_
  intro p e s m args below meth c s₁ B hml hno hv
  obtain ⟨rfl, hsz, hP, hD0, hE⟩ := hv
  have hts := atoms_spec (ws := Cond.code y cc maxL ret :: ww') B.pre
  have hown : s.vm.findClass y.cls = some m.cls := findClass_of_methodNamed B.named
  have hl := lv_entry av (n := maxL) hlen
  rw [lg_entry_eq]
  exact body p e s m below meth c (va_A ws sz) _ ⟨⟨B.exec, B.bytes, hml, hown, hts⟩, B.returns, hno, B.notSynchronized, (name_of_methodNamed B.named B.method).1⟩ hsz (fun q h => Or.inr h) hE hP (hD0.self (sz := sz)) hl
section CR
variable {p : Program} {l : Launch} {e : Env} {R : Room} {s : State} {m : MethodId} {args : Array Value} {below : List Frame} {meth : Method} {c : Code} {H : Heap} {locs : List Loc} {cells slots : Nat} {S : Type} {D : va_G} {post : Option Value → S → Prop} {postT : S → Prop} {w1 : S → va_W} {cn : S → Nat × Nat} {A : Nat → Prop} {cc : ByteArray} {pc : Nat} {ls : Array Slot}
theorem cRi {v : Int32} (u : S) (hx : p.tables.exec = Jvm.exec) (hb : c.code = cc) (hr : meth.sig.returnType = some .int) (hlocks : meth.locks = false) (hdg : decode cc pc = .ok (.ireturn, 1)) (hS : va_S A s.heap H locs) (hP : va_P D cls (w1 u) H) (hD : va_D A (w1 u)) (hq : post (some (.int v)) u) (hc : cells ≤ (cn u).1) (hs : slots ≤ (cn u).2) :
    W p l e R s m args below meth c H locs cells slots (tx_Q below (cQ D post postT w1 cn A) args s A) (F0 m pc ls [.int v]) :=
  tx_ret (W.iret hx hb hr (fun t ht _ => ⟨⟨u, ⟨by rw [ht]; exact hP, hD⟩, hq, hc, hs⟩, hS.F ht⟩) hS.2.2 hdg hlocks)
theorem cRz {v : Int32} (u : S) (hx : p.tables.exec = Jvm.exec) (hb : c.code = cc) (hr : meth.sig.returnType = some .boolean) (hn : narrow .boolean (.int v) = .int v) (hlocks : meth.locks = false) (hdg : decode cc pc = .ok (.ireturn, 1)) (hS : va_S A s.heap H locs) (hP : va_P D cls (w1 u) H) (hD : va_D A (w1 u)) (hq : post (some (.int v)) u) (hc : cells ≤ (cn u).1) (hs : slots ≤ (cn u).2) :
    W p l e R s m args below meth c H locs cells slots (tx_Q below (cQ D post postT w1 cn A) args s A) (F0 m pc ls [.int v]) :=
  tx_ret (W.zret hx hb hr hn (fun t ht _ => ⟨⟨u, ⟨by rw [ht]; exact hP, hD⟩, hq, hc, hs⟩, hS.F ht⟩) hS.2.2 hdg hlocks)
theorem cRl {v : Int64} (u : S) (hx : p.tables.exec = Jvm.exec) (hb : c.code = cc) (hr : meth.sig.returnType = some .long) (hlocks : meth.locks = false) (hdg : decode cc pc = .ok (.lreturn, 1)) (hS : va_S A s.heap H locs) (hP : va_P D cls (w1 u) H) (hD : va_D A (w1 u)) (hq : post (some (.long v)) u) (hc : cells ≤ (cn u).1) (hs : slots ≤ (cn u).2) :
    W p l e R s m args below meth c H locs cells slots (tx_Q below (cQ D post postT w1 cn A) args s A) (F0 m pc ls [.long v]) :=
  tx_ret (W.lret hx hb hr (fun t ht _ => ⟨⟨u, ⟨by rw [ht]; exact hP, hD⟩, hq, hc, hs⟩, hS.F ht⟩) hS.2.2 hdg hlocks)
theorem cRv (u : S) (hx : p.tables.exec = Jvm.exec) (hb : c.code = cc) (hr : meth.sig.returnType = none) (hlocks : meth.locks = false) (hdg : decode cc pc = .ok (.return_, 1)) (hS : va_S A s.heap H locs) (hP : va_P D cls (w1 u) H) (hD : va_D A (w1 u)) (hq : post none u) (hc : cells ≤ (cn u).1) (hs : slots ≤ (cn u).2) :
    W p l e R s m args below meth c H locs cells slots (tx_Q below (cQ D post postT w1 cn A) args s A) (F0 m pc ls []) :=
  tx_ret (W.vret hx hb hr (fun t ht _ => ⟨⟨u, ⟨by rw [ht]; exact hP, hD⟩, hq, hc, hs⟩, hS.F ht⟩) hS.2.2 hdg hlocks)
end CR
theorem atS_ng : ∀ w ∈ (vx_atS "ModuleBytes$Source" 38 iseN xN).filter (fun w => !goodWord w), w ∈ ([.castable iseN iseN, .declares (iS "java/lang/RuntimeException"), .declares (iS "java/lang/Exception"), .declares (iS "java/lang/Throwable")] : List Cond) := by decide +kernel
theorem atS_g : ∀ w ∈ (vx_atS "ModuleBytes$Source" 38 iseN xN).filter goodWord, w ∈ wAll := by decide +kernel
theorem atS_ot : ∀ w ∈ Cond.classLink "ModuleBytes$Source" 34 iseN :: Cond.initialized iseN :: vx_atS "ModuleBytes$Source" 38 iseN xN, vx_ot w = true := by decide +kernel
/-- throw new IllegalStateException("..") in Source -/
theorem cT {p : Program} {l : Launch} {e : Env} {R : Room} {s : State} {m : MethodId} {args : Array Value} {below : List Frame} {meth : Method} {c : Code} {H : Heap} {locs : List Loc} {cells slots : Nat} {S : Type} {D : va_G} {cA : Nat → ClassId} {ad : Nat → Nat} {post : Option Value → S → Prop} {postT : S → Prop} {w1 : S → va_W} {cn : S → Nat × Nat} {A : Nat → Prop} {cc : ByteArray} {pc nL is sa : Nat} {tx : String} {ls : Array Slot} {rest : List Value} {w0 : Cond}
    (u : S) (hl : l.stackTraces = false) (F : CallFix p m c cc nL s args (w0 :: wAll) "ModuleBytes$Source") (hno : c.exceptionTable.toList = []) (hlocks : meth.locks = false) (hE : EF D cA ad A s s.heap) (hstr : vk_R "ModuleBytes$Source" is tx sa s) (hls : ls.size = nL)
    (d0 : decode cc pc = .ok (.new 34, 3)) (d3 : decode cc (pc + 3) = .ok (.dup, 1)) (d4 : decode cc (pc + 4) = .ok (.ldc is, 2)) (d6 : decode cc (pc + 6) = .ok (.invokespecial 38, 3)) (d9 : decode cc (pc + 9) = .ok (.athrow, 1))
    (hRf : 5 < R.frames) (hRl : (rest.map fun v => v.category).sum + 82 ≤ R.locals) (hRc : cells + 1 ≤ R.cells) (hRs : slots + 6 ≤ R.slots)
    (hS : va_S A s.heap H locs) (hP : va_P D cls (w1 u) H) (hD : va_D A (w1 u)) (hq : postT u) (hc : cells ≤ (cn u).1) (hs : slots ≤ (cn u).2) :
    W p l e R s m args below meth c H locs cells slots (tx_Q below (cQ D post postT w1 cn A) args s A) (F0 m pc ls rest) := by
  obtain ⟨hx, hb, hml, hown, hts⟩ := F
  have ht : ∀ w ∈ wAll, w.before args s = true := fun w h => hts w (List.mem_cons_of_mem _ h)
  obtain ⟨-, -, n3, n4, n5, n6, -⟩ := hE.2.1
  have hat : ∀ w ∈ vx_atS "ModuleBytes$Source" 38 iseN xN, w.before args s = true := vx_hat (fun w h => ht w (atS_g w h)) atS_ng (vx_c (va_Nw.use rfl n3) (vx_c (va_Nw.use rfl n4) (vx_c (va_Nw.use rfl n5) (vx_c (va_Nw.use rfl n6) vx_n))))
  refine tx_mono ?_ (vx_throwS (Qc := fun _ _ _ _ => False) (XC := fun E s t => E = iseN ∧ H.size ≤ t.heap.size ∧ ∀ q : Nat, q < H.size → t.heap[q]? = H[q]?) (free := A) (mc := cells + 1) (ms := slots + 6) hx hb hl hown (by decide +kernel) (by decide +kernel)
    (ht _ (by decide +kernel)) (ht _ (by decide +kernel)) hstr hat atS_ot hE.2.2.1 hE.2.2.2.1 hS (hls.trans hml.symm) d0 d3 d4 d6 d9 (by rw [hno]; intro x hx; cases hx) hRf hRl hRc hRs hlocks (fun t _ h1 h2 => ⟨rfl, h1, h2⟩) hS.2.2 (Nat.le_refl _) (Nat.le_refl _))
  rintro t ⟨o, h1, h2, ⟨h3, -⟩ | ⟨q, rfl, E, ce, L, ⟨rfl, h4, h5⟩, h6, h7, h8, h9, h10, h11⟩⟩
  · exact h3.elim
  · refine ⟨_, h1, h2, L, _, _, ⟨⟨u, ⟨fun k z hk => (hP k z hk).kept (h5 _ (hP k z hk).lt), hD⟩, hq, ⟨ce, h6, h7, ?_⟩, by omega, by omega⟩, ?_⟩, ⟨h9, h10⟩, h11⟩
    · rw [h9.alike.findClass]; exact h8
    · exact ⟨Nat.le_trans hS.1 h4, fun z z1 z2 => by rw [h5 z (Nat.lt_of_lt_of_le z1 hS.1)]; exact hS.2.1 z z1 z2⟩
