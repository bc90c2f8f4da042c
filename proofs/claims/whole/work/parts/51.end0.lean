abbrev FXH (p : Program) (s : State) (m : MethodId) (args : Array Value) (meth : Method) (c : Code) (y : MethodName) (cc : ByteArray) (maxL : Nat) (ret : Option FieldType) (hh : List (Nat × Nat × Nat × Nat)) (Ts : List Cond) : Prop :=
  CallFix p m c cc maxL s args Ts y.cls ∧ meth.sig.returnType = ret ∧ c.exceptionTable.toList = tableOf hh ∧ meth.locks = false ∧ meth.name = y.name
theorem cM.ofWH {S : Type} {l : Launch} {y : MethodName} {ww' : List Cond} {rm : Room} {D : va_G} {cA : Nat → ClassId} {ad : Nat → Nat} {av : List Value} {ws : va_W} {sz : Nat} {post : Option Value → S → Prop} {postT : S → Prop} {w1 : S → va_W} {cn : S → Nat × Nat} {cc : ByteArray} {maxL : Nat} {ret : Option FieldType} {hh : List (Nat × Nat × Nat × Nat)}
    (hy : plainName y.cls = true) (hlen : (lg_sl av).length ≤ maxL)
    (body : ∀ (p : Program) (e : Env) (s : State) (m : MethodId) (below : List Frame) (meth : Method) (c : Code) (A : Nat → Prop) (ls : Array Slot), FXH p s m av.toArray meth c y cc maxL ret hh (Cond.codeWith y cc maxL ret hh :: ww') → s.heap.size = sz → (∀ q : Nat, sz ≤ q → A q) → EF D cA ad A s s.heap → va_P D cls ws s.heap → va_D A ws → lv_has ls maxL (lv_args 0 av) →
      W p l e rm s m av.toArray below meth c s.heap [] 0 0 (tx_Q below (cQ D post postT w1 cn A) av.toArray s A) (F0 m 0 ls [])) :
    cM l y (Cond.codeWith y cc maxL ret hh :: ww') rm D cA ad av ws sz post postT w1 cn := by
  unfold cM tx_Met
  refine MetFree.of_bodyS (code := cc) (maxLocals := maxL) (ret := ret) hy ?_ ?_
  · intro args s m h hn
    obtain ⟨m9, meth, c, hn9, h1, h2, h3, h4, -, h5, h6, -⟩ := Cond.codeWith_spec (atoms_spec (ws := Cond.codeWith y cc maxL ret hh :: ww') h _ List.mem_cons_self)
    cases hn.symm.trans hn9
    exact ⟨meth, c, h1, h2, h3, h4, h5, h6⟩
  · intro p e s m args below meth c s₁ B hml hv _
    have hh0 : s₁.heap = s.heap := by rw [B.state]; rfl
    have X0 := Stand.of_body B
    have hts := atoms_spec (ws := Cond.codeWith y cc maxL ret hh :: ww') B.pre
    have htab : c.exceptionTable.toList = tableOf hh := vx_table (x := y) B (hts _ List.mem_cons_self)
    obtain ⟨rfl, hsz, hP, hD0, hE⟩ := hv
    have hown : s.vm.findClass y.cls = some m.cls := findClass_of_methodNamed B.named
    have hl := lv_entry av (n := maxL) hlen
    have K := body p e s m below meth c (va_A ws sz) _ ⟨⟨B.exec, B.bytes, hml, hown, hts⟩, B.returns, htab, B.notSynchronized, (name_of_methodNamed B.named B.method).1⟩ hsz (fun q h => Or.inr h) hE hP (hD0.self (sz := sz)) hl
    rw [← lg_entry_eq] at K
    obtain ⟨t, a1, o, b1, b2, b3⟩ := K s₁ hh0 X0
    exact ⟨t, o, a1, b1, b2, b3⟩
section CVX
variable {p : Program} {l : Launch} {e : Env} {R : Room} {s : State} {m : MethodId} {args : Array Value} {below : List Frame} {meth : Method} {c : Code} {H : Heap} {locs : List Loc} {cells slots : Nat} {D : va_G} {cA : Nat → ClassId} {ad : Nat → Nat} {A : Nat → Prop} {cc : ByteArray} {pc nL : Nat} {ls : Array Slot} {rest st0 : List Value} {ws wc wr : va_W} {Q : State → Prop}
/-- a virtual call, whatever comes behind -/
theorem cVX {S : Type} {post : Option Value → S → Prop} {postT : S → Prop} {w1 : S → va_W} {cn : S → Nat × Nat} {w0 : Cond} {own C : String} {idx maxL n b ci : Nat} {y : MethodName} {bytes : ByteArray} {ret : Option FieldType} {rm : Room} {As : List Value} {fs : List Value} {q : vw_C}
    (F : CallFix p m c cc nL s args (w0 :: wAll) own) (hsz : ls.size = nL) (hM : cM l y (.code y bytes maxL ret :: wAll) rm D cA ad (.ref b :: As) wc H.size post postT w1 cn)
    (h1 : Cond.methodLink own idx y ∈ wAll) (h2 : Cond.instanceMethod y ∈ wAll) (h3 : Cond.selects C y y ∈ wAll) (h4 : Cond.initialized C ∈ wAll) (h5 : Cond.code y bytes maxL ret ∈ wAll)
    (hd : y.cls = C ∧ y.cls ≠ "java/lang/invoke/MethodHandle" ∧ y.cls ≠ "java/lang/invoke/VarHandle" ∧ (parseMethodDescriptor y.desc).map (fun d => d.parameters.length) = some n) (hn : As.length = n)
    (hR0 : rm.frames + 1 ≤ R.frames ∧ 8 + (maxL + 11) + rm.locals ≤ R.locals) (hf : cells + rm.cells ≤ R.cells ∧ slots + rm.slots ≤ R.slots) (hst : st0 = As.reverse ++ .ref b :: rest) (hW : (rest.map fun v => v.category).sum ≤ 8) (hdg : decode cc pc = .ok (.invokevirtual idx, 3))
    (hE : EF D cA ad A s s.heap) (hP : va_P D cls ws H) (hD : va_D A ws) (hS : va_S A s.heap H locs) (hA : ∀ q : Nat, s.heap.size ≤ q → A q) (isC isR : List Nat) (hC : isC.map (fun i => ws[i]?) = wc.map some) (hR : isR.map (fun i => ws[i]?) = wr.map some) (hnC : va_nd isC = true) (hnR : va_nd isR = true) (hdis : ∀ i ∈ isR, i ∉ isC)
    (hq : cls[ci]? = some q) (hqC : q.1 = C) (i0 : Nat) (he : ws[i0]? = some (b, .inr (ci, fs)))
    (kt : ∀ (x : Nat) (ce : Cell) (u : S) (H1 : Heap) (locs1 : List Loc), postT u → va_P D cls (wr ++ w1 u) H1 → va_D A (wr ++ w1 u) → va_S A s.heap H1 locs1 → H1[x]? = some ce → ce.vm = .none → s.vm.findClass iseN = some ce.cls → vx_W p l e R s m args below meth c H1 locs1 (cells + (cn u).1 + 1) (slots + (cn u).2 + 6) Q (F0 m pc ls rest) x)
    (kk : ∀ (v : Option Value) (u : S) (H1 : Heap) (locs1 : List Loc), post v u → va_P D cls (wr ++ w1 u) H1 → va_D A (wr ++ w1 u) → va_S A s.heap H1 locs1 → W p l e R s m args below meth c H1 locs1 (cells + (cn u).1) (slots + (cn u).2) Q (F0 m (pc + 3) ls (v.toList ++ rest))) :
    W p l e R s m args below meth c H locs cells slots Q (F0 m pc ls st0) := by
  have hF := va_free hD hS hA isC hC
  refine tx_callX (tx_runV (rest := rest) F hM (cwV n F.2.2.2.2 (wa_call h1 h2 h3 h4 h5) rfl rfl rfl hd hR0) (cPre hE hP hD hS hA isC hC hnC hq hqC i0 he) rfl hn hsz hst (lv_room hW) hdg hf) hS (fun q _ h => hF q h) hF ?_ ?_
  · intro x ce u t H1 locs1 e1 e2 hp hb hx hv hc hz hk hS1
    obtain ⟨b1, b2⟩ := hb
    rw [e1] at b1
    obtain ⟨j1, j2⟩ := va_join hP hD isC isR hC hR hnR hdis hk hF b1 b2
    exact kt x ce u H1 locs1 hp j1 j2 hS1 hx hv hc
  · intro v u t H1 locs1 e1 e2 hp hb hz hk hS1
    obtain ⟨b1, b2⟩ := hb
    rw [e1] at b1
    obtain ⟨j1, j2⟩ := va_join hP hD isC isR hC hR hnR hdis hk hF b1 b2
    exact kk v u H1 locs1 hp j1 j2 hS1
end CVX
