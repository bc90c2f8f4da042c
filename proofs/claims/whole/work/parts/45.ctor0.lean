section CI
variable {p : Program} {l : Launch} {e : Env} {R : Room} {s : State} {m : MethodId} {args : Array Value} {below : List Frame} {meth : Method} {c : Code} {H : Heap} {locs : List Loc} {cells slots : Nat} {D : va_G} {cA : Nat → ClassId} {ad : Nat → Nat} {A : Nat → Prop} {cc : ByteArray} {pc nL : Nat} {ls : Array Slot} {rest st0 : List Value} {ws wc wr : va_W}
theorem tx_runI {y : MethodName} {bytes : ByteArray} {maxL mc ms n index b : Nat} {ww : List Cond} {rm : Room} {Pc : Array Value → State → Prop} {Qc : Array Value → State → Outcome → State → Nat → Nat → Prop} {free : Addr → Prop} {Ts : List Cond} {own : String} {As : List Value} {g : JFrame}
    (S : CallFix p m c cc nL s args Ts own) (hM : tx_Met l y ww rm Pc Qc free) (cw : CallB R s args own index y bytes maxL none ww rm mc ms n ∧ y.name = "<init>" ∧ (Cond.instanceMethod y).before args s = true) (hp : PreS s H Pc (.ref b :: As))
    (hg : g.method = m) (hn : As.length = n) (hsize : g.locals.size = nL) (hstack : g.stack = As.reverse ++ .ref b :: rest) (hW : 2 * g.monitorRoom + (rest.map fun v => v.category).sum ≤ 8) (hdg : decode cc g.pc = .ok (.invokespecial index, 3)) (hf : cells + mc ≤ R.cells ∧ slots + ms ≤ R.slots) :
    tx_Run p l e R s m args below meth c H locs cells slots g rest (Qc (Value.ref b :: As).toArray) free := by
  obtain ⟨⟨hrc, hrs, hfr, hlo, hws, hcw, hcode, hini, hy, hlen, hlink⟩, hy1, hinst⟩ := cw
  obtain ⟨hexec, hb, hml, hown, -⟩ := S
  obtain ⟨hbl, hPc⟩ := hp
  have hK : tx_Back l R p e below s args y 3 8 (tx_PreOf R rm Pc) (tx_PostOf Qc free) := tx_back (bytes := bytes) (maxL := maxL) (ret := none) hM hbl hfr hlo hws hcw (fun a' U hW => word_at hW (Or.inl (by first | rfl | simp [Cond.onTables, Cond.keeps, Cond.steady])) hini)
  intro T hT X
  subst hg
  have hpl : e.platform.magicAccessors = ({} : Platform).magicAccessors := by rw [X.admits.platform]
  obtain ⟨mk, methM, cM, kP, vm₁, hnamed, hmethM, hcodeM, -, hlocalsM, -, hkP, -, hW₁, hstep₁⟩ := Steps.initColdArgs (e := e) X.here hexec X.warmed hpl hown hy1 hy hlink hinst hcode (f := g) rfl (fun sig h => hn.trans (hlen sig h)) hstack (by rw [hb]; exact hdg)
  have X₁ := X.noted hW₁
  obtain ⟨o, ⟨U', l2, c2, s2⟩, X', ⟨g', mk', t, L, k, n', e1, e2, hq, h1, hL, h2, h3⟩, hsteps⟩ := hK g.method meth c ⟨T.setVm vm₁, locs, cells, slots⟩ { g with stack := rest } (.invokespecial index) mk (Value.ref b :: As).toArray X₁ rfl (hsize.trans hml.symm) (by rw [hb]; exact hdg) hW (X₁.named hnamed) ⟨by rw [hrc]; exact hf.1, by rw [hrs]; exact hf.2, hPc (T.setVm vm₁) hT X₁.warmed⟩
  dsimp only [Pt.U, Pt.locs, Pt.cells, Pt.slots] at X' e1 e2 h1 h2 h3 hsteps
  subst h1; subst h2; subst h3
  exact ⟨o, (T.setVm vm₁).calling g' mk' (Value.ref b :: As).toArray, t, U', L, k, n', hT, X', hL, e1, e2, hq, tx_to.trans (fun tg h => hstep₁ _ fun acts => by rw [doInvoke_state]; exact h) hsteps⟩
/-- a constructor's call -/
theorem cI {S S' : Type} {post : Option Value → S → Prop} {postT : S → Prop} {w1 : S → va_W} {cn : S → Nat × Nat} {post' : Option Value → S' → Prop} {postT' : S' → Prop} {w1' : S' → va_W} {cn' : S' → Nat × Nat} {w0 : Cond} {own : String} {idx maxL n b : Nat} {y : MethodName} {bytes : ByteArray} {rm : Room} {As : List Value}
    (F : CallFix p m c cc nL s args (w0 :: wAll) own) (hno : c.exceptionTable.toList = []) (hlocks : meth.locks = false) (hsz : ls.size = nL) (hM : cM l y (.code y bytes maxL none :: wAll) rm D cA ad (.ref b :: As) wc H.size post postT w1 cn)
    (h1 : Cond.methodLink own idx y ∈ wAll) (h2 : Cond.instanceMethod y ∈ wAll) (h4 : Cond.initialized y.cls ∈ wAll) (h5 : Cond.code y bytes maxL none ∈ wAll)
    (hd : y.name = "<init>" ∧ y.cls ≠ "java/lang/invoke/MethodHandle" ∧ y.cls ≠ "java/lang/invoke/VarHandle" ∧ (parseMethodDescriptor y.desc).map (fun d => d.parameters.length) = some n) (hn : As.length = n)
    (hR0 : rm.frames + 1 ≤ R.frames ∧ 8 + (maxL + 11) + rm.locals ≤ R.locals) (hf : cells + rm.cells ≤ R.cells ∧ slots + rm.slots ≤ R.slots) (hst : st0 = As.reverse ++ .ref b :: rest) (hW : (rest.map fun v => v.category).sum ≤ 8) (hdg : decode cc pc = .ok (.invokespecial idx, 3))
    (hE : EF D cA ad A s s.heap) (hP : va_P D cls ws H) (hD : va_D A ws) (hS : va_S A s.heap H locs) (hA : ∀ q : Nat, s.heap.size ≤ q → A q) (isC isR : List Nat) (hC : isC.map (fun i => ws[i]?) = wc.map some) (hR : isR.map (fun i => ws[i]?) = wr.map some) (hnC : va_nd isC = true) (hnR : va_nd isR = true) (hdis : ∀ i ∈ isR, i ∉ isC)
    (kt : ∀ u : S, postT u → ∃ u' : S', postT' u' ∧ (∀ H1, va_P D cls (wr ++ w1 u) H1 → va_P D cls (w1' u') H1) ∧ (va_D A (wr ++ w1 u) → va_D A (w1' u')) ∧ cells + (cn u).1 ≤ (cn' u').1 ∧ slots + (cn u).2 ≤ (cn' u').2)
    (kk : ∀ (v : Option Value) (u : S) (H1 : Heap) (locs1 : List Loc), post v u → va_P D cls (wr ++ w1 u) H1 → va_D A (wr ++ w1 u) → va_S A s.heap H1 locs1 → W p l e R s m args below meth c H1 locs1 (cells + (cn u).1) (slots + (cn u).2) (tx_Q below (cQ D post' postT' w1' cn' A) args s A) (F0 m (pc + 3) ls (v.toList ++ rest))) :
    W p l e R s m args below meth c H locs cells slots (tx_Q below (cQ D post' postT' w1' cn' A) args s A) (F0 m pc ls st0) :=
  cGo (tx_runI (rest := rest) F hM ⟨callB_of n F.2.2.2.2 (wa_callI h5) rfl rfl rfl (F.2.2.2.2 _ (List.mem_cons_of_mem _ h4)) (F.2.2.2.2 _ (List.mem_cons_of_mem _ h1)) hd.2 hR0, hd.1, F.2.2.2.2 _ (List.mem_cons_of_mem _ h2)⟩ (cPreS hE hP hD hS hA isC hC hnC) rfl hn hsz hst (lv_room hW) hdg hf) hno hlocks hP hD hS hA isC isR hC hR hnR hdis kt kk
end CI
section TxQ
variable {p : Program} {l : Launch} {e : Env} {R : Room} {s : State} {m : MethodId} {args : Array Value} {below : List Frame} {meth : Method} {c : Code} {H : Heap} {locs : List Loc} {cells slots : Nat} {Q : State → Prop}
variable {pc : Nat} {ls : Array Slot} {rest st0 : List Value} {a : Array Value} {A0 A1 : Nat → Prop} {H0 : Heap} {free : Addr → Prop} {E : String}
/-- a call, whatever comes behind: on with the answer, or with the exception over the frame -/
theorem tx_callX {S : Type} {post : Option Value → S → Prop} {postT : S → Prop} {B : S → State → Prop} {cn : S → Nat × Nat}
    (hr : tx_Run p l e R s m args below meth c H locs cells slots (F0 m pc ls st0) rest (tx_Qc E post postT B cn A1 a) free)
    (hS : va_S A0 H0 H locs) (hA : ∀ q, q < H.size → A1 q → A0 q) (hf : ∀ q, free q → A0 q)
    (kt : ∀ (x : Nat) (ce : Cell) (u : S) (t : State) (H1 : Heap) (locs1 : List Loc), t.heap = H1 → s.vm.Alike t.vm → postT u → B u t → H1[x]? = some ce → ce.vm = .none → s.vm.findClass E = some ce.cls → H.size ≤ H1.size → (∀ q : Nat, q < H.size → ¬ A1 q → H1[q]? = H[q]?) → va_S A0 H0 H1 locs1 → vx_W p l e R s m args below meth c H1 locs1 (cells + (cn u).1 + 1) (slots + (cn u).2 + 6) Q (F0 m pc ls rest) x)
    (kk : ∀ (v : Option Value) (u : S) (t : State) (H1 : Heap) (locs1 : List Loc), t.heap = H1 → s.vm.Alike t.vm → post v u → B u t → H.size ≤ H1.size → (∀ q : Nat, q < H.size → ¬ A1 q → H1[q]? = H[q]?) → va_S A0 H0 H1 locs1 → W p l e R s m args below meth c H1 locs1 (cells + (cn u).1) (slots + (cn u).2) Q (F0 m (pc + 3) ls (v.toList ++ rest))) :
    W p l e R s m args below meth c H locs cells slots Q (F0 m pc ls st0) := by
  intro T hT X
  obtain ⟨o, st₀, t, T', L, k, n, h0, X', hL, e1, e2, ⟨⟨u, hb, hm⟩, hz, hk⟩, st⟩ := hr T hT X
  rw [h0] at hz hk
  have hS1 : va_S A0 H0 T'.heap (locs ++ L) := ⟨Nat.le_trans hS.1 (by rw [e1]; exact hz), fun q h1 h2 => by rw [e1, hk q (Nat.lt_of_lt_of_le h1 hS.1) (fun z => h2 (hA q (Nat.lt_of_lt_of_le h1 hS.1) z))]; exact hS.2.1 q h1 h2, fun q hq => by
      rcases List.mem_append.mp hq with h | h
      · exact hS.2.2 q h
      · exact hf _ (hL q h)⟩
  cases o with
  | returned v =>
    obtain ⟨hp, hk1, hn1⟩ := hm
    obtain ⟨t2, a1, b1⟩ := kk v u t T'.heap (locs ++ L) e1.symm (by rw [← e2]; exact X'.warmed.alike) hp hb (by rw [e1]; exact hz) (fun q h1 h2 => by rw [e1]; exact hk q h1 h2) hS1 T' rfl (stand_widen X' (by omega) (by omega))
    exact ⟨t2, Steps.trans st a1, b1⟩
  | threw x =>
    obtain ⟨hp, hx, hk1, hn1⟩ := hm
    obtain ⟨cell, c1, c2, c3⟩ := hx
    have hal : s.vm.Alike t.vm := by rw [← e2]; exact X'.warmed.alike
    obtain ⟨t2, a1, b1⟩ := kt x cell u t T'.heap (locs ++ L) e1.symm hal hp hb (by rw [e1]; exact c1) c2 (by rw [← hal.findClass]; exact c3) (by rw [e1]; exact hz) (fun q h1 h2 => by rw [e1]; exact hk q h1 h2) hS1 T' rfl (stand_widen X' (by omega) (by omega))
    exact ⟨t2, Steps.trans st a1, b1⟩
end TxQ
theorem tyO_eq {U : State} {c c' : ClassId} {C : String} (h : ArrOfT U c (.object C) ∧ va_RA U c (.object C)) (h' : ArrOfT U c' (.object C) ∧ va_RA U c' (.object C)) : c = c' := by
  obtain ⟨kA, comp, -, -, -, e1⟩ := h.2
  obtain ⟨kB, comp', -, -, -, e2⟩ := h'.2
  exact Option.some.inj (e1.symm.trans e2)
