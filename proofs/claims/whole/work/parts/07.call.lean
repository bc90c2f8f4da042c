/-! CALLS BETWEEN CONTRACTS OF THE FORM cM -/
theorem fm_of {α β : Type} {f : α → Option β} {is : List α} {w : List β} (h : is.map f = w.map some) : is.filterMap f = w := by
  have h1 : (is.map f).filterMap id = (w.map some).filterMap id := by rw [h]
  simpa [List.filterMap_map] using h1
section CC
variable {p : Program} {l : Launch} {e : Env} {R : Room} {s : State} {m : MethodId} {args : Array Value} {below : List Frame} {meth : Method} {c : Code} {H : Heap} {locs : List Loc} {cells slots : Nat} {D : va_G} {cA : Nat → ClassId} {ad : Nat → Nat} {A : Nat → Prop} {cc : ByteArray} {pc nL : Nat} {ls : Array Slot} {rest st0 : List Value} {ws wc wr : va_W}
theorem cPre {C : String} {b : Nat} {As : List Value} {ci : Nat} {fs : List Value} {q : vw_C} (hE : EF D cA ad A s s.heap) (hP : va_P D cls ws H) (hD : va_D A ws) (hS : va_S A s.heap H locs) (hA : ∀ q : Nat, s.heap.size ≤ q → A q) (isC : List Nat) (hC : isC.map (fun i => ws[i]?) = wc.map some) (hn : va_nd isC = true)
    (hq : cls[ci]? = some q) (hqC : q.1 = C) (i0 : Nat) (he : ws[i0]? = some (b, .inr (ci, fs))) : PreV s H C b (cP D cA ad (.ref b :: As) wc H.size) As := by
  subst hqC
  have hF := va_free hD hS hA isC hC
  refine ⟨cP_blind, va_recv hE.1 hP hq he, fun U hU hW => ⟨rfl, by rw [hU], by rw [hU]; exact hP.sub isC (fm_of hC), (hD.sub isC hn hC).weaken (fun _ _ _ _ => trivial), hE.to hW hS hU hF⟩⟩
theorem cPreS {As : List Value} (hE : EF D cA ad A s s.heap) (hP : va_P D cls ws H) (hD : va_D A ws) (hS : va_S A s.heap H locs) (hA : ∀ q : Nat, s.heap.size ≤ q → A q) (isC : List Nat) (hC : isC.map (fun i => ws[i]?) = wc.map some) (hn : va_nd isC = true) : PreS s H (cP D cA ad As wc H.size) As := by
  have hF := va_free hD hS hA isC hC
  refine ⟨cP_blind, fun U hU hW => ⟨rfl, by rw [hU], by rw [hU]; exact hP.sub isC (fm_of hC), (hD.sub isC hn hC).weaken (fun _ _ _ _ => trivial), hE.to hW hS hU hF⟩⟩
/-- behind a call that ran: on with the answer, or out with the exception; the cells of the callee (isC) are those that it left, the others (isR) as they were -/
theorem cGo {S S' : Type} {post : Option Value → S → Prop} {postT : S → Prop} {w1 : S → va_W} {cn : S → Nat × Nat} {post' : Option Value → S' → Prop} {postT' : S' → Prop} {w1' : S' → va_W} {cn' : S' → Nat × Nat} {a : Array Value}
    (hr : tx_Run p l e R s m args below meth c H locs cells slots (F0 m pc ls st0) rest (cQ D post postT w1 cn (va_A wc H.size) a) (va_A wc H.size)) (hno : c.exceptionTable.toList = []) (hlocks : meth.locks = false)
    (hP : va_P D cls ws H) (hD : va_D A ws) (hS : va_S A s.heap H locs) (hA : ∀ q : Nat, s.heap.size ≤ q → A q) (isC isR : List Nat) (hC : isC.map (fun i => ws[i]?) = wc.map some) (hR : isR.map (fun i => ws[i]?) = wr.map some) (hnR : va_nd isR = true) (hdis : ∀ i ∈ isR, i ∉ isC)
    (kt : ∀ u : S, postT u → ∃ u' : S', postT' u' ∧ (∀ H1, va_P D cls (wr ++ w1 u) H1 → va_P D cls (w1' u') H1) ∧ (va_D A (wr ++ w1 u) → va_D A (w1' u')) ∧ cells + (cn u).1 ≤ (cn' u').1 ∧ slots + (cn u).2 ≤ (cn' u').2)
    (kk : ∀ (v : Option Value) (u : S) (H1 : Heap) (locs1 : List Loc), post v u → va_P D cls (wr ++ w1 u) H1 → va_D A (wr ++ w1 u) → va_S A s.heap H1 locs1 → W p l e R s m args below meth c H1 locs1 (cells + (cn u).1) (slots + (cn u).2) (tx_Q below (cQ D post' postT' w1' cn' A) args s A) (F0 m (pc + 3) ls (v.toList ++ rest))) :
    W p l e R s m args below meth c H locs cells slots (tx_Q below (cQ D post' postT' w1' cn' A) args s A) (F0 m pc ls st0) := by
  have hF := va_free hD hS hA isC hC
  refine tx_call hr hno hlocks hS (fun q _ h => hF q h) hF (fun _ h => h) ?_ ?_
  · intro x u t H1 locs1 e1 e2 hp hb hx hz hk hS1 t' k n hk1 hn1 ht' hW' hx'
    obtain ⟨b1, b2⟩ := hb
    rw [e1] at b1
    obtain ⟨u', g1, g2, g3, g4, g5⟩ := kt u hp
    obtain ⟨j1, j2⟩ := va_join hP hD isC isR hC hR hnR hdis hk hF b1 b2
    exact ⟨⟨u', ⟨by rw [ht']; exact g2 _ j1, g3 j2⟩, g1, hx', by omega, by omega⟩, hS1.F ht'⟩
  · intro v u t H1 locs1 e1 e2 hp hb hz hk hS1
    obtain ⟨b1, b2⟩ := hb
    rw [e1] at b1
    obtain ⟨j1, j2⟩ := va_join hP hD isC isR hC hR hnR hdis hk hF b1 b2
    exact kk v u H1 locs1 hp j1 j2 hS1
/-- a virtual call -/
theorem cV {S S' : Type} {post : Option Value → S → Prop} {postT : S → Prop} {w1 : S → va_W} {cn : S → Nat × Nat} {post' : Option Value → S' → Prop} {postT' : S' → Prop} {w1' : S' → va_W} {cn' : S' → Nat × Nat} {w0 : Cond} {own C : String} {idx maxL n b ci : Nat} {y : MethodName} {bytes : ByteArray} {ret : Option FieldType} {rm : Room} {As : List Value} {fs : List Value} {q : vw_C}
    (F : CallFix p m c cc nL s args (w0 :: wAll) own) (hno : c.exceptionTable.toList = []) (hlocks : meth.locks = false) (hsz : ls.size = nL) (hM : cM l y (.code y bytes maxL ret :: wAll) rm D cA ad (.ref b :: As) wc H.size post postT w1 cn)
    (h1 : Cond.methodLink own idx y ∈ wAll) (h2 : Cond.instanceMethod y ∈ wAll) (h3 : Cond.selects C y y ∈ wAll) (h4 : Cond.initialized C ∈ wAll) (h5 : Cond.code y bytes maxL ret ∈ wAll)
    (hd : y.cls = C ∧ y.cls ≠ "java/lang/invoke/MethodHandle" ∧ y.cls ≠ "java/lang/invoke/VarHandle" ∧ (parseMethodDescriptor y.desc).map (fun d => d.parameters.length) = some n) (hn : As.length = n)
    (hR0 : rm.frames + 1 ≤ R.frames ∧ 8 + (maxL + 11) + rm.locals ≤ R.locals) (hf : cells + rm.cells ≤ R.cells ∧ slots + rm.slots ≤ R.slots) (hst : st0 = As.reverse ++ .ref b :: rest) (hW : (rest.map fun v => v.category).sum ≤ 8) (hdg : decode cc pc = .ok (.invokevirtual idx, 3))
    (hE : EF D cA ad A s s.heap) (hP : va_P D cls ws H) (hD : va_D A ws) (hS : va_S A s.heap H locs) (hA : ∀ q : Nat, s.heap.size ≤ q → A q) (isC isR : List Nat) (hC : isC.map (fun i => ws[i]?) = wc.map some) (hR : isR.map (fun i => ws[i]?) = wr.map some) (hnC : va_nd isC = true) (hnR : va_nd isR = true) (hdis : ∀ i ∈ isR, i ∉ isC)
    (hq : cls[ci]? = some q) (hqC : q.1 = C) (i0 : Nat) (he : ws[i0]? = some (b, .inr (ci, fs)))
    (kt : ∀ u : S, postT u → ∃ u' : S', postT' u' ∧ (∀ H1, va_P D cls (wr ++ w1 u) H1 → va_P D cls (w1' u') H1) ∧ (va_D A (wr ++ w1 u) → va_D A (w1' u')) ∧ cells + (cn u).1 ≤ (cn' u').1 ∧ slots + (cn u).2 ≤ (cn' u').2)
    (kk : ∀ (v : Option Value) (u : S) (H1 : Heap) (locs1 : List Loc), post v u → va_P D cls (wr ++ w1 u) H1 → va_D A (wr ++ w1 u) → va_S A s.heap H1 locs1 → W p l e R s m args below meth c H1 locs1 (cells + (cn u).1) (slots + (cn u).2) (tx_Q below (cQ D post' postT' w1' cn' A) args s A) (F0 m (pc + 3) ls (v.toList ++ rest))) :
    W p l e R s m args below meth c H locs cells slots (tx_Q below (cQ D post' postT' w1' cn' A) args s A) (F0 m pc ls st0) :=
  cGo (tx_runV (rest := rest) F hM (cwV n F.2.2.2.2 (wa_call h1 h2 h3 h4 h5) rfl rfl rfl hd hR0) (cPre hE hP hD hS hA isC hC hnC hq hqC i0 he) rfl hn hsz hst (lv_room hW) hdg hf) hno hlocks hP hD hS hA isC isR hC hR hnR hdis kt kk
end CC
