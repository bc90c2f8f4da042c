/-! THE LAW'S CALLS -/
section LwB
variable {l : Launch} {R : Room} {p : Program} {e : Env} {below : List Frame} {s : State} {sargs : Array Value} {y : MethodName} {len Wt : Nat}
theorem tx_backW {hh : List (Nat × Nat × Nat × Nat)} {ws : List Cond} {rm : Room} {Pc : Array Value → State → Prop} {Qc : Array Value → State → Outcome → State → Nat → Nat → Prop} {free : Addr → Prop} {bytes : ByteArray} {maxL : Nat} {ret : Option FieldType}
    (hM : tx_Met l y ws rm Pc Qc free) (hblind : FrameBlind Pc) (hframes : rm.frames + 1 ≤ R.frames) (hlocals : Wt + (maxL + 11) + rm.locals ≤ R.locals)
    (hws : ∀ w ∈ ws, ∀ a' U, s.WarmedH U.vm → w.before a' U = true) (hcode : Cond.codeWith y bytes maxL ret hh ∈ ws) (hinit : ∀ a' U, s.WarmedH U.vm → (Cond.initialized y.cls).before a' U = true) :
    tx_Back l R p e below s sargs y len Wt (tx_PreOf R rm Pc) (tx_PostOf Qc free) := by
  intro m meth c A g ig mk a X hg hsize hdg hW hn hp
  obtain ⟨U, Ls, c0, s0⟩ := A
  dsimp only [tx_PreOf, Pt.U, Pt.locs, Pt.cells, Pt.slots] at X hn hp ⊢
  obtain ⟨hp1, hp2, hp3⟩ := hp
  obtain ⟨m9, methY, cY, hn9, hmY, hcY, -, hlY, -⟩ := Cond.codeWith_spec (hws _ hcode a U X.warmed)
  cases Option.some.inj (hn9.symm.trans hn)
  obtain ⟨kY, hkY, -⟩ := className_of_methodNamed hn
  have hinitY : kY.init = .initialized := Cond.initialized_spec (findClass_of_methodNamed hn) hkY (hinit a U X.warmed)
  have h : At U g.method c below := by rw [hg]; exact X.here
  have happ : (headSpec ws rm).appliesLoose y e.platform (U.calling g mk a) = true :=
    Spec.appliesLoose_calling (g := g) h hdg hn hkY hinitY
      (X.room_calling (g := g) (R' := (headSpec ws rm).room) hsize hmY hcY hframes (by rw [hlY]; exact Nat.le_trans (Nat.add_le_add_right (Nat.add_le_add_right hW _) _) hlocals) hp1 hp2) (atoms_intro fun w hw => hws w hw _ _ X.warmed)
  obtain ⟨mid, hmid⟩ := h.above
  have hfr : (U.setTop g).frames = (.java g :: mid) ++ below := by rw [State.frames_setTop' g h.top, hmid]; rfl
  obtain ⟨o, s₂, hsteps, -, hend, hq0⟩ := Steps.callFree hM p X.admits X.cas X.clock (acts := []) hfr happ (hblind _ _ _ _ hp3) trivial
  have hq1 : ∃ (L : List Loc) (k n : Nat), Qc a (U.calling g mk a) o s₂ k n ∧ tx_End (U.calling g mk a) s₂ L k n ∧ ∀ q ∈ L, free q.base := hq0
  obtain ⟨L, k, n, hq, ⟨hW₂, hsm⟩, hL⟩ := hq1
  rw [State.frames_setTop' g h.top] at hend
  obtain ⟨e2, q2, q3, q4, q5, q6⟩ := id hsm
  have e3 : s₂ = ({ (U.calling g mk a).setFrames s₂.frames with heap := s₂.heap, slotsUsed := s₂.slotsUsed } : State).setVm s₂.vm := by
    have : s₂ = ({ s₂ with vm := (U.calling g mk a).vm } : State).setVm s₂.vm := rfl
    rw [e2] at this
    exact this
  have hW' : U.WarmedH s₂.vm := hW₂
  obtain ⟨g₀, hg0⟩ := Option.isSome_iff_exists.mp h.top
  obtain ⟨r, hr⟩ := State.topJava?_eq_some.mp hg0
  have hr' : (({ U with heap := s₂.heap, slotsUsed := s₂.slotsUsed } : State).setVm s₂.vm).frames = .java g₀ :: r := hr
  have hsame : U.sameButNew ({ U with heap := s₂.heap, slotsUsed := s₂.slotsUsed } : State) L k n := by
    refine ⟨?_, q2, q3, q4, q5, q6⟩
    obtain ⟨t, ht, -⟩ := State.frames_cons hr
    show ({ U with heap := s₂.heap, slotsUsed := s₂.slotsUsed } : State) = { U.setFrames U.frames with heap := s₂.heap, slotsUsed := s₂.slotsUsed }
    rw [State.setFrames_self ht]
  subst hg
  refine ⟨o, ⟨(({ U with heap := s₂.heap, slotsUsed := s₂.slotsUsed } : State).setVm s₂.vm), Ls ++ L, c0 + k, s0 + n⟩,
    ⟨X.admits, X.cas, X.clock, X.frames, X.room, X.hears, X.method, X.code, (X.here.setHeapUsed s₂.heap s₂.slotsUsed).setVm hW'.alike, X.tail, State.WarmedH.trans X.warmed hW', X.limits, X.bytes, X.same.trans (hsame.setVm s.vm)⟩,
    ⟨g, mk, s₂, L, k, n, rfl, rfl, hq, rfl, hL, rfl, rfl⟩, ?_⟩
  cases o with
  | returned v =>
    obtain ⟨c₂, i₂, len₂, hc₂, hd₂, hf₂⟩ := hend
    have hcc : c₂ = c := by
      have h1 : s₂.code? g.method = U.code? g.method := by rw [State.code?_eq, State.code?_eq, hW'.alike.method?]
      exact Option.some.inj (hc₂.symm.trans (h1.trans h.code))
    subst hcc
    have hlen : len₂ = len := by rw [hdg] at hd₂; cases hd₂; rfl
    subst hlen
    have hs₂ : s₂ = (({ U with heap := s₂.heap, slotsUsed := s₂.slotsUsed } : State).setVm s₂.vm).setTop { g with pc := g.pc + len₂, stack := v.toList ++ g.stack } := by
      refine e3.trans ?_
      rw [hf₂, State.calling_eq h.top, State.setFrames_setFrames, State.setTop_of_frames _ hr', hr]
      rfl
    show Steps p.tables e below _ ((({ U with heap := s₂.heap, slotsUsed := s₂.slotsUsed } : State).setVm s₂.vm).setTop { g with pc := g.pc + len₂, stack := v.toList ++ g.stack })
    rw [← hs₂]
    exact hsteps
  | threw v =>
    have hf₂ : s₂.frames = .throwing v :: .java g :: U.frames.tail := hend
    have hs₂ : s₂ = ((({ U with heap := s₂.heap, slotsUsed := s₂.slotsUsed } : State).setVm s₂.vm).setTop g).pushFrame (.throwing v) := by
      refine e3.trans ?_
      rw [hf₂, State.calling_eq h.top, State.setFrames_setFrames, State.pushFrame, State.frames_setTop _ hr', State.setTop_of_frames _ hr', State.setFrames_setFrames, hr]
      rfl
    show Steps p.tables e below _ (((({ U with heap := s₂.heap, slotsUsed := s₂.slotsUsed } : State).setVm s₂.vm).setTop g).pushFrame (.throwing v))
    rw [← hs₂]
    exact hsteps
end LwB
section LwC
variable {p : Program} {l : Launch} {e : Env} {R : Room} {s : State} {m : MethodId} {args : Array Value} {below : List Frame} {meth : Method} {c : Code} {H : Heap} {locs : List Loc} {cells slots : Nat} {Q : State → Prop}
variable {y : MethodName} {bytes cc : ByteArray} {maxL nL mc ms n index : Nat} {ret : Option FieldType} {ws : List Cond} {rm : Room} {Pc : Array Value → State → Prop} {Qc : Array Value → State → Outcome → State → Nat → Nat → Prop} {free : Addr → Prop} {Ts : List Cond} {own C host : String} {b : Addr} {As rest : List Value} {g : JFrame}
theorem tx_runVW {hh : List (Nat × Nat × Nat × Nat)} (S : CallFix p m c cc nL s args Ts own) (hM : tx_Met l y ws rm Pc Qc free) (cw : vx_CVW R s args own C index y bytes maxL ret hh ws rm mc ms n) (hp : PreV s H C b Pc As)
    (hg : g.method = m) (hn : As.length = n) (hsize : g.locals.size = nL) (hstack : g.stack = As.reverse ++ .ref b :: rest) (hW : 2 * g.monitorRoom + (rest.map fun v => v.category).sum ≤ 8) (hdg : decode cc g.pc = .ok (.invokevirtual index, 3)) (hf : cells + mc ≤ R.cells ∧ slots + ms ≤ R.slots) :
    tx_Run p l e R s m args below meth c H locs cells slots g rest (Qc (Value.ref b :: As).toArray) free := by
  obtain ⟨⟨hrc, hrs, hfr, hlo, hws, hcw⟩, hcode, hini, hy, hlen, hlink, hinst, hsel⟩ := cw
  obtain ⟨hexec, hb, hml, hown, -⟩ := S
  obtain ⟨hbl, ⟨cellB, hcB, hoB, hclB⟩, hPc⟩ := hp
  have hK : tx_Back l R p e below s args y 3 8 (tx_PreOf R rm Pc) (tx_PostOf Qc free) := tx_backW (hh := hh) (bytes := bytes) (maxL := maxL) (ret := ret) hM hbl hfr hlo hws hcw (fun a' U hW => word_at hW (Or.inl (by first | rfl | simp [Cond.onTables, Cond.keeps, Cond.steady])) hini)
  intro T hT X
  obtain ⟨mk, methM, hnamed, hmethM, hstM, habM⟩ := Cond.instanceMethod_spec hinst
  obtain ⟨m9, methM', cM, hn9, hmethM', -, -, -, -, -, -, hsigM⟩ := Cond.codeWith_spec hcode
  cases Option.some.inj (hn9.symm.trans hnamed)
  cases hmethM.symm.trans hmethM'
  obtain ⟨c2, r2, m2, q1, q2, q3, q4, kP, hkP, hkPi⟩ := Cond.selects_spec hsel
  cases hclB.symm.trans q1
  cases (State.methodFound?_of_named hnamed hy).symm.trans q2
  cases hnamed.symm.trans q3
  have hselP : selectMethod e.platform s.vm cellB.cls mk = .method mk := by rw [Launch.admits_selectMethod X.admits]; exact q4
  obtain ⟨vm₁, X₁, hstep₁⟩ := X.invokevirtual hexec hown hlink hnamed hmethM hstM hkP hkPi hy (a := b) (cell := cellB) (by rw [hT]; exact hcB)
    (fun z h => by rw [h] at hoB; cases hoB) hselP hmethM habM hkP hkPi (g := g) hg (argsL := As) (rest := rest) (hn.trans (hlen _ hsigM)) hstack (by rw [hb]; exact hdg)
  obtain ⟨o, ⟨U', l2, c2, s2⟩, X', ⟨g', mk', t, L, k, n', e1, e2, hq, h1, hL, h2, h3⟩, hsteps⟩ := hK m meth c ⟨T.setVm vm₁, locs, cells, slots⟩ { g with stack := rest } (.invokevirtual index) mk (Value.ref b :: As).toArray X₁ hg (hsize.trans hml.symm) (by rw [hb]; exact hdg) hW (X₁.named hnamed) ⟨by rw [hrc]; exact hf.1, by rw [hrs]; exact hf.2, hPc (T.setVm vm₁) hT X₁.warmed⟩
  dsimp only [Pt.U, Pt.locs, Pt.cells, Pt.slots] at X' e1 e2 h1 h2 h3 hsteps
  subst h1; subst h2; subst h3
  exact ⟨o, (T.setVm vm₁).calling g' mk' (Value.ref b :: As).toArray, t, U', L, k, n', hT, X', hL, e1, e2, hq, tx_to.trans (fun tg h => hstep₁ _ fun acts => by rw [doInvoke_state]; exact h) hsteps⟩
end LwC
theorem wa_callW {hh : List (Nat × Nat × Nat × Nat)} {w0 : Cond} {own C : String} {idx maxL : Nat} {y : MethodName} {cc : ByteArray} {ret : Option FieldType} (h1 : Cond.methodLink own idx y ∈ wAll) (h2 : Cond.instanceMethod y ∈ wAll) (h3 : Cond.selects C y y ∈ wAll) (h4 : Cond.initialized C ∈ wAll) (h5 : Cond.codeWith y cc maxL ret hh ∈ wAll) : GoodIn (w0 :: wAll) (wsV own idx C y (.codeWith y cc maxL ret hh :: wAll)) := by
  have k : ∀ w ∈ wAll, w ∈ w0 :: wAll ∧ ((w.onTables && w.keeps) = true ∨ ∃ ty, w = .arrayClass ty) := fun w h => ⟨List.mem_cons_of_mem _ h, (wa_good w h).2⟩
  intro w hw
  simp only [wsV, List.mem_append, List.mem_cons, List.not_mem_nil, or_false] at hw
  rcases hw with (rfl | rfl | rfl | rfl) | (rfl | hw)
  · exact k _ h1
  · exact k _ h2
  · exact k _ h3
  · exact k _ h4
  · exact k _ h5
  · exact k _ hw

section LwX
variable {p : Program} {l : Launch} {e : Env} {R : Room} {s : State} {m : MethodId} {args : Array Value} {below : List Frame} {meth : Method} {c : Code} {H : Heap} {locs : List Loc} {cells slots : Nat} {D : va_G} {cA : Nat → ClassId} {ad : Nat → Nat} {A : Nat → Prop} {cc : ByteArray} {pc nL : Nat} {ls : Array Slot} {rest st0 : List Value} {ws wc wr : va_W} {Q : State → Prop}
theorem cVXW {hh : List (Nat × Nat × Nat × Nat)} {S : Type} {post : Option Value → S → Prop} {postT : S → Prop} {w1 : S → va_W} {cn : S → Nat × Nat} {w0 : Cond} {own C : String} {idx maxL n b ci : Nat} {y : MethodName} {bytes : ByteArray} {ret : Option FieldType} {rm : Room} {As : List Value} {fs : List Value} {q : vw_C}
    (F : CallFix p m c cc nL s args (w0 :: wAll) own) (hsz : ls.size = nL) (hM : cM l y (.codeWith y bytes maxL ret hh :: wAll) rm D cA ad (.ref b :: As) wc H.size post postT w1 cn)
    (h1 : Cond.methodLink own idx y ∈ wAll) (h2 : Cond.instanceMethod y ∈ wAll) (h3 : Cond.selects C y y ∈ wAll) (h4 : Cond.initialized C ∈ wAll) (h5 : Cond.codeWith y bytes maxL ret hh ∈ wAll)
    (hd : y.cls = C ∧ y.cls ≠ "java/lang/invoke/MethodHandle" ∧ y.cls ≠ "java/lang/invoke/VarHandle" ∧ (parseMethodDescriptor y.desc).map (fun d => d.parameters.length) = some n) (hn : As.length = n)
    (hR0 : rm.frames + 1 ≤ R.frames ∧ 8 + (maxL + 11) + rm.locals ≤ R.locals) (hf : cells + rm.cells ≤ R.cells ∧ slots + rm.slots ≤ R.slots) (hst : st0 = As.reverse ++ .ref b :: rest) (hW : (rest.map fun v => v.category).sum ≤ 8) (hdg : decode cc pc = .ok (.invokevirtual idx, 3))
    (hE : EF D cA ad A s s.heap) (hP : va_P D cls ws H) (hD : va_D A ws) (hS : va_S A s.heap H locs) (hA : ∀ q : Nat, s.heap.size ≤ q → A q) (isC isR : List Nat) (hC : isC.map (fun i => ws[i]?) = wc.map some) (hR : isR.map (fun i => ws[i]?) = wr.map some) (hnC : va_nd isC = true) (hnR : va_nd isR = true) (hdis : ∀ i ∈ isR, i ∉ isC)
    (hq : cls[ci]? = some q) (hqC : q.1 = C) (i0 : Nat) (he : ws[i0]? = some (b, .inr (ci, fs)))
    (kt : ∀ (x : Nat) (ce : Cell) (u : S) (H1 : Heap) (locs1 : List Loc), postT u → va_P D cls (wr ++ w1 u) H1 → va_D A (wr ++ w1 u) → va_S A s.heap H1 locs1 → H1[x]? = some ce → ce.vm = .none → s.vm.findClass iseN = some ce.cls → vx_W p l e R s m args below meth c H1 locs1 (cells + (cn u).1 + 1) (slots + (cn u).2 + 6) Q (F0 m pc ls rest) x)
    (kk : ∀ (v : Option Value) (u : S) (H1 : Heap) (locs1 : List Loc), post v u → va_P D cls (wr ++ w1 u) H1 → va_D A (wr ++ w1 u) → va_S A s.heap H1 locs1 → W p l e R s m args below meth c H1 locs1 (cells + (cn u).1) (slots + (cn u).2) Q (F0 m (pc + 3) ls (v.toList ++ rest))) :
    W p l e R s m args below meth c H locs cells slots Q (F0 m pc ls st0) := by
  have hF := va_free hD hS hA isC hC
  refine tx_callX (tx_runVW (hh := hh) (rest := rest) F hM (vx_cwVW n F.2.2.2.2 (wa_callW h1 h2 h3 h4 h5) rfl rfl rfl hd hR0) (cPre hE hP hD hS hA isC hC hnC hq hqC i0 he) rfl hn hsz hst (lv_room hW) hdg hf) hS (fun q _ h => hF q h) hF ?_ ?_
  · intro x ce u t H1 locs1 e1 e2 hp hb hx hv hc hz hk hS1
    obtain ⟨b1, b2⟩ := hb
    rw [e1] at b1
    obtain ⟨j1, j2⟩ := va_join hP hD isC isR hC hR hnR hdis hk hF b1 b2
    exact kt x ce u H1 locs1 hp j1 j2 hS1 hx hv hc
  · intro v u t H1 locs1 e1 e2 hp hb hz hk hS1
    obtain ⟨b1, b2⟩ := hb
    rw [e1] at b1
    obtain ⟨j1, j2⟩ := va_join hP hD isC isR hC hR hnR hdis hk hF b1 b2
    exact kk v u H1 locs1 hp j1 j2 hS1

theorem cIX {S : Type} {post : Option Value → S → Prop} {postT : S → Prop} {w1 : S → va_W} {cn : S → Nat × Nat} {w0 : Cond} {own : String} {idx maxL n b : Nat} {y : MethodName} {bytes : ByteArray} {rm : Room} {As : List Value}
    (F : CallFix p m c cc nL s args (w0 :: wAll) own) (hsz : ls.size = nL) (hM : cM l y (.code y bytes maxL none :: wAll) rm D cA ad (.ref b :: As) wc H.size post postT w1 cn)
    (h1 : Cond.methodLink own idx y ∈ wAll) (h2 : Cond.instanceMethod y ∈ wAll) (h4 : Cond.initialized y.cls ∈ wAll) (h5 : Cond.code y bytes maxL none ∈ wAll)
    (hd : y.name = "<init>" ∧ y.cls ≠ "java/lang/invoke/MethodHandle" ∧ y.cls ≠ "java/lang/invoke/VarHandle" ∧ (parseMethodDescriptor y.desc).map (fun d => d.parameters.length) = some n) (hn : As.length = n)
    (hR0 : rm.frames + 1 ≤ R.frames ∧ 8 + (maxL + 11) + rm.locals ≤ R.locals) (hf : cells + rm.cells ≤ R.cells ∧ slots + rm.slots ≤ R.slots) (hst : st0 = As.reverse ++ .ref b :: rest) (hW : (rest.map fun v => v.category).sum ≤ 8) (hdg : decode cc pc = .ok (.invokespecial idx, 3))
    (hE : EF D cA ad A s s.heap) (hP : va_P D cls ws H) (hD : va_D A ws) (hS : va_S A s.heap H locs) (hA : ∀ q : Nat, s.heap.size ≤ q → A q) (isC isR : List Nat) (hC : isC.map (fun i => ws[i]?) = wc.map some) (hR : isR.map (fun i => ws[i]?) = wr.map some) (hnC : va_nd isC = true) (hnR : va_nd isR = true) (hdis : ∀ i ∈ isR, i ∉ isC)
    (kt : ∀ u : S, ¬ postT u)
    (kk : ∀ (v : Option Value) (u : S) (H1 : Heap) (locs1 : List Loc), post v u → va_P D cls (wr ++ w1 u) H1 → va_D A (wr ++ w1 u) → va_S A s.heap H1 locs1 → W p l e R s m args below meth c H1 locs1 (cells + (cn u).1) (slots + (cn u).2) Q (F0 m (pc + 3) ls (v.toList ++ rest))) :
    W p l e R s m args below meth c H locs cells slots Q (F0 m pc ls st0) := by
  have hF := va_free hD hS hA isC hC
  refine tx_callX (tx_runI (rest := rest) F hM ⟨callB_of n F.2.2.2.2 (wa_callI h5) rfl rfl rfl (F.2.2.2.2 _ (List.mem_cons_of_mem _ h4)) (F.2.2.2.2 _ (List.mem_cons_of_mem _ h1)) hd.2 hR0, hd.1, F.2.2.2.2 _ (List.mem_cons_of_mem _ h2)⟩ (cPreS hE hP hD hS hA isC hC hnC) rfl hn hsz hst (lv_room hW) hdg hf) hS (fun q _ h => hF q h) hF ?_ ?_
  · intro x ce u t H1 locs1 e1 e2 hp
    exact absurd hp (kt u)
  · intro v u t H1 locs1 e1 e2 hp hb hz hk hS1
    obtain ⟨b1, b2⟩ := hb
    rw [e1] at b1
    obtain ⟨j1, j2⟩ := va_join hP hD isC isR hC hR hnR hdis hk hF b1 b2
    exact kk v u H1 locs1 hp j1 j2 hS1

end LwX

theorem okF_m : okF (-1) := Or.inl rfl
theorem okF_n {x : Nat} (h : x ≤ 2000) : okF (lN x) := Or.inr ⟨x, h, rfl⟩
theorem okU_of {u : MC} {LS : Nat → RL} {LL : List Int64} {sec : Nat} {sta dco : Int64} {b : Nat → Nat} {N : Nat} {T : TL} {X : XL} (h : CRL u LS LL sec sta dco) (hr : REL b N T X LS LL) (hN : N ≤ 2000) : okU u := by
  have go : ∀ (kd c : Nat) (k : Int32), kd < 11 → c < wd kd → wd kd ≤ 9 → (∀ j, j < (LS kd).length → okF (((LS kd).getD j (0, c_1)).2 c)) → okF (qAt u kd k (nI c)) := by
    intro kd c k h1 h2 h3 h4
    rw [qAt_s h h1 h2 h3]
    have hL : (LS kd).length ≤ 2000 := (h.1 kd h1).2.2
    by_cases q : k < 0 ∨ nI (LS kd).length ≤ k
    · rw [sAt_bad q]; exact okF_m
    · obtain ⟨j, hj, rfl⟩ := i32_nn (fun r => q (Or.inl r))
      have hjl : j < (LS kd).length := Nat.lt_of_not_le (fun r => q (Or.inr (nI_le r hj)))
      rw [sAt_ok hjl (by omega)]
      exact h4 j hjl
  have rec_ : ∀ (kd j : Nat), kd < 11 → j < (LS kd).length → ∃ fr ex o, RP b N kd fr ((LS kd).getD j (0, c_1)).2 ex o LL := by
    intro kd j h1 h2
    obtain ⟨t, fr, o, -, -, -, e⟩ := (hr.2.2 kd h1).2 j h2
    exact ⟨fr, _, o, e⟩
  refine ⟨fun k => go 0 0 k (by decide) (by decide) (by decide) (fun j hj => ?_), fun k => go 0 2 k (by decide) (by decide) (by decide) (fun j hj => ?_), fun k => go 1 4 k (by decide) (by decide) (by decide) (fun j hj => ?_), fun k => go 1 6 k (by decide) (by decide) (by decide) (fun j hj => ?_), fun k => go 6 2 k (by decide) (by decide) (by decide) (fun j hj => ?_), fun k => go 10 7 k (by decide) (by decide) (by decide) (fun j hj => ?_)⟩
  · obtain ⟨fr, ex, o, lm, dc, a', h1, h2, p0, p1, p2, p3, p4, p5, p6, p7, p8, p9, p10⟩ := rec_ 0 j (by decide) hj
    obtain ⟨n, a1, k2, a3, hft, hu1, hu2, hb1, hb2, hz⟩ := pFT_inv (p0 rfl)
    rw [hz]
    exact okF_n (x := a1) (by omega)
  · obtain ⟨fr, ex, o, lm, dc, a', h1, h2, p0, p1, p2, p3, p4, p5, p6, p7, p8, p9, p10⟩ := rec_ 0 j (by decide) hj
    obtain ⟨n, a1, k2, a3, hft, hu1, hu2, hb1, hb2, hz⟩ := pFT_inv (p0 rfl)
    rw [hz]
    exact okF_n (x := a3) (by omega)
  · obtain ⟨fr, ex, o, lm, dc, a', h1, h2, p0, p1, p2, p3, p4, p5, p6, p7, p8, p9, p10⟩ := rec_ 1 j (by decide) hj
    obtain ⟨x, y, a1, a2, hn1, hn2, ha2, hg3, hz0, hz1, hz2, hz3⟩ := pImp_inv (p1 rfl)
    have e1 := pName_ok h2 hn1
    rw [(imp_cols (p1 rfl) hn1 hn2).1]
    exact okF_n (by omega)
  · obtain ⟨fr, ex, o, lm, dc, a', h1, h2, p0, p1, p2, p3, p4, p5, p6, p7, p8, p9, p10⟩ := rec_ 1 j (by decide) hj
    obtain ⟨x, y, a1, a2, hn1, hn2, ha2, hg3, hz0, hz1, hz2, hz3⟩ := pImp_inv (p1 rfl)
    have e1 := pName_ok h2 hn1
    have e2 := pName_ok (by omega) hn2
    rw [(imp_cols (p1 rfl) hn1 hn2).2.2.1]
    exact okF_n (by omega)
  · obtain ⟨fr, ex, o, lm, dc, a', h1, h2, p0, p1, p2, p3, p4, p5, p6, p7, p8, p9, p10⟩ := rec_ 6 j (by decide) hj
    obtain ⟨x, a1, v, hn1, ha1, hv, hz⟩ := pExp_inv (p6 rfl)
    have e1 := pName_ok h2 hn1
    rw [hz]
    exact okF_n (x := x.1) (by omega)
  · obtain ⟨fr, ex, o, lm, dc, a', h1, h2, p0, p1, p2, p3, p4, p5, p6, p7, p8, p9, p10⟩ := rec_ 10 j (by decide) hj
    obtain ⟨x, a1, hn1, hz, ho⟩ := p10 rfl
    have e1 := pName_ok h2 hn1
    rw [hz]
    exact okF_n (x := x.1) (by omega)
