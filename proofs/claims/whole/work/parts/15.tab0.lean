theorem iw_oinit : (Cond.code objectInit ⟨#[0xb1]⟩ 1 none) ∈ wAll := by decide +kernel
theorem iw_min : (Cond.code Lib.Math.min.name Lib.Math.min.code 2 (some .int)) ∈ wAll := by decide +kernel
section CS
variable {p : Program} {l : Launch} {e : Env} {R : Room} {s : State} {m : MethodId} {args : Array Value} {below : List Frame} {meth : Method} {c : Code} {H : Heap} {locs : List Loc} {cells slots : Nat} {D : va_G} {cA : Nat → ClassId} {ad : Nat → Nat} {A : Nat → Prop} {cc : ByteArray} {pc nL : Nat} {ls : Array Slot} {rest st0 : List Value} {ws wc wr : va_W}
/-- a call of a static method -/
theorem cS {S S' : Type} {post : Option Value → S → Prop} {postT : S → Prop} {w1 : S → va_W} {cn : S → Nat × Nat} {post' : Option Value → S' → Prop} {postT' : S' → Prop} {w1' : S' → va_W} {cn' : S' → Nat × Nat} {w0 : Cond} {own : String} {idx maxL n : Nat} {y : MethodName} {bytes : ByteArray} {ret : Option FieldType} {rm : Room} {As : List Value}
    (F : CallFix p m c cc nL s args (w0 :: wAll) own) (hno : c.exceptionTable.toList = []) (hlocks : meth.locks = false) (hsz : ls.size = nL) (hM : cM l y (.code y bytes maxL ret :: wAll) rm D cA ad As wc H.size post postT w1 cn)
    (h1 : Cond.methodLink own idx y ∈ wAll) (h2 : Cond.static y ∈ wAll) (h4 : Cond.initialized y.cls ∈ wAll) (h5 : Cond.code y bytes maxL ret ∈ wAll)
    (hd : y.cls ≠ "java/lang/invoke/MethodHandle" ∧ y.cls ≠ "java/lang/invoke/VarHandle" ∧ (parseMethodDescriptor y.desc).map (fun d => d.parameters.length) = some n) (hn : As.length = n)
    (hR0 : rm.frames + 1 ≤ R.frames ∧ 8 + (maxL + 11) + rm.locals ≤ R.locals) (hf : cells + rm.cells ≤ R.cells ∧ slots + rm.slots ≤ R.slots) (hst : st0 = As.reverse ++ rest) (hW : (rest.map fun v => v.category).sum ≤ 8) (hdg : decode cc pc = .ok (.invokestatic idx, 3))
    (hE : EF D cA ad A s s.heap) (hP : va_P D cls ws H) (hD : va_D A ws) (hS : va_S A s.heap H locs) (hA : ∀ q : Nat, s.heap.size ≤ q → A q) (isC isR : List Nat) (hC : isC.map (fun i => ws[i]?) = wc.map some) (hR : isR.map (fun i => ws[i]?) = wr.map some) (hnC : va_nd isC = true) (hnR : va_nd isR = true) (hdis : ∀ i ∈ isR, i ∉ isC)
    (kt : ∀ u : S, postT u → ∃ u' : S', postT' u' ∧ (∀ H1, va_P D cls (wr ++ w1 u) H1 → va_P D cls (w1' u') H1) ∧ (va_D A (wr ++ w1 u) → va_D A (w1' u')) ∧ cells + (cn u).1 ≤ (cn' u').1 ∧ slots + (cn u).2 ≤ (cn' u').2)
    (kk : ∀ (v : Option Value) (u : S) (H1 : Heap) (locs1 : List Loc), post v u → va_P D cls (wr ++ w1 u) H1 → va_D A (wr ++ w1 u) → va_S A s.heap H1 locs1 → W p l e R s m args below meth c H1 locs1 (cells + (cn u).1) (slots + (cn u).2) (tx_Q below (cQ D post' postT' w1' cn' A) args s A) (F0 m (pc + 3) ls (v.toList ++ rest))) :
    W p l e R s m args below meth c H locs cells slots (tx_Q below (cQ D post' postT' w1' cn' A) args s A) (F0 m pc ls st0) :=
  cGo (tx_runS (rest := rest) F hM ⟨callB_of n F.2.2.2.2 (wa_callI h5) rfl rfl rfl (F.2.2.2.2 _ (List.mem_cons_of_mem _ h4)) (F.2.2.2.2 _ (List.mem_cons_of_mem _ h1)) hd hR0, F.2.2.2.2 _ (List.mem_cons_of_mem _ h2)⟩ (cPreS hE hP hD hS hA isC hC hnC) rfl hn hsz hst (lv_room hW) hdg hf) hno hlocks hP hD hS hA isC isR hC hR hnR hdis kt kk
theorem cRa {S : Type} {post : Option Value → S → Prop} {postT : S → Prop} {w1 : S → va_W} {cn : S → Nat × Nat} {q : Nat} {rt : FieldType} (u : S) (hx : p.tables.exec = Jvm.exec) (hb : c.code = cc) (hr : meth.sig.returnType = some rt) (hrt : (∃ n, rt = .object n) ∨ ∃ t, rt = .array t) (hlocks : meth.locks = false) (hdg : decode cc pc = .ok (.areturn, 1)) (hS : va_S A s.heap H locs) (hP : va_P D cls (w1 u) H) (hD : va_D A (w1 u)) (hq : post (some (.ref q)) u) (hc : cells ≤ (cn u).1) (hs : slots ≤ (cn u).2) :
    W p l e R s m args below meth c H locs cells slots (tx_Q below (cQ D post postT w1 cn A) args s A) (F0 m pc ls [.ref q]) :=
  tx_ret (W.aret hx hb hr hrt (Or.inr ⟨q, rfl⟩) (fun t ht _ => ⟨⟨u, ⟨by rw [ht]; exact hP, hD⟩, hq, hc, hs⟩, hS.F ht⟩) hS.2.2 hdg hlocks)
end CS
/-- a Table: width w; c: its cells' address, n: count, len: how many cells, con: what they hold -/
abbrev TB : Type := Nat × Nat × Nat × (Nat → Int64)
abbrev wTb (cA : Nat → ClassId) (t0 w : Nat) (u : TB) : va_W := [(t0, .inr (0, [.int (nI w), .ref u.1, .int (nI u.2.1)])), (u.1, .inl (cA 1, u.2.2.1, .inr (.inl u.2.2.2)))]
def tAt (w n : Nat) (con : Nat → Int64) (k c : Int32) : Int64 := if k < 0 ∨ nI n ≤ k ∨ c < 0 ∨ nI w ≤ c then -1 else con (k.toNatClampNeg * w + c.toNatClampNeg)
/-- what a new record costs -/
def gB (w n len : Nat) : Nat × Nat := if len < n * w + w then (1, 2 * (n * w + w)) else (0, 0)
def gL (w n len : Nat) : Nat := if len < n * w + w then 2 * (n * w + w) else len
