section KLR
variable {l : Launch}
/-- the entry of a method of the law that catches -/
theorem k_lenter {y : MethodName} {rm : Room} {g : Gt} {κ : Kp} {sz : Nat} {av : List Value} {Qc : Array Value → State → Outcome → State → Prop} {mc ms maxL : Nat} {cc : ByteArray} {ret : Option FieldType} {hh : List (Nat × Nat × Nat × Nat)} (hy : plainName y.cls = true) (hlen : (lg_sl av).length ≤ maxL)
    (body : ∀ (p : Program) (e : Env) (s : State) (m : MethodId) (below : List Frame) (meth : Method) (c : Code) (ls : Array Slot), Mc g p s m av.toArray meth c cc maxL y.cls → c.exceptionTable.toList = tableOf hh → meth.sig.returnType = ret → lv_has ls maxL (lv_args 0 av) → Ws g s κ s.heap [] → s.heap.size = sz →
      W p l e rm s m av.toArray below meth c s.heap [] 0 0 (MQ below Qc av.toArray s mc ms (fr g s.heap.size)) (F0 m 0 ls [])) : Met l y (Cond.codeWith y cc maxL ret hh :: uW) rm (PRE g κ sz av) Qc mc ms (fr g sz) := by
  refine va_MetW (cc := cc) (maxL := maxL) (ret := ret) (hh := hh) hy rfl ?_
  intro p e s m args below meth c s₁ B hml hv
  obtain ⟨rfl, rfl, hP, hE⟩ := hv
  have hts := atoms_spec (ws := Cond.codeWith y cc maxL ret hh :: uW) B.pre
  have hT := vx_table (x := y) B (hts _ List.mem_cons_self)
  have hl := lv_entry av (n := maxL) hlen
  rw [lg_entry_eq]
  generalize (lg_sl av ++ List.replicate (maxL - (lg_sl av).length) Slot.unset).toArray = ls at hl ⊢
  exact body p e s m below meth c ls ⟨⟨B.exec, B.bytes, hml, findClass_of_methodNamed B.named, fun w h => hts w (List.mem_cons_of_mem _ h)⟩, hE, B.notSynchronized⟩ hT B.returns hl ⟨hP, va_S.rf⟩ rfl
end KLR
section KLC
variable {p : Program} {l : Launch} {e : Env} {R : Room} {s : State} {m : MethodId} {args : Array Value} {below : List Frame} {meth : Method} {c : Code} {H : Heap} {locs : List Loc} {cells slots : Nat} {Q : State → Prop}
variable {cc bytes : ByteArray} {pc nL maxL mc ms n idx : Nat} {ls : Array Slot} {rest st0 As : List Value} {g : Gt} {κ : Kp} {own : String} {y : MethodName} {ret : Option FieldType} {rm : Room} {Qc : Array Value → State → Outcome → State → Prop}
/-- a class that a row of the table names, and that E isn't one of -/
def Nk (E : String) (own : String) (args : Array Value) (s : State) (z : ExceptionTableEntry) : Prop := z.catchType ≠ 0 ∧ ∃ nm : String, (Cond.classLink own z.catchType nm).before args s = true ∧ va_Nc E nm s
theorem k_catch {E : String} {ce : Cell} {q : Addr} {hh : List (Nat × Nat × Nat × Nat)} (hM : Mc g p s m args meth c cc nL own) (hT : c.exceptionTable.toList = tableOf hh) (pre : List ExceptionTableEntry) (x : ExceptionTableEntry) (suf : List ExceptionTableEntry) (hsplit : tableOf hh = pre ++ x :: suf)
    (hpass : ∀ z ∈ pre, Nk E own args s z) (hx : covers x pc = true) (h0 : x.catchType ≠ 0) (hlink : Cond.classLink own x.catchType E ∈ uW) (hcast : Cond.castable E E ∈ nwl) (h1 : H[q]? = some ce) (h2 : ce.vm = .none) (h3 : s.vm.findClass E = some ce.cls)
    (kk : W p l e R s m args below meth c H locs cells slots Q (F0 m x.handlerPc ls [.ref q])) : vx_W p l e R s m args below meth c H locs cells slots Q (F0 m pc ls rest) q :=
  vx_catch hM.ow pre x suf (hT.trans hsplit) (fun z hz => Or.inr (hpass z hz)) hx h0 (hM.ts _ hlink) (va_Nw.use (nwl_tab hcast) (hM.2.1.2.2.1.1 _ hcast)) h1 h2 h3 kk
theorem k_nk {E nm : String} {z : ExceptionTableEntry} (hM : Mc g p s m args meth c cc nL own) (h0 : z.catchType ≠ 0) (hlink : Cond.classLink own z.catchType nm ∈ uW) (hn : va_Nc E nm s) : Nk E own args s z := ⟨h0, nm, hM.ts _ hlink, hn⟩
theorem nk_AI (hM : Mc g p s m args meth c cc nL own) : va_Nc nIAE nIOE s := hM.2.1.2.2.1.2.2.1
theorem nk_SI (hM : Mc g p s m args meth c cc nL own) : va_Nc nISE nIOE s := hM.2.1.2.2.1.2.2.2.1
theorem nk_SA (hM : Mc g p s m args meth c cc nL own) : va_Nc nISE nIAE s := hM.2.1.2.2.1.2.2.2.2
theorem k_gSW {y : MethodName} {w5 : Cond} (h1 : Cond.methodLink own idx y ∈ uW) (h2 : Cond.static y ∈ uW) (h4 : Cond.initialized y.cls ∈ uW) (h5 : w5 ∈ uW) : GoodIn uW (va_wsS own idx y (w5 :: uW)) := k_gS h1 h2 h4 h5
theorem k_runSW {hh : List (Nat × Nat × Nat × Nat)} (As rest : List Value) (hM : Mc g p s m args meth c cc nL own) (hw : Ws g s κ H locs) (ct : Met l y (.codeWith y bytes maxL ret hh :: uW) rm (PRE g κ H.size As) Qc mc ms (fr g H.size))
    (hG : GoodIn uW (va_wsS own idx y (.codeWith y bytes maxL ret hh :: uW))) (hd : hdV y y.cls n) (hn : As.length = n) (hrc : rm.cells = mc) (hrs : rm.slots = ms) (hR : rmOk R rm maxL) (hls : ls.size = nL) (hst : st0 = As.reverse ++ rest) (hsum : (rest.map fun v => v.category).sum ≤ 8) (hdg : decode cc pc = .ok (.invokestatic idx, 3)) (hf : cells + mc ≤ R.cells ∧ slots + ms ≤ R.slots) :
    va_Run p l e R s m args below meth c H locs cells slots mc ms (F0 m pc ls st0) rest (Qc As.toArray) (fr g H.size) :=
  vx_runSW (As := As) (rest := rest) hM.1 ct (vx_cwSW n hM.ts hG rfl hrc hrs hd.2 hR) ⟨PRE.blind, fun U hU hW => ⟨rfl, by rw [hU], Wd.warm hM.2.1 hw hU hW⟩⟩ rfl hn hls hst (lv_room hsum) hdg hf
end KLC
