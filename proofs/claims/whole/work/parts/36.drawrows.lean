section KDR
variable {p : Program} {l : Launch} {e : Env} {R : Room} {s : State} {m : MethodId} {args : Array Value} {below : List Frame} {meth : Method} {c : Code} {H : Heap} {locs : List Loc} {cells slots mc ms : Nat}
variable {cc : ByteArray} {pc nL : Nat} {ls : Array Slot} {g : Gt} {κ : Kp} {own : String}
theorem Env1.drawn {g : Gt} {U : State} (d : Drawn) (h : Env1 g U) : Env1 g (U.setDrawn d) := by
  obtain ⟨hK, hi, h0, hz⟩ := h
  have hal : U.vm.Alike (U.setDrawn d).vm := Vm.Alike.refl U.vm
  exact ⟨va_K.moved hal hK, hi, Env0.same (s := U) (U := U.setDrawn d) rfl h0, vx_Zq.moved hal hz.1, vx_Zq.moved hal hz.2⟩
theorem Mc.drawn (d : Drawn) (hM : Mc g p s m args meth c cc nL own) : Mc g p (s.setDrawn d) m args meth c cc nL own :=
  ⟨⟨hM.1.1, hM.1.2.1, hM.1.2.2.1, hM.1.2.2.2.1, dr_words hM.1.2.2.2.2 d⟩, hM.2.1.drawn d, hM.2.2⟩
theorem k_dret {v : UInt64} {post : UInt64 → Kp → Prop} (hM : Mc g p s m args meth c cc nL own) (hr : meth.sig.returnType = some .double) (hw : Ws g s κ H locs) (hc : cells ≤ mc) (hs : slots ≤ ms) (hp : post v κ) (hdg : decode cc pc = .ok (.dreturn, 1)) :
    W p l e R s m args below meth c H locs cells slots (MQ below (va_Qd post (Wp g) (fr g s.heap.size)) args s mc ms (fr g s.heap.size)) (F0 m pc ls [.double v]) :=
  W.widen hc hs (W.dret hM.x hM.b hr (fun t ht hW => ⟨⟨v, κ, rfl, hp, by show va_P _ _ _ t.heap; rw [ht]; exact hw.1⟩, hw.2.F ht⟩) hw.2.2.2 hdg hM.2.2)
end KDR
section KDX
variable {l : Launch}
/-- the entry of a method that may draw -/
theorem k_denter {y : MethodName} {rm : Room} {g : Gt} {κ : Kp} {sz : Nat} {av : List Value} {Qc : Array Value → State → Outcome → State → Prop} {mc ms maxL : Nat} {cc : ByteArray} {ret : Option FieldType} (hy : plainName y.cls = true) (hlen : (lg_sl av).length ≤ maxL)
    (body : ∀ (p : Program) (e : Env) (s : State) (m : MethodId) (below : List Frame) (meth : Method) (c : Code) (ls : Array Slot) (d0 : Drawn), Mc g p s m av.toArray meth c cc maxL y.cls → meth.sig.returnType = ret → lv_has ls maxL (lv_args 0 av) → Ws g s κ s.heap [] → s.heap.size = sz → s.drawn.sameBut d0 lw_cs →
      W p l e rm (s.setDrawn d0) m av.toArray below meth c s.heap [] 0 0 (MQD lw_cs below Qc av.toArray s mc ms (fr g s.heap.size)) (F0 m 0 ls [])) : MetD lw_cs l y (Cond.code y cc maxL ret :: uW) rm (PRE g κ sz av) Qc mc ms (fr g sz) := by
  refine MetD.ofW (cc := cc) (maxL := maxL) (ret := ret) hy rfl ?_
  intro p e s m args below meth c s₁ B hml hv hd0
  obtain ⟨rfl, rfl, hP, hE⟩ := hv
  have hts := atoms_spec (ws := Cond.code y cc maxL ret :: uW) B.pre
  have hl := lv_entry av (n := maxL) hlen
  rw [lg_entry_eq]
  generalize (lg_sl av ++ List.replicate (maxL - (lg_sl av).length) Slot.unset).toArray = ls at hl ⊢
  exact body p e s m below meth c ls s.drawn ⟨⟨B.exec, B.bytes, hml, findClass_of_methodNamed B.named, fun w h => hts w (List.mem_cons_of_mem _ h)⟩, hE, B.notSynchronized⟩ B.returns hl ⟨hP, va_S.rf⟩ rfl hd0
end KDX
theorem alike_0 : alike64 FP.dconst0 FP.dconst0 = true := by decide +kernel
