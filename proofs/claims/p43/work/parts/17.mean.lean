section KDR
variable {p : Program} {l : Launch} {e : Env} {R : Room} {s : State} {m : MethodId} {args : Array Value} {below : List Frame} {meth : Method} {c : Code} {H : Heap} {locs : List Loc} {cells slots mc ms : Nat}
variable {cc : ByteArray} {pc nL : Nat} {ls : Array Slot} {g : Gt} {κ : Kp} {own : String}
theorem Ma.drawn {A : Nat → Prop} {D : va_G} {cA : Nat → ClassId} (d : Drawn) (hM : Ma A D cA p s m args meth c cc nL own) : Ma A D cA p (s.setDrawn d) m args meth c cc nL own := by
  obtain ⟨h1, ⟨hK, h0⟩, hz, hlk⟩ := hM
  have hal : s.vm.Alike (s.setDrawn d).vm := Vm.Alike.refl s.vm
  exact ⟨⟨h1.1, h1.2.1, h1.2.2.1, h1.2.2.2.1, dr_words h1.2.2.2.2 d⟩, ⟨va_K.moved hal hK, Env0.same (s := s) (U := s.setDrawn d) rfl h0⟩, ⟨vx_Zq.moved hal hz.1, vx_Zq.moved hal hz.2⟩, hlk⟩
theorem k_dret {v : UInt64} {post : UInt64 → Kp → Prop} (hM : Mc g p s m args meth c cc nL own) (hr : meth.sig.returnType = some .double) (hw : Ws g s κ H locs) (hc : cells ≤ mc) (hs : slots ≤ ms) (hp : post v κ) (hdg : decode cc pc = .ok (.dreturn, 1)) :
    W p l e R s m args below meth c H locs cells slots (MQ below (va_Qd post (Wp g) (fr g s.heap.size)) args s mc ms (fr g s.heap.size)) (F0 m pc ls [.double v]) :=
  W.widen hc hs (W.dret hM.x hM.b hr (fun t ht hW => ⟨⟨v, κ, rfl, hp, by show va_P _ _ _ t.heap; rw [ht]; exact hw.1⟩, hw.2.1.F ht⟩) hw.2.1.2.2 hdg hM.2.2.2)
end KDR
section KDX
variable {l : Launch}
/-- the entry of a method that may draw -/
theorem k_denter {y : MethodName} {rm : Room} {g : Gt} {κ : Kp} {sz : Nat} {av : List Value} {Qc : Array Value → State → Outcome → State → Prop} {mc ms maxL : Nat} {cc : ByteArray} {ret : Option FieldType} (hy : plainName y.cls = true) (hlen : (lg_sl av).length ≤ maxL)
    (body : ∀ (p : Program) (e : Env) (s : State) (m : MethodId) (below : List Frame) (meth : Method) (c : Code) (ls : Array Slot) (d0 : Drawn), Mc g p s m av.toArray meth c cc maxL y.cls → meth.sig.returnType = ret → lv_has ls maxL (lv_args 0 av) → Ws g s κ s.heap [] → s.heap.size = sz → s.drawn.sameBut d0 lw_cs →
      W p l e rm (s.setDrawn d0) m av.toArray below meth c s.heap [] 0 0 (MQD lw_cs below Qc av.toArray s mc ms (fr g s.heap.size)) (F0 m 0 ls [])) : MetD lw_cs l y (Cond.code y cc maxL ret :: uW) rm (PRE g κ sz av) Qc mc ms (fr g sz) := by
  refine MetD.ofW (cc := cc) (maxL := maxL) (ret := ret) hy rfl ?_
  intro p e s m args below meth c s₁ B hml hv hd0
  obtain ⟨rfl, rfl, hP, hE⟩ := hv
  have hts := atoms_spec (ws := Cond.code y cc maxL ret :: uW) B.pre
  have hl := lv_entry av (n := maxL) hlen
  rw [lg_entry_eq]
  generalize (lg_sl av ++ List.replicate (maxL - (lg_sl av).length) Slot.unset).toArray = ls at hl ⊢
  exact body p e s m below meth c ls s.drawn ⟨⟨B.exec, B.bytes, hml, findClass_of_methodNamed B.named, fun w h => hts w (List.mem_cons_of_mem _ h)⟩, hE.1, hE.2.2, B.notSynchronized⟩ B.returns hl ⟨hP, va_S.rf, hE.2.1, fun q hq => Or.inr hq⟩ rfl hd0
end KDX
theorem alike_0 : alike64 FP.dconst0 FP.dconst0 = true := by decide +kernel
theorem q_X4_meanBrown : hdV yX4_meanBrown RX4 0 := ⟨rfl, by decide +kernel, by decide +kernel, by decide +kernel⟩
def f_X4_meanBrown (κ : Kp) : UInt64 := if 0 < (((κ (1) 5) * (4))) then (FP.ddiv ((FP.i2d (f_X1_sumBrown κ (1)))) ((FP.i2d (((κ (1) 5) * (4)))))) else (FP.dconst0)
set_option maxRecDepth 100000 in
set_option maxHeartbeats 4000000 in
theorem m_X4_meanBrown (l : Launch) (g : Gt) (κ : Kp) (sz : Nat)  : MetD lw_cs l yX4_meanBrown (.code yX4_meanBrown cX4_meanBrown 2 (some .double) :: uW) { frames := 1, cells := 0, slots := 0, locals := 30 } (PRE g κ sz [.ref (g.2.2 (0))]) (va_Qd (fun r κ' => alike64 r (f_X4_meanBrown κ ) = true ∧ κ' = κ) (Wp g) (fr g sz)) 0 0 (fr g sz) := by
  refine k_denter (by decide +kernel) (Nat.le_of_ble_eq_true rfl) ?_
  intro p e s m below meth c ls d0 hM0 hr hl hw hsz hd0
  have hM := hM0.drawn d0
  have hw : Ws g (s.setDrawn d0) κ s.heap [] := hw
  subst hsz
  have hl : lv_has ls 2 [(0, .ref (g.2.2 (0)))] := hl
  have hF := f_X4_meanBrown.eq_1 κ 
  refine lv_aload_n hM.x hM.b dX4_meanBrown_0 rfl (lv_at hl 0 rfl) ?_
  refine k_get4a hM hw u_fl_X4_10 dX4_meanBrown_1 ?_
  refine k_get1 5 hM hw kd_1 (by decide) u_fl_X4_141 dX4_meanBrown_4 ?_
  refine lv_iconst (v := 4) hM.x hM.b dX4_meanBrown_7 (by decide) ?_
  refine lv_imul hM.x hM.b dX4_meanBrown_8 ?_
  refine lv_istore_n (lv' := [(1, .int (((κ (1) 5) * (4)))), (0, .ref (g.2.2 (0)))]) hM.x hM.b dX4_meanBrown_9 rfl hl (by decide) rfl (fun ls hl => ?_)
  refine lv_iload_n hM.x hM.b dX4_meanBrown_10 rfl (lv_at hl 0 rfl) ?_
  refine lv_if_gt (tgt := 16) hM.x hM.b dX4_meanBrown_11 (by decide) (fun c1 => ?_) (fun c1 => ?_)
  · rw [if_pos c1] at hF
    refine lv_aload_n hM.x hM.b dX4_meanBrown_16 rfl (lv_at hl 1 rfl) ?_
    refine k_get4a hM hw u_fl_X4_10 dX4_meanBrown_17 ?_
    refine k_cip hw (k_runV [] [] hM hw (m_X1_sumBrown l g κ _ (1) (kd_1)) (hw.dm kd_1 (by decide)) (sh1 kd_1) rfl (k_gV u_ml_X4_191 u_im_X1_sumBrown u_se_X1_sumBrown u_ini_X1 u_co_X1_sumBrown) (q_X1_sumBrown) rfl rfl rfl ⟨Nat.le_of_ble_eq_true rfl, Nat.le_of_ble_eq_true rfl⟩ hl.1 rfl (Nat.le_of_ble_eq_true rfl) dX4_meanBrown_20 ⟨Nat.le_of_ble_eq_true rfl, Nat.le_of_ble_eq_true rfl⟩) (fun H locs hw => ?_)
    refine lv_i2d hM.x hM.b dX4_meanBrown_23 ?_
    refine lv_iload_n hM.x hM.b dX4_meanBrown_24 rfl (lv_at hl 0 rfl) ?_
    refine lv_i2d hM.x hM.b dX4_meanBrown_25 ?_
    refine lv_ddiv_any hd0 lw_bits hM.x hM.b dX4_meanBrown_26 (fun rd1 dd1 halrd1 hd0 => ?_)
    have hM := hM0.drawn dd1
    have hw : Ws g (s.setDrawn dd1) κ _ _ := hw
    refine W.endD hd0 ?_
    exact k_dret hM hr hw (Nat.le_of_ble_eq_true rfl) (Nat.le_of_ble_eq_true rfl) ⟨by rw [hF]; exact halrd1, rfl⟩ dX4_meanBrown_27
  · rw [if_neg c1] at hF
    refine lv_dconst0 hM.x hM.b dX4_meanBrown_14 ?_
    refine W.endD hd0 ?_
    exact k_dret hM hr hw (Nat.le_of_ble_eq_true rfl) (Nat.le_of_ble_eq_true rfl) ⟨by rw [hF]; exact alike_0, rfl⟩ dX4_meanBrown_15
