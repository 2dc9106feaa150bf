/-! THE CLAIM OUT OF ONE WALK OF THE LAW'S BODY. Your part is whole_start (and what it stands on); all else here is the same for every law, but numbers. -/
def R_law : String := "KitchenSpitsLaw"
def lw_P (b : Addr) (xs : List Int32) (args : Array Value) (s : State) : Prop := args = #[.ref b] ∧ s.IntsAt b xs ∧ xs.length ≤ 1536 ∧ (Jvm.Cond.and given_1 narrow_1).before args s = true
/-- what a walk over the start with the record d0 says of its end, said of the start itself -/
theorem lw_closed {s t : State} {o : Outcome} {d0 : Drawn} {L : List Loc} {k n : Nat} (hd0 : s.drawn.sameBut d0 lw_cs) (hv : ∃ v, o = .returned v) (hW : (s.setDrawn d0).WarmedH t.vm) (hs : (s.setDrawn d0).sameButNew ({ t with vm := s.vm } : State) L k n) : State.butDraws s t lw_cs (fun t1 => Framed s o t1 L k n) := by
  have h2 : t.drawn = d0 := congrArg State.drawn hs.1
  refine ⟨⟨hv, hW, State.sameButNew.setDrawn hs s.drawn⟩, ?_, by decide⟩
  rw [h2]
  exact hd0
def lw_Q (_ : Array Value) (s : State) (o : Outcome) (t : State) : Prop := o = .returned (some (.int 1)) ∧ State.butDraws s t lw_cs (fun t1 => Framed s o t1 [] 655566 7129405)
def lw_Z (below : List Frame) (a : Array Value) (s : State) : State → Prop := fun t => ∃ o, t.status = .running ∧ Ended t below o ∧ lw_Q a s o t
/-- the law's own end, with 1 on the stack, nothing written that was there before, its room as the claim has it; d0: the record of draws at this point (at the entry s.drawn: begin with 'refine W.base ?_' and 'have hd0 := Drawn.sameBut.refl s.drawn lw_cs') -/
theorem lw_ret {p : Program} {l : Launch} {e : Env} {s : State} {m : MethodId} {below : List Frame} {meth : Method} {c : Code} {b : Nat} {d0 : Drawn} (hd0 : s.drawn.sameBut d0 lw_cs) (hx : p.tables.exec = Jvm.exec) (hb : c.code = code) (hr : meth.sig.returnType = ret) (hlocks : meth.locks = false) {pc : Nat} {H : Heap} {ls : Array Slot} (hdg : decode code pc = .ok (.ireturn, 1)) : W p l e room_1 (s.setDrawn d0) m #[Value.ref b] below meth c H [] 655566 7129405 (lw_Z below #[Value.ref b] s) (F0 m pc ls [.int 1]) := by
  intro T hT X
  obtain ⟨fs, hret, hrun, hended, hW, hframe⟩ := X.leave (v := some (.int 1)) (hlocks := hlocks) (fun h => by rw [hr] at h; cases h)
  have hmeth' : T.vm.method? m = some meth := X.method'
  refine ⟨T.setFrames fs, ?_, .returned (some (.int 1)), hrun, hended, rfl, lw_closed hd0 ⟨_, rfl⟩ hW hframe⟩
  jvm_step X.here [X.here.top, hx, hb, hdg, hmeth', hr, ret, narrow_b1]
  (try refine ⟨rfl, ?_⟩); (try refine ⟨rfl, ?_⟩)
  first | (intro acts; rw [hret _ acts rfl rfl rfl]) | rw [hret _ _ rfl rfl rfl]
  exact Steps.refl _
/-- what holds at the law's entry: the machine, the code, the tables' words (any of lw_tbl by 'hts w (by decide +kernel)'), the script of L ints xs at the cell b, what the Statement gives of the start (any of its parts by flat_of_before) -/
def lw_At (p : Program) (s : State) (m : MethodId) (meth : Method) (c : Code) (b L : Nat) (xs : Nat → Int32) : Prop :=
  p.tables.exec = Jvm.exec ∧ c.code = code ∧ meth.sig.returnType = ret ∧ c.maxLocals = 9 ∧ s.vm.findClass R_law = some m.cls ∧ (∀ w ∈ lw_tbl, w.before #[Value.ref b] s = true) ∧ va_X b L xs s s.heap ∧ b < s.heap.size ∧ meth.locks = false ∧ (Jvm.Cond.and given_1 narrow_1).before #[Value.ref b] s = true
theorem ws_flags {l : Launch} (h : l.flags = flags0) : l.stackTraces = false := by
  unfold Launch.stackTraces
  rw [h]
  decide +kernel
theorem ws_env {s : State} {b : Addr} (hts : ∀ w ∈ lw_tbl, w.before #[Value.ref b] s = true) : ∃ (D : va_G) (cA : Nat → ClassId), EnvC D cA s := by
  have htu : ∀ w ∈ uW, w.before #[Value.ref b] s = true := fun w h => hts w (List.mem_filter.mp h).1
  obtain ⟨c0, i0, k0⟩ := u_known (C := RX0) (T := TX0) (N := 3) (n := 3) htu inW0 (htu _ u_ins_X0)
  obtain ⟨c1, i1, k1⟩ := u_known (C := RX1) (T := TX1) (N := 8) (n := 8) htu inW1 (htu _ u_ins_X1)
  obtain ⟨c2, i2, k2⟩ := u_known (C := RX2) (T := TX2) (N := 6) (n := 6) htu inW2 (htu _ u_ins_X2)
  obtain ⟨c3, i3, k3⟩ := u_known (C := RX3) (T := TX3) (N := 6) (n := 6) htu inW3 (htu _ u_ins_X3)
  obtain ⟨c4, i4, k4⟩ := u_known (C := RX4) (T := TX4) (N := 2) (n := 2) htu inW4 (htu _ u_ins_X4)
  obtain ⟨c5, i5, k5⟩ := u_known (C := RX5) (T := TX5) (N := 11) (n := 11) htu inW5 (htu _ u_ins_X5)
  obtain ⟨aI, kI, pI, aI1, aI2, aI3⟩ := Cond.arrayClass_spec (htu _ u_ac_int)
  obtain ⟨aL, kL, pL, aL1, aL2, aL3⟩ := Cond.arrayClass_spec (htu _ u_ac_long)
  have w0 : (Cond.arrayOver (.object "KitchenSpits$Fire")).before #[Value.ref b] s = true := hts _ (by decide +kernel)
  have w3 : (Cond.arrayOver (.object "KitchenSpits$Spit")).before #[Value.ref b] s = true := hts _ (by decide +kernel)
  have w2 : (Cond.arrayOver (.object "KitchenSpits$Roast")).before #[Value.ref b] s = true := hts _ (by decide +kernel)
  obtain ⟨pF, aF, kF, f1, -, f3, f4, f5⟩ := Cond.arrayOver_spec w0
  obtain ⟨pS, aS, kS, s1, -, s3, s4, s5⟩ := Cond.arrayOver_spec w3
  obtain ⟨pR, aR, kR, r1, -, r3, r4, r5⟩ := Cond.arrayOver_spec w2
  refine ⟨(fun k => match k with | 0 => c0 | 1 => c1 | 2 => c2 | 3 => c3 | 4 => c4 | _ => c5, fun k => match k with | 0 => i0 | 1 => i1 | 2 => i2 | 3 => i3 | 4 => i4 | _ => i5), (fun k => match k with | 0 => aI | 1 => aL | 2 => aF | 3 => aS | _ => aR), ⟨fun k q hq => ?_, fun k q hq => ?_⟩, ⟨va_AO.of w0, va_AO.of w3, va_AO.of w2⟩, ⟨va_Nw.of rfl (hts (.methodLinkNest RX1 33 yX0_init "KitchenSpits") (by decide +kernel)), va_Nw.of rfl (hts (.methodLinkNest RX1 34 yX3_init "KitchenSpits") (by decide +kernel)), va_Nw.of rfl (hts (.methodLinkNest RX1 35 yX2_init "KitchenSpits") (by decide +kernel))⟩⟩
  · match k, hq with
    | 0, hq => cases hq; exact k0
    | 1, hq => cases hq; exact k1
    | 2, hq => cases hq; exact k2
    | 3, hq => cases hq; exact k3
    | 4, hq => cases hq; exact k4
    | 5, hq => cases hq; exact k5
    | k + 6, hq => simp [vwCl] at hq
  · match k, hq with
    | 0, hq => cases hq; exact ⟨fun n z => ⟨fun k h => (by cases h), kI, aI2, pI, aI3⟩, aI1⟩
    | 1, hq => cases hq; exact ⟨fun n z => ⟨fun k h => (by cases h), kL, aL2, pL, aL3⟩, aL1⟩
    | 2, hq => cases hq; exact ⟨fun n z => ⟨fun k h => (by cases h), kF, f3, pF, f4⟩, kF, pF, f3, f4, f1, f5⟩
    | 3, hq => cases hq; exact ⟨fun n z => ⟨fun k h => (by cases h), kS, s3, pS, s4⟩, kS, pS, s3, s4, s1, s5⟩
    | 4, hq => cases hq; exact ⟨fun n z => ⟨fun k h => (by cases h), kR, r3, pR, r4⟩, kR, pR, r3, r4, r1, r5⟩
    | k + 5, hq => simp [tyl] at hq
theorem ws_strs : ∀ q ∈ strl, Cond.stringRef RX4 q.1 q.2 ∈ lw_tbl ∧ Cond.exactly (.string RX4 q.1) "java/lang/String" ∈ flatC (Jvm.Cond.and given_1 narrow_1) := by decide +kernel
theorem ws_nwl : ∀ w ∈ nwl, w ∈ lw_tbl := by decide +kernel
theorem ws_env0 {s : State} {b : Addr} (hts : ∀ w ∈ lw_tbl, w.before #[Value.ref b] s = true) (hgv : (Jvm.Cond.and given_1 narrow_1).before #[Value.ref b] s = true) : Env0 s := by
  have hf := flat_of_before _ hgv
  refine ⟨fun w hw => va_Nw.of (nwl_tab hw) (hts w (ws_nwl w hw)), fun q hq => ?_, va_Nc.of (hf _ (by decide +kernel)), va_Nc.of (hf _ (by decide +kernel)), va_Nc.of (hf _ (by decide +kernel))⟩
  obtain ⟨h1, h2⟩ := ws_strs q hq
  obtain ⟨a, -, -, -, ha, -⟩ := Cond.exactly_spec (hf _ h2)
  exact ⟨a, vk_R.of (hts _ h1) ha⟩
theorem ws_zs {s : State} {b : Addr} {A : Nat → Prop} (hts : ∀ w ∈ lw_tbl, w.before #[Value.ref b] s = true) (hgv : (Jvm.Cond.and given_1 narrow_1).before #[Value.ref b] s = true) (hA : ∀ a : Nat, a < s.heap.size → ¬ A a) : Zs A s s.heap := by
  have hf := flat_of_before _ hgv
  have hi : (Cond.initialized Bundle.tN).before #[Value.ref b] s = true := hts _ (by decide +kernel)
  exact ⟨vx_Zqof (hts _ (by decide +kernel)) hi (hf _ (by decide +kernel)) hA, vx_Zqof (hts _ (by decide +kernel)) hi (hf _ (by decide +kernel)) hA⟩
/-- the start is a state of the law's invariant -/
theorem ws_RX : ∀ x, x < 165 → κst (1 + oC x) (fC x) = dj x (κst 96 x) := by decide +kernel
theorem ws_96 : κst 96 = fun _ => 0 := κst_0 (by decide) (by decide) (by decide) (by decide)
theorem ws_SS : SS 0 κst := by
  have e92 : κst 92 = fun _ => 0 := κst_0 (by decide) (by decide) (by decide) (by decide)
  refine SS_mk (nf := 0) (ns := 0) (nr := 0) (κc := κst) (μ := κst 96) (fun q _ => rfl) ws_RX (fun x hx => ?_) ⟨⟨rfl, rfl, rfl⟩, ⟨rfl, rfl⟩, ⟨by decide, by decide, by decide⟩, fun i hi => ?_, fun i hi => absurd hi (Nat.not_lt_zero i), fun i hi => absurd hi (Nat.not_lt_zero i)⟩ (fun f hf => ?_) rfl rfl (by decide) ?_ (fun i hi => by rw [e92]; exact (vp_in_nI (n := 0) (N := 3) (by decide) (by decide) : vp_in (nI 0) 3))
  · rw [ws_96]
    exact ⟨fun i hi ex hn => rfl, fun i hi ex => ⟨(vp_in_nI (n := 0) (N := 10) (by decide) (by decide) : vp_in (nI 0) 10), fun _ => rfl⟩, fun i hi ex hn => absurd hn (Nat.not_lt_zero i), fun i hi ex => ⟨0, Nat.le_refl _, rfl, fun _ => rfl⟩, fun i hi w hw ex => ⟨fun _ => rfl, fun _ => (vp_in_nI (n := 0) (N := 4) (by decide) (by decide) : vp_in (nI 0) 4), fun _ => (show (0 : Int32) ≤ 0 by decide), fun _ => ⟨(vp_in_nI (n := 0) (N := 100) (by decide) (by decide) : vp_in (nI 0) 100), Int.le_refl _⟩⟩⟩
  · rw [e92]
    match i, hi with
    | 0, _ => rfl
    | 1, _ => rfl
    | 2, _ => rfl
    | 3, _ => rfl
    | 4, _ => rfl
    | 5, _ => rfl
  · match f, hf with
    | 0, _ => rfl
    | 1, _ => rfl
    | 2, _ => rfl
  · rw [ws_96]
    exact ⟨by decide, by decide⟩
set_option maxRecDepth 100000 in
set_option maxHeartbeats 4000000 in
theorem whole_start {p : Program} {e : Env} {s : State} {m : MethodId} {below : List Frame} {meth : Method} {c : Code} (l : Launch) (hflags : l.flags = flags0) {b L : Nat} {xs : Nat → Int32} (hL : L ≤ 1536) (C0 : lw_At p s m meth c b L xs) : W p l e room_1 s m #[Value.ref b] below meth c s.heap [] 0 0 (lw_Z below #[Value.ref b] s) (entryFrame m ([Value.ref b] : List Value).toArray 9) := by
  obtain ⟨hx, hb, hr, hml, hown, hts, hX, hbl, hlocks, hgv⟩ := id C0
  have hlst := ws_flags hflags
  obtain ⟨D, cA, hE⟩ := ws_env hts
  obtain ⟨a0, ha0⟩ : ∃ a0, a0 = s.heap.size := ⟨_, rfl⟩
  have htu : ∀ w ∈ uW, w.before #[Value.ref b] s = true := fun w h => hts w (List.mem_filter.mp h).1
  have hM : Mk D cA a0 p s m ([.ref b] : List Value).toArray meth c cL_law 9 RL := ⟨⟨hx, hb, hml, hown, htu⟩, hE, ⟨hlocks, Or.inl rfl⟩, by omega⟩
  have hl := lv_entry ([.ref b]) (n := 9) (Nat.le_of_ble_eq_true rfl)
  rw [lg_entry_eq]
  generalize (lg_sl ([.ref b]) ++ List.replicate (9 - (lg_sl ([.ref b])).length) Slot.unset).toArray = ls at hl ⊢
  have hl : lv_has ls 9 [(0, .ref b)] := hl
  have hG : Gv D a0 0 (fun _ => .inr (0, [])) s s.heap [] := ⟨fun k q h => by simp [gw] at h, va_S.rf⟩
  refine g_new (C := RX4) (T := TX4) (N := 2) (ci := 4) (fs := [.null, .null]) hM hG (by omega) inW4 tyX4 tyX4_ok u_cl_L_8 u_ins_X4 u_ini_X4 rfl (fun j hj => by match j, hj with | 0, _ => rfl | 1, _ => rfl) (Nat.le_of_ble_eq_true rfl) (Nat.le_of_ble_eq_true rfl) dL_law_0 (fun H hG => ?_)
  refine lv_dup hM.x hM.b dL_law_3 rfl ?_
  refine g_runI hM hG (by omega) (m_X4_init l D cA a0 _ (va_up_self _ _ _)) (by decide) u_ml_L_115 u_im_X4_init u_ini_X4 u_co_X4_init rfl ⟨by decide +kernel, by decide +kernel, by decide +kernel⟩ rfl rfl ⟨Nat.le_of_ble_eq_true rfl, Nat.le_of_ble_eq_true rfl⟩ hl.1 (Nat.le_of_ble_eq_true rfl) dL_law_4 ⟨Nat.le_of_ble_eq_true rfl, Nat.le_of_ble_eq_true rfl⟩ (fun H locs hG => ?_)
  refine lv_astore_n (lv' := [(1, .ref (a0 + 0)), (0, .ref b)]) hM.x hM.b dL_law_7 rfl hl (by decide) rfl (fun ls hl => ?_)
  refine g_new (C := RX5) (T := TX5) (N := 11) (ci := 5) (fs := [.int 0, .int 0, .int 0, .int 0, .int 0, .null, .null, .null, .null, .null, .null]) hM hG (by omega) inW5 tyX5 tyX5_ok u_cl_L_116 u_ins_X5 u_ini_X5 rfl (fun j hj => by match j, hj with | 0, _ => rfl | 1, _ => rfl | 2, _ => rfl | 3, _ => rfl | 4, _ => rfl | 5, _ => rfl | 6, _ => rfl | 7, _ => rfl | 8, _ => rfl | 9, _ => rfl | 10, _ => rfl) (Nat.le_of_ble_eq_true rfl) (Nat.le_of_ble_eq_true rfl) dL_law_8 (fun H hG => ?_)
  refine lv_dup hM.x hM.b dL_law_11 rfl ?_
  refine g_runI hM hG (by omega) (m_X5_init l D cA a0 _ (va_up_self _ _ _) (fun q hq => va_up_ne _ _ (by omega))) (by decide) u_ml_L_118 u_im_X5_init u_ini_X5 u_co_X5_init rfl ⟨by decide +kernel, by decide +kernel, by decide +kernel⟩ rfl rfl ⟨Nat.le_of_ble_eq_true rfl, Nat.le_of_ble_eq_true rfl⟩ hl.1 (Nat.le_of_ble_eq_true rfl) dL_law_12 ⟨Nat.le_of_ble_eq_true rfl, Nat.le_of_ble_eq_true rfl⟩ (fun H locs hG => ?_)
  refine lv_astore_n (lv' := [(2, .ref (a0 + 91)), (1, .ref (a0 + 0)), (0, .ref b)]) hM.x hM.b dL_law_15 rfl hl (by decide) rfl (fun ls hl => ?_)
  refine lv_iconst (v := 1) hM.x hM.b dL_law_16 (by decide) ?_
  refine g_newL hM hG (by omega) (Nat.le_of_ble_eq_true rfl) (Nat.le_of_ble_eq_true rfl) dL_law_17 (fun H hG => ?_)
  refine lv_astore_n (lv' := [(3, .ref (a0 + 98)), (2, .ref (a0 + 91)), (1, .ref (a0 + 0)), (0, .ref b)]) hM.x hM.b dL_law_19 rfl hl (by decide) rfl (fun ls hl => ?_)
  refine lv_iconst (v := 0) hM.x hM.b dL_law_20 (by decide) ?_
  refine lv_istore (lv' := [(4, .int 0), (3, .ref (a0 + 98)), (2, .ref (a0 + 91)), (1, .ref (a0 + 0)), (0, .ref b)]) hM.x hM.b dL_law_21 hl (by decide) rfl (fun ls hl => ?_)
  have hG : Gv D a0 99 (objF cA a0) s H locs := Gv.congr hG (fun q hq => by
    by_cases e : q = 98
    · subst e
      rw [va_up_self]
      unfold objF
      rw [sh14 kd_98, κst_0 (by decide) (by decide) (by decide) (by decide)]
      rfl
    · rw [va_up_ne _ _ e])
  have hfr : ∀ k, k < 99 → s.heap.size ≤ a0 + k := fun k _ => by omega
  have hfn : ∀ a : Nat, a < s.heap.size → ¬ fr (D, cA, fun k => a0 + k) s.heap.size a := by
    rintro a h (⟨k, hk, h2⟩ | h2)
    · have h3 : a = a0 + k := h2
      omega
    · omega
  have hinj : Inj (D, cA, fun k => a0 + k) := fun i j _ _ h => by
    have h3 : a0 + i = a0 + j := h
    omega
  have hM0 : Mc (D, cA, fun k => a0 + k) p s m ([.ref b] : List Value).toArray meth c cL_law 9 RL := ⟨hM.1, ⟨hE.1, hinj, ws_env0 hts hgv, ws_zs hts hgv hfn⟩, hlocks⟩
  have hw : Ws (D, cA, fun k => a0 + k) s κst H locs := ⟨hG.1, hG.2.1, fun q h1 h2 => hG.2.2.1 q h1 (fun h3 => h2 (Or.inr (by have h4 : a0 ≤ q := h3; omega))), fun q hq => Or.inr (by have h4 : a0 ≤ q.base := hG.2.2.2 q hq; omega)⟩
  refine W.widen (k := 200) (n := 2000) (Nat.le_of_ble_eq_true rfl) (Nat.le_of_ble_eq_true rfl) ?_
  refine W.base ?_
  refine law_run l hlst (D, cA, fun k => a0 + k) hM0 (fun d0 H locs ls hd0 hlo => ?_) hX hbl (hfn b hbl) hfr hL ws_SS (Drawn.sameBut.refl s.drawn lw_cs) hl hw
  refine lv_iconst (v := 1) hx hb dL_law_2217 (by decide) ?_
  exact va_forget hlo (lw_ret hd0 hx hb hr hlocks dL_law_2218)
