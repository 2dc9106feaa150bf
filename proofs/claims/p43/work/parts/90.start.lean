/-! THE CLAIM OUT OF ONE WALK OF THE LAW'S BODY. Your part is whole_start (and what it stands on); all else here is the same for every law, but numbers. -/
def R_law : String := "KitchenSpitsLaw"
def lw_P (b : Addr) (xs : List Int32) (args : Array Value) (s : State) : Prop := args = #[.ref b] ∧ s.IntsAt b xs ∧ xs.length ≤ 260 ∧ (Jvm.Cond.and given_1 narrow_1).before args s = true
/-- what a walk over the start with the record d0 says of its end, said of the start itself -/
theorem lw_closed {s t : State} {o : Outcome} {d0 : Drawn} {L : List Loc} {k n : Nat} (hd0 : s.drawn.sameBut d0 lw_cs) (hv : ∃ v, o = .returned v) (hW : (s.setDrawn d0).WarmedH t.vm) (hs : (s.setDrawn d0).sameButNew ({ t with vm := s.vm } : State) L k n) : State.butDraws s t lw_cs (fun t1 => Framed s o t1 L k n) := by
  have h2 : t.drawn = d0 := congrArg State.drawn hs.1
  refine ⟨⟨hv, hW, State.sameButNew.setDrawn hs s.drawn⟩, ?_, by decide⟩
  rw [h2]
  exact hd0
def lw_Q (_ : Array Value) (s : State) (o : Outcome) (t : State) : Prop := o = .returned (some (.int 1)) ∧ State.butDraws s t lw_cs (fun t1 => Framed s o t1 [] 817018 6650127)
def lw_Z (below : List Frame) (a : Array Value) (s : State) : State → Prop := fun t => ∃ o, t.status = .running ∧ Ended t below o ∧ lw_Q a s o t
/-- the law's own end, with 1 on the stack, nothing written that was there before, its room as the claim has it; d0: the record of draws at this point (at the entry s.drawn: begin with 'refine W.base ?_' and 'have hd0 := Drawn.sameBut.refl s.drawn lw_cs') -/
theorem lw_ret {p : Program} {l : Launch} {e : Env} {s : State} {m : MethodId} {below : List Frame} {meth : Method} {c : Code} {b : Nat} {d0 : Drawn} (hd0 : s.drawn.sameBut d0 lw_cs) (hx : p.tables.exec = Jvm.exec) (hb : c.code = code) (hr : meth.sig.returnType = ret) (hlocks : meth.locks = false) {pc : Nat} {H : Heap} {ls : Array Slot} (hdg : decode code pc = .ok (.ireturn, 1)) : W p l e room_1 (s.setDrawn d0) m #[Value.ref b] below meth c H [] 817018 6650127 (lw_Z below #[Value.ref b] s) (F0 m pc ls [.int 1]) := by
  intro T hT X
  obtain ⟨fs, hret, hrun, hended, hW, hframe⟩ := X.leave (v := some (.int 1)) (hlocks := hlocks) (fun h => by rw [hr] at h; cases h)
  have hmeth' : T.vm.method? m = some meth := X.method'
  refine ⟨T.setFrames fs, ?_, .returned (some (.int 1)), hrun, hended, rfl, lw_closed hd0 ⟨_, rfl⟩ hW hframe⟩
  jvm_step X.here [X.here.top, hx, hb, hdg, hmeth', hr, ret, narrow_b1]
  (try refine ⟨rfl, ?_⟩); (try refine ⟨rfl, ?_⟩)
  first | (intro acts; rw [hret _ acts rfl rfl rfl]) | rw [hret _ _ rfl rfl rfl]
  exact Steps.refl _
/-- what holds at the law's entry: the machine, the code, the tables' words (any of lw_tbl by 'hts w (by decide +kernel)'), the script of L ints xs at the cell b, what the Statement gives of the start (any of its parts by flat_of_before) -/
def lw_At (p : Program) (s : State) (m : MethodId) (meth : Method) (c : Code) (b L : Nat) (xs : Nat → Int32) : Prop :=
  p.tables.exec = Jvm.exec ∧ c.code = code ∧ meth.sig.returnType = ret ∧ c.maxLocals = 27 ∧ s.vm.findClass R_law = some m.cls ∧ (∀ w ∈ lw_tbl, w.before #[Value.ref b] s = true) ∧ va_X b L xs s s.heap ∧ b < s.heap.size ∧ meth.locks = false ∧ (Jvm.Cond.and given_1 narrow_1).before #[Value.ref b] s = true
-- ===== YOUR PART BEGINS =====
set_option maxRecDepth 100000 in
set_option maxHeartbeats 4000000 in
/-- YOUR PART: from the entry, for every script of at most 260 ints, the law comes to its end with true ('hflags': the launch's flags, for a law that throws: no stack traces) -/
theorem whole_start {p : Program} {e : Env} {s : State} {m : MethodId} {below : List Frame} {meth : Method} {c : Code} (l : Launch) (hflags : l.flags = flags0) {b L : Nat} {xs : Nat → Int32} (hL : L ≤ 260) (C0 : lw_At p s m meth c b L xs) : W p l e room_1 s m #[Value.ref b] below meth c s.heap [] 0 0 (lw_Z below #[Value.ref b] s) (entryFrame m ([Value.ref b] : List Value).toArray 27) := by
  obtain ⟨hx, hb, hr, hml, hown, hts, hX, hbl, hlocks, hgv⟩ := id C0
  have hlst := ws_flags hflags
  obtain ⟨D, cA, hE⟩ := ws_env hts
  obtain ⟨a0, ha0⟩ : ∃ a0, a0 = s.heap.size := ⟨_, rfl⟩
  have htu : ∀ w ∈ uW, w.before #[Value.ref b] s = true := fun w h => hts w (List.mem_filter.mp h).1
  have hM : Mk D cA a0 p s m ([.ref b] : List Value).toArray meth c cL_law 27 RL := ⟨⟨hx, hb, hml, hown, htu⟩, hE, ⟨hlocks, Or.inl rfl⟩, by omega⟩
  have hl := lv_entry ([.ref b]) (n := 27) (Nat.le_of_ble_eq_true rfl)
  rw [lg_entry_eq]
  generalize (lg_sl ([.ref b]) ++ List.replicate (27 - (lg_sl ([.ref b])).length) Slot.unset).toArray = ls at hl ⊢
  have hl : lv_has ls 27 [(0, .ref b)] := hl
  have hG : Gv D a0 0 (fun _ => .inr (0, [])) s s.heap [] := ⟨fun k q h => by simp [gw] at h, va_S.rf⟩
  refine g_new (C := RX4) (T := TX4) (N := 2) (ci := 4) (fs := [.null, .null]) hM hG (by omega) inW4 tyX4 tyX4_ok u_cl_L_26 u_ins_X4 u_ini_X4 rfl (fun j hj => by match j, hj with | 0, _ => rfl | 1, _ => rfl) (Nat.le_of_ble_eq_true rfl) (Nat.le_of_ble_eq_true rfl) dL_law_0 (fun H hG => ?_)
  refine lv_dup hM.x hM.b dL_law_3 rfl ?_
  refine g_runI hM hG (by omega) (m_X4_init l D cA a0 _ (va_up_self _ _ _)) (by decide) u_ml_L_104 u_im_X4_init u_ini_X4 u_co_X4_init rfl ⟨by decide +kernel, by decide +kernel, by decide +kernel⟩ rfl rfl ⟨Nat.le_of_ble_eq_true rfl, Nat.le_of_ble_eq_true rfl⟩ hl.1 (Nat.le_of_ble_eq_true rfl) dL_law_4 ⟨Nat.le_of_ble_eq_true rfl, Nat.le_of_ble_eq_true rfl⟩ (fun H locs hG => ?_)
  refine lv_astore_n (lv' := [(1, .ref (a0 + 0)), (0, .ref b)]) hM.x hM.b dL_law_7 rfl hl (by decide) rfl (fun ls hl => ?_)
  obtain ⟨ad, had⟩ : ∃ ad : Nat → Nat, ad = fun k => a0 + k := ⟨_, rfl⟩
  have hl : lv_has ls 27 [(1, .ref (ad 0)), (0, .ref b)] := by rw [had]; exact hl
  have hA : ∀ a : Nat, a < s.heap.size → ¬ (fun q => a0 ≤ q) a := fun a h z => by
    have z : a0 ≤ a := z
    omega
  have hM0 : Ma (fun q => a0 ≤ q) D cA p s m #[Value.ref b] meth c cL_law 27 RL := ⟨hM.1, ⟨hE.1, ws_env0 hts hgv⟩, ws_zs hts hgv hA, hlocks⟩
  have hmem : ∀ k, k ∈ List.range 91 ↔ k < 91 := fun k => List.mem_range
  have hw : Wa (fun q => a0 ≤ q) D cA (List.range 91) ad s κst H locs := by
    subst had
    refine ⟨hG.1, hG.2, ⟨List.nodup_range, fun i _ j _ h => ?_, fun k _ => Nat.le_add_right _ _, fun k hk => (hmem k).mpr hk, fun k hk => ?_⟩, fun q hq => ?_⟩
    · have h : a0 + i = a0 + j := h
      omega
    · have := (hmem k).mp hk
      omega
    · show a0 ≤ q
      omega
  have hbA : ¬ (fun q => a0 ≤ q) b := hA b hbl
  refine lv_aload_n hx hb dL_law_8 rfl (lv_at hl 0 rfl) ?_
  refine lv_aload_n hx hb dL_law_9 rfl (lv_at hl 1 rfl) ?_
  refine k_cwr (tr := fun u => u.1.2 91) hw (k_runSX [.ref (ad 0), .ref b] [] hM0 hw hX hbl hbA (m_L_build l ((D, List.range 91), cA, ad) κst _ hlst hL (Nat.lt_of_lt_of_le hbl hw.2.1.1) (fun z => hbA (fr_lt hw b z)) hmem ws_Iv (by decide +kernel) (by decide +kernel)) (k_gS u_ml_L_105 u_st_L_build u_ini_L u_co_L_build) q_L_build rfl rfl rfl ⟨Nat.le_of_ble_eq_true rfl, Nat.le_of_ble_eq_true rfl⟩ hl.1 rfl (Nat.le_of_ble_eq_true rfl) dL_law_10 ⟨Nat.le_of_ble_eq_true rfl, Nat.le_of_ble_eq_true rfl⟩) (fun L1 ad1 κ1 H locs hp hw => ?_)
  obtain ⟨⟨nf, ns, nr, hL1, hR1⟩, hA1⟩ := hp
  replace hL1 : Lm L1 ad1 nf ns nr [] := hL1
  replace hR1 : RR nf ns nr κ1 := hR1
  have hA1 : ad1 0 = ad 0 := hA1 0 (by decide)
  refine W.eq (g2 := F0 m (10 + 3) ls [.ref (ad1 91)]) rfl ?_
  refine lv_astore_n (lv' := [(2, .ref (ad1 91)), (1, .ref (ad1 0)), (0, .ref b)]) hx hb dL_law_13 rfl (show lv_has ls 27 [(1, .ref (ad1 0)), (0, .ref b)] by rw [hA1]; exact hl) (by decide) rfl (fun ls hl => ?_)
  refine lv_aload_n hx hb dL_law_14 rfl (lv_at hl 0 rfl) ?_
  refine lv_ifnonnull (tgt := 20) hx hb dL_law_15 (by decide) ?_
  refine lv_iconst (v := nI 0) hx hb dL_law_20 (by decide) ?_
  refine lv_istore_n (lv' := [(3, .int (nI 0)), (2, .ref (ad1 91)), (1, .ref (ad1 0)), (0, .ref b)]) hx hb dL_law_21 rfl hl (by decide) rfl (fun ls hl => ?_)
  refine W.widen (k := 10000 + 800 * 0) (n := 50000 + 4500 * 0) (Nat.le_of_ble_eq_true rfl) (Nat.le_of_ble_eq_true rfl) ?_
  refine law_main l hlst hM0 (k1 := 10000) (n1 := 50000) (by decide) (by decide) hL hX hbl hbA (ad0 := ad1) 30 0 rfl L1 ad1 κ1 nf ns nr hL1 hR1 (fun _ _ => rfl) H locs ls (lv_sub hl [0, 3, 2, 1] rfl) hw (fun L2 ad2 κ2 nf2 ns2 nr2 H locs ls hL2 hR2 hA2 hl hw => ?_)
  have hl : lv_has ls 27 [(0, .ref b), (1, .ref (ad2 0)), (2, .ref (ad2 91))] := by rw [hA2 0 (by decide), hA2 91 (by decide)]; exact hl
  refine W.base ?_
  have hd0 := Drawn.sameBut.refl s.drawn lw_cs
  have hM1 := hM0.drawn s.drawn
  have hw : Wa (fun q => a0 ≤ q) D cA L2 ad2 (s.setDrawn s.drawn) κ2 H locs := hw
  refine lv_aload_n hx hb dL_law_1041 rfl (lv_at hl 2 rfl) ?_
  refine lv_aload_n hx hb dL_law_1042 rfl (lv_at hl 1 rfl) ?_
  refine k_ciD hd0 hw (k_runVD [.ref (ad2 0)] [] hM1 hw (m_X6_isSame l ((D, L2), cA, ad2) κ2 _ hlst hL2 hR2) hL2.m91 (sh15 kd_91) rfl (k_gV u_ml_L_168 u_im_X6_isSame u_se_X6_isSame u_ini_X6 u_co_X6_isSame) q_X6_isSame rfl rfl rfl ⟨Nat.le_of_ble_eq_true rfl, Nat.le_of_ble_eq_true rfl⟩ hl.1 rfl (Nat.le_of_ble_eq_true rfl) dL_law_1043 ⟨Nat.le_of_ble_eq_true rfl, Nat.le_of_ble_eq_true rfl⟩) (fun r κ3 H locs d1 hd1 hp hw => ?_)
  obtain ⟨rfl, -⟩ := hp
  refine W.widen (k := 817018) (n := 6650127) (Nat.le_of_ble_eq_true rfl) (Nat.le_of_ble_eq_true rfl) ?_
  exact va_forget (fun q hq => by have h4 : a0 ≤ q.base := hw.2.1.2.2 q hq; show s.heap.size ≤ q.base; omega) (lw_ret hd1 hx hb hr hlocks dL_law_1046)
