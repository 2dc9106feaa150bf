theorem q_L_addFire : hdV yL_addFire yL_addFire.cls 2 := ⟨rfl, by decide +kernel, by decide +kernel, by decide +kernel⟩
def f_L_addFire (κ : Kp) : Int32 × Kp := match f_X4_addFire κ with | .inl (E, κx) => ((1, κx)) | .inr (r1, κ1) => ((fun κ2 : Kp => (0, κ2)) (up2 κ1 98 0 (r1)))
set_option maxRecDepth 100000 in
set_option maxHeartbeats 4000000 in
theorem m_L_addFire (l : Launch) (g : Gt) (κ : Kp) (sz : Nat)   (hlst : l.stackTraces = false) : Met l yL_addFire (.codeWith yL_addFire cL_addFire 3 (some .int) [(0, 8, 11, 13)] :: uW) { frames := 8, cells := 1, slots := 6, locals := 240 } (PRE g κ sz [.ref (g.2.2 (0)), .ref (g.2.2 (98))]) (va_Qi (fun r κ' => f_L_addFire κ  = (r, κ')) (Wp g) (fr g sz)) 1 6 (fr g sz) := by
  refine k_lenter (by decide +kernel) (Nat.le_of_ble_eq_true rfl) ?_
  intro p e s m below meth c ls hM hT hr hl hw hsz
  subst hsz
  have hl : lv_has ls 3 [(0, .ref (g.2.2 (0))), (1, .ref (g.2.2 (98)))] := hl
  have hF := f_L_addFire.eq_1 κ 
  refine lv_aload_n hM.x hM.b dL_addFire_0 rfl (lv_at hl 1 rfl) ?_
  refine lv_iconst (v := 0) hM.x hM.b dL_addFire_1 (by decide) ?_
  refine lv_aload_n hM.x hM.b dL_addFire_2 rfl (lv_at hl 0 rfl) ?_
  refine k_xi hw (k_runXV [] [.int (0), .ref (g.2.2 (98))] hM hw (m_X4_addFire l g κ _ hlst) (kd_lt kd_0 (by decide)) (sh4 kd_0) rfl (k_gV u_ml_L_7 u_im_X4_addFire u_se_X4_addFire u_ini_X4 u_co_X4_addFire) (q_X4_addFire) rfl rfl rfl ⟨Nat.le_of_ble_eq_true rfl, Nat.le_of_ble_eq_true rfl⟩ hl.1 rfl (Nat.le_of_ble_eq_true rfl) dL_addFire_3 ⟨Nat.le_of_ble_eq_true rfl, Nat.le_of_ble_eq_true rfl⟩) (fun E κx ce q9 H locs hx hw h1 h2 h3 => ?_) (fun r1 κ1 H locs hp hw => ?_)
  · simp only [hx.1] at hF
    obtain ⟨hx1, hx2⟩ := hx
    simp only [List.mem_cons, List.not_mem_nil, or_false] at hx2
    rcases hx2 with rfl
    · skip
      refine k_catch (E := nISE) hM hT [] ⟨0, 8, 11, 13⟩ [] rfl (fun z hz => nomatch hz) (by decide) (by decide) u_cl_L_13 (by decide) h1 h2 h3 ?_
      refine lv_astore_n (lv' := [(2, .ref q9), (0, .ref (g.2.2 (0))), (1, .ref (g.2.2 (98)))]) hM.x hM.b dL_addFire_11 rfl hl (by decide) rfl (fun ls hl => ?_)
      refine lv_iconst (v := 1) hM.x hM.b dL_addFire_12 (by decide) ?_
      exact k_iret hM hr hw (Nat.le_of_ble_eq_true rfl) (Nat.le_of_ble_eq_true rfl) hF dL_addFire_13
  · simp only [hp] at hF
    refine lv_i2l (v := (r1).toInt64) hM.x hM.b dL_addFire_6 rfl ?_
    refine k_last (x := r1) hM hw dL_addFire_7 (fun H locs hw => ?_)
    obtain ⟨κ2, eκ2⟩ : ∃ z : Kp, up2 κ1 98 0 (r1) = z := ⟨_, rfl⟩
    rw [eκ2] at hw
    rw [eκ2] at hF
    try dsimp only at hF
    refine lv_goto (tgt := 14) hM.x hM.b dL_addFire_8 (by decide) ?_
    refine lv_iconst (v := 0) hM.x hM.b dL_addFire_14 (by decide) ?_
    exact k_iret hM hr hw (Nat.le_of_ble_eq_true rfl) (Nat.le_of_ble_eq_true rfl) hF dL_addFire_15
theorem q_L_layLogs : hdV yL_layLogs yL_addFire.cls 4 := ⟨rfl, by decide +kernel, by decide +kernel, by decide +kernel⟩
def f_L_layLogs (κ : Kp) (a : Int32) (b : Int32) : Int32 × Kp := match f_X4_layLogs κ (a) (b) with | .inl (E, κx) => (if E = nIOE then (1, κx) else (2, κx)) | .inr (r1, κ1) => ((fun κ2 : Kp => (0, κ2)) (up2 κ1 98 0 (r1)))
set_option maxRecDepth 100000 in
set_option maxHeartbeats 4000000 in
theorem m_L_layLogs (l : Launch) (g : Gt) (κ : Kp) (sz : Nat) (a : Int32) (b : Int32)  (hlst : l.stackTraces = false) : Met l yL_layLogs (.codeWith yL_layLogs cL_layLogs 5 (some .int) [(0, 10, 13, 19), (0, 10, 17, 21)] :: uW) { frames := 8, cells := 2, slots := 12, locals := 240 } (PRE g κ sz [.ref (g.2.2 (0)), .int (a), .int (b), .ref (g.2.2 (98))]) (va_Qi (fun r κ' => f_L_layLogs κ a b = (r, κ')) (Wp g) (fr g sz)) 2 12 (fr g sz) := by
  refine k_lenter (by decide +kernel) (Nat.le_of_ble_eq_true rfl) ?_
  intro p e s m below meth c ls hM hT hr hl hw hsz
  subst hsz
  have hl : lv_has ls 5 [(0, .ref (g.2.2 (0))), (1, .int (a)), (2, .int (b)), (3, .ref (g.2.2 (98)))] := hl
  have hF := f_L_layLogs.eq_1 κ a b
  refine lv_aload_n hM.x hM.b dL_layLogs_0 rfl (lv_at hl 3 rfl) ?_
  refine lv_iconst (v := 0) hM.x hM.b dL_layLogs_1 (by decide) ?_
  refine lv_aload_n hM.x hM.b dL_layLogs_2 rfl (lv_at hl 0 rfl) ?_
  refine lv_iload_n hM.x hM.b dL_layLogs_3 rfl (lv_at hl 1 rfl) ?_
  refine lv_iload_n hM.x hM.b dL_layLogs_4 rfl (lv_at hl 2 rfl) ?_
  refine k_xi hw (k_runXV [.int (a), .int (b)] [.int (0), .ref (g.2.2 (98))] hM hw (m_X4_layLogs l g κ _ (a) (b) hlst) (kd_lt kd_0 (by decide)) (sh4 kd_0) rfl (k_gV u_ml_L_15 u_im_X4_layLogs u_se_X4_layLogs u_ini_X4 u_co_X4_layLogs) (q_X4_layLogs) rfl rfl rfl ⟨Nat.le_of_ble_eq_true rfl, Nat.le_of_ble_eq_true rfl⟩ hl.1 rfl (Nat.le_of_ble_eq_true rfl) dL_layLogs_5 ⟨Nat.le_of_ble_eq_true rfl, Nat.le_of_ble_eq_true rfl⟩) (fun E κx ce q9 H locs hx hw h1 h2 h3 => ?_) (fun r1 κ1 H locs hp hw => ?_)
  · simp only [hx.1] at hF
    obtain ⟨hx1, hx2⟩ := hx
    simp only [List.mem_cons, List.not_mem_nil, or_false] at hx2
    rcases hx2 with rfl | rfl
    · rw [if_pos rfl] at hF
      refine k_catch (E := nIOE) hM hT [] ⟨0, 10, 13, 19⟩ [⟨0, 10, 17, 21⟩] rfl (fun z hz => nomatch hz) (by decide) (by decide) u_cl_L_19 (by decide) h1 h2 h3 ?_
      refine lv_astore (lv' := [(4, .ref q9), (0, .ref (g.2.2 (0))), (1, .int (a)), (2, .int (b)), (3, .ref (g.2.2 (98)))]) hM.x hM.b dL_layLogs_13 hl (by decide) rfl (fun ls hl => ?_)
      refine lv_iconst (v := 1) hM.x hM.b dL_layLogs_15 (by decide) ?_
      exact k_iret hM hr hw (Nat.le_of_ble_eq_true rfl) (Nat.le_of_ble_eq_true rfl) hF dL_layLogs_16
    · rw [if_neg (by decide)] at hF
      refine k_catch (E := nIAE) hM hT [⟨0, 10, 13, 19⟩] ⟨0, 10, 17, 21⟩ [] rfl (fun z hz => by simp only [List.mem_cons, List.not_mem_nil, or_false] at hz; rcases hz with rfl; exact k_nk hM (by decide) u_cl_L_19 (nk_AI hM)) (by decide) (by decide) u_cl_L_21 (by decide) h1 h2 h3 ?_
      refine lv_astore (lv' := [(4, .ref q9), (0, .ref (g.2.2 (0))), (1, .int (a)), (2, .int (b)), (3, .ref (g.2.2 (98)))]) hM.x hM.b dL_layLogs_17 hl (by decide) rfl (fun ls hl => ?_)
      refine lv_iconst (v := 2) hM.x hM.b dL_layLogs_19 (by decide) ?_
      exact k_iret hM hr hw (Nat.le_of_ble_eq_true rfl) (Nat.le_of_ble_eq_true rfl) hF dL_layLogs_20
  · simp only [hp] at hF
    refine lv_i2l (v := (r1).toInt64) hM.x hM.b dL_layLogs_8 rfl ?_
    refine k_last (x := r1) hM hw dL_layLogs_9 (fun H locs hw => ?_)
    obtain ⟨κ2, eκ2⟩ : ∃ z : Kp, up2 κ1 98 0 (r1) = z := ⟨_, rfl⟩
    rw [eκ2] at hw
    rw [eκ2] at hF
    try dsimp only at hF
    refine lv_goto (tgt := 21) hM.x hM.b dL_layLogs_10 (by decide) ?_
    refine lv_iconst (v := 0) hM.x hM.b dL_layLogs_21 (by decide) ?_
    exact k_iret hM hr hw (Nat.le_of_ble_eq_true rfl) (Nat.le_of_ble_eq_true rfl) hF dL_layLogs_22
theorem q_L_addSpit : hdV yL_addSpit yL_addFire.cls 4 := ⟨rfl, by decide +kernel, by decide +kernel, by decide +kernel⟩
def f_L_addSpit (κ : Kp) (a : Int32) (b : Int32) : Int32 × Kp := match f_X4_addSpit κ (a) (b) with | .inl (E, κx) => (if E = nIOE then (1, κx) else if E = nIAE then (2, κx) else (3, κx)) | .inr (r1, κ1) => ((fun κ2 : Kp => (0, κ2)) (up2 κ1 98 0 (r1)))
set_option maxRecDepth 100000 in
set_option maxHeartbeats 4000000 in
theorem m_L_addSpit (l : Launch) (g : Gt) (κ : Kp) (sz : Nat) (a : Int32) (b : Int32)  (hlst : l.stackTraces = false) : Met l yL_addSpit (.codeWith yL_addSpit cL_addSpit 5 (some .int) [(0, 10, 13, 19), (0, 10, 17, 21), (0, 10, 21, 13)] :: uW) { frames := 8, cells := 3, slots := 18, locals := 240 } (PRE g κ sz [.ref (g.2.2 (0)), .int (a), .int (b), .ref (g.2.2 (98))]) (va_Qi (fun r κ' => f_L_addSpit κ a b = (r, κ')) (Wp g) (fr g sz)) 3 18 (fr g sz) := by
  refine k_lenter (by decide +kernel) (Nat.le_of_ble_eq_true rfl) ?_
  intro p e s m below meth c ls hM hT hr hl hw hsz
  subst hsz
  have hl : lv_has ls 5 [(0, .ref (g.2.2 (0))), (1, .int (a)), (2, .int (b)), (3, .ref (g.2.2 (98)))] := hl
  have hF := f_L_addSpit.eq_1 κ a b
  refine lv_aload_n hM.x hM.b dL_addSpit_0 rfl (lv_at hl 3 rfl) ?_
  refine lv_iconst (v := 0) hM.x hM.b dL_addSpit_1 (by decide) ?_
  refine lv_aload_n hM.x hM.b dL_addSpit_2 rfl (lv_at hl 0 rfl) ?_
  refine lv_iload_n hM.x hM.b dL_addSpit_3 rfl (lv_at hl 1 rfl) ?_
  refine lv_iload_n hM.x hM.b dL_addSpit_4 rfl (lv_at hl 2 rfl) ?_
  refine k_xi hw (k_runXV [.int (a), .int (b)] [.int (0), .ref (g.2.2 (98))] hM hw (m_X4_addSpit l g κ _ (a) (b) hlst) (kd_lt kd_0 (by decide)) (sh4 kd_0) rfl (k_gV u_ml_L_23 u_im_X4_addSpit u_se_X4_addSpit u_ini_X4 u_co_X4_addSpit) (q_X4_addSpit) rfl rfl rfl ⟨Nat.le_of_ble_eq_true rfl, Nat.le_of_ble_eq_true rfl⟩ hl.1 rfl (Nat.le_of_ble_eq_true rfl) dL_addSpit_5 ⟨Nat.le_of_ble_eq_true rfl, Nat.le_of_ble_eq_true rfl⟩) (fun E κx ce q9 H locs hx hw h1 h2 h3 => ?_) (fun r1 κ1 H locs hp hw => ?_)
  · simp only [hx.1] at hF
    obtain ⟨hx1, hx2⟩ := hx
    simp only [List.mem_cons, List.not_mem_nil, or_false] at hx2
    rcases hx2 with rfl | rfl | rfl
    · rw [if_pos rfl] at hF
      refine k_catch (E := nIOE) hM hT [] ⟨0, 10, 13, 19⟩ [⟨0, 10, 17, 21⟩, ⟨0, 10, 21, 13⟩] rfl (fun z hz => nomatch hz) (by decide) (by decide) u_cl_L_19 (by decide) h1 h2 h3 ?_
      refine lv_astore (lv' := [(4, .ref q9), (0, .ref (g.2.2 (0))), (1, .int (a)), (2, .int (b)), (3, .ref (g.2.2 (98)))]) hM.x hM.b dL_addSpit_13 hl (by decide) rfl (fun ls hl => ?_)
      refine lv_iconst (v := 1) hM.x hM.b dL_addSpit_15 (by decide) ?_
      exact k_iret hM hr hw (Nat.le_of_ble_eq_true rfl) (Nat.le_of_ble_eq_true rfl) hF dL_addSpit_16
    · rw [if_neg (by decide), if_pos rfl] at hF
      refine k_catch (E := nIAE) hM hT [⟨0, 10, 13, 19⟩] ⟨0, 10, 17, 21⟩ [⟨0, 10, 21, 13⟩] rfl (fun z hz => by simp only [List.mem_cons, List.not_mem_nil, or_false] at hz; rcases hz with rfl; exact k_nk hM (by decide) u_cl_L_19 (nk_AI hM)) (by decide) (by decide) u_cl_L_21 (by decide) h1 h2 h3 ?_
      refine lv_astore (lv' := [(4, .ref q9), (0, .ref (g.2.2 (0))), (1, .int (a)), (2, .int (b)), (3, .ref (g.2.2 (98)))]) hM.x hM.b dL_addSpit_17 hl (by decide) rfl (fun ls hl => ?_)
      refine lv_iconst (v := 2) hM.x hM.b dL_addSpit_19 (by decide) ?_
      exact k_iret hM hr hw (Nat.le_of_ble_eq_true rfl) (Nat.le_of_ble_eq_true rfl) hF dL_addSpit_20
    · rw [if_neg (by decide), if_neg (by decide)] at hF
      refine k_catch (E := nISE) hM hT [⟨0, 10, 13, 19⟩, ⟨0, 10, 17, 21⟩] ⟨0, 10, 21, 13⟩ [] rfl (fun z hz => by simp only [List.mem_cons, List.not_mem_nil, or_false] at hz; rcases hz with rfl | rfl <;> first | exact k_nk hM (by decide) u_cl_L_19 (nk_SI hM) | exact k_nk hM (by decide) u_cl_L_21 (nk_SA hM)) (by decide) (by decide) u_cl_L_13 (by decide) h1 h2 h3 ?_
      refine lv_astore (lv' := [(4, .ref q9), (0, .ref (g.2.2 (0))), (1, .int (a)), (2, .int (b)), (3, .ref (g.2.2 (98)))]) hM.x hM.b dL_addSpit_21 hl (by decide) rfl (fun ls hl => ?_)
      refine lv_iconst (v := 3) hM.x hM.b dL_addSpit_23 (by decide) ?_
      exact k_iret hM hr hw (Nat.le_of_ble_eq_true rfl) (Nat.le_of_ble_eq_true rfl) hF dL_addSpit_24
  · simp only [hp] at hF
    refine lv_i2l (v := (r1).toInt64) hM.x hM.b dL_addSpit_8 rfl ?_
    refine k_last (x := r1) hM hw dL_addSpit_9 (fun H locs hw => ?_)
    obtain ⟨κ2, eκ2⟩ : ∃ z : Kp, up2 κ1 98 0 (r1) = z := ⟨_, rfl⟩
    rw [eκ2] at hw
    rw [eκ2] at hF
    try dsimp only at hF
    refine lv_goto (tgt := 25) hM.x hM.b dL_addSpit_10 (by decide) ?_
    refine lv_iconst (v := 0) hM.x hM.b dL_addSpit_25 (by decide) ?_
    exact k_iret hM hr hw (Nat.le_of_ble_eq_true rfl) (Nat.le_of_ble_eq_true rfl) hF dL_addSpit_26
theorem q_L_moveSpit : hdV yL_moveSpit yL_addFire.cls 4 := ⟨rfl, by decide +kernel, by decide +kernel, by decide +kernel⟩
def f_L_moveSpit (κ : Kp) (a : Int32) (b : Int32) : Int32 × Kp := match f_X4_moveSpit κ (a) (b) with | .inl (E, κx) => (if E = nIOE then (1, κx) else (2, κx)) | .inr (r1, κ1) => ((fun κ2 : Kp => (0, κ2)) (up2 κ1 98 0 (r1)))
set_option maxRecDepth 100000 in
set_option maxHeartbeats 4000000 in
theorem m_L_moveSpit (l : Launch) (g : Gt) (κ : Kp) (sz : Nat) (a : Int32) (b : Int32)  (hlst : l.stackTraces = false) : Met l yL_moveSpit (.codeWith yL_moveSpit cL_moveSpit 5 (some .int) [(0, 10, 13, 19), (0, 10, 17, 21)] :: uW) { frames := 8, cells := 2, slots := 12, locals := 240 } (PRE g κ sz [.ref (g.2.2 (0)), .int (a), .int (b), .ref (g.2.2 (98))]) (va_Qi (fun r κ' => f_L_moveSpit κ a b = (r, κ')) (Wp g) (fr g sz)) 2 12 (fr g sz) := by
  refine k_lenter (by decide +kernel) (Nat.le_of_ble_eq_true rfl) ?_
  intro p e s m below meth c ls hM hT hr hl hw hsz
  subst hsz
  have hl : lv_has ls 5 [(0, .ref (g.2.2 (0))), (1, .int (a)), (2, .int (b)), (3, .ref (g.2.2 (98)))] := hl
  have hF := f_L_moveSpit.eq_1 κ a b
  refine lv_aload_n hM.x hM.b dL_moveSpit_0 rfl (lv_at hl 3 rfl) ?_
  refine lv_iconst (v := 0) hM.x hM.b dL_moveSpit_1 (by decide) ?_
  refine lv_aload_n hM.x hM.b dL_moveSpit_2 rfl (lv_at hl 0 rfl) ?_
  refine lv_iload_n hM.x hM.b dL_moveSpit_3 rfl (lv_at hl 1 rfl) ?_
  refine lv_iload_n hM.x hM.b dL_moveSpit_4 rfl (lv_at hl 2 rfl) ?_
  refine k_xi hw (k_runXV [.int (a), .int (b)] [.int (0), .ref (g.2.2 (98))] hM hw (m_X4_moveSpit l g κ _ (a) (b) hlst) (kd_lt kd_0 (by decide)) (sh4 kd_0) rfl (k_gV u_ml_L_26 u_im_X4_moveSpit u_se_X4_moveSpit u_ini_X4 u_co_X4_moveSpit) (q_X4_moveSpit) rfl rfl rfl ⟨Nat.le_of_ble_eq_true rfl, Nat.le_of_ble_eq_true rfl⟩ hl.1 rfl (Nat.le_of_ble_eq_true rfl) dL_moveSpit_5 ⟨Nat.le_of_ble_eq_true rfl, Nat.le_of_ble_eq_true rfl⟩) (fun E κx ce q9 H locs hx hw h1 h2 h3 => ?_) (fun r1 κ1 H locs hp hw => ?_)
  · simp only [hx.1] at hF
    obtain ⟨hx1, hx2⟩ := hx
    simp only [List.mem_cons, List.not_mem_nil, or_false] at hx2
    rcases hx2 with rfl | rfl
    · rw [if_pos rfl] at hF
      refine k_catch (E := nIOE) hM hT [] ⟨0, 10, 13, 19⟩ [⟨0, 10, 17, 21⟩] rfl (fun z hz => nomatch hz) (by decide) (by decide) u_cl_L_19 (by decide) h1 h2 h3 ?_
      refine lv_astore (lv' := [(4, .ref q9), (0, .ref (g.2.2 (0))), (1, .int (a)), (2, .int (b)), (3, .ref (g.2.2 (98)))]) hM.x hM.b dL_moveSpit_13 hl (by decide) rfl (fun ls hl => ?_)
      refine lv_iconst (v := 1) hM.x hM.b dL_moveSpit_15 (by decide) ?_
      exact k_iret hM hr hw (Nat.le_of_ble_eq_true rfl) (Nat.le_of_ble_eq_true rfl) hF dL_moveSpit_16
    · rw [if_neg (by decide)] at hF
      refine k_catch (E := nIAE) hM hT [⟨0, 10, 13, 19⟩] ⟨0, 10, 17, 21⟩ [] rfl (fun z hz => by simp only [List.mem_cons, List.not_mem_nil, or_false] at hz; rcases hz with rfl; exact k_nk hM (by decide) u_cl_L_19 (nk_AI hM)) (by decide) (by decide) u_cl_L_21 (by decide) h1 h2 h3 ?_
      refine lv_astore (lv' := [(4, .ref q9), (0, .ref (g.2.2 (0))), (1, .int (a)), (2, .int (b)), (3, .ref (g.2.2 (98)))]) hM.x hM.b dL_moveSpit_17 hl (by decide) rfl (fun ls hl => ?_)
      refine lv_iconst (v := 2) hM.x hM.b dL_moveSpit_19 (by decide) ?_
      exact k_iret hM hr hw (Nat.le_of_ble_eq_true rfl) (Nat.le_of_ble_eq_true rfl) hF dL_moveSpit_20
  · simp only [hp] at hF
    refine lv_i2l (v := (r1).toInt64) hM.x hM.b dL_moveSpit_8 rfl ?_
    refine k_last (x := r1) hM hw dL_moveSpit_9 (fun H locs hw => ?_)
    obtain ⟨κ2, eκ2⟩ : ∃ z : Kp, up2 κ1 98 0 (r1) = z := ⟨_, rfl⟩
    rw [eκ2] at hw
    rw [eκ2] at hF
    try dsimp only at hF
    refine lv_goto (tgt := 21) hM.x hM.b dL_moveSpit_10 (by decide) ?_
    refine lv_iconst (v := 0) hM.x hM.b dL_moveSpit_21 (by decide) ?_
    exact k_iret hM hr hw (Nat.le_of_ble_eq_true rfl) (Nat.le_of_ble_eq_true rfl) hF dL_moveSpit_22
theorem q_L_turnEach : hdV yL_turnEach yL_addFire.cls 4 := ⟨rfl, by decide +kernel, by decide +kernel, by decide +kernel⟩
def f_L_turnEach (κ : Kp) (a : Int32) (b : Int32) : Int32 × Kp := match f_X4_turnEach κ (a) (b) with | .inl (E, κx) => (if E = nIOE then (1, κx) else (2, κx)) | .inr (r1, κ1) => ((fun κ2 : Kp => (0, κ2)) (up2 κ1 98 0 (r1)))
set_option maxRecDepth 100000 in
set_option maxHeartbeats 4000000 in
theorem m_L_turnEach (l : Launch) (g : Gt) (κ : Kp) (sz : Nat) (a : Int32) (b : Int32)  (hlst : l.stackTraces = false) : Met l yL_turnEach (.codeWith yL_turnEach cL_turnEach 5 (some .int) [(0, 10, 13, 19), (0, 10, 17, 21)] :: uW) { frames := 8, cells := 2, slots := 12, locals := 240 } (PRE g κ sz [.ref (g.2.2 (0)), .int (a), .int (b), .ref (g.2.2 (98))]) (va_Qi (fun r κ' => f_L_turnEach κ a b = (r, κ')) (Wp g) (fr g sz)) 2 12 (fr g sz) := by
  refine k_lenter (by decide +kernel) (Nat.le_of_ble_eq_true rfl) ?_
  intro p e s m below meth c ls hM hT hr hl hw hsz
  subst hsz
  have hl : lv_has ls 5 [(0, .ref (g.2.2 (0))), (1, .int (a)), (2, .int (b)), (3, .ref (g.2.2 (98)))] := hl
  have hF := f_L_turnEach.eq_1 κ a b
  refine lv_aload_n hM.x hM.b dL_turnEach_0 rfl (lv_at hl 3 rfl) ?_
  refine lv_iconst (v := 0) hM.x hM.b dL_turnEach_1 (by decide) ?_
  refine lv_aload_n hM.x hM.b dL_turnEach_2 rfl (lv_at hl 0 rfl) ?_
  refine lv_iload_n hM.x hM.b dL_turnEach_3 rfl (lv_at hl 1 rfl) ?_
  refine lv_iload_n hM.x hM.b dL_turnEach_4 rfl (lv_at hl 2 rfl) ?_
  refine k_xi hw (k_runXV [.int (a), .int (b)] [.int (0), .ref (g.2.2 (98))] hM hw (m_X4_turnEach l g κ _ (a) (b) hlst) (kd_lt kd_0 (by decide)) (sh4 kd_0) rfl (k_gV u_ml_L_29 u_im_X4_turnEach u_se_X4_turnEach u_ini_X4 u_co_X4_turnEach) (q_X4_turnEach) rfl rfl rfl ⟨Nat.le_of_ble_eq_true rfl, Nat.le_of_ble_eq_true rfl⟩ hl.1 rfl (Nat.le_of_ble_eq_true rfl) dL_turnEach_5 ⟨Nat.le_of_ble_eq_true rfl, Nat.le_of_ble_eq_true rfl⟩) (fun E κx ce q9 H locs hx hw h1 h2 h3 => ?_) (fun r1 κ1 H locs hp hw => ?_)
  · simp only [hx.1] at hF
    obtain ⟨hx1, hx2⟩ := hx
    simp only [List.mem_cons, List.not_mem_nil, or_false] at hx2
    rcases hx2 with rfl | rfl
    · rw [if_pos rfl] at hF
      refine k_catch (E := nIOE) hM hT [] ⟨0, 10, 13, 19⟩ [⟨0, 10, 17, 21⟩] rfl (fun z hz => nomatch hz) (by decide) (by decide) u_cl_L_19 (by decide) h1 h2 h3 ?_
      refine lv_astore (lv' := [(4, .ref q9), (0, .ref (g.2.2 (0))), (1, .int (a)), (2, .int (b)), (3, .ref (g.2.2 (98)))]) hM.x hM.b dL_turnEach_13 hl (by decide) rfl (fun ls hl => ?_)
      refine lv_iconst (v := 1) hM.x hM.b dL_turnEach_15 (by decide) ?_
      exact k_iret hM hr hw (Nat.le_of_ble_eq_true rfl) (Nat.le_of_ble_eq_true rfl) hF dL_turnEach_16
    · rw [if_neg (by decide)] at hF
      refine k_catch (E := nIAE) hM hT [⟨0, 10, 13, 19⟩] ⟨0, 10, 17, 21⟩ [] rfl (fun z hz => by simp only [List.mem_cons, List.not_mem_nil, or_false] at hz; rcases hz with rfl; exact k_nk hM (by decide) u_cl_L_19 (nk_AI hM)) (by decide) (by decide) u_cl_L_21 (by decide) h1 h2 h3 ?_
      refine lv_astore (lv' := [(4, .ref q9), (0, .ref (g.2.2 (0))), (1, .int (a)), (2, .int (b)), (3, .ref (g.2.2 (98)))]) hM.x hM.b dL_turnEach_17 hl (by decide) rfl (fun ls hl => ?_)
      refine lv_iconst (v := 2) hM.x hM.b dL_turnEach_19 (by decide) ?_
      exact k_iret hM hr hw (Nat.le_of_ble_eq_true rfl) (Nat.le_of_ble_eq_true rfl) hF dL_turnEach_20
  · simp only [hp] at hF
    refine lv_i2l (v := (r1).toInt64) hM.x hM.b dL_turnEach_8 rfl ?_
    refine k_last (x := r1) hM hw dL_turnEach_9 (fun H locs hw => ?_)
    obtain ⟨κ2, eκ2⟩ : ∃ z : Kp, up2 κ1 98 0 (r1) = z := ⟨_, rfl⟩
    rw [eκ2] at hw
    rw [eκ2] at hF
    try dsimp only at hF
    refine lv_goto (tgt := 21) hM.x hM.b dL_turnEach_10 (by decide) ?_
    refine lv_iconst (v := 0) hM.x hM.b dL_turnEach_21 (by decide) ?_
    exact k_iret hM hr hw (Nat.le_of_ble_eq_true rfl) (Nat.le_of_ble_eq_true rfl) hF dL_turnEach_22
theorem q_L_setFeast : hdV yL_setFeast yL_addFire.cls 3 := ⟨rfl, by decide +kernel, by decide +kernel, by decide +kernel⟩
def f_L_setFeast (κ : Kp) (a : Int32) : Int32 × Kp := match f_X4_setFeast κ (a) with | .inl (E, κx) => ((1, κx)) | .inr (r1, κ1) => ((fun κ2 : Kp => (0, κ2)) (up2 κ1 98 0 (r1)))
set_option maxRecDepth 100000 in
set_option maxHeartbeats 4000000 in
theorem m_L_setFeast (l : Launch) (g : Gt) (κ : Kp) (sz : Nat) (a : Int32)  (hlst : l.stackTraces = false) : Met l yL_setFeast (.codeWith yL_setFeast cL_setFeast 4 (some .int) [(0, 9, 12, 21)] :: uW) { frames := 8, cells := 1, slots := 6, locals := 240 } (PRE g κ sz [.ref (g.2.2 (0)), .int (a), .ref (g.2.2 (98))]) (va_Qi (fun r κ' => f_L_setFeast κ a = (r, κ')) (Wp g) (fr g sz)) 1 6 (fr g sz) := by
  refine k_lenter (by decide +kernel) (Nat.le_of_ble_eq_true rfl) ?_
  intro p e s m below meth c ls hM hT hr hl hw hsz
  subst hsz
  have hl : lv_has ls 4 [(0, .ref (g.2.2 (0))), (1, .int (a)), (2, .ref (g.2.2 (98)))] := hl
  have hF := f_L_setFeast.eq_1 κ a
  refine lv_aload_n hM.x hM.b dL_setFeast_0 rfl (lv_at hl 2 rfl) ?_
  refine lv_iconst (v := 0) hM.x hM.b dL_setFeast_1 (by decide) ?_
  refine lv_aload_n hM.x hM.b dL_setFeast_2 rfl (lv_at hl 0 rfl) ?_
  refine lv_iload_n hM.x hM.b dL_setFeast_3 rfl (lv_at hl 1 rfl) ?_
  refine k_xi hw (k_runXV [.int (a)] [.int (0), .ref (g.2.2 (98))] hM hw (m_X4_setFeast l g κ _ (a) hlst) (kd_lt kd_0 (by decide)) (sh4 kd_0) rfl (k_gV u_ml_L_32 u_im_X4_setFeast u_se_X4_setFeast u_ini_X4 u_co_X4_setFeast) (q_X4_setFeast) rfl rfl rfl ⟨Nat.le_of_ble_eq_true rfl, Nat.le_of_ble_eq_true rfl⟩ hl.1 rfl (Nat.le_of_ble_eq_true rfl) dL_setFeast_4 ⟨Nat.le_of_ble_eq_true rfl, Nat.le_of_ble_eq_true rfl⟩) (fun E κx ce q9 H locs hx hw h1 h2 h3 => ?_) (fun r1 κ1 H locs hp hw => ?_)
  · simp only [hx.1] at hF
    obtain ⟨hx1, hx2⟩ := hx
    simp only [List.mem_cons, List.not_mem_nil, or_false] at hx2
    rcases hx2 with rfl
    · skip
      refine k_catch (E := nIAE) hM hT [] ⟨0, 9, 12, 21⟩ [] rfl (fun z hz => nomatch hz) (by decide) (by decide) u_cl_L_21 (by decide) h1 h2 h3 ?_
      refine lv_astore_n (lv' := [(3, .ref q9), (0, .ref (g.2.2 (0))), (1, .int (a)), (2, .ref (g.2.2 (98)))]) hM.x hM.b dL_setFeast_12 rfl hl (by decide) rfl (fun ls hl => ?_)
      refine lv_iconst (v := 1) hM.x hM.b dL_setFeast_13 (by decide) ?_
      exact k_iret hM hr hw (Nat.le_of_ble_eq_true rfl) (Nat.le_of_ble_eq_true rfl) hF dL_setFeast_14
  · simp only [hp] at hF
    refine lv_i2l (v := (r1).toInt64) hM.x hM.b dL_setFeast_7 rfl ?_
    refine k_last (x := r1) hM hw dL_setFeast_8 (fun H locs hw => ?_)
    obtain ⟨κ2, eκ2⟩ : ∃ z : Kp, up2 κ1 98 0 (r1) = z := ⟨_, rfl⟩
    rw [eκ2] at hw
    rw [eκ2] at hF
    try dsimp only at hF
    refine lv_goto (tgt := 15) hM.x hM.b dL_setFeast_9 (by decide) ?_
    refine lv_iconst (v := 0) hM.x hM.b dL_setFeast_15 (by decide) ?_
    exact k_iret hM hr hw (Nat.le_of_ble_eq_true rfl) (Nat.le_of_ble_eq_true rfl) hF dL_setFeast_16
theorem q_L_hang : hdV yL_hang yL_addFire.cls 4 := ⟨rfl, by decide +kernel, by decide +kernel, by decide +kernel⟩
def f_L_hang (κ : Kp) (a : Int32) (b : Int32) : Int32 × Kp := match f_X4_hang κ (a) (b) with | .inl (E, κx) => (if E = nIOE then (1, κx) else if E = nIAE then (2, κx) else (3, κx)) | .inr (r1, κ1) => ((fun κ2 : Kp => (0, κ2)) (up2 κ1 98 0 (r1)))
set_option maxRecDepth 100000 in
set_option maxHeartbeats 4000000 in
theorem m_L_hang (l : Launch) (g : Gt) (κ : Kp) (sz : Nat) (a : Int32) (b : Int32)  (hlst : l.stackTraces = false) : Met l yL_hang (.codeWith yL_hang cL_hang 5 (some .int) [(0, 10, 13, 19), (0, 10, 17, 21), (0, 10, 21, 13)] :: uW) { frames := 8, cells := 3, slots := 18, locals := 240 } (PRE g κ sz [.ref (g.2.2 (0)), .int (a), .int (b), .ref (g.2.2 (98))]) (va_Qi (fun r κ' => f_L_hang κ a b = (r, κ')) (Wp g) (fr g sz)) 3 18 (fr g sz) := by
  refine k_lenter (by decide +kernel) (Nat.le_of_ble_eq_true rfl) ?_
  intro p e s m below meth c ls hM hT hr hl hw hsz
  subst hsz
  have hl : lv_has ls 5 [(0, .ref (g.2.2 (0))), (1, .int (a)), (2, .int (b)), (3, .ref (g.2.2 (98)))] := hl
  have hF := f_L_hang.eq_1 κ a b
  refine lv_aload_n hM.x hM.b dL_hang_0 rfl (lv_at hl 3 rfl) ?_
  refine lv_iconst (v := 0) hM.x hM.b dL_hang_1 (by decide) ?_
  refine lv_aload_n hM.x hM.b dL_hang_2 rfl (lv_at hl 0 rfl) ?_
  refine lv_iload_n hM.x hM.b dL_hang_3 rfl (lv_at hl 1 rfl) ?_
  refine lv_iload_n hM.x hM.b dL_hang_4 rfl (lv_at hl 2 rfl) ?_
  refine k_xi hw (k_runXV [.int (a), .int (b)] [.int (0), .ref (g.2.2 (98))] hM hw (m_X4_hang l g κ _ (a) (b) hlst) (kd_lt kd_0 (by decide)) (sh4 kd_0) rfl (k_gV u_ml_L_36 u_im_X4_hang u_se_X4_hang u_ini_X4 u_co_X4_hang) (q_X4_hang) rfl rfl rfl ⟨Nat.le_of_ble_eq_true rfl, Nat.le_of_ble_eq_true rfl⟩ hl.1 rfl (Nat.le_of_ble_eq_true rfl) dL_hang_5 ⟨Nat.le_of_ble_eq_true rfl, Nat.le_of_ble_eq_true rfl⟩) (fun E κx ce q9 H locs hx hw h1 h2 h3 => ?_) (fun r1 κ1 H locs hp hw => ?_)
  · simp only [hx.1] at hF
    obtain ⟨hx1, hx2⟩ := hx
    simp only [List.mem_cons, List.not_mem_nil, or_false] at hx2
    rcases hx2 with rfl | rfl | rfl
    · rw [if_pos rfl] at hF
      refine k_catch (E := nIOE) hM hT [] ⟨0, 10, 13, 19⟩ [⟨0, 10, 17, 21⟩, ⟨0, 10, 21, 13⟩] rfl (fun z hz => nomatch hz) (by decide) (by decide) u_cl_L_19 (by decide) h1 h2 h3 ?_
      refine lv_astore (lv' := [(4, .ref q9), (0, .ref (g.2.2 (0))), (1, .int (a)), (2, .int (b)), (3, .ref (g.2.2 (98)))]) hM.x hM.b dL_hang_13 hl (by decide) rfl (fun ls hl => ?_)
      refine lv_iconst (v := 1) hM.x hM.b dL_hang_15 (by decide) ?_
      exact k_iret hM hr hw (Nat.le_of_ble_eq_true rfl) (Nat.le_of_ble_eq_true rfl) hF dL_hang_16
    · rw [if_neg (by decide), if_pos rfl] at hF
      refine k_catch (E := nIAE) hM hT [⟨0, 10, 13, 19⟩] ⟨0, 10, 17, 21⟩ [⟨0, 10, 21, 13⟩] rfl (fun z hz => by simp only [List.mem_cons, List.not_mem_nil, or_false] at hz; rcases hz with rfl; exact k_nk hM (by decide) u_cl_L_19 (nk_AI hM)) (by decide) (by decide) u_cl_L_21 (by decide) h1 h2 h3 ?_
      refine lv_astore (lv' := [(4, .ref q9), (0, .ref (g.2.2 (0))), (1, .int (a)), (2, .int (b)), (3, .ref (g.2.2 (98)))]) hM.x hM.b dL_hang_17 hl (by decide) rfl (fun ls hl => ?_)
      refine lv_iconst (v := 2) hM.x hM.b dL_hang_19 (by decide) ?_
      exact k_iret hM hr hw (Nat.le_of_ble_eq_true rfl) (Nat.le_of_ble_eq_true rfl) hF dL_hang_20
    · rw [if_neg (by decide), if_neg (by decide)] at hF
      refine k_catch (E := nISE) hM hT [⟨0, 10, 13, 19⟩, ⟨0, 10, 17, 21⟩] ⟨0, 10, 21, 13⟩ [] rfl (fun z hz => by simp only [List.mem_cons, List.not_mem_nil, or_false] at hz; rcases hz with rfl | rfl <;> first | exact k_nk hM (by decide) u_cl_L_19 (nk_SI hM) | exact k_nk hM (by decide) u_cl_L_21 (nk_SA hM)) (by decide) (by decide) u_cl_L_13 (by decide) h1 h2 h3 ?_
      refine lv_astore (lv' := [(4, .ref q9), (0, .ref (g.2.2 (0))), (1, .int (a)), (2, .int (b)), (3, .ref (g.2.2 (98)))]) hM.x hM.b dL_hang_21 hl (by decide) rfl (fun ls hl => ?_)
      refine lv_iconst (v := 3) hM.x hM.b dL_hang_23 (by decide) ?_
      exact k_iret hM hr hw (Nat.le_of_ble_eq_true rfl) (Nat.le_of_ble_eq_true rfl) hF dL_hang_24
  · simp only [hp] at hF
    refine lv_i2l (v := (r1).toInt64) hM.x hM.b dL_hang_8 rfl ?_
    refine k_last (x := r1) hM hw dL_hang_9 (fun H locs hw => ?_)
    obtain ⟨κ2, eκ2⟩ : ∃ z : Kp, up2 κ1 98 0 (r1) = z := ⟨_, rfl⟩
    rw [eκ2] at hw
    rw [eκ2] at hF
    try dsimp only at hF
    refine lv_goto (tgt := 25) hM.x hM.b dL_hang_10 (by decide) ?_
    refine lv_iconst (v := 0) hM.x hM.b dL_hang_25 (by decide) ?_
    exact k_iret hM hr hw (Nat.le_of_ble_eq_true rfl) (Nat.le_of_ble_eq_true rfl) hF dL_hang_26
theorem q_L_turnNow : hdV yL_turnNow yL_addFire.cls 3 := ⟨rfl, by decide +kernel, by decide +kernel, by decide +kernel⟩
def f_L_turnNow (κ : Kp) (a : Int32) : Int32 × Kp := match f_X4_turnNow κ (a) with | .inl (E, κx) => (if E = nIOE then (1, κx) else (2, κx)) | .inr (r1, κ1) => ((fun κ2 : Kp => (0, κ2)) (up2 κ1 98 0 (r1)))
set_option maxRecDepth 100000 in
set_option maxHeartbeats 4000000 in
theorem m_L_turnNow (l : Launch) (g : Gt) (κ : Kp) (sz : Nat) (a : Int32)  (hlst : l.stackTraces = false) : Met l yL_turnNow (.codeWith yL_turnNow cL_turnNow 4 (some .int) [(0, 9, 12, 19), (0, 9, 15, 13)] :: uW) { frames := 8, cells := 2, slots := 12, locals := 240 } (PRE g κ sz [.ref (g.2.2 (0)), .int (a), .ref (g.2.2 (98))]) (va_Qi (fun r κ' => f_L_turnNow κ a = (r, κ')) (Wp g) (fr g sz)) 2 12 (fr g sz) := by
  refine k_lenter (by decide +kernel) (Nat.le_of_ble_eq_true rfl) ?_
  intro p e s m below meth c ls hM hT hr hl hw hsz
  subst hsz
  have hl : lv_has ls 4 [(0, .ref (g.2.2 (0))), (1, .int (a)), (2, .ref (g.2.2 (98)))] := hl
  have hF := f_L_turnNow.eq_1 κ a
  refine lv_aload_n hM.x hM.b dL_turnNow_0 rfl (lv_at hl 2 rfl) ?_
  refine lv_iconst (v := 0) hM.x hM.b dL_turnNow_1 (by decide) ?_
  refine lv_aload_n hM.x hM.b dL_turnNow_2 rfl (lv_at hl 0 rfl) ?_
  refine lv_iload_n hM.x hM.b dL_turnNow_3 rfl (lv_at hl 1 rfl) ?_
  refine k_xi hw (k_runXV [.int (a)] [.int (0), .ref (g.2.2 (98))] hM hw (m_X4_turnNow l g κ _ (a) hlst) (kd_lt kd_0 (by decide)) (sh4 kd_0) rfl (k_gV u_ml_L_39 u_im_X4_turnNow u_se_X4_turnNow u_ini_X4 u_co_X4_turnNow) (q_X4_turnNow) rfl rfl rfl ⟨Nat.le_of_ble_eq_true rfl, Nat.le_of_ble_eq_true rfl⟩ hl.1 rfl (Nat.le_of_ble_eq_true rfl) dL_turnNow_4 ⟨Nat.le_of_ble_eq_true rfl, Nat.le_of_ble_eq_true rfl⟩) (fun E κx ce q9 H locs hx hw h1 h2 h3 => ?_) (fun r1 κ1 H locs hp hw => ?_)
  · simp only [hx.1] at hF
    obtain ⟨hx1, hx2⟩ := hx
    simp only [List.mem_cons, List.not_mem_nil, or_false] at hx2
    rcases hx2 with rfl | rfl
    · rw [if_pos rfl] at hF
      refine k_catch (E := nIOE) hM hT [] ⟨0, 9, 12, 19⟩ [⟨0, 9, 15, 13⟩] rfl (fun z hz => nomatch hz) (by decide) (by decide) u_cl_L_19 (by decide) h1 h2 h3 ?_
      refine lv_astore_n (lv' := [(3, .ref q9), (0, .ref (g.2.2 (0))), (1, .int (a)), (2, .ref (g.2.2 (98)))]) hM.x hM.b dL_turnNow_12 rfl hl (by decide) rfl (fun ls hl => ?_)
      refine lv_iconst (v := 1) hM.x hM.b dL_turnNow_13 (by decide) ?_
      exact k_iret hM hr hw (Nat.le_of_ble_eq_true rfl) (Nat.le_of_ble_eq_true rfl) hF dL_turnNow_14
    · rw [if_neg (by decide)] at hF
      refine k_catch (E := nISE) hM hT [⟨0, 9, 12, 19⟩] ⟨0, 9, 15, 13⟩ [] rfl (fun z hz => by simp only [List.mem_cons, List.not_mem_nil, or_false] at hz; rcases hz with rfl; exact k_nk hM (by decide) u_cl_L_19 (nk_SI hM)) (by decide) (by decide) u_cl_L_13 (by decide) h1 h2 h3 ?_
      refine lv_astore_n (lv' := [(3, .ref q9), (0, .ref (g.2.2 (0))), (1, .int (a)), (2, .ref (g.2.2 (98)))]) hM.x hM.b dL_turnNow_15 rfl hl (by decide) rfl (fun ls hl => ?_)
      refine lv_iconst (v := 2) hM.x hM.b dL_turnNow_16 (by decide) ?_
      exact k_iret hM hr hw (Nat.le_of_ble_eq_true rfl) (Nat.le_of_ble_eq_true rfl) hF dL_turnNow_17
  · simp only [hp] at hF
    refine lv_i2l (v := (r1).toInt64) hM.x hM.b dL_turnNow_7 rfl ?_
    refine k_last (x := r1) hM hw dL_turnNow_8 (fun H locs hw => ?_)
    obtain ⟨κ2, eκ2⟩ : ∃ z : Kp, up2 κ1 98 0 (r1) = z := ⟨_, rfl⟩
    rw [eκ2] at hw
    rw [eκ2] at hF
    try dsimp only at hF
    refine lv_goto (tgt := 18) hM.x hM.b dL_turnNow_9 (by decide) ?_
    refine lv_iconst (v := 0) hM.x hM.b dL_turnNow_18 (by decide) ?_
    exact k_iret hM hr hw (Nat.le_of_ble_eq_true rfl) (Nat.le_of_ble_eq_true rfl) hF dL_turnNow_19
theorem q_L_baste : hdV yL_baste yL_addFire.cls 3 := ⟨rfl, by decide +kernel, by decide +kernel, by decide +kernel⟩
def f_L_baste (κ : Kp) (a : Int32) : Int32 × Kp := match f_X4_baste κ (a) with | .inl (E, κx) => (if E = nIOE then (1, κx) else (2, κx)) | .inr (r1, κ1) => ((fun κ2 : Kp => (0, κ2)) (up2 κ1 98 0 (r1)))
set_option maxRecDepth 100000 in
set_option maxHeartbeats 4000000 in
theorem m_L_baste (l : Launch) (g : Gt) (κ : Kp) (sz : Nat) (a : Int32)  (hlst : l.stackTraces = false) : Met l yL_baste (.codeWith yL_baste cL_baste 4 (some .int) [(0, 9, 12, 19), (0, 9, 15, 13)] :: uW) { frames := 8, cells := 3, slots := 18, locals := 240 } (PRE g κ sz [.ref (g.2.2 (0)), .int (a), .ref (g.2.2 (98))]) (va_Qi (fun r κ' => f_L_baste κ a = (r, κ')) (Wp g) (fr g sz)) 3 18 (fr g sz) := by
  refine k_lenter (by decide +kernel) (Nat.le_of_ble_eq_true rfl) ?_
  intro p e s m below meth c ls hM hT hr hl hw hsz
  subst hsz
  have hl : lv_has ls 4 [(0, .ref (g.2.2 (0))), (1, .int (a)), (2, .ref (g.2.2 (98)))] := hl
  have hF := f_L_baste.eq_1 κ a
  refine lv_aload_n hM.x hM.b dL_baste_0 rfl (lv_at hl 2 rfl) ?_
  refine lv_iconst (v := 0) hM.x hM.b dL_baste_1 (by decide) ?_
  refine lv_aload_n hM.x hM.b dL_baste_2 rfl (lv_at hl 0 rfl) ?_
  refine lv_iload_n hM.x hM.b dL_baste_3 rfl (lv_at hl 1 rfl) ?_
  refine k_xi hw (k_runXV [.int (a)] [.int (0), .ref (g.2.2 (98))] hM hw (m_X4_baste l g κ _ (a) hlst) (kd_lt kd_0 (by decide)) (sh4 kd_0) rfl (k_gV u_ml_L_42 u_im_X4_baste u_se_X4_baste u_ini_X4 u_co_X4_baste) (q_X4_baste) rfl rfl rfl ⟨Nat.le_of_ble_eq_true rfl, Nat.le_of_ble_eq_true rfl⟩ hl.1 rfl (Nat.le_of_ble_eq_true rfl) dL_baste_4 ⟨Nat.le_of_ble_eq_true rfl, Nat.le_of_ble_eq_true rfl⟩) (fun E κx ce q9 H locs hx hw h1 h2 h3 => ?_) (fun r1 κ1 H locs hp hw => ?_)
  · simp only [hx.1] at hF
    obtain ⟨hx1, hx2⟩ := hx
    simp only [List.mem_cons, List.not_mem_nil, or_false] at hx2
    rcases hx2 with rfl | rfl
    · rw [if_pos rfl] at hF
      refine k_catch (E := nIOE) hM hT [] ⟨0, 9, 12, 19⟩ [⟨0, 9, 15, 13⟩] rfl (fun z hz => nomatch hz) (by decide) (by decide) u_cl_L_19 (by decide) h1 h2 h3 ?_
      refine lv_astore_n (lv' := [(3, .ref q9), (0, .ref (g.2.2 (0))), (1, .int (a)), (2, .ref (g.2.2 (98)))]) hM.x hM.b dL_baste_12 rfl hl (by decide) rfl (fun ls hl => ?_)
      refine lv_iconst (v := 1) hM.x hM.b dL_baste_13 (by decide) ?_
      exact k_iret hM hr hw (Nat.le_of_ble_eq_true rfl) (Nat.le_of_ble_eq_true rfl) hF dL_baste_14
    · rw [if_neg (by decide)] at hF
      refine k_catch (E := nISE) hM hT [⟨0, 9, 12, 19⟩] ⟨0, 9, 15, 13⟩ [] rfl (fun z hz => by simp only [List.mem_cons, List.not_mem_nil, or_false] at hz; rcases hz with rfl; exact k_nk hM (by decide) u_cl_L_19 (nk_SI hM)) (by decide) (by decide) u_cl_L_13 (by decide) h1 h2 h3 ?_
      refine lv_astore_n (lv' := [(3, .ref q9), (0, .ref (g.2.2 (0))), (1, .int (a)), (2, .ref (g.2.2 (98)))]) hM.x hM.b dL_baste_15 rfl hl (by decide) rfl (fun ls hl => ?_)
      refine lv_iconst (v := 2) hM.x hM.b dL_baste_16 (by decide) ?_
      exact k_iret hM hr hw (Nat.le_of_ble_eq_true rfl) (Nat.le_of_ble_eq_true rfl) hF dL_baste_17
  · simp only [hp] at hF
    refine lv_i2l (v := (r1).toInt64) hM.x hM.b dL_baste_7 rfl ?_
    refine k_last (x := r1) hM hw dL_baste_8 (fun H locs hw => ?_)
    obtain ⟨κ2, eκ2⟩ : ∃ z : Kp, up2 κ1 98 0 (r1) = z := ⟨_, rfl⟩
    rw [eκ2] at hw
    rw [eκ2] at hF
    try dsimp only at hF
    refine lv_goto (tgt := 18) hM.x hM.b dL_baste_9 (by decide) ?_
    refine lv_iconst (v := 0) hM.x hM.b dL_baste_18 (by decide) ?_
    exact k_iret hM hr hw (Nat.le_of_ble_eq_true rfl) (Nat.le_of_ble_eq_true rfl) hF dL_baste_19
theorem q_L_takeDown : hdV yL_takeDown yL_addFire.cls 3 := ⟨rfl, by decide +kernel, by decide +kernel, by decide +kernel⟩
def f_L_takeDown (κ : Kp) (a : Int32) : Int32 × Kp := match f_X4_takeDown κ (a) with | .inl (E, κx) => (if E = nIOE then (1, κx) else (2, κx)) | .inr (r1, κ1) => ((fun κ2 : Kp => (0, κ2)) (up2 κ1 98 0 (r1)))
set_option maxRecDepth 100000 in
set_option maxHeartbeats 4000000 in
theorem m_L_takeDown (l : Launch) (g : Gt) (κ : Kp) (sz : Nat) (a : Int32)  (hlst : l.stackTraces = false) : Met l yL_takeDown (.codeWith yL_takeDown cL_takeDown 4 (some .int) [(0, 9, 12, 19), (0, 9, 15, 13)] :: uW) { frames := 8, cells := 2, slots := 12, locals := 240 } (PRE g κ sz [.ref (g.2.2 (0)), .int (a), .ref (g.2.2 (98))]) (va_Qi (fun r κ' => f_L_takeDown κ a = (r, κ')) (Wp g) (fr g sz)) 2 12 (fr g sz) := by
  refine k_lenter (by decide +kernel) (Nat.le_of_ble_eq_true rfl) ?_
  intro p e s m below meth c ls hM hT hr hl hw hsz
  subst hsz
  have hl : lv_has ls 4 [(0, .ref (g.2.2 (0))), (1, .int (a)), (2, .ref (g.2.2 (98)))] := hl
  have hF := f_L_takeDown.eq_1 κ a
  refine lv_aload_n hM.x hM.b dL_takeDown_0 rfl (lv_at hl 2 rfl) ?_
  refine lv_iconst (v := 0) hM.x hM.b dL_takeDown_1 (by decide) ?_
  refine lv_aload_n hM.x hM.b dL_takeDown_2 rfl (lv_at hl 0 rfl) ?_
  refine lv_iload_n hM.x hM.b dL_takeDown_3 rfl (lv_at hl 1 rfl) ?_
  refine k_xi hw (k_runXV [.int (a)] [.int (0), .ref (g.2.2 (98))] hM hw (m_X4_takeDown l g κ _ (a) hlst) (kd_lt kd_0 (by decide)) (sh4 kd_0) rfl (k_gV u_ml_L_45 u_im_X4_takeDown u_se_X4_takeDown u_ini_X4 u_co_X4_takeDown) (q_X4_takeDown) rfl rfl rfl ⟨Nat.le_of_ble_eq_true rfl, Nat.le_of_ble_eq_true rfl⟩ hl.1 rfl (Nat.le_of_ble_eq_true rfl) dL_takeDown_4 ⟨Nat.le_of_ble_eq_true rfl, Nat.le_of_ble_eq_true rfl⟩) (fun E κx ce q9 H locs hx hw h1 h2 h3 => ?_) (fun r1 κ1 H locs hp hw => ?_)
  · simp only [hx.1] at hF
    obtain ⟨hx1, hx2⟩ := hx
    simp only [List.mem_cons, List.not_mem_nil, or_false] at hx2
    rcases hx2 with rfl | rfl
    · rw [if_pos rfl] at hF
      refine k_catch (E := nIOE) hM hT [] ⟨0, 9, 12, 19⟩ [⟨0, 9, 15, 13⟩] rfl (fun z hz => nomatch hz) (by decide) (by decide) u_cl_L_19 (by decide) h1 h2 h3 ?_
      refine lv_astore_n (lv' := [(3, .ref q9), (0, .ref (g.2.2 (0))), (1, .int (a)), (2, .ref (g.2.2 (98)))]) hM.x hM.b dL_takeDown_12 rfl hl (by decide) rfl (fun ls hl => ?_)
      refine lv_iconst (v := 1) hM.x hM.b dL_takeDown_13 (by decide) ?_
      exact k_iret hM hr hw (Nat.le_of_ble_eq_true rfl) (Nat.le_of_ble_eq_true rfl) hF dL_takeDown_14
    · rw [if_neg (by decide)] at hF
      refine k_catch (E := nISE) hM hT [⟨0, 9, 12, 19⟩] ⟨0, 9, 15, 13⟩ [] rfl (fun z hz => by simp only [List.mem_cons, List.not_mem_nil, or_false] at hz; rcases hz with rfl; exact k_nk hM (by decide) u_cl_L_19 (nk_SI hM)) (by decide) (by decide) u_cl_L_13 (by decide) h1 h2 h3 ?_
      refine lv_astore_n (lv' := [(3, .ref q9), (0, .ref (g.2.2 (0))), (1, .int (a)), (2, .ref (g.2.2 (98)))]) hM.x hM.b dL_takeDown_15 rfl hl (by decide) rfl (fun ls hl => ?_)
      refine lv_iconst (v := 2) hM.x hM.b dL_takeDown_16 (by decide) ?_
      exact k_iret hM hr hw (Nat.le_of_ble_eq_true rfl) (Nat.le_of_ble_eq_true rfl) hF dL_takeDown_17
  · simp only [hp] at hF
    refine lv_i2l (v := (r1).toInt64) hM.x hM.b dL_takeDown_7 rfl ?_
    refine k_last (x := r1) hM hw dL_takeDown_8 (fun H locs hw => ?_)
    obtain ⟨κ2, eκ2⟩ : ∃ z : Kp, up2 κ1 98 0 (r1) = z := ⟨_, rfl⟩
    rw [eκ2] at hw
    rw [eκ2] at hF
    try dsimp only at hF
    refine lv_goto (tgt := 18) hM.x hM.b dL_takeDown_9 (by decide) ?_
    refine lv_iconst (v := 0) hM.x hM.b dL_takeDown_18 (by decide) ?_
    exact k_iret hM hr hw (Nat.le_of_ble_eq_true rfl) (Nat.le_of_ble_eq_true rfl) hF dL_takeDown_19
theorem q_L_emptyPan : hdV yL_emptyPan yL_addFire.cls 3 := ⟨rfl, by decide +kernel, by decide +kernel, by decide +kernel⟩
def f_L_emptyPan (κ : Kp) (a : Int32) : Int32 × Kp := match f_X4_emptyPan κ (a) with | .inl (E, κx) => ((1, κx)) | .inr (r1, κ1) => ((fun κ2 : Kp => (0, κ2)) (up2 κ1 98 0 (r1)))
set_option maxRecDepth 100000 in
set_option maxHeartbeats 4000000 in
theorem m_L_emptyPan (l : Launch) (g : Gt) (κ : Kp) (sz : Nat) (a : Int32)  (hlst : l.stackTraces = false) : Met l yL_emptyPan (.codeWith yL_emptyPan cL_emptyPan 4 (some .int) [(0, 9, 12, 19)] :: uW) { frames := 8, cells := 1, slots := 6, locals := 240 } (PRE g κ sz [.ref (g.2.2 (0)), .int (a), .ref (g.2.2 (98))]) (va_Qi (fun r κ' => f_L_emptyPan κ a = (r, κ')) (Wp g) (fr g sz)) 1 6 (fr g sz) := by
  refine k_lenter (by decide +kernel) (Nat.le_of_ble_eq_true rfl) ?_
  intro p e s m below meth c ls hM hT hr hl hw hsz
  subst hsz
  have hl : lv_has ls 4 [(0, .ref (g.2.2 (0))), (1, .int (a)), (2, .ref (g.2.2 (98)))] := hl
  have hF := f_L_emptyPan.eq_1 κ a
  refine lv_aload_n hM.x hM.b dL_emptyPan_0 rfl (lv_at hl 2 rfl) ?_
  refine lv_iconst (v := 0) hM.x hM.b dL_emptyPan_1 (by decide) ?_
  refine lv_aload_n hM.x hM.b dL_emptyPan_2 rfl (lv_at hl 0 rfl) ?_
  refine lv_iload_n hM.x hM.b dL_emptyPan_3 rfl (lv_at hl 1 rfl) ?_
  refine k_xi hw (k_runXV [.int (a)] [.int (0), .ref (g.2.2 (98))] hM hw (m_X4_emptyPan l g κ _ (a) hlst) (kd_lt kd_0 (by decide)) (sh4 kd_0) rfl (k_gV u_ml_L_48 u_im_X4_emptyPan u_se_X4_emptyPan u_ini_X4 u_co_X4_emptyPan) (q_X4_emptyPan) rfl rfl rfl ⟨Nat.le_of_ble_eq_true rfl, Nat.le_of_ble_eq_true rfl⟩ hl.1 rfl (Nat.le_of_ble_eq_true rfl) dL_emptyPan_4 ⟨Nat.le_of_ble_eq_true rfl, Nat.le_of_ble_eq_true rfl⟩) (fun E κx ce q9 H locs hx hw h1 h2 h3 => ?_) (fun r1 κ1 H locs hp hw => ?_)
  · simp only [hx.1] at hF
    obtain ⟨hx1, hx2⟩ := hx
    simp only [List.mem_cons, List.not_mem_nil, or_false] at hx2
    rcases hx2 with rfl
    · skip
      refine k_catch (E := nIOE) hM hT [] ⟨0, 9, 12, 19⟩ [] rfl (fun z hz => nomatch hz) (by decide) (by decide) u_cl_L_19 (by decide) h1 h2 h3 ?_
      refine lv_astore_n (lv' := [(3, .ref q9), (0, .ref (g.2.2 (0))), (1, .int (a)), (2, .ref (g.2.2 (98)))]) hM.x hM.b dL_emptyPan_12 rfl hl (by decide) rfl (fun ls hl => ?_)
      refine lv_iconst (v := 1) hM.x hM.b dL_emptyPan_13 (by decide) ?_
      exact k_iret hM hr hw (Nat.le_of_ble_eq_true rfl) (Nat.le_of_ble_eq_true rfl) hF dL_emptyPan_14
  · simp only [hp] at hF
    refine lv_i2l (v := (r1).toInt64) hM.x hM.b dL_emptyPan_7 rfl ?_
    refine k_last (x := r1) hM hw dL_emptyPan_8 (fun H locs hw => ?_)
    obtain ⟨κ2, eκ2⟩ : ∃ z : Kp, up2 κ1 98 0 (r1) = z := ⟨_, rfl⟩
    rw [eκ2] at hw
    rw [eκ2] at hF
    try dsimp only at hF
    refine lv_goto (tgt := 15) hM.x hM.b dL_emptyPan_9 (by decide) ?_
    refine lv_iconst (v := 0) hM.x hM.b dL_emptyPan_15 (by decide) ?_
    exact k_iret hM hr hw (Nat.le_of_ble_eq_true rfl) (Nat.le_of_ble_eq_true rfl) hF dL_emptyPan_16
theorem q_L_pass : hdV yL_pass yL_addFire.cls 3 := ⟨rfl, by decide +kernel, by decide +kernel, by decide +kernel⟩
def f_L_pass (κ : Kp) (a : Int32) : Int32 × Kp := match f_X4_pass κ (a) with | .inl (E, κx) => ((1, κx)) | .inr (r1, κ1) => ((fun κ2 : Kp => (0, κ2)) (up2 κ1 98 0 (r1)))
set_option maxRecDepth 100000 in
set_option maxHeartbeats 4000000 in
theorem m_L_pass (l : Launch) (g : Gt) (κ : Kp) (sz : Nat) (a : Int32)  (hlst : l.stackTraces = false) : Met l yL_pass (.codeWith yL_pass cL_pass 4 (some .int) [(0, 9, 12, 21)] :: uW) { frames := 8, cells := 1, slots := 6, locals := 240 } (PRE g κ sz [.ref (g.2.2 (0)), .int (a), .ref (g.2.2 (98))]) (va_Qi (fun r κ' => f_L_pass κ a = (r, κ')) (Wp g) (fr g sz)) 1 6 (fr g sz) := by
  refine k_lenter (by decide +kernel) (Nat.le_of_ble_eq_true rfl) ?_
  intro p e s m below meth c ls hM hT hr hl hw hsz
  subst hsz
  have hl : lv_has ls 4 [(0, .ref (g.2.2 (0))), (1, .int (a)), (2, .ref (g.2.2 (98)))] := hl
  have hF := f_L_pass.eq_1 κ a
  refine lv_aload_n hM.x hM.b dL_pass_0 rfl (lv_at hl 2 rfl) ?_
  refine lv_iconst (v := 0) hM.x hM.b dL_pass_1 (by decide) ?_
  refine lv_aload_n hM.x hM.b dL_pass_2 rfl (lv_at hl 0 rfl) ?_
  refine lv_iload_n hM.x hM.b dL_pass_3 rfl (lv_at hl 1 rfl) ?_
  refine k_xi hw (k_runXV [.int (a)] [.int (0), .ref (g.2.2 (98))] hM hw (m_X4_pass l g κ _ (a) hlst) (kd_lt kd_0 (by decide)) (sh4 kd_0) rfl (k_gV u_ml_L_51 u_im_X4_pass u_se_X4_pass u_ini_X4 u_co_X4_pass) (q_X4_pass) rfl rfl rfl ⟨Nat.le_of_ble_eq_true rfl, Nat.le_of_ble_eq_true rfl⟩ hl.1 rfl (Nat.le_of_ble_eq_true rfl) dL_pass_4 ⟨Nat.le_of_ble_eq_true rfl, Nat.le_of_ble_eq_true rfl⟩) (fun E κx ce q9 H locs hx hw h1 h2 h3 => ?_) (fun r1 κ1 H locs hp hw => ?_)
  · simp only [hx.1] at hF
    obtain ⟨hx1, hx2⟩ := hx
    simp only [List.mem_cons, List.not_mem_nil, or_false] at hx2
    rcases hx2 with rfl
    · skip
      refine k_catch (E := nIAE) hM hT [] ⟨0, 9, 12, 21⟩ [] rfl (fun z hz => nomatch hz) (by decide) (by decide) u_cl_L_21 (by decide) h1 h2 h3 ?_
      refine lv_astore_n (lv' := [(3, .ref q9), (0, .ref (g.2.2 (0))), (1, .int (a)), (2, .ref (g.2.2 (98)))]) hM.x hM.b dL_pass_12 rfl hl (by decide) rfl (fun ls hl => ?_)
      refine lv_iconst (v := 1) hM.x hM.b dL_pass_13 (by decide) ?_
      exact k_iret hM hr hw (Nat.le_of_ble_eq_true rfl) (Nat.le_of_ble_eq_true rfl) hF dL_pass_14
  · simp only [hp] at hF
    refine lv_i2l (v := (r1).toInt64) hM.x hM.b dL_pass_7 rfl ?_
    refine k_last (x := r1) hM hw dL_pass_8 (fun H locs hw => ?_)
    obtain ⟨κ2, eκ2⟩ : ∃ z : Kp, up2 κ1 98 0 (r1) = z := ⟨_, rfl⟩
    rw [eκ2] at hw
    rw [eκ2] at hF
    try dsimp only at hF
    refine lv_goto (tgt := 15) hM.x hM.b dL_pass_9 (by decide) ?_
    refine lv_iconst (v := 0) hM.x hM.b dL_pass_15 (by decide) ?_
    exact k_iret hM hr hw (Nat.le_of_ble_eq_true rfl) (Nat.le_of_ble_eq_true rfl) hF dL_pass_16
theorem q_L_logsOf : hdV yL_logsOf yL_addFire.cls 3 := ⟨rfl, by decide +kernel, by decide +kernel, by decide +kernel⟩
def f_L_logsOf (κ : Kp) (a : Int32) : Int32 × Kp := match f_X4_logsOf κ (a) with | .inl (E, κx) => ((1, κx)) | .inr (r1, κ1) => ((fun κ2 : Kp => (0, κ2)) (up2 κ1 98 0 (r1)))
set_option maxRecDepth 100000 in
set_option maxHeartbeats 4000000 in
theorem m_L_logsOf (l : Launch) (g : Gt) (κ : Kp) (sz : Nat) (a : Int32)  (hlst : l.stackTraces = false) : Met l yL_logsOf (.codeWith yL_logsOf cL_logsOf 4 (some .int) [(0, 9, 12, 19)] :: uW) { frames := 8, cells := 1, slots := 6, locals := 240 } (PRE g κ sz [.ref (g.2.2 (0)), .int (a), .ref (g.2.2 (98))]) (va_Qi (fun r κ' => f_L_logsOf κ a = (r, κ')) (Wp g) (fr g sz)) 1 6 (fr g sz) := by
  refine k_lenter (by decide +kernel) (Nat.le_of_ble_eq_true rfl) ?_
  intro p e s m below meth c ls hM hT hr hl hw hsz
  subst hsz
  have hl : lv_has ls 4 [(0, .ref (g.2.2 (0))), (1, .int (a)), (2, .ref (g.2.2 (98)))] := hl
  have hF := f_L_logsOf.eq_1 κ a
  refine lv_aload_n hM.x hM.b dL_logsOf_0 rfl (lv_at hl 2 rfl) ?_
  refine lv_iconst (v := 0) hM.x hM.b dL_logsOf_1 (by decide) ?_
  refine lv_aload_n hM.x hM.b dL_logsOf_2 rfl (lv_at hl 0 rfl) ?_
  refine lv_iload_n hM.x hM.b dL_logsOf_3 rfl (lv_at hl 1 rfl) ?_
  refine k_xi hw (k_runXV [.int (a)] [.int (0), .ref (g.2.2 (98))] hM hw (m_X4_logsOf l g κ _ (a) hlst) (kd_lt kd_0 (by decide)) (sh4 kd_0) rfl (k_gV u_ml_L_54 u_im_X4_logsOf u_se_X4_logsOf u_ini_X4 u_co_X4_logsOf) (q_X4_logsOf) rfl rfl rfl ⟨Nat.le_of_ble_eq_true rfl, Nat.le_of_ble_eq_true rfl⟩ hl.1 rfl (Nat.le_of_ble_eq_true rfl) dL_logsOf_4 ⟨Nat.le_of_ble_eq_true rfl, Nat.le_of_ble_eq_true rfl⟩) (fun E κx ce q9 H locs hx hw h1 h2 h3 => ?_) (fun r1 κ1 H locs hp hw => ?_)
  · simp only [hx.1] at hF
    obtain ⟨hx1, hx2⟩ := hx
    simp only [List.mem_cons, List.not_mem_nil, or_false] at hx2
    rcases hx2 with rfl
    · skip
      refine k_catch (E := nIOE) hM hT [] ⟨0, 9, 12, 19⟩ [] rfl (fun z hz => nomatch hz) (by decide) (by decide) u_cl_L_19 (by decide) h1 h2 h3 ?_
      refine lv_astore_n (lv' := [(3, .ref q9), (0, .ref (g.2.2 (0))), (1, .int (a)), (2, .ref (g.2.2 (98)))]) hM.x hM.b dL_logsOf_12 rfl hl (by decide) rfl (fun ls hl => ?_)
      refine lv_iconst (v := 1) hM.x hM.b dL_logsOf_13 (by decide) ?_
      exact k_iret hM hr hw (Nat.le_of_ble_eq_true rfl) (Nat.le_of_ble_eq_true rfl) hF dL_logsOf_14
  · simp only [hp] at hF
    refine lv_i2l (v := (r1).toInt64) hM.x hM.b dL_logsOf_7 rfl ?_
    refine k_last (x := r1) hM hw dL_logsOf_8 (fun H locs hw => ?_)
    obtain ⟨κ2, eκ2⟩ : ∃ z : Kp, up2 κ1 98 0 (r1) = z := ⟨_, rfl⟩
    rw [eκ2] at hw
    rw [eκ2] at hF
    try dsimp only at hF
    refine lv_goto (tgt := 15) hM.x hM.b dL_logsOf_9 (by decide) ?_
    refine lv_iconst (v := 0) hM.x hM.b dL_logsOf_15 (by decide) ?_
    exact k_iret hM hr hw (Nat.le_of_ble_eq_true rfl) (Nat.le_of_ble_eq_true rfl) hF dL_logsOf_16
theorem q_L_heatOf : hdV yL_heatOf yL_addFire.cls 3 := ⟨rfl, by decide +kernel, by decide +kernel, by decide +kernel⟩
def f_L_heatOf (κ : Kp) (a : Int32) : Int32 × Kp := match f_X4_heatOf κ (a) with | .inl (E, κx) => ((1, κx)) | .inr (r1, κ1) => ((fun κ2 : Kp => (0, κ2)) (up2 κ1 98 0 (r1)))
set_option maxRecDepth 100000 in
set_option maxHeartbeats 4000000 in
theorem m_L_heatOf (l : Launch) (g : Gt) (κ : Kp) (sz : Nat) (a : Int32)  (hlst : l.stackTraces = false) : Met l yL_heatOf (.codeWith yL_heatOf cL_heatOf 4 (some .int) [(0, 9, 12, 19)] :: uW) { frames := 8, cells := 1, slots := 6, locals := 240 } (PRE g κ sz [.ref (g.2.2 (0)), .int (a), .ref (g.2.2 (98))]) (va_Qi (fun r κ' => f_L_heatOf κ a = (r, κ')) (Wp g) (fr g sz)) 1 6 (fr g sz) := by
  refine k_lenter (by decide +kernel) (Nat.le_of_ble_eq_true rfl) ?_
  intro p e s m below meth c ls hM hT hr hl hw hsz
  subst hsz
  have hl : lv_has ls 4 [(0, .ref (g.2.2 (0))), (1, .int (a)), (2, .ref (g.2.2 (98)))] := hl
  have hF := f_L_heatOf.eq_1 κ a
  refine lv_aload_n hM.x hM.b dL_heatOf_0 rfl (lv_at hl 2 rfl) ?_
  refine lv_iconst (v := 0) hM.x hM.b dL_heatOf_1 (by decide) ?_
  refine lv_aload_n hM.x hM.b dL_heatOf_2 rfl (lv_at hl 0 rfl) ?_
  refine lv_iload_n hM.x hM.b dL_heatOf_3 rfl (lv_at hl 1 rfl) ?_
  refine k_xi hw (k_runXV [.int (a)] [.int (0), .ref (g.2.2 (98))] hM hw (m_X4_heatOf l g κ _ (a) hlst) (kd_lt kd_0 (by decide)) (sh4 kd_0) rfl (k_gV u_ml_L_57 u_im_X4_heatOf u_se_X4_heatOf u_ini_X4 u_co_X4_heatOf) (q_X4_heatOf) rfl rfl rfl ⟨Nat.le_of_ble_eq_true rfl, Nat.le_of_ble_eq_true rfl⟩ hl.1 rfl (Nat.le_of_ble_eq_true rfl) dL_heatOf_4 ⟨Nat.le_of_ble_eq_true rfl, Nat.le_of_ble_eq_true rfl⟩) (fun E κx ce q9 H locs hx hw h1 h2 h3 => ?_) (fun r1 κ1 H locs hp hw => ?_)
  · simp only [hx.1] at hF
    obtain ⟨hx1, hx2⟩ := hx
    simp only [List.mem_cons, List.not_mem_nil, or_false] at hx2
    rcases hx2 with rfl
    · skip
      refine k_catch (E := nIOE) hM hT [] ⟨0, 9, 12, 19⟩ [] rfl (fun z hz => nomatch hz) (by decide) (by decide) u_cl_L_19 (by decide) h1 h2 h3 ?_
      refine lv_astore_n (lv' := [(3, .ref q9), (0, .ref (g.2.2 (0))), (1, .int (a)), (2, .ref (g.2.2 (98)))]) hM.x hM.b dL_heatOf_12 rfl hl (by decide) rfl (fun ls hl => ?_)
      refine lv_iconst (v := 1) hM.x hM.b dL_heatOf_13 (by decide) ?_
      exact k_iret hM hr hw (Nat.le_of_ble_eq_true rfl) (Nat.le_of_ble_eq_true rfl) hF dL_heatOf_14
  · simp only [hp] at hF
    refine lv_i2l (v := (r1).toInt64) hM.x hM.b dL_heatOf_7 rfl ?_
    refine k_last (x := r1) hM hw dL_heatOf_8 (fun H locs hw => ?_)
    obtain ⟨κ2, eκ2⟩ : ∃ z : Kp, up2 κ1 98 0 (r1) = z := ⟨_, rfl⟩
    rw [eκ2] at hw
    rw [eκ2] at hF
    try dsimp only at hF
    refine lv_goto (tgt := 15) hM.x hM.b dL_heatOf_9 (by decide) ?_
    refine lv_iconst (v := 0) hM.x hM.b dL_heatOf_15 (by decide) ?_
    exact k_iret hM hr hw (Nat.le_of_ble_eq_true rfl) (Nat.le_of_ble_eq_true rfl) hF dL_heatOf_16
theorem q_L_fireOf : hdV yL_fireOf yL_addFire.cls 3 := ⟨rfl, by decide +kernel, by decide +kernel, by decide +kernel⟩
def f_L_fireOf (κ : Kp) (a : Int32) : Int32 × Kp := match f_X4_fireOf κ (a) with | .inl (E, κx) => ((1, κx)) | .inr (r1, κ1) => ((fun κ2 : Kp => (0, κ2)) (up2 κ1 98 0 (r1)))
set_option maxRecDepth 100000 in
set_option maxHeartbeats 4000000 in
theorem m_L_fireOf (l : Launch) (g : Gt) (κ : Kp) (sz : Nat) (a : Int32)  (hlst : l.stackTraces = false) : Met l yL_fireOf (.codeWith yL_fireOf cL_fireOf 4 (some .int) [(0, 9, 12, 19)] :: uW) { frames := 8, cells := 1, slots := 6, locals := 240 } (PRE g κ sz [.ref (g.2.2 (0)), .int (a), .ref (g.2.2 (98))]) (va_Qi (fun r κ' => f_L_fireOf κ a = (r, κ')) (Wp g) (fr g sz)) 1 6 (fr g sz) := by
  refine k_lenter (by decide +kernel) (Nat.le_of_ble_eq_true rfl) ?_
  intro p e s m below meth c ls hM hT hr hl hw hsz
  subst hsz
  have hl : lv_has ls 4 [(0, .ref (g.2.2 (0))), (1, .int (a)), (2, .ref (g.2.2 (98)))] := hl
  have hF := f_L_fireOf.eq_1 κ a
  refine lv_aload_n hM.x hM.b dL_fireOf_0 rfl (lv_at hl 2 rfl) ?_
  refine lv_iconst (v := 0) hM.x hM.b dL_fireOf_1 (by decide) ?_
  refine lv_aload_n hM.x hM.b dL_fireOf_2 rfl (lv_at hl 0 rfl) ?_
  refine lv_iload_n hM.x hM.b dL_fireOf_3 rfl (lv_at hl 1 rfl) ?_
  refine k_xi hw (k_runXV [.int (a)] [.int (0), .ref (g.2.2 (98))] hM hw (m_X4_fireOf l g κ _ (a) hlst) (kd_lt kd_0 (by decide)) (sh4 kd_0) rfl (k_gV u_ml_L_60 u_im_X4_fireOf u_se_X4_fireOf u_ini_X4 u_co_X4_fireOf) (q_X4_fireOf) rfl rfl rfl ⟨Nat.le_of_ble_eq_true rfl, Nat.le_of_ble_eq_true rfl⟩ hl.1 rfl (Nat.le_of_ble_eq_true rfl) dL_fireOf_4 ⟨Nat.le_of_ble_eq_true rfl, Nat.le_of_ble_eq_true rfl⟩) (fun E κx ce q9 H locs hx hw h1 h2 h3 => ?_) (fun r1 κ1 H locs hp hw => ?_)
  · simp only [hx.1] at hF
    obtain ⟨hx1, hx2⟩ := hx
    simp only [List.mem_cons, List.not_mem_nil, or_false] at hx2
    rcases hx2 with rfl
    · skip
      refine k_catch (E := nIOE) hM hT [] ⟨0, 9, 12, 19⟩ [] rfl (fun z hz => nomatch hz) (by decide) (by decide) u_cl_L_19 (by decide) h1 h2 h3 ?_
      refine lv_astore_n (lv' := [(3, .ref q9), (0, .ref (g.2.2 (0))), (1, .int (a)), (2, .ref (g.2.2 (98)))]) hM.x hM.b dL_fireOf_12 rfl hl (by decide) rfl (fun ls hl => ?_)
      refine lv_iconst (v := 1) hM.x hM.b dL_fireOf_13 (by decide) ?_
      exact k_iret hM hr hw (Nat.le_of_ble_eq_true rfl) (Nat.le_of_ble_eq_true rfl) hF dL_fireOf_14
  · simp only [hp] at hF
    refine lv_i2l (v := (r1).toInt64) hM.x hM.b dL_fireOf_7 rfl ?_
    refine k_last (x := r1) hM hw dL_fireOf_8 (fun H locs hw => ?_)
    obtain ⟨κ2, eκ2⟩ : ∃ z : Kp, up2 κ1 98 0 (r1) = z := ⟨_, rfl⟩
    rw [eκ2] at hw
    rw [eκ2] at hF
    try dsimp only at hF
    refine lv_goto (tgt := 15) hM.x hM.b dL_fireOf_9 (by decide) ?_
    refine lv_iconst (v := 0) hM.x hM.b dL_fireOf_15 (by decide) ?_
    exact k_iret hM hr hw (Nat.le_of_ble_eq_true rfl) (Nat.le_of_ble_eq_true rfl) hF dL_fireOf_16
theorem q_L_feetOf : hdV yL_feetOf yL_addFire.cls 3 := ⟨rfl, by decide +kernel, by decide +kernel, by decide +kernel⟩
def f_L_feetOf (κ : Kp) (a : Int32) : Int32 × Kp := match f_X4_feetOf κ (a) with | .inl (E, κx) => ((1, κx)) | .inr (r1, κ1) => ((fun κ2 : Kp => (0, κ2)) (up2 κ1 98 0 (r1)))
set_option maxRecDepth 100000 in
set_option maxHeartbeats 4000000 in
theorem m_L_feetOf (l : Launch) (g : Gt) (κ : Kp) (sz : Nat) (a : Int32)  (hlst : l.stackTraces = false) : Met l yL_feetOf (.codeWith yL_feetOf cL_feetOf 4 (some .int) [(0, 9, 12, 19)] :: uW) { frames := 8, cells := 1, slots := 6, locals := 240 } (PRE g κ sz [.ref (g.2.2 (0)), .int (a), .ref (g.2.2 (98))]) (va_Qi (fun r κ' => f_L_feetOf κ a = (r, κ')) (Wp g) (fr g sz)) 1 6 (fr g sz) := by
  refine k_lenter (by decide +kernel) (Nat.le_of_ble_eq_true rfl) ?_
  intro p e s m below meth c ls hM hT hr hl hw hsz
  subst hsz
  have hl : lv_has ls 4 [(0, .ref (g.2.2 (0))), (1, .int (a)), (2, .ref (g.2.2 (98)))] := hl
  have hF := f_L_feetOf.eq_1 κ a
  refine lv_aload_n hM.x hM.b dL_feetOf_0 rfl (lv_at hl 2 rfl) ?_
  refine lv_iconst (v := 0) hM.x hM.b dL_feetOf_1 (by decide) ?_
  refine lv_aload_n hM.x hM.b dL_feetOf_2 rfl (lv_at hl 0 rfl) ?_
  refine lv_iload_n hM.x hM.b dL_feetOf_3 rfl (lv_at hl 1 rfl) ?_
  refine k_xi hw (k_runXV [.int (a)] [.int (0), .ref (g.2.2 (98))] hM hw (m_X4_feetOf l g κ _ (a) hlst) (kd_lt kd_0 (by decide)) (sh4 kd_0) rfl (k_gV u_ml_L_63 u_im_X4_feetOf u_se_X4_feetOf u_ini_X4 u_co_X4_feetOf) (q_X4_feetOf) rfl rfl rfl ⟨Nat.le_of_ble_eq_true rfl, Nat.le_of_ble_eq_true rfl⟩ hl.1 rfl (Nat.le_of_ble_eq_true rfl) dL_feetOf_4 ⟨Nat.le_of_ble_eq_true rfl, Nat.le_of_ble_eq_true rfl⟩) (fun E κx ce q9 H locs hx hw h1 h2 h3 => ?_) (fun r1 κ1 H locs hp hw => ?_)
  · simp only [hx.1] at hF
    obtain ⟨hx1, hx2⟩ := hx
    simp only [List.mem_cons, List.not_mem_nil, or_false] at hx2
    rcases hx2 with rfl
    · skip
      refine k_catch (E := nIOE) hM hT [] ⟨0, 9, 12, 19⟩ [] rfl (fun z hz => nomatch hz) (by decide) (by decide) u_cl_L_19 (by decide) h1 h2 h3 ?_
      refine lv_astore_n (lv' := [(3, .ref q9), (0, .ref (g.2.2 (0))), (1, .int (a)), (2, .ref (g.2.2 (98)))]) hM.x hM.b dL_feetOf_12 rfl hl (by decide) rfl (fun ls hl => ?_)
      refine lv_iconst (v := 1) hM.x hM.b dL_feetOf_13 (by decide) ?_
      exact k_iret hM hr hw (Nat.le_of_ble_eq_true rfl) (Nat.le_of_ble_eq_true rfl) hF dL_feetOf_14
  · simp only [hp] at hF
    refine lv_i2l (v := (r1).toInt64) hM.x hM.b dL_feetOf_7 rfl ?_
    refine k_last (x := r1) hM hw dL_feetOf_8 (fun H locs hw => ?_)
    obtain ⟨κ2, eκ2⟩ : ∃ z : Kp, up2 κ1 98 0 (r1) = z := ⟨_, rfl⟩
    rw [eκ2] at hw
    rw [eκ2] at hF
    try dsimp only at hF
    refine lv_goto (tgt := 15) hM.x hM.b dL_feetOf_9 (by decide) ?_
    refine lv_iconst (v := 0) hM.x hM.b dL_feetOf_15 (by decide) ?_
    exact k_iret hM hr hw (Nat.le_of_ble_eq_true rfl) (Nat.le_of_ble_eq_true rfl) hF dL_feetOf_16
theorem q_L_glowAt : hdV yL_glowAt yL_addFire.cls 3 := ⟨rfl, by decide +kernel, by decide +kernel, by decide +kernel⟩
def f_L_glowAt (κ : Kp) (a : Int32) : Int32 × Kp := match f_X4_glowAt κ (a) with | .inl (E, κx) => ((1, κx)) | .inr (r1, κ1) => ((fun κ2 : Kp => (0, κ2)) (up2 κ1 98 0 (r1)))
set_option maxRecDepth 100000 in
set_option maxHeartbeats 4000000 in
theorem m_L_glowAt (l : Launch) (g : Gt) (κ : Kp) (sz : Nat) (a : Int32)  (hlst : l.stackTraces = false) : Met l yL_glowAt (.codeWith yL_glowAt cL_glowAt 4 (some .int) [(0, 9, 12, 19)] :: uW) { frames := 8, cells := 1, slots := 6, locals := 240 } (PRE g κ sz [.ref (g.2.2 (0)), .int (a), .ref (g.2.2 (98))]) (va_Qi (fun r κ' => f_L_glowAt κ a = (r, κ')) (Wp g) (fr g sz)) 1 6 (fr g sz) := by
  refine k_lenter (by decide +kernel) (Nat.le_of_ble_eq_true rfl) ?_
  intro p e s m below meth c ls hM hT hr hl hw hsz
  subst hsz
  have hl : lv_has ls 4 [(0, .ref (g.2.2 (0))), (1, .int (a)), (2, .ref (g.2.2 (98)))] := hl
  have hF := f_L_glowAt.eq_1 κ a
  refine lv_aload_n hM.x hM.b dL_glowAt_0 rfl (lv_at hl 2 rfl) ?_
  refine lv_iconst (v := 0) hM.x hM.b dL_glowAt_1 (by decide) ?_
  refine lv_aload_n hM.x hM.b dL_glowAt_2 rfl (lv_at hl 0 rfl) ?_
  refine lv_iload_n hM.x hM.b dL_glowAt_3 rfl (lv_at hl 1 rfl) ?_
  refine k_xi hw (k_runXV [.int (a)] [.int (0), .ref (g.2.2 (98))] hM hw (m_X4_glowAt l g κ _ (a) hlst) (kd_lt kd_0 (by decide)) (sh4 kd_0) rfl (k_gV u_ml_L_66 u_im_X4_glowAt u_se_X4_glowAt u_ini_X4 u_co_X4_glowAt) (q_X4_glowAt) rfl rfl rfl ⟨Nat.le_of_ble_eq_true rfl, Nat.le_of_ble_eq_true rfl⟩ hl.1 rfl (Nat.le_of_ble_eq_true rfl) dL_glowAt_4 ⟨Nat.le_of_ble_eq_true rfl, Nat.le_of_ble_eq_true rfl⟩) (fun E κx ce q9 H locs hx hw h1 h2 h3 => ?_) (fun r1 κ1 H locs hp hw => ?_)
  · simp only [hx.1] at hF
    obtain ⟨hx1, hx2⟩ := hx
    simp only [List.mem_cons, List.not_mem_nil, or_false] at hx2
    rcases hx2 with rfl
    · skip
      refine k_catch (E := nIOE) hM hT [] ⟨0, 9, 12, 19⟩ [] rfl (fun z hz => nomatch hz) (by decide) (by decide) u_cl_L_19 (by decide) h1 h2 h3 ?_
      refine lv_astore_n (lv' := [(3, .ref q9), (0, .ref (g.2.2 (0))), (1, .int (a)), (2, .ref (g.2.2 (98)))]) hM.x hM.b dL_glowAt_12 rfl hl (by decide) rfl (fun ls hl => ?_)
      refine lv_iconst (v := 1) hM.x hM.b dL_glowAt_13 (by decide) ?_
      exact k_iret hM hr hw (Nat.le_of_ble_eq_true rfl) (Nat.le_of_ble_eq_true rfl) hF dL_glowAt_14
  · simp only [hp] at hF
    refine lv_i2l (v := (r1).toInt64) hM.x hM.b dL_glowAt_7 rfl ?_
    refine k_last (x := r1) hM hw dL_glowAt_8 (fun H locs hw => ?_)
    obtain ⟨κ2, eκ2⟩ : ∃ z : Kp, up2 κ1 98 0 (r1) = z := ⟨_, rfl⟩
    rw [eκ2] at hw
    rw [eκ2] at hF
    try dsimp only at hF
    refine lv_goto (tgt := 15) hM.x hM.b dL_glowAt_9 (by decide) ?_
    refine lv_iconst (v := 0) hM.x hM.b dL_glowAt_15 (by decide) ?_
    exact k_iret hM hr hw (Nat.le_of_ble_eq_true rfl) (Nat.le_of_ble_eq_true rfl) hF dL_glowAt_16
theorem q_L_turnedEach : hdV yL_turnedEach yL_addFire.cls 3 := ⟨rfl, by decide +kernel, by decide +kernel, by decide +kernel⟩
def f_L_turnedEach (κ : Kp) (a : Int32) : Int32 × Kp := match f_X4_turnedEach κ (a) with | .inl (E, κx) => ((1, κx)) | .inr (r1, κ1) => ((fun κ2 : Kp => (0, κ2)) (up2 κ1 98 0 (r1)))
set_option maxRecDepth 100000 in
set_option maxHeartbeats 4000000 in
theorem m_L_turnedEach (l : Launch) (g : Gt) (κ : Kp) (sz : Nat) (a : Int32)  (hlst : l.stackTraces = false) : Met l yL_turnedEach (.codeWith yL_turnedEach cL_turnedEach 4 (some .int) [(0, 9, 12, 19)] :: uW) { frames := 8, cells := 1, slots := 6, locals := 240 } (PRE g κ sz [.ref (g.2.2 (0)), .int (a), .ref (g.2.2 (98))]) (va_Qi (fun r κ' => f_L_turnedEach κ a = (r, κ')) (Wp g) (fr g sz)) 1 6 (fr g sz) := by
  refine k_lenter (by decide +kernel) (Nat.le_of_ble_eq_true rfl) ?_
  intro p e s m below meth c ls hM hT hr hl hw hsz
  subst hsz
  have hl : lv_has ls 4 [(0, .ref (g.2.2 (0))), (1, .int (a)), (2, .ref (g.2.2 (98)))] := hl
  have hF := f_L_turnedEach.eq_1 κ a
  refine lv_aload_n hM.x hM.b dL_turnedEach_0 rfl (lv_at hl 2 rfl) ?_
  refine lv_iconst (v := 0) hM.x hM.b dL_turnedEach_1 (by decide) ?_
  refine lv_aload_n hM.x hM.b dL_turnedEach_2 rfl (lv_at hl 0 rfl) ?_
  refine lv_iload_n hM.x hM.b dL_turnedEach_3 rfl (lv_at hl 1 rfl) ?_
  refine k_xi hw (k_runXV [.int (a)] [.int (0), .ref (g.2.2 (98))] hM hw (m_X4_turnedEach l g κ _ (a) hlst) (kd_lt kd_0 (by decide)) (sh4 kd_0) rfl (k_gV u_ml_L_69 u_im_X4_turnedEach u_se_X4_turnedEach u_ini_X4 u_co_X4_turnedEach) (q_X4_turnedEach) rfl rfl rfl ⟨Nat.le_of_ble_eq_true rfl, Nat.le_of_ble_eq_true rfl⟩ hl.1 rfl (Nat.le_of_ble_eq_true rfl) dL_turnedEach_4 ⟨Nat.le_of_ble_eq_true rfl, Nat.le_of_ble_eq_true rfl⟩) (fun E κx ce q9 H locs hx hw h1 h2 h3 => ?_) (fun r1 κ1 H locs hp hw => ?_)
  · simp only [hx.1] at hF
    obtain ⟨hx1, hx2⟩ := hx
    simp only [List.mem_cons, List.not_mem_nil, or_false] at hx2
    rcases hx2 with rfl
    · skip
      refine k_catch (E := nIOE) hM hT [] ⟨0, 9, 12, 19⟩ [] rfl (fun z hz => nomatch hz) (by decide) (by decide) u_cl_L_19 (by decide) h1 h2 h3 ?_
      refine lv_astore_n (lv' := [(3, .ref q9), (0, .ref (g.2.2 (0))), (1, .int (a)), (2, .ref (g.2.2 (98)))]) hM.x hM.b dL_turnedEach_12 rfl hl (by decide) rfl (fun ls hl => ?_)
      refine lv_iconst (v := 1) hM.x hM.b dL_turnedEach_13 (by decide) ?_
      exact k_iret hM hr hw (Nat.le_of_ble_eq_true rfl) (Nat.le_of_ble_eq_true rfl) hF dL_turnedEach_14
  · simp only [hp] at hF
    refine lv_i2l (v := (r1).toInt64) hM.x hM.b dL_turnedEach_7 rfl ?_
    refine k_last (x := r1) hM hw dL_turnedEach_8 (fun H locs hw => ?_)
    obtain ⟨κ2, eκ2⟩ : ∃ z : Kp, up2 κ1 98 0 (r1) = z := ⟨_, rfl⟩
    rw [eκ2] at hw
    rw [eκ2] at hF
    try dsimp only at hF
    refine lv_goto (tgt := 15) hM.x hM.b dL_turnedEach_9 (by decide) ?_
    refine lv_iconst (v := 0) hM.x hM.b dL_turnedEach_15 (by decide) ?_
    exact k_iret hM hr hw (Nat.le_of_ble_eq_true rfl) (Nat.le_of_ble_eq_true rfl) hF dL_turnedEach_16
theorem q_L_drippingsOf : hdV yL_drippingsOf yL_addFire.cls 3 := ⟨rfl, by decide +kernel, by decide +kernel, by decide +kernel⟩
def f_L_drippingsOf (κ : Kp) (a : Int32) : Int32 × Kp := match f_X4_drippingsOf κ (a) with | .inl (E, κx) => ((1, κx)) | .inr (r1, κ1) => ((fun κ2 : Kp => (0, κ2)) (up2 κ1 98 0 (r1)))
set_option maxRecDepth 100000 in
set_option maxHeartbeats 4000000 in
theorem m_L_drippingsOf (l : Launch) (g : Gt) (κ : Kp) (sz : Nat) (a : Int32)  (hlst : l.stackTraces = false) : Met l yL_drippingsOf (.codeWith yL_drippingsOf cL_drippingsOf 4 (some .int) [(0, 9, 12, 19)] :: uW) { frames := 8, cells := 1, slots := 6, locals := 240 } (PRE g κ sz [.ref (g.2.2 (0)), .int (a), .ref (g.2.2 (98))]) (va_Qi (fun r κ' => f_L_drippingsOf κ a = (r, κ')) (Wp g) (fr g sz)) 1 6 (fr g sz) := by
  refine k_lenter (by decide +kernel) (Nat.le_of_ble_eq_true rfl) ?_
  intro p e s m below meth c ls hM hT hr hl hw hsz
  subst hsz
  have hl : lv_has ls 4 [(0, .ref (g.2.2 (0))), (1, .int (a)), (2, .ref (g.2.2 (98)))] := hl
  have hF := f_L_drippingsOf.eq_1 κ a
  refine lv_aload_n hM.x hM.b dL_drippingsOf_0 rfl (lv_at hl 2 rfl) ?_
  refine lv_iconst (v := 0) hM.x hM.b dL_drippingsOf_1 (by decide) ?_
  refine lv_aload_n hM.x hM.b dL_drippingsOf_2 rfl (lv_at hl 0 rfl) ?_
  refine lv_iload_n hM.x hM.b dL_drippingsOf_3 rfl (lv_at hl 1 rfl) ?_
  refine k_xi hw (k_runXV [.int (a)] [.int (0), .ref (g.2.2 (98))] hM hw (m_X4_drippingsOf l g κ _ (a) hlst) (kd_lt kd_0 (by decide)) (sh4 kd_0) rfl (k_gV u_ml_L_72 u_im_X4_drippingsOf u_se_X4_drippingsOf u_ini_X4 u_co_X4_drippingsOf) (q_X4_drippingsOf) rfl rfl rfl ⟨Nat.le_of_ble_eq_true rfl, Nat.le_of_ble_eq_true rfl⟩ hl.1 rfl (Nat.le_of_ble_eq_true rfl) dL_drippingsOf_4 ⟨Nat.le_of_ble_eq_true rfl, Nat.le_of_ble_eq_true rfl⟩) (fun E κx ce q9 H locs hx hw h1 h2 h3 => ?_) (fun r1 κ1 H locs hp hw => ?_)
  · simp only [hx.1] at hF
    obtain ⟨hx1, hx2⟩ := hx
    simp only [List.mem_cons, List.not_mem_nil, or_false] at hx2
    rcases hx2 with rfl
    · skip
      refine k_catch (E := nIOE) hM hT [] ⟨0, 9, 12, 19⟩ [] rfl (fun z hz => nomatch hz) (by decide) (by decide) u_cl_L_19 (by decide) h1 h2 h3 ?_
      refine lv_astore_n (lv' := [(3, .ref q9), (0, .ref (g.2.2 (0))), (1, .int (a)), (2, .ref (g.2.2 (98)))]) hM.x hM.b dL_drippingsOf_12 rfl hl (by decide) rfl (fun ls hl => ?_)
      refine lv_iconst (v := 1) hM.x hM.b dL_drippingsOf_13 (by decide) ?_
      exact k_iret hM hr hw (Nat.le_of_ble_eq_true rfl) (Nat.le_of_ble_eq_true rfl) hF dL_drippingsOf_14
  · simp only [hp] at hF
    refine lv_i2l (v := (r1).toInt64) hM.x hM.b dL_drippingsOf_7 rfl ?_
    refine k_last (x := r1) hM hw dL_drippingsOf_8 (fun H locs hw => ?_)
    obtain ⟨κ2, eκ2⟩ : ∃ z : Kp, up2 κ1 98 0 (r1) = z := ⟨_, rfl⟩
    rw [eκ2] at hw
    rw [eκ2] at hF
    try dsimp only at hF
    refine lv_goto (tgt := 15) hM.x hM.b dL_drippingsOf_9 (by decide) ?_
    refine lv_iconst (v := 0) hM.x hM.b dL_drippingsOf_15 (by decide) ?_
    exact k_iret hM hr hw (Nat.le_of_ble_eq_true rfl) (Nat.le_of_ble_eq_true rfl) hF dL_drippingsOf_16
theorem q_L_roastOn : hdV yL_roastOn yL_addFire.cls 3 := ⟨rfl, by decide +kernel, by decide +kernel, by decide +kernel⟩
def f_L_roastOn (κ : Kp) (a : Int32) : Int32 × Kp := match f_X4_roastOn κ (a) with | .inl (E, κx) => ((1, κx)) | .inr (r1, κ1) => ((fun κ2 : Kp => (0, κ2)) (up2 κ1 98 0 (r1)))
set_option maxRecDepth 100000 in
set_option maxHeartbeats 4000000 in
theorem m_L_roastOn (l : Launch) (g : Gt) (κ : Kp) (sz : Nat) (a : Int32)  (hlst : l.stackTraces = false) : Met l yL_roastOn (.codeWith yL_roastOn cL_roastOn 4 (some .int) [(0, 9, 12, 19)] :: uW) { frames := 8, cells := 1, slots := 6, locals := 240 } (PRE g κ sz [.ref (g.2.2 (0)), .int (a), .ref (g.2.2 (98))]) (va_Qi (fun r κ' => f_L_roastOn κ a = (r, κ')) (Wp g) (fr g sz)) 1 6 (fr g sz) := by
  refine k_lenter (by decide +kernel) (Nat.le_of_ble_eq_true rfl) ?_
  intro p e s m below meth c ls hM hT hr hl hw hsz
  subst hsz
  have hl : lv_has ls 4 [(0, .ref (g.2.2 (0))), (1, .int (a)), (2, .ref (g.2.2 (98)))] := hl
  have hF := f_L_roastOn.eq_1 κ a
  refine lv_aload_n hM.x hM.b dL_roastOn_0 rfl (lv_at hl 2 rfl) ?_
  refine lv_iconst (v := 0) hM.x hM.b dL_roastOn_1 (by decide) ?_
  refine lv_aload_n hM.x hM.b dL_roastOn_2 rfl (lv_at hl 0 rfl) ?_
  refine lv_iload_n hM.x hM.b dL_roastOn_3 rfl (lv_at hl 1 rfl) ?_
  refine k_xi hw (k_runXV [.int (a)] [.int (0), .ref (g.2.2 (98))] hM hw (m_X4_roastOn l g κ _ (a) hlst) (kd_lt kd_0 (by decide)) (sh4 kd_0) rfl (k_gV u_ml_L_75 u_im_X4_roastOn u_se_X4_roastOn u_ini_X4 u_co_X4_roastOn) (q_X4_roastOn) rfl rfl rfl ⟨Nat.le_of_ble_eq_true rfl, Nat.le_of_ble_eq_true rfl⟩ hl.1 rfl (Nat.le_of_ble_eq_true rfl) dL_roastOn_4 ⟨Nat.le_of_ble_eq_true rfl, Nat.le_of_ble_eq_true rfl⟩) (fun E κx ce q9 H locs hx hw h1 h2 h3 => ?_) (fun r1 κ1 H locs hp hw => ?_)
  · simp only [hx.1] at hF
    obtain ⟨hx1, hx2⟩ := hx
    simp only [List.mem_cons, List.not_mem_nil, or_false] at hx2
    rcases hx2 with rfl
    · skip
      refine k_catch (E := nIOE) hM hT [] ⟨0, 9, 12, 19⟩ [] rfl (fun z hz => nomatch hz) (by decide) (by decide) u_cl_L_19 (by decide) h1 h2 h3 ?_
      refine lv_astore_n (lv' := [(3, .ref q9), (0, .ref (g.2.2 (0))), (1, .int (a)), (2, .ref (g.2.2 (98)))]) hM.x hM.b dL_roastOn_12 rfl hl (by decide) rfl (fun ls hl => ?_)
      refine lv_iconst (v := 1) hM.x hM.b dL_roastOn_13 (by decide) ?_
      exact k_iret hM hr hw (Nat.le_of_ble_eq_true rfl) (Nat.le_of_ble_eq_true rfl) hF dL_roastOn_14
  · simp only [hp] at hF
    refine lv_i2l (v := (r1).toInt64) hM.x hM.b dL_roastOn_7 rfl ?_
    refine k_last (x := r1) hM hw dL_roastOn_8 (fun H locs hw => ?_)
    obtain ⟨κ2, eκ2⟩ : ∃ z : Kp, up2 κ1 98 0 (r1) = z := ⟨_, rfl⟩
    rw [eκ2] at hw
    rw [eκ2] at hF
    try dsimp only at hF
    refine lv_goto (tgt := 15) hM.x hM.b dL_roastOn_9 (by decide) ?_
    refine lv_iconst (v := 0) hM.x hM.b dL_roastOn_15 (by decide) ?_
    exact k_iret hM hr hw (Nat.le_of_ble_eq_true rfl) (Nat.le_of_ble_eq_true rfl) hF dL_roastOn_16
theorem q_L_poundsOf : hdV yL_poundsOf yL_addFire.cls 3 := ⟨rfl, by decide +kernel, by decide +kernel, by decide +kernel⟩
def f_L_poundsOf (κ : Kp) (a : Int32) : Int32 × Kp := match f_X4_poundsOf κ (a) with | .inl (E, κx) => ((1, κx)) | .inr (r1, κ1) => ((fun κ2 : Kp => (0, κ2)) (up2 κ1 98 0 (r1)))
set_option maxRecDepth 100000 in
set_option maxHeartbeats 4000000 in
theorem m_L_poundsOf (l : Launch) (g : Gt) (κ : Kp) (sz : Nat) (a : Int32)  (hlst : l.stackTraces = false) : Met l yL_poundsOf (.codeWith yL_poundsOf cL_poundsOf 4 (some .int) [(0, 9, 12, 19)] :: uW) { frames := 8, cells := 1, slots := 6, locals := 240 } (PRE g κ sz [.ref (g.2.2 (0)), .int (a), .ref (g.2.2 (98))]) (va_Qi (fun r κ' => f_L_poundsOf κ a = (r, κ')) (Wp g) (fr g sz)) 1 6 (fr g sz) := by
  refine k_lenter (by decide +kernel) (Nat.le_of_ble_eq_true rfl) ?_
  intro p e s m below meth c ls hM hT hr hl hw hsz
  subst hsz
  have hl : lv_has ls 4 [(0, .ref (g.2.2 (0))), (1, .int (a)), (2, .ref (g.2.2 (98)))] := hl
  have hF := f_L_poundsOf.eq_1 κ a
  refine lv_aload_n hM.x hM.b dL_poundsOf_0 rfl (lv_at hl 2 rfl) ?_
  refine lv_iconst (v := 0) hM.x hM.b dL_poundsOf_1 (by decide) ?_
  refine lv_aload_n hM.x hM.b dL_poundsOf_2 rfl (lv_at hl 0 rfl) ?_
  refine lv_iload_n hM.x hM.b dL_poundsOf_3 rfl (lv_at hl 1 rfl) ?_
  refine k_xi hw (k_runXV [.int (a)] [.int (0), .ref (g.2.2 (98))] hM hw (m_X4_poundsOf l g κ _ (a) hlst) (kd_lt kd_0 (by decide)) (sh4 kd_0) rfl (k_gV u_ml_L_78 u_im_X4_poundsOf u_se_X4_poundsOf u_ini_X4 u_co_X4_poundsOf) (q_X4_poundsOf) rfl rfl rfl ⟨Nat.le_of_ble_eq_true rfl, Nat.le_of_ble_eq_true rfl⟩ hl.1 rfl (Nat.le_of_ble_eq_true rfl) dL_poundsOf_4 ⟨Nat.le_of_ble_eq_true rfl, Nat.le_of_ble_eq_true rfl⟩) (fun E κx ce q9 H locs hx hw h1 h2 h3 => ?_) (fun r1 κ1 H locs hp hw => ?_)
  · simp only [hx.1] at hF
    obtain ⟨hx1, hx2⟩ := hx
    simp only [List.mem_cons, List.not_mem_nil, or_false] at hx2
    rcases hx2 with rfl
    · skip
      refine k_catch (E := nIOE) hM hT [] ⟨0, 9, 12, 19⟩ [] rfl (fun z hz => nomatch hz) (by decide) (by decide) u_cl_L_19 (by decide) h1 h2 h3 ?_
      refine lv_astore_n (lv' := [(3, .ref q9), (0, .ref (g.2.2 (0))), (1, .int (a)), (2, .ref (g.2.2 (98)))]) hM.x hM.b dL_poundsOf_12 rfl hl (by decide) rfl (fun ls hl => ?_)
      refine lv_iconst (v := 1) hM.x hM.b dL_poundsOf_13 (by decide) ?_
      exact k_iret hM hr hw (Nat.le_of_ble_eq_true rfl) (Nat.le_of_ble_eq_true rfl) hF dL_poundsOf_14
  · simp only [hp] at hF
    refine lv_i2l (v := (r1).toInt64) hM.x hM.b dL_poundsOf_7 rfl ?_
    refine k_last (x := r1) hM hw dL_poundsOf_8 (fun H locs hw => ?_)
    obtain ⟨κ2, eκ2⟩ : ∃ z : Kp, up2 κ1 98 0 (r1) = z := ⟨_, rfl⟩
    rw [eκ2] at hw
    rw [eκ2] at hF
    try dsimp only at hF
    refine lv_goto (tgt := 15) hM.x hM.b dL_poundsOf_9 (by decide) ?_
    refine lv_iconst (v := 0) hM.x hM.b dL_poundsOf_15 (by decide) ?_
    exact k_iret hM hr hw (Nat.le_of_ble_eq_true rfl) (Nat.le_of_ble_eq_true rfl) hF dL_poundsOf_16
theorem q_L_spitOf : hdV yL_spitOf yL_addFire.cls 3 := ⟨rfl, by decide +kernel, by decide +kernel, by decide +kernel⟩
def f_L_spitOf (κ : Kp) (a : Int32) : Int32 × Kp := match f_X4_spitOf κ (a) with | .inl (E, κx) => ((1, κx)) | .inr (r1, κ1) => ((fun κ2 : Kp => (0, κ2)) (up2 κ1 98 0 (r1)))
set_option maxRecDepth 100000 in
set_option maxHeartbeats 4000000 in
theorem m_L_spitOf (l : Launch) (g : Gt) (κ : Kp) (sz : Nat) (a : Int32)  (hlst : l.stackTraces = false) : Met l yL_spitOf (.codeWith yL_spitOf cL_spitOf 4 (some .int) [(0, 9, 12, 19)] :: uW) { frames := 8, cells := 1, slots := 6, locals := 240 } (PRE g κ sz [.ref (g.2.2 (0)), .int (a), .ref (g.2.2 (98))]) (va_Qi (fun r κ' => f_L_spitOf κ a = (r, κ')) (Wp g) (fr g sz)) 1 6 (fr g sz) := by
  refine k_lenter (by decide +kernel) (Nat.le_of_ble_eq_true rfl) ?_
  intro p e s m below meth c ls hM hT hr hl hw hsz
  subst hsz
  have hl : lv_has ls 4 [(0, .ref (g.2.2 (0))), (1, .int (a)), (2, .ref (g.2.2 (98)))] := hl
  have hF := f_L_spitOf.eq_1 κ a
  refine lv_aload_n hM.x hM.b dL_spitOf_0 rfl (lv_at hl 2 rfl) ?_
  refine lv_iconst (v := 0) hM.x hM.b dL_spitOf_1 (by decide) ?_
  refine lv_aload_n hM.x hM.b dL_spitOf_2 rfl (lv_at hl 0 rfl) ?_
  refine lv_iload_n hM.x hM.b dL_spitOf_3 rfl (lv_at hl 1 rfl) ?_
  refine k_xi hw (k_runXV [.int (a)] [.int (0), .ref (g.2.2 (98))] hM hw (m_X4_spitOf l g κ _ (a) hlst) (kd_lt kd_0 (by decide)) (sh4 kd_0) rfl (k_gV u_ml_L_81 u_im_X4_spitOf u_se_X4_spitOf u_ini_X4 u_co_X4_spitOf) (q_X4_spitOf) rfl rfl rfl ⟨Nat.le_of_ble_eq_true rfl, Nat.le_of_ble_eq_true rfl⟩ hl.1 rfl (Nat.le_of_ble_eq_true rfl) dL_spitOf_4 ⟨Nat.le_of_ble_eq_true rfl, Nat.le_of_ble_eq_true rfl⟩) (fun E κx ce q9 H locs hx hw h1 h2 h3 => ?_) (fun r1 κ1 H locs hp hw => ?_)
  · simp only [hx.1] at hF
    obtain ⟨hx1, hx2⟩ := hx
    simp only [List.mem_cons, List.not_mem_nil, or_false] at hx2
    rcases hx2 with rfl
    · skip
      refine k_catch (E := nIOE) hM hT [] ⟨0, 9, 12, 19⟩ [] rfl (fun z hz => nomatch hz) (by decide) (by decide) u_cl_L_19 (by decide) h1 h2 h3 ?_
      refine lv_astore_n (lv' := [(3, .ref q9), (0, .ref (g.2.2 (0))), (1, .int (a)), (2, .ref (g.2.2 (98)))]) hM.x hM.b dL_spitOf_12 rfl hl (by decide) rfl (fun ls hl => ?_)
      refine lv_iconst (v := 1) hM.x hM.b dL_spitOf_13 (by decide) ?_
      exact k_iret hM hr hw (Nat.le_of_ble_eq_true rfl) (Nat.le_of_ble_eq_true rfl) hF dL_spitOf_14
  · simp only [hp] at hF
    refine lv_i2l (v := (r1).toInt64) hM.x hM.b dL_spitOf_7 rfl ?_
    refine k_last (x := r1) hM hw dL_spitOf_8 (fun H locs hw => ?_)
    obtain ⟨κ2, eκ2⟩ : ∃ z : Kp, up2 κ1 98 0 (r1) = z := ⟨_, rfl⟩
    rw [eκ2] at hw
    rw [eκ2] at hF
    try dsimp only at hF
    refine lv_goto (tgt := 15) hM.x hM.b dL_spitOf_9 (by decide) ?_
    refine lv_iconst (v := 0) hM.x hM.b dL_spitOf_15 (by decide) ?_
    exact k_iret hM hr hw (Nat.le_of_ble_eq_true rfl) (Nat.le_of_ble_eq_true rfl) hF dL_spitOf_16
theorem q_L_sideToFire : hdV yL_sideToFire yL_addFire.cls 3 := ⟨rfl, by decide +kernel, by decide +kernel, by decide +kernel⟩
def f_L_sideToFire (κ : Kp) (a : Int32) : Int32 × Kp := match f_X4_sideToFire κ (a) with | .inl (E, κx) => ((1, κx)) | .inr (r1, κ1) => ((fun κ2 : Kp => (0, κ2)) (up2 κ1 98 0 (r1)))
set_option maxRecDepth 100000 in
set_option maxHeartbeats 4000000 in
theorem m_L_sideToFire (l : Launch) (g : Gt) (κ : Kp) (sz : Nat) (a : Int32)  (hlst : l.stackTraces = false) : Met l yL_sideToFire (.codeWith yL_sideToFire cL_sideToFire 4 (some .int) [(0, 9, 12, 19)] :: uW) { frames := 8, cells := 1, slots := 6, locals := 240 } (PRE g κ sz [.ref (g.2.2 (0)), .int (a), .ref (g.2.2 (98))]) (va_Qi (fun r κ' => f_L_sideToFire κ a = (r, κ')) (Wp g) (fr g sz)) 1 6 (fr g sz) := by
  refine k_lenter (by decide +kernel) (Nat.le_of_ble_eq_true rfl) ?_
  intro p e s m below meth c ls hM hT hr hl hw hsz
  subst hsz
  have hl : lv_has ls 4 [(0, .ref (g.2.2 (0))), (1, .int (a)), (2, .ref (g.2.2 (98)))] := hl
  have hF := f_L_sideToFire.eq_1 κ a
  refine lv_aload_n hM.x hM.b dL_sideToFire_0 rfl (lv_at hl 2 rfl) ?_
  refine lv_iconst (v := 0) hM.x hM.b dL_sideToFire_1 (by decide) ?_
  refine lv_aload_n hM.x hM.b dL_sideToFire_2 rfl (lv_at hl 0 rfl) ?_
  refine lv_iload_n hM.x hM.b dL_sideToFire_3 rfl (lv_at hl 1 rfl) ?_
  refine k_xi hw (k_runXV [.int (a)] [.int (0), .ref (g.2.2 (98))] hM hw (m_X4_sideToFire l g κ _ (a) hlst) (kd_lt kd_0 (by decide)) (sh4 kd_0) rfl (k_gV u_ml_L_84 u_im_X4_sideToFire u_se_X4_sideToFire u_ini_X4 u_co_X4_sideToFire) (q_X4_sideToFire) rfl rfl rfl ⟨Nat.le_of_ble_eq_true rfl, Nat.le_of_ble_eq_true rfl⟩ hl.1 rfl (Nat.le_of_ble_eq_true rfl) dL_sideToFire_4 ⟨Nat.le_of_ble_eq_true rfl, Nat.le_of_ble_eq_true rfl⟩) (fun E κx ce q9 H locs hx hw h1 h2 h3 => ?_) (fun r1 κ1 H locs hp hw => ?_)
  · simp only [hx.1] at hF
    obtain ⟨hx1, hx2⟩ := hx
    simp only [List.mem_cons, List.not_mem_nil, or_false] at hx2
    rcases hx2 with rfl
    · skip
      refine k_catch (E := nIOE) hM hT [] ⟨0, 9, 12, 19⟩ [] rfl (fun z hz => nomatch hz) (by decide) (by decide) u_cl_L_19 (by decide) h1 h2 h3 ?_
      refine lv_astore_n (lv' := [(3, .ref q9), (0, .ref (g.2.2 (0))), (1, .int (a)), (2, .ref (g.2.2 (98)))]) hM.x hM.b dL_sideToFire_12 rfl hl (by decide) rfl (fun ls hl => ?_)
      refine lv_iconst (v := 1) hM.x hM.b dL_sideToFire_13 (by decide) ?_
      exact k_iret hM hr hw (Nat.le_of_ble_eq_true rfl) (Nat.le_of_ble_eq_true rfl) hF dL_sideToFire_14
  · simp only [hp] at hF
    refine lv_i2l (v := (r1).toInt64) hM.x hM.b dL_sideToFire_7 rfl ?_
    refine k_last (x := r1) hM hw dL_sideToFire_8 (fun H locs hw => ?_)
    obtain ⟨κ2, eκ2⟩ : ∃ z : Kp, up2 κ1 98 0 (r1) = z := ⟨_, rfl⟩
    rw [eκ2] at hw
    rw [eκ2] at hF
    try dsimp only at hF
    refine lv_goto (tgt := 15) hM.x hM.b dL_sideToFire_9 (by decide) ?_
    refine lv_iconst (v := 0) hM.x hM.b dL_sideToFire_15 (by decide) ?_
    exact k_iret hM hr hw (Nat.le_of_ble_eq_true rfl) (Nat.le_of_ble_eq_true rfl) hF dL_sideToFire_16
theorem q_L_brownOf : hdV yL_brownOf yL_addFire.cls 4 := ⟨rfl, by decide +kernel, by decide +kernel, by decide +kernel⟩
def f_L_brownOf (κ : Kp) (a : Int32) (b : Int32) : Int32 × Kp := match f_X4_brownOf κ (a) (b) with | .inl (E, κx) => ((1, κx)) | .inr (r1, κ1) => ((fun κ2 : Kp => (0, κ2)) (up2 κ1 98 0 (r1)))
set_option maxRecDepth 100000 in
set_option maxHeartbeats 4000000 in
theorem m_L_brownOf (l : Launch) (g : Gt) (κ : Kp) (sz : Nat) (a : Int32) (b : Int32)  (hlst : l.stackTraces = false) : Met l yL_brownOf (.codeWith yL_brownOf cL_brownOf 5 (some .int) [(0, 10, 13, 19)] :: uW) { frames := 8, cells := 2, slots := 12, locals := 240 } (PRE g κ sz [.ref (g.2.2 (0)), .int (a), .int (b), .ref (g.2.2 (98))]) (va_Qi (fun r κ' => f_L_brownOf κ a b = (r, κ')) (Wp g) (fr g sz)) 2 12 (fr g sz) := by
  refine k_lenter (by decide +kernel) (Nat.le_of_ble_eq_true rfl) ?_
  intro p e s m below meth c ls hM hT hr hl hw hsz
  subst hsz
  have hl : lv_has ls 5 [(0, .ref (g.2.2 (0))), (1, .int (a)), (2, .int (b)), (3, .ref (g.2.2 (98)))] := hl
  have hF := f_L_brownOf.eq_1 κ a b
  refine lv_aload_n hM.x hM.b dL_brownOf_0 rfl (lv_at hl 3 rfl) ?_
  refine lv_iconst (v := 0) hM.x hM.b dL_brownOf_1 (by decide) ?_
  refine lv_aload_n hM.x hM.b dL_brownOf_2 rfl (lv_at hl 0 rfl) ?_
  refine lv_iload_n hM.x hM.b dL_brownOf_3 rfl (lv_at hl 1 rfl) ?_
  refine lv_iload_n hM.x hM.b dL_brownOf_4 rfl (lv_at hl 2 rfl) ?_
  refine k_xi hw (k_runXV [.int (a), .int (b)] [.int (0), .ref (g.2.2 (98))] hM hw (m_X4_brownOf l g κ _ (a) (b) hlst) (kd_lt kd_0 (by decide)) (sh4 kd_0) rfl (k_gV u_ml_L_87 u_im_X4_brownOf u_se_X4_brownOf u_ini_X4 u_co_X4_brownOf) (q_X4_brownOf) rfl rfl rfl ⟨Nat.le_of_ble_eq_true rfl, Nat.le_of_ble_eq_true rfl⟩ hl.1 rfl (Nat.le_of_ble_eq_true rfl) dL_brownOf_5 ⟨Nat.le_of_ble_eq_true rfl, Nat.le_of_ble_eq_true rfl⟩) (fun E κx ce q9 H locs hx hw h1 h2 h3 => ?_) (fun r1 κ1 H locs hp hw => ?_)
  · simp only [hx.1] at hF
    obtain ⟨hx1, hx2⟩ := hx
    simp only [List.mem_cons, List.not_mem_nil, or_false] at hx2
    rcases hx2 with rfl
    · skip
      refine k_catch (E := nIOE) hM hT [] ⟨0, 10, 13, 19⟩ [] rfl (fun z hz => nomatch hz) (by decide) (by decide) u_cl_L_19 (by decide) h1 h2 h3 ?_
      refine lv_astore (lv' := [(4, .ref q9), (0, .ref (g.2.2 (0))), (1, .int (a)), (2, .int (b)), (3, .ref (g.2.2 (98)))]) hM.x hM.b dL_brownOf_13 hl (by decide) rfl (fun ls hl => ?_)
      refine lv_iconst (v := 1) hM.x hM.b dL_brownOf_15 (by decide) ?_
      exact k_iret hM hr hw (Nat.le_of_ble_eq_true rfl) (Nat.le_of_ble_eq_true rfl) hF dL_brownOf_16
  · simp only [hp] at hF
    refine lv_i2l (v := (r1).toInt64) hM.x hM.b dL_brownOf_8 rfl ?_
    refine k_last (x := r1) hM hw dL_brownOf_9 (fun H locs hw => ?_)
    obtain ⟨κ2, eκ2⟩ : ∃ z : Kp, up2 κ1 98 0 (r1) = z := ⟨_, rfl⟩
    rw [eκ2] at hw
    rw [eκ2] at hF
    try dsimp only at hF
    refine lv_goto (tgt := 17) hM.x hM.b dL_brownOf_10 (by decide) ?_
    refine lv_iconst (v := 0) hM.x hM.b dL_brownOf_17 (by decide) ?_
    exact k_iret hM hr hw (Nat.le_of_ble_eq_true rfl) (Nat.le_of_ble_eq_true rfl) hF dL_brownOf_18
theorem q_L_fatOf : hdV yL_fatOf yL_addFire.cls 3 := ⟨rfl, by decide +kernel, by decide +kernel, by decide +kernel⟩
def f_L_fatOf (κ : Kp) (a : Int32) : Int32 × Kp := match f_X4_fatOf κ (a) with | .inl (E, κx) => ((1, κx)) | .inr (r1, κ1) => ((fun κ2 : Kp => (0, κ2)) (up2 κ1 98 0 (r1)))
set_option maxRecDepth 100000 in
set_option maxHeartbeats 4000000 in
theorem m_L_fatOf (l : Launch) (g : Gt) (κ : Kp) (sz : Nat) (a : Int32)  (hlst : l.stackTraces = false) : Met l yL_fatOf (.codeWith yL_fatOf cL_fatOf 4 (some .int) [(0, 9, 12, 19)] :: uW) { frames := 8, cells := 1, slots := 6, locals := 240 } (PRE g κ sz [.ref (g.2.2 (0)), .int (a), .ref (g.2.2 (98))]) (va_Qi (fun r κ' => f_L_fatOf κ a = (r, κ')) (Wp g) (fr g sz)) 1 6 (fr g sz) := by
  refine k_lenter (by decide +kernel) (Nat.le_of_ble_eq_true rfl) ?_
  intro p e s m below meth c ls hM hT hr hl hw hsz
  subst hsz
  have hl : lv_has ls 4 [(0, .ref (g.2.2 (0))), (1, .int (a)), (2, .ref (g.2.2 (98)))] := hl
  have hF := f_L_fatOf.eq_1 κ a
  refine lv_aload_n hM.x hM.b dL_fatOf_0 rfl (lv_at hl 2 rfl) ?_
  refine lv_iconst (v := 0) hM.x hM.b dL_fatOf_1 (by decide) ?_
  refine lv_aload_n hM.x hM.b dL_fatOf_2 rfl (lv_at hl 0 rfl) ?_
  refine lv_iload_n hM.x hM.b dL_fatOf_3 rfl (lv_at hl 1 rfl) ?_
  refine k_xi hw (k_runXV [.int (a)] [.int (0), .ref (g.2.2 (98))] hM hw (m_X4_fatOf l g κ _ (a) hlst) (kd_lt kd_0 (by decide)) (sh4 kd_0) rfl (k_gV u_ml_L_90 u_im_X4_fatOf u_se_X4_fatOf u_ini_X4 u_co_X4_fatOf) (q_X4_fatOf) rfl rfl rfl ⟨Nat.le_of_ble_eq_true rfl, Nat.le_of_ble_eq_true rfl⟩ hl.1 rfl (Nat.le_of_ble_eq_true rfl) dL_fatOf_4 ⟨Nat.le_of_ble_eq_true rfl, Nat.le_of_ble_eq_true rfl⟩) (fun E κx ce q9 H locs hx hw h1 h2 h3 => ?_) (fun r1 κ1 H locs hp hw => ?_)
  · simp only [hx.1] at hF
    obtain ⟨hx1, hx2⟩ := hx
    simp only [List.mem_cons, List.not_mem_nil, or_false] at hx2
    rcases hx2 with rfl
    · skip
      refine k_catch (E := nIOE) hM hT [] ⟨0, 9, 12, 19⟩ [] rfl (fun z hz => nomatch hz) (by decide) (by decide) u_cl_L_19 (by decide) h1 h2 h3 ?_
      refine lv_astore_n (lv' := [(3, .ref q9), (0, .ref (g.2.2 (0))), (1, .int (a)), (2, .ref (g.2.2 (98)))]) hM.x hM.b dL_fatOf_12 rfl hl (by decide) rfl (fun ls hl => ?_)
      refine lv_iconst (v := 1) hM.x hM.b dL_fatOf_13 (by decide) ?_
      exact k_iret hM hr hw (Nat.le_of_ble_eq_true rfl) (Nat.le_of_ble_eq_true rfl) hF dL_fatOf_14
  · simp only [hp] at hF
    refine lv_i2l (v := (r1).toInt64) hM.x hM.b dL_fatOf_7 rfl ?_
    refine k_last (x := r1) hM hw dL_fatOf_8 (fun H locs hw => ?_)
    obtain ⟨κ2, eκ2⟩ : ∃ z : Kp, up2 κ1 98 0 (r1) = z := ⟨_, rfl⟩
    rw [eκ2] at hw
    rw [eκ2] at hF
    try dsimp only at hF
    refine lv_goto (tgt := 15) hM.x hM.b dL_fatOf_9 (by decide) ?_
    refine lv_iconst (v := 0) hM.x hM.b dL_fatOf_15 (by decide) ?_
    exact k_iret hM hr hw (Nat.le_of_ble_eq_true rfl) (Nat.le_of_ble_eq_true rfl) hF dL_fatOf_16
theorem q_L_wetFor : hdV yL_wetFor yL_addFire.cls 3 := ⟨rfl, by decide +kernel, by decide +kernel, by decide +kernel⟩
def f_L_wetFor (κ : Kp) (a : Int32) : Int32 × Kp := match f_X4_wetFor κ (a) with | .inl (E, κx) => ((1, κx)) | .inr (r1, κ1) => ((fun κ2 : Kp => (0, κ2)) (up2 κ1 98 0 (r1)))
set_option maxRecDepth 100000 in
set_option maxHeartbeats 4000000 in
theorem m_L_wetFor (l : Launch) (g : Gt) (κ : Kp) (sz : Nat) (a : Int32)  (hlst : l.stackTraces = false) : Met l yL_wetFor (.codeWith yL_wetFor cL_wetFor 4 (some .int) [(0, 9, 12, 19)] :: uW) { frames := 8, cells := 1, slots := 6, locals := 240 } (PRE g κ sz [.ref (g.2.2 (0)), .int (a), .ref (g.2.2 (98))]) (va_Qi (fun r κ' => f_L_wetFor κ a = (r, κ')) (Wp g) (fr g sz)) 1 6 (fr g sz) := by
  refine k_lenter (by decide +kernel) (Nat.le_of_ble_eq_true rfl) ?_
  intro p e s m below meth c ls hM hT hr hl hw hsz
  subst hsz
  have hl : lv_has ls 4 [(0, .ref (g.2.2 (0))), (1, .int (a)), (2, .ref (g.2.2 (98)))] := hl
  have hF := f_L_wetFor.eq_1 κ a
  refine lv_aload_n hM.x hM.b dL_wetFor_0 rfl (lv_at hl 2 rfl) ?_
  refine lv_iconst (v := 0) hM.x hM.b dL_wetFor_1 (by decide) ?_
  refine lv_aload_n hM.x hM.b dL_wetFor_2 rfl (lv_at hl 0 rfl) ?_
  refine lv_iload_n hM.x hM.b dL_wetFor_3 rfl (lv_at hl 1 rfl) ?_
  refine k_xi hw (k_runXV [.int (a)] [.int (0), .ref (g.2.2 (98))] hM hw (m_X4_wetFor l g κ _ (a) hlst) (kd_lt kd_0 (by decide)) (sh4 kd_0) rfl (k_gV u_ml_L_93 u_im_X4_wetFor u_se_X4_wetFor u_ini_X4 u_co_X4_wetFor) (q_X4_wetFor) rfl rfl rfl ⟨Nat.le_of_ble_eq_true rfl, Nat.le_of_ble_eq_true rfl⟩ hl.1 rfl (Nat.le_of_ble_eq_true rfl) dL_wetFor_4 ⟨Nat.le_of_ble_eq_true rfl, Nat.le_of_ble_eq_true rfl⟩) (fun E κx ce q9 H locs hx hw h1 h2 h3 => ?_) (fun r1 κ1 H locs hp hw => ?_)
  · simp only [hx.1] at hF
    obtain ⟨hx1, hx2⟩ := hx
    simp only [List.mem_cons, List.not_mem_nil, or_false] at hx2
    rcases hx2 with rfl
    · skip
      refine k_catch (E := nIOE) hM hT [] ⟨0, 9, 12, 19⟩ [] rfl (fun z hz => nomatch hz) (by decide) (by decide) u_cl_L_19 (by decide) h1 h2 h3 ?_
      refine lv_astore_n (lv' := [(3, .ref q9), (0, .ref (g.2.2 (0))), (1, .int (a)), (2, .ref (g.2.2 (98)))]) hM.x hM.b dL_wetFor_12 rfl hl (by decide) rfl (fun ls hl => ?_)
      refine lv_iconst (v := 1) hM.x hM.b dL_wetFor_13 (by decide) ?_
      exact k_iret hM hr hw (Nat.le_of_ble_eq_true rfl) (Nat.le_of_ble_eq_true rfl) hF dL_wetFor_14
  · simp only [hp] at hF
    refine lv_i2l (v := (r1).toInt64) hM.x hM.b dL_wetFor_7 rfl ?_
    refine k_last (x := r1) hM hw dL_wetFor_8 (fun H locs hw => ?_)
    obtain ⟨κ2, eκ2⟩ : ∃ z : Kp, up2 κ1 98 0 (r1) = z := ⟨_, rfl⟩
    rw [eκ2] at hw
    rw [eκ2] at hF
    try dsimp only at hF
    refine lv_goto (tgt := 15) hM.x hM.b dL_wetFor_9 (by decide) ?_
    refine lv_iconst (v := 0) hM.x hM.b dL_wetFor_15 (by decide) ?_
    exact k_iret hM hr hw (Nat.le_of_ble_eq_true rfl) (Nat.le_of_ble_eq_true rfl) hF dL_wetFor_16
theorem q_L_isDone : hdV yL_isDone yL_addFire.cls 3 := ⟨rfl, by decide +kernel, by decide +kernel, by decide +kernel⟩
def f_L_isDone (κ : Kp) (a : Int32) : Int32 × Kp := match f_X4_isDone κ (a) with | .inl (E, κx) => ((1, κx)) | .inr (r1, κ1) => (if (r1) = 0 then ((fun κ2 : Kp => (0, κ2)) (up2 κ1 98 0 (0))) else ((fun κ3 : Kp => (0, κ3)) (up2 κ1 98 0 (1))))
set_option maxRecDepth 100000 in
set_option maxHeartbeats 4000000 in
theorem m_L_isDone (l : Launch) (g : Gt) (κ : Kp) (sz : Nat) (a : Int32)  (hlst : l.stackTraces = false) : Met l yL_isDone (.codeWith yL_isDone cL_isDone 4 (some .int) [(0, 16, 19, 19)] :: uW) { frames := 8, cells := 1, slots := 6, locals := 240 } (PRE g κ sz [.ref (g.2.2 (0)), .int (a), .ref (g.2.2 (98))]) (va_Qi (fun r κ' => f_L_isDone κ a = (r, κ')) (Wp g) (fr g sz)) 1 6 (fr g sz) := by
  refine k_lenter (by decide +kernel) (Nat.le_of_ble_eq_true rfl) ?_
  intro p e s m below meth c ls hM hT hr hl hw hsz
  subst hsz
  have hl : lv_has ls 4 [(0, .ref (g.2.2 (0))), (1, .int (a)), (2, .ref (g.2.2 (98)))] := hl
  have hF := f_L_isDone.eq_1 κ a
  refine lv_aload_n hM.x hM.b dL_isDone_0 rfl (lv_at hl 2 rfl) ?_
  refine lv_iconst (v := 0) hM.x hM.b dL_isDone_1 (by decide) ?_
  refine lv_aload_n hM.x hM.b dL_isDone_2 rfl (lv_at hl 0 rfl) ?_
  refine lv_iload_n hM.x hM.b dL_isDone_3 rfl (lv_at hl 1 rfl) ?_
  refine k_xi hw (k_runXV [.int (a)] [.int (0), .ref (g.2.2 (98))] hM hw (m_X4_isDone l g κ _ (a) hlst) (kd_lt kd_0 (by decide)) (sh4 kd_0) rfl (k_gV u_ml_L_96 u_im_X4_isDone u_se_X4_isDone u_ini_X4 u_co_X4_isDone) (q_X4_isDone) rfl rfl rfl ⟨Nat.le_of_ble_eq_true rfl, Nat.le_of_ble_eq_true rfl⟩ hl.1 rfl (Nat.le_of_ble_eq_true rfl) dL_isDone_4 ⟨Nat.le_of_ble_eq_true rfl, Nat.le_of_ble_eq_true rfl⟩) (fun E κx ce q9 H locs hx hw h1 h2 h3 => ?_) (fun r1 κ1 H locs hp hw => ?_)
  · simp only [hx.1] at hF
    obtain ⟨hx1, hx2⟩ := hx
    simp only [List.mem_cons, List.not_mem_nil, or_false] at hx2
    rcases hx2 with rfl
    · skip
      refine k_catch (E := nIOE) hM hT [] ⟨0, 16, 19, 19⟩ [] rfl (fun z hz => nomatch hz) (by decide) (by decide) u_cl_L_19 (by decide) h1 h2 h3 ?_
      refine lv_astore_n (lv' := [(3, .ref q9), (0, .ref (g.2.2 (0))), (1, .int (a)), (2, .ref (g.2.2 (98)))]) hM.x hM.b dL_isDone_19 rfl hl (by decide) rfl (fun ls hl => ?_)
      refine lv_iconst (v := 1) hM.x hM.b dL_isDone_20 (by decide) ?_
      exact k_iret hM hr hw (Nat.le_of_ble_eq_true rfl) (Nat.le_of_ble_eq_true rfl) hF dL_isDone_21
  · simp only [hp] at hF
    refine lv_if_eq (tgt := 14) hM.x hM.b dL_isDone_7 (by decide) (fun c1 => ?_) (fun c1 => ?_)
    · rw [if_pos c1] at hF
      refine lv_lconst (v := 0) hM.x hM.b dL_isDone_14 (by decide) ?_
      refine k_last (x := 0) hM hw dL_isDone_15 (fun H locs hw => ?_)
      obtain ⟨κ2, eκ2⟩ : ∃ z : Kp, up2 κ1 98 0 (0) = z := ⟨_, rfl⟩
      rw [eκ2] at hw
      rw [eκ2] at hF
      try dsimp only at hF
      refine lv_goto (tgt := 22) hM.x hM.b dL_isDone_16 (by decide) ?_
      refine lv_iconst (v := 0) hM.x hM.b dL_isDone_22 (by decide) ?_
      exact k_iret hM hr hw (Nat.le_of_ble_eq_true rfl) (Nat.le_of_ble_eq_true rfl) hF dL_isDone_23
    · rw [if_neg c1] at hF
      refine lv_lconst (v := 1) hM.x hM.b dL_isDone_10 (by decide) ?_
      refine lv_goto (tgt := 15) hM.x hM.b dL_isDone_11 (by decide) ?_
      refine k_last (x := 1) hM hw dL_isDone_15 (fun H locs hw => ?_)
      obtain ⟨κ3, eκ3⟩ : ∃ z : Kp, up2 κ1 98 0 (1) = z := ⟨_, rfl⟩
      rw [eκ3] at hw
      rw [eκ3] at hF
      try dsimp only at hF
      refine lv_goto (tgt := 22) hM.x hM.b dL_isDone_16 (by decide) ?_
      refine lv_iconst (v := 0) hM.x hM.b dL_isDone_22 (by decide) ?_
      exact k_iret hM hr hw (Nat.le_of_ble_eq_true rfl) (Nat.le_of_ble_eq_true rfl) hF dL_isDone_23
theorem q_L_isBurnt : hdV yL_isBurnt yL_addFire.cls 3 := ⟨rfl, by decide +kernel, by decide +kernel, by decide +kernel⟩
def f_L_isBurnt (κ : Kp) (a : Int32) : Int32 × Kp := match f_X4_isBurnt κ (a) with | .inl (E, κx) => ((1, κx)) | .inr (r1, κ1) => (if (r1) = 0 then ((fun κ2 : Kp => (0, κ2)) (up2 κ1 98 0 (0))) else ((fun κ3 : Kp => (0, κ3)) (up2 κ1 98 0 (1))))
set_option maxRecDepth 100000 in
set_option maxHeartbeats 4000000 in
theorem m_L_isBurnt (l : Launch) (g : Gt) (κ : Kp) (sz : Nat) (a : Int32)  (hlst : l.stackTraces = false) : Met l yL_isBurnt (.codeWith yL_isBurnt cL_isBurnt 4 (some .int) [(0, 16, 19, 19)] :: uW) { frames := 8, cells := 1, slots := 6, locals := 240 } (PRE g κ sz [.ref (g.2.2 (0)), .int (a), .ref (g.2.2 (98))]) (va_Qi (fun r κ' => f_L_isBurnt κ a = (r, κ')) (Wp g) (fr g sz)) 1 6 (fr g sz) := by
  refine k_lenter (by decide +kernel) (Nat.le_of_ble_eq_true rfl) ?_
  intro p e s m below meth c ls hM hT hr hl hw hsz
  subst hsz
  have hl : lv_has ls 4 [(0, .ref (g.2.2 (0))), (1, .int (a)), (2, .ref (g.2.2 (98)))] := hl
  have hF := f_L_isBurnt.eq_1 κ a
  refine lv_aload_n hM.x hM.b dL_isBurnt_0 rfl (lv_at hl 2 rfl) ?_
  refine lv_iconst (v := 0) hM.x hM.b dL_isBurnt_1 (by decide) ?_
  refine lv_aload_n hM.x hM.b dL_isBurnt_2 rfl (lv_at hl 0 rfl) ?_
  refine lv_iload_n hM.x hM.b dL_isBurnt_3 rfl (lv_at hl 1 rfl) ?_
  refine k_xi hw (k_runXV [.int (a)] [.int (0), .ref (g.2.2 (98))] hM hw (m_X4_isBurnt l g κ _ (a) hlst) (kd_lt kd_0 (by decide)) (sh4 kd_0) rfl (k_gV u_ml_L_100 u_im_X4_isBurnt u_se_X4_isBurnt u_ini_X4 u_co_X4_isBurnt) (q_X4_isBurnt) rfl rfl rfl ⟨Nat.le_of_ble_eq_true rfl, Nat.le_of_ble_eq_true rfl⟩ hl.1 rfl (Nat.le_of_ble_eq_true rfl) dL_isBurnt_4 ⟨Nat.le_of_ble_eq_true rfl, Nat.le_of_ble_eq_true rfl⟩) (fun E κx ce q9 H locs hx hw h1 h2 h3 => ?_) (fun r1 κ1 H locs hp hw => ?_)
  · simp only [hx.1] at hF
    obtain ⟨hx1, hx2⟩ := hx
    simp only [List.mem_cons, List.not_mem_nil, or_false] at hx2
    rcases hx2 with rfl
    · skip
      refine k_catch (E := nIOE) hM hT [] ⟨0, 16, 19, 19⟩ [] rfl (fun z hz => nomatch hz) (by decide) (by decide) u_cl_L_19 (by decide) h1 h2 h3 ?_
      refine lv_astore_n (lv' := [(3, .ref q9), (0, .ref (g.2.2 (0))), (1, .int (a)), (2, .ref (g.2.2 (98)))]) hM.x hM.b dL_isBurnt_19 rfl hl (by decide) rfl (fun ls hl => ?_)
      refine lv_iconst (v := 1) hM.x hM.b dL_isBurnt_20 (by decide) ?_
      exact k_iret hM hr hw (Nat.le_of_ble_eq_true rfl) (Nat.le_of_ble_eq_true rfl) hF dL_isBurnt_21
  · simp only [hp] at hF
    refine lv_if_eq (tgt := 14) hM.x hM.b dL_isBurnt_7 (by decide) (fun c1 => ?_) (fun c1 => ?_)
    · rw [if_pos c1] at hF
      refine lv_lconst (v := 0) hM.x hM.b dL_isBurnt_14 (by decide) ?_
      refine k_last (x := 0) hM hw dL_isBurnt_15 (fun H locs hw => ?_)
      obtain ⟨κ2, eκ2⟩ : ∃ z : Kp, up2 κ1 98 0 (0) = z := ⟨_, rfl⟩
      rw [eκ2] at hw
      rw [eκ2] at hF
      try dsimp only at hF
      refine lv_goto (tgt := 22) hM.x hM.b dL_isBurnt_16 (by decide) ?_
      refine lv_iconst (v := 0) hM.x hM.b dL_isBurnt_22 (by decide) ?_
      exact k_iret hM hr hw (Nat.le_of_ble_eq_true rfl) (Nat.le_of_ble_eq_true rfl) hF dL_isBurnt_23
    · rw [if_neg c1] at hF
      refine lv_lconst (v := 1) hM.x hM.b dL_isBurnt_10 (by decide) ?_
      refine lv_goto (tgt := 15) hM.x hM.b dL_isBurnt_11 (by decide) ?_
      refine k_last (x := 1) hM hw dL_isBurnt_15 (fun H locs hw => ?_)
      obtain ⟨κ3, eκ3⟩ : ∃ z : Kp, up2 κ1 98 0 (1) = z := ⟨_, rfl⟩
      rw [eκ3] at hw
      rw [eκ3] at hF
      try dsimp only at hF
      refine lv_goto (tgt := 22) hM.x hM.b dL_isBurnt_16 (by decide) ?_
      refine lv_iconst (v := 0) hM.x hM.b dL_isBurnt_22 (by decide) ?_
      exact k_iret hM hr hw (Nat.le_of_ble_eq_true rfl) (Nat.le_of_ble_eq_true rfl) hF dL_isBurnt_23
theorem q_L_minutesUntilDone : hdV yL_minutesUntilDone yL_addFire.cls 3 := ⟨rfl, by decide +kernel, by decide +kernel, by decide +kernel⟩
def f_L_minutesUntilDone (κ : Kp) (a : Int32) : Int32 × Kp := match f_X4_minutesUntilDone κ (a) with | .inl (E, κx) => ((1, κx)) | .inr (r1, κ1) => ((fun κ2 : Kp => (0, κ2)) (up2 κ1 98 0 (r1)))
set_option maxRecDepth 100000 in
set_option maxHeartbeats 4000000 in
theorem m_L_minutesUntilDone (l : Launch) (g : Gt) (κ : Kp) (sz : Nat) (a : Int32)  (hlst : l.stackTraces = false) : Met l yL_minutesUntilDone (.codeWith yL_minutesUntilDone cL_minutesUntilDone 4 (some .int) [(0, 9, 12, 19)] :: uW) { frames := 8, cells := 1, slots := 6, locals := 240 } (PRE g κ sz [.ref (g.2.2 (0)), .int (a), .ref (g.2.2 (98))]) (va_Qi (fun r κ' => f_L_minutesUntilDone κ a = (r, κ')) (Wp g) (fr g sz)) 1 6 (fr g sz) := by
  refine k_lenter (by decide +kernel) (Nat.le_of_ble_eq_true rfl) ?_
  intro p e s m below meth c ls hM hT hr hl hw hsz
  subst hsz
  have hl : lv_has ls 4 [(0, .ref (g.2.2 (0))), (1, .int (a)), (2, .ref (g.2.2 (98)))] := hl
  have hF := f_L_minutesUntilDone.eq_1 κ a
  refine lv_aload_n hM.x hM.b dL_minutesUntilDone_0 rfl (lv_at hl 2 rfl) ?_
  refine lv_iconst (v := 0) hM.x hM.b dL_minutesUntilDone_1 (by decide) ?_
  refine lv_aload_n hM.x hM.b dL_minutesUntilDone_2 rfl (lv_at hl 0 rfl) ?_
  refine lv_iload_n hM.x hM.b dL_minutesUntilDone_3 rfl (lv_at hl 1 rfl) ?_
  refine k_xi hw (k_runXV [.int (a)] [.int (0), .ref (g.2.2 (98))] hM hw (m_X4_minutesUntilDone l g κ _ (a) hlst) (kd_lt kd_0 (by decide)) (sh4 kd_0) rfl (k_gV u_ml_L_103 u_im_X4_minutesUntilDone u_se_X4_minutesUntilDone u_ini_X4 u_co_X4_minutesUntilDone) (q_X4_minutesUntilDone) rfl rfl rfl ⟨Nat.le_of_ble_eq_true rfl, Nat.le_of_ble_eq_true rfl⟩ hl.1 rfl (Nat.le_of_ble_eq_true rfl) dL_minutesUntilDone_4 ⟨Nat.le_of_ble_eq_true rfl, Nat.le_of_ble_eq_true rfl⟩) (fun E κx ce q9 H locs hx hw h1 h2 h3 => ?_) (fun r1 κ1 H locs hp hw => ?_)
  · simp only [hx.1] at hF
    obtain ⟨hx1, hx2⟩ := hx
    simp only [List.mem_cons, List.not_mem_nil, or_false] at hx2
    rcases hx2 with rfl
    · skip
      refine k_catch (E := nIOE) hM hT [] ⟨0, 9, 12, 19⟩ [] rfl (fun z hz => nomatch hz) (by decide) (by decide) u_cl_L_19 (by decide) h1 h2 h3 ?_
      refine lv_astore_n (lv' := [(3, .ref q9), (0, .ref (g.2.2 (0))), (1, .int (a)), (2, .ref (g.2.2 (98)))]) hM.x hM.b dL_minutesUntilDone_12 rfl hl (by decide) rfl (fun ls hl => ?_)
      refine lv_iconst (v := 1) hM.x hM.b dL_minutesUntilDone_13 (by decide) ?_
      exact k_iret hM hr hw (Nat.le_of_ble_eq_true rfl) (Nat.le_of_ble_eq_true rfl) hF dL_minutesUntilDone_14
  · simp only [hp] at hF
    refine lv_i2l (v := (r1).toInt64) hM.x hM.b dL_minutesUntilDone_7 rfl ?_
    refine k_last (x := r1) hM hw dL_minutesUntilDone_8 (fun H locs hw => ?_)
    obtain ⟨κ2, eκ2⟩ : ∃ z : Kp, up2 κ1 98 0 (r1) = z := ⟨_, rfl⟩
    rw [eκ2] at hw
    rw [eκ2] at hF
    try dsimp only at hF
    refine lv_goto (tgt := 15) hM.x hM.b dL_minutesUntilDone_9 (by decide) ?_
    refine lv_iconst (v := 0) hM.x hM.b dL_minutesUntilDone_15 (by decide) ?_
    exact k_iret hM hr hw (Nat.le_of_ble_eq_true rfl) (Nat.le_of_ble_eq_true rfl) hF dL_minutesUntilDone_16
theorem q_L_minutesUntilBurnt : hdV yL_minutesUntilBurnt yL_addFire.cls 3 := ⟨rfl, by decide +kernel, by decide +kernel, by decide +kernel⟩
def f_L_minutesUntilBurnt (κ : Kp) (a : Int32) : Int32 × Kp := match f_X4_minutesUntilBurnt κ (a) with | .inl (E, κx) => ((1, κx)) | .inr (r1, κ1) => ((fun κ2 : Kp => (0, κ2)) (up2 κ1 98 0 (r1)))
set_option maxRecDepth 100000 in
set_option maxHeartbeats 4000000 in
theorem m_L_minutesUntilBurnt (l : Launch) (g : Gt) (κ : Kp) (sz : Nat) (a : Int32)  (hlst : l.stackTraces = false) : Met l yL_minutesUntilBurnt (.codeWith yL_minutesUntilBurnt cL_minutesUntilBurnt 4 (some .int) [(0, 9, 12, 19)] :: uW) { frames := 8, cells := 1, slots := 6, locals := 240 } (PRE g κ sz [.ref (g.2.2 (0)), .int (a), .ref (g.2.2 (98))]) (va_Qi (fun r κ' => f_L_minutesUntilBurnt κ a = (r, κ')) (Wp g) (fr g sz)) 1 6 (fr g sz) := by
  refine k_lenter (by decide +kernel) (Nat.le_of_ble_eq_true rfl) ?_
  intro p e s m below meth c ls hM hT hr hl hw hsz
  subst hsz
  have hl : lv_has ls 4 [(0, .ref (g.2.2 (0))), (1, .int (a)), (2, .ref (g.2.2 (98)))] := hl
  have hF := f_L_minutesUntilBurnt.eq_1 κ a
  refine lv_aload_n hM.x hM.b dL_minutesUntilBurnt_0 rfl (lv_at hl 2 rfl) ?_
  refine lv_iconst (v := 0) hM.x hM.b dL_minutesUntilBurnt_1 (by decide) ?_
  refine lv_aload_n hM.x hM.b dL_minutesUntilBurnt_2 rfl (lv_at hl 0 rfl) ?_
  refine lv_iload_n hM.x hM.b dL_minutesUntilBurnt_3 rfl (lv_at hl 1 rfl) ?_
  refine k_xi hw (k_runXV [.int (a)] [.int (0), .ref (g.2.2 (98))] hM hw (m_X4_minutesUntilBurnt l g κ _ (a) hlst) (kd_lt kd_0 (by decide)) (sh4 kd_0) rfl (k_gV u_ml_L_106 u_im_X4_minutesUntilBurnt u_se_X4_minutesUntilBurnt u_ini_X4 u_co_X4_minutesUntilBurnt) (q_X4_minutesUntilBurnt) rfl rfl rfl ⟨Nat.le_of_ble_eq_true rfl, Nat.le_of_ble_eq_true rfl⟩ hl.1 rfl (Nat.le_of_ble_eq_true rfl) dL_minutesUntilBurnt_4 ⟨Nat.le_of_ble_eq_true rfl, Nat.le_of_ble_eq_true rfl⟩) (fun E κx ce q9 H locs hx hw h1 h2 h3 => ?_) (fun r1 κ1 H locs hp hw => ?_)
  · simp only [hx.1] at hF
    obtain ⟨hx1, hx2⟩ := hx
    simp only [List.mem_cons, List.not_mem_nil, or_false] at hx2
    rcases hx2 with rfl
    · skip
      refine k_catch (E := nIOE) hM hT [] ⟨0, 9, 12, 19⟩ [] rfl (fun z hz => nomatch hz) (by decide) (by decide) u_cl_L_19 (by decide) h1 h2 h3 ?_
      refine lv_astore_n (lv' := [(3, .ref q9), (0, .ref (g.2.2 (0))), (1, .int (a)), (2, .ref (g.2.2 (98)))]) hM.x hM.b dL_minutesUntilBurnt_12 rfl hl (by decide) rfl (fun ls hl => ?_)
      refine lv_iconst (v := 1) hM.x hM.b dL_minutesUntilBurnt_13 (by decide) ?_
      exact k_iret hM hr hw (Nat.le_of_ble_eq_true rfl) (Nat.le_of_ble_eq_true rfl) hF dL_minutesUntilBurnt_14
  · simp only [hp] at hF
    refine lv_i2l (v := (r1).toInt64) hM.x hM.b dL_minutesUntilBurnt_7 rfl ?_
    refine k_last (x := r1) hM hw dL_minutesUntilBurnt_8 (fun H locs hw => ?_)
    obtain ⟨κ2, eκ2⟩ : ∃ z : Kp, up2 κ1 98 0 (r1) = z := ⟨_, rfl⟩
    rw [eκ2] at hw
    rw [eκ2] at hF
    try dsimp only at hF
    refine lv_goto (tgt := 15) hM.x hM.b dL_minutesUntilBurnt_9 (by decide) ?_
    refine lv_iconst (v := 0) hM.x hM.b dL_minutesUntilBurnt_15 (by decide) ?_
    exact k_iret hM hr hw (Nat.le_of_ble_eq_true rfl) (Nat.le_of_ble_eq_true rfl) hF dL_minutesUntilBurnt_16
theorem q_L_bestEach : hdV yL_bestEach yL_addFire.cls 3 := ⟨rfl, by decide +kernel, by decide +kernel, by decide +kernel⟩
def f_L_bestEach (κ : Kp) (a : Int32) : Int32 × Kp := match f_X4_bestEach κ (a) with | .inl (E, κx) => ((1, κx)) | .inr (r1, κ1) => ((fun κ2 : Kp => (0, κ2)) (up2 κ1 98 0 (r1)))
set_option maxRecDepth 100000 in
set_option maxHeartbeats 4000000 in
theorem m_L_bestEach (l : Launch) (g : Gt) (κ : Kp) (sz : Nat) (a : Int32)  (hlst : l.stackTraces = false) : Met l yL_bestEach (.codeWith yL_bestEach cL_bestEach 4 (some .int) [(0, 9, 12, 19)] :: uW) { frames := 8, cells := 1, slots := 6, locals := 240 } (PRE g κ sz [.ref (g.2.2 (0)), .int (a), .ref (g.2.2 (98))]) (va_Qi (fun r κ' => f_L_bestEach κ a = (r, κ')) (Wp g) (fr g sz)) 1 6 (fr g sz) := by
  refine k_lenter (by decide +kernel) (Nat.le_of_ble_eq_true rfl) ?_
  intro p e s m below meth c ls hM hT hr hl hw hsz
  subst hsz
  have hl : lv_has ls 4 [(0, .ref (g.2.2 (0))), (1, .int (a)), (2, .ref (g.2.2 (98)))] := hl
  have hF := f_L_bestEach.eq_1 κ a
  refine lv_aload_n hM.x hM.b dL_bestEach_0 rfl (lv_at hl 2 rfl) ?_
  refine lv_iconst (v := 0) hM.x hM.b dL_bestEach_1 (by decide) ?_
  refine lv_aload_n hM.x hM.b dL_bestEach_2 rfl (lv_at hl 0 rfl) ?_
  refine lv_iload_n hM.x hM.b dL_bestEach_3 rfl (lv_at hl 1 rfl) ?_
  refine k_xi hw (k_runXV [.int (a)] [.int (0), .ref (g.2.2 (98))] hM hw (m_X4_bestEach l g κ _ (a) hlst) (kd_lt kd_0 (by decide)) (sh4 kd_0) rfl (k_gV u_ml_L_109 u_im_X4_bestEach u_se_X4_bestEach u_ini_X4 u_co_X4_bestEach) (q_X4_bestEach) rfl rfl rfl ⟨Nat.le_of_ble_eq_true rfl, Nat.le_of_ble_eq_true rfl⟩ hl.1 rfl (Nat.le_of_ble_eq_true rfl) dL_bestEach_4 ⟨Nat.le_of_ble_eq_true rfl, Nat.le_of_ble_eq_true rfl⟩) (fun E κx ce q9 H locs hx hw h1 h2 h3 => ?_) (fun r1 κ1 H locs hp hw => ?_)
  · simp only [hx.1] at hF
    obtain ⟨hx1, hx2⟩ := hx
    simp only [List.mem_cons, List.not_mem_nil, or_false] at hx2
    rcases hx2 with rfl
    · skip
      refine k_catch (E := nIOE) hM hT [] ⟨0, 9, 12, 19⟩ [] rfl (fun z hz => nomatch hz) (by decide) (by decide) u_cl_L_19 (by decide) h1 h2 h3 ?_
      refine lv_astore_n (lv' := [(3, .ref q9), (0, .ref (g.2.2 (0))), (1, .int (a)), (2, .ref (g.2.2 (98)))]) hM.x hM.b dL_bestEach_12 rfl hl (by decide) rfl (fun ls hl => ?_)
      refine lv_iconst (v := 1) hM.x hM.b dL_bestEach_13 (by decide) ?_
      exact k_iret hM hr hw (Nat.le_of_ble_eq_true rfl) (Nat.le_of_ble_eq_true rfl) hF dL_bestEach_14
  · simp only [hp] at hF
    refine lv_i2l (v := (r1).toInt64) hM.x hM.b dL_bestEach_7 rfl ?_
    refine k_last (x := r1) hM hw dL_bestEach_8 (fun H locs hw => ?_)
    obtain ⟨κ2, eκ2⟩ : ∃ z : Kp, up2 κ1 98 0 (r1) = z := ⟨_, rfl⟩
    rw [eκ2] at hw
    rw [eκ2] at hF
    try dsimp only at hF
    refine lv_goto (tgt := 15) hM.x hM.b dL_bestEach_9 (by decide) ?_
    refine lv_iconst (v := 0) hM.x hM.b dL_bestEach_15 (by decide) ?_
    exact k_iret hM hr hw (Nat.le_of_ble_eq_true rfl) (Nat.le_of_ble_eq_true rfl) hF dL_bestEach_16
