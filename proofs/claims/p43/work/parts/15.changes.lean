theorem q_X4_addFire : hdV yX4_addFire RX4 0 := ⟨rfl, by decide +kernel, by decide +kernel, by decide +kernel⟩
def f_X4_addFire (κ : Kp) : (String × Kp) ⊕ (Int32 × Kp) := match f_X1_placeFire κ (1) with | (r1, κ1) => (if (r1) = ((-1)) then (.inl (nISE, κ1)) else (.inr (r1, κ1)))
set_option maxRecDepth 100000 in
set_option maxHeartbeats 4000000 in
theorem m_X4_addFire (l : Launch) (g : Gt) (κ : Kp) (sz : Nat)  (hlst : l.stackTraces = false) : vx_Met l yX4_addFire (.code yX4_addFire cX4_addFire 2 (some .int) :: uW) { frames := 6, cells := 1, slots := 6, locals := 180 } (PRE g κ sz [.ref (g.2.2 (0))]) (va_Qi (fun r κ' => f_X4_addFire κ  = .inr (r, κ')) (Wp g) (fr g sz)) (xC g sz (fun E κx => f_X4_addFire κ  = .inl (E, κx) ∧ E ∈ [nISE])) 1 6 (fr g sz) := by
  refine k_xenter (by decide +kernel) (Nat.le_of_ble_eq_true rfl) ?_
  intro p e s m below meth c ls hM hno hr hl hw hsz
  subst hsz
  have hl : lv_has ls 2 [(0, .ref (g.2.2 (0)))] := hl
  have hF := f_X4_addFire.eq_1 κ 
  refine lv_aload_n hM.x hM.b dX4_addFire_0 rfl (lv_at hl 0 rfl) ?_
  refine k_get4a hM hw u_fl_X4_10 dX4_addFire_1 ?_
  refine k_ci hw (k_runV [] [] hM hw (m_X1_placeFire l g κ _ (1) (kd_1)) (hw.dm kd_1 (by decide)) (sh1 kd_1) rfl (k_gV u_ml_X4_19 u_im_X1_placeFire u_se_X1_placeFire u_ini_X1 u_co_X1_placeFire) (q_X1_placeFire) rfl rfl rfl ⟨Nat.le_of_ble_eq_true rfl, Nat.le_of_ble_eq_true rfl⟩ hl.1 rfl (Nat.le_of_ble_eq_true rfl) dX4_addFire_4 ⟨Nat.le_of_ble_eq_true rfl, Nat.le_of_ble_eq_true rfl⟩) (fun r1 κ1 H locs hpκ1 hw => ?_)
  simp only [hpκ1] at hF
  refine lv_istore_n (lv' := [(1, .int (r1)), (0, .ref (g.2.2 (0)))]) hM.x hM.b dX4_addFire_7 rfl hl (by decide) rfl (fun ls hl => ?_)
  refine lv_iload_n hM.x hM.b dX4_addFire_8 rfl (lv_at hl 0 rfl) ?_
  refine lv_iconst (v := -1) hM.x hM.b dX4_addFire_9 (by decide) ?_
  refine lv_icmp_ne (tgt := 23) hM.x hM.b dX4_addFire_10 (by decide) (fun c1 => ?_) (fun c1 => ?_)
  · rw [if_neg c1] at hF
    refine lv_iload_n hM.x hM.b dX4_addFire_23 rfl (lv_at hl 0 rfl) ?_
    exact vx_ret (k_iret hM hr hw (Nat.le_of_ble_eq_true rfl) (Nat.le_of_ble_eq_true rfl) hF dX4_addFire_24)
  · rw [if_pos c1] at hF
    exact k_throw (cls := nISE) (text := "there are 3 fires") (is := 25) hlst hM hno hw (by decide +kernel) u_cl_X4_23 u_ini_JS (by decide +kernel) xISE1 xISE2 xISE3 hl.1 dX4_addFire_13 dX4_addFire_16 dX4_addFire_17 dX4_addFire_19 dX4_addFire_22 (Nat.le_of_ble_eq_true rfl) (Nat.le_of_ble_eq_true rfl) (Nat.le_of_ble_eq_true rfl) (Nat.le_of_ble_eq_true rfl) ⟨hF, by decide +kernel⟩ (Nat.le_of_ble_eq_true rfl) (Nat.le_of_ble_eq_true rfl)
theorem q_X4_layLogs : hdV yX4_layLogs RX4 2 := ⟨rfl, by decide +kernel, by decide +kernel, by decide +kernel⟩
def f_X4_layLogs (κ : Kp) (a : Int32) (b : Int32) : (String × Kp) ⊕ (Int32 × Kp) := match f_X4_needFire κ (a) with | .inl (E, κx) => .inl (E, κx) | .inr p1 => (if (b) < (1) then (.inl (nIAE, κ)) else (if (b) ≤ (40) then ((fun κ1 : Kp => .inr (κ1 (p1) 0, κ1)) (up2 κ (p1) 0 ((if (((κ (p1) 0) + (b))) < (40) then (((κ (p1) 0) + (b))) else (40))))) else (.inl (nIAE, κ))))
set_option maxRecDepth 100000 in
set_option maxHeartbeats 4000000 in
theorem m_X4_layLogs (l : Launch) (g : Gt) (κ : Kp) (sz : Nat) (a : Int32) (b : Int32) (hlst : l.stackTraces = false) : vx_Met l yX4_layLogs (.code yX4_layLogs cX4_layLogs 4 (some .int) :: uW) { frames := 7, cells := 2, slots := 12, locals := 210 } (PRE g κ sz [.ref (g.2.2 (0)), .int (a), .int (b)]) (va_Qi (fun r κ' => f_X4_layLogs κ a b = .inr (r, κ')) (Wp g) (fr g sz)) (xC g sz (fun E κx => f_X4_layLogs κ a b = .inl (E, κx) ∧ E ∈ [nIOE, nIAE])) 2 12 (fr g sz) := by
  refine k_xenter (by decide +kernel) (Nat.le_of_ble_eq_true rfl) ?_
  intro p e s m below meth c ls hM hno hr hl hw hsz
  subst hsz
  have hl : lv_has ls 4 [(0, .ref (g.2.2 (0))), (1, .int (a)), (2, .int (b))] := hl
  have hF := f_X4_layLogs.eq_1 κ a b
  refine lv_aload_n hM.x hM.b dX4_layLogs_0 rfl (lv_at hl 0 rfl) ?_
  refine lv_iload_n hM.x hM.b dX4_layLogs_1 rfl (lv_at hl 1 rfl) ?_
  refine k_xe hw (k_runXV [.int (a)] [] hM hw (m_X4_needFire l g κ _ (a) hlst) (hw.dm kd_0 (by decide)) (sh4 kd_0) rfl (k_gV u_ml_X4_30 u_im_X4_needFire u_se_X4_needFire u_ini_X4 u_co_X4_needFire) (q_X4_needFire) rfl rfl rfl ⟨Nat.le_of_ble_eq_true rfl, Nat.le_of_ble_eq_true rfl⟩ hl.1 rfl (Nat.le_of_ble_eq_true rfl) dX4_layLogs_2 ⟨Nat.le_of_ble_eq_true rfl, Nat.le_of_ble_eq_true rfl⟩) (fun E κx ce q9 H locs hx hw h1 h2 h3 => ?_) (fun rz κz H locs hp hw => ?_)
  · simp only [hx.1] at hF
    exact k_xout hM hno hw h1 h2 h3 ⟨hF, (by decide +kernel : ∀ E ∈ [nIOE], E ∈ [nIOE, nIAE]) E hx.2⟩ (Nat.le_of_ble_eq_true rfl) (Nat.le_of_ble_eq_true rfl)
  · obtain ⟨p1, hrz, hp, hkz⟩ := hp
    rw [hkz] at hw
    rw [hrz]
    simp only [hp] at hF
    have hp1 := kdp_X4_needFire hp
    refine W.eq (g2 := F0 m 5 ls [.ref (g.2.2 (p1))]) rfl ?_
    refine lv_astore_n (lv' := [(3, .ref (g.2.2 (p1))), (0, .ref (g.2.2 (0))), (1, .int (a)), (2, .int (b))]) hM.x hM.b dX4_layLogs_5 rfl hl (by decide) rfl (fun ls hl => ?_)
    refine lv_iload_n hM.x hM.b dX4_layLogs_6 rfl (lv_at hl 3 rfl) ?_
    refine lv_iconst (v := 1) hM.x hM.b dX4_layLogs_7 (by decide) ?_
    refine lv_icmp_lt (tgt := 17) hM.x hM.b dX4_layLogs_8 (by decide) (fun c1 => ?_) (fun c1 => ?_)
    · rw [if_pos c1] at hF
      exact k_throw (cls := nIAE) (text := "logs is not 1 to 40") (is := 36) hlst hM hno hw (by decide +kernel) u_cl_X4_34 u_ini_JA (by decide +kernel) xIAE1 xIAE2 xIAE3 hl.1 dX4_layLogs_17 dX4_layLogs_20 dX4_layLogs_21 dX4_layLogs_23 dX4_layLogs_26 (Nat.le_of_ble_eq_true rfl) (Nat.le_of_ble_eq_true rfl) (Nat.le_of_ble_eq_true rfl) (Nat.le_of_ble_eq_true rfl) ⟨hF, by decide +kernel⟩ (Nat.le_of_ble_eq_true rfl) (Nat.le_of_ble_eq_true rfl)
    · rw [if_neg c1] at hF
      refine lv_iload_n hM.x hM.b dX4_layLogs_11 rfl (lv_at hl 3 rfl) ?_
      refine lv_bipush (v := 40) hM.x hM.b dX4_layLogs_12 (by decide) ?_
      refine lv_icmp_le (tgt := 27) hM.x hM.b dX4_layLogs_14 (by decide) (fun c2 => ?_) (fun c2 => ?_)
      · rw [if_pos c2] at hF
        refine lv_aload_n hM.x hM.b dX4_layLogs_27 rfl (lv_at hl 0 rfl) ?_
        refine lv_bipush (v := 40) hM.x hM.b dX4_layLogs_28 (by decide) ?_
        refine lv_aload_n hM.x hM.b dX4_layLogs_30 rfl (lv_at hl 0 rfl) ?_
        refine k_get0 0 hM hw hp1 (by decide) u_fl_X4_39 dX4_layLogs_31 ?_
        refine lv_iload_n hM.x hM.b dX4_layLogs_34 rfl (lv_at hl 3 rfl) ?_
        refine lv_iadd hM.x hM.b dX4_layLogs_35 ?_
        refine va_mmin hM.x hM.b (hM.ml.trans hl.1.symm) hM.ow (hM.ts _ u_ml_X4_45) (hM.ts _ u_st_JM_min) (hM.ts _ u_ini_JM) (hM.ts _ u_co_JM_min) (Nat.le_of_ble_eq_true rfl) (Nat.le_of_ble_eq_true rfl) (Nat.le_of_ble_eq_true rfl) (Nat.le_of_ble_eq_true rfl) dX4_layLogs_36 ?_
        refine k_put0 0 hM hw hp1 (by decide) u_fl_X4_39 dX4_layLogs_39 (fun H locs hw => ?_)
        obtain ⟨κ1, eκ1⟩ : ∃ z : Kp, up2 κ (p1) 0 ((if (((κ (p1) 0) + (b))) < (40) then (((κ (p1) 0) + (b))) else (40))) = z := ⟨_, rfl⟩
        rw [eκ1] at hw
        rw [eκ1] at hF
        try dsimp only at hF
        refine lv_aload_n hM.x hM.b dX4_layLogs_42 rfl (lv_at hl 0 rfl) ?_
        refine k_get0 0 hM hw hp1 (by decide) u_fl_X4_39 dX4_layLogs_43 ?_
        exact vx_ret (k_iret hM hr hw (Nat.le_of_ble_eq_true rfl) (Nat.le_of_ble_eq_true rfl) hF dX4_layLogs_46)
      · rw [if_neg c2] at hF
        exact k_throw (cls := nIAE) (text := "logs is not 1 to 40") (is := 36) hlst hM hno hw (by decide +kernel) u_cl_X4_34 u_ini_JA (by decide +kernel) xIAE1 xIAE2 xIAE3 hl.1 dX4_layLogs_17 dX4_layLogs_20 dX4_layLogs_21 dX4_layLogs_23 dX4_layLogs_26 (Nat.le_of_ble_eq_true rfl) (Nat.le_of_ble_eq_true rfl) (Nat.le_of_ble_eq_true rfl) (Nat.le_of_ble_eq_true rfl) ⟨hF, by decide +kernel⟩ (Nat.le_of_ble_eq_true rfl) (Nat.le_of_ble_eq_true rfl)
theorem q_X4_addSpit : hdV yX4_addSpit RX4 2 := ⟨rfl, by decide +kernel, by decide +kernel, by decide +kernel⟩
def f_X4_addSpit (κ : Kp) (a : Int32) (b : Int32) : (String × Kp) ⊕ (Int32 × Kp) := match f_X4_needFire κ (a) with | .inl (E, κx) => .inl (E, κx) | .inr p1 => (match f_X4_needFeet κ (b) with | .inl (E, κx) => .inl (E, κx) | .inr _ => (match f_X1_placeSpit κ (1) (a) (b) with | (r1, κ1) => (if (r1) = ((-1)) then (.inl (nISE, κ1)) else (.inr (r1, κ1)))))
set_option maxRecDepth 100000 in
set_option maxHeartbeats 4000000 in
theorem m_X4_addSpit (l : Launch) (g : Gt) (κ : Kp) (sz : Nat) (a : Int32) (b : Int32) (hlst : l.stackTraces = false) : vx_Met l yX4_addSpit (.code yX4_addSpit cX4_addSpit 4 (some .int) :: uW) { frames := 7, cells := 3, slots := 18, locals := 210 } (PRE g κ sz [.ref (g.2.2 (0)), .int (a), .int (b)]) (va_Qi (fun r κ' => f_X4_addSpit κ a b = .inr (r, κ')) (Wp g) (fr g sz)) (xC g sz (fun E κx => f_X4_addSpit κ a b = .inl (E, κx) ∧ E ∈ [nIOE, nIAE, nISE])) 3 18 (fr g sz) := by
  refine k_xenter (by decide +kernel) (Nat.le_of_ble_eq_true rfl) ?_
  intro p e s m below meth c ls hM hno hr hl hw hsz
  subst hsz
  have hl : lv_has ls 4 [(0, .ref (g.2.2 (0))), (1, .int (a)), (2, .int (b))] := hl
  have hF := f_X4_addSpit.eq_1 κ a b
  refine lv_aload_n hM.x hM.b dX4_addSpit_0 rfl (lv_at hl 0 rfl) ?_
  refine lv_iload_n hM.x hM.b dX4_addSpit_1 rfl (lv_at hl 1 rfl) ?_
  refine k_xe hw (k_runXV [.int (a)] [] hM hw (m_X4_needFire l g κ _ (a) hlst) (hw.dm kd_0 (by decide)) (sh4 kd_0) rfl (k_gV u_ml_X4_30 u_im_X4_needFire u_se_X4_needFire u_ini_X4 u_co_X4_needFire) (q_X4_needFire) rfl rfl rfl ⟨Nat.le_of_ble_eq_true rfl, Nat.le_of_ble_eq_true rfl⟩ hl.1 rfl (Nat.le_of_ble_eq_true rfl) dX4_addSpit_2 ⟨Nat.le_of_ble_eq_true rfl, Nat.le_of_ble_eq_true rfl⟩) (fun E κx ce q9 H locs hx hw h1 h2 h3 => ?_) (fun rz κz H locs hp hw => ?_)
  · simp only [hx.1] at hF
    exact k_xout hM hno hw h1 h2 h3 ⟨hF, (by decide +kernel : ∀ E ∈ [nIOE], E ∈ [nIOE, nIAE, nISE]) E hx.2⟩ (Nat.le_of_ble_eq_true rfl) (Nat.le_of_ble_eq_true rfl)
  · obtain ⟨p1, hrz, hp, hkz⟩ := hp
    rw [hkz] at hw
    rw [hrz]
    simp only [hp] at hF
    have hp1 := kdp_X4_needFire hp
    refine W.eq (g2 := F0 m 5 ls [.ref (g.2.2 (p1))]) rfl ?_
    refine lv_pop hM.x hM.b dX4_addSpit_5 rfl ?_
    refine lv_iload_n hM.x hM.b dX4_addSpit_6 rfl (lv_at hl 2 rfl) ?_
    refine k_xv hw (k_runXS [.int (b)] [] hM hw (m_X4_needFeet l g κ _ (b) hlst) (k_gS u_ml_X4_51 u_st_X4_needFeet u_ini_X4 u_co_X4_needFeet) (q_X4_needFeet) rfl rfl rfl ⟨Nat.le_of_ble_eq_true rfl, Nat.le_of_ble_eq_true rfl⟩ hl.1 rfl (Nat.le_of_ble_eq_true rfl) dX4_addSpit_7 ⟨Nat.le_of_ble_eq_true rfl, Nat.le_of_ble_eq_true rfl⟩) (fun E κx ce q9 H locs hx hw h1 h2 h3 => ?_) (fun κz H locs hp hw => ?_)
    · simp only [hx.1] at hF
      exact k_xout hM hno hw h1 h2 h3 ⟨hF, (by decide +kernel : ∀ E ∈ [nIAE], E ∈ [nIOE, nIAE, nISE]) E hx.2⟩ (Nat.le_of_ble_eq_true rfl) (Nat.le_of_ble_eq_true rfl)
    · obtain ⟨hp, hkz⟩ := hp
      rw [hkz] at hw
      simp only [hp] at hF
      refine lv_aload_n hM.x hM.b dX4_addSpit_10 rfl (lv_at hl 0 rfl) ?_
      refine k_get4a hM hw u_fl_X4_10 dX4_addSpit_11 ?_
      refine lv_iload_n hM.x hM.b dX4_addSpit_14 rfl (lv_at hl 1 rfl) ?_
      refine lv_iload_n hM.x hM.b dX4_addSpit_15 rfl (lv_at hl 2 rfl) ?_
      refine k_ci hw (k_runV [.int (a), .int (b)] [] hM hw (m_X1_placeSpit l g κ _ (1) (a) (b) (kd_1)) (hw.dm kd_1 (by decide)) (sh1 kd_1) rfl (k_gV u_ml_X4_55 u_im_X1_placeSpit u_se_X1_placeSpit u_ini_X1 u_co_X1_placeSpit) (q_X1_placeSpit) rfl rfl rfl ⟨Nat.le_of_ble_eq_true rfl, Nat.le_of_ble_eq_true rfl⟩ hl.1 rfl (Nat.le_of_ble_eq_true rfl) dX4_addSpit_16 ⟨Nat.le_of_ble_eq_true rfl, Nat.le_of_ble_eq_true rfl⟩) (fun r1 κ1 H locs hpκ1 hw => ?_)
      simp only [hpκ1] at hF
      refine lv_istore_n (lv' := [(3, .int (r1)), (0, .ref (g.2.2 (0))), (1, .int (a)), (2, .int (b))]) hM.x hM.b dX4_addSpit_19 rfl hl (by decide) rfl (fun ls hl => ?_)
      refine lv_iload_n hM.x hM.b dX4_addSpit_20 rfl (lv_at hl 0 rfl) ?_
      refine lv_iconst (v := -1) hM.x hM.b dX4_addSpit_21 (by decide) ?_
      refine lv_icmp_ne (tgt := 35) hM.x hM.b dX4_addSpit_22 (by decide) (fun c1 => ?_) (fun c1 => ?_)
      · rw [if_neg c1] at hF
        refine lv_iload_n hM.x hM.b dX4_addSpit_35 rfl (lv_at hl 0 rfl) ?_
        exact vx_ret (k_iret hM hr hw (Nat.le_of_ble_eq_true rfl) (Nat.le_of_ble_eq_true rfl) hF dX4_addSpit_36)
      · rw [if_pos c1] at hF
        exact k_throw (cls := nISE) (text := "there are 6 spits") (is := 58) hlst hM hno hw (by decide +kernel) u_cl_X4_23 u_ini_JS (by decide +kernel) xISE1 xISE2 xISE3 hl.1 dX4_addSpit_25 dX4_addSpit_28 dX4_addSpit_29 dX4_addSpit_31 dX4_addSpit_34 (Nat.le_of_ble_eq_true rfl) (Nat.le_of_ble_eq_true rfl) (Nat.le_of_ble_eq_true rfl) (Nat.le_of_ble_eq_true rfl) ⟨hF, by decide +kernel⟩ (Nat.le_of_ble_eq_true rfl) (Nat.le_of_ble_eq_true rfl)
theorem q_X4_moveSpit : hdV yX4_moveSpit RX4 2 := ⟨rfl, by decide +kernel, by decide +kernel, by decide +kernel⟩
def f_X4_moveSpit (κ : Kp) (a : Int32) (b : Int32) : (String × Kp) ⊕ (Int32 × Kp) := match f_X4_needSpit κ (a) with | .inl (E, κx) => .inl (E, κx) | .inr p1 => (match f_X4_needFeet κ (b) with | .inl (E, κx) => .inl (E, κx) | .inr _ => ((fun κ1 : Kp => .inr (κ (p1) 1, κ1)) (up2 κ (p1) 1 (b))))
set_option maxRecDepth 100000 in
set_option maxHeartbeats 4000000 in
theorem m_X4_moveSpit (l : Launch) (g : Gt) (κ : Kp) (sz : Nat) (a : Int32) (b : Int32) (hlst : l.stackTraces = false) : vx_Met l yX4_moveSpit (.code yX4_moveSpit cX4_moveSpit 5 (some .int) :: uW) { frames := 7, cells := 2, slots := 12, locals := 210 } (PRE g κ sz [.ref (g.2.2 (0)), .int (a), .int (b)]) (va_Qi (fun r κ' => f_X4_moveSpit κ a b = .inr (r, κ')) (Wp g) (fr g sz)) (xC g sz (fun E κx => f_X4_moveSpit κ a b = .inl (E, κx) ∧ E ∈ [nIOE, nIAE])) 2 12 (fr g sz) := by
  refine k_xenter (by decide +kernel) (Nat.le_of_ble_eq_true rfl) ?_
  intro p e s m below meth c ls hM hno hr hl hw hsz
  subst hsz
  have hl : lv_has ls 5 [(0, .ref (g.2.2 (0))), (1, .int (a)), (2, .int (b))] := hl
  have hF := f_X4_moveSpit.eq_1 κ a b
  refine lv_aload_n hM.x hM.b dX4_moveSpit_0 rfl (lv_at hl 0 rfl) ?_
  refine lv_iload_n hM.x hM.b dX4_moveSpit_1 rfl (lv_at hl 1 rfl) ?_
  refine k_xe hw (k_runXV [.int (a)] [] hM hw (m_X4_needSpit l g κ _ (a) hlst) (hw.dm kd_0 (by decide)) (sh4 kd_0) rfl (k_gV u_ml_X4_60 u_im_X4_needSpit u_se_X4_needSpit u_ini_X4 u_co_X4_needSpit) (q_X4_needSpit) rfl rfl rfl ⟨Nat.le_of_ble_eq_true rfl, Nat.le_of_ble_eq_true rfl⟩ hl.1 rfl (Nat.le_of_ble_eq_true rfl) dX4_moveSpit_2 ⟨Nat.le_of_ble_eq_true rfl, Nat.le_of_ble_eq_true rfl⟩) (fun E κx ce q9 H locs hx hw h1 h2 h3 => ?_) (fun rz κz H locs hp hw => ?_)
  · simp only [hx.1] at hF
    exact k_xout hM hno hw h1 h2 h3 ⟨hF, (by decide +kernel : ∀ E ∈ [nIOE], E ∈ [nIOE, nIAE]) E hx.2⟩ (Nat.le_of_ble_eq_true rfl) (Nat.le_of_ble_eq_true rfl)
  · obtain ⟨p1, hrz, hp, hkz⟩ := hp
    rw [hkz] at hw
    rw [hrz]
    simp only [hp] at hF
    have hp1 := kdp_X4_needSpit hp
    refine W.eq (g2 := F0 m 5 ls [.ref (g.2.2 (p1))]) rfl ?_
    refine lv_astore_n (lv' := [(3, .ref (g.2.2 (p1))), (0, .ref (g.2.2 (0))), (1, .int (a)), (2, .int (b))]) hM.x hM.b dX4_moveSpit_5 rfl hl (by decide) rfl (fun ls hl => ?_)
    refine lv_iload_n hM.x hM.b dX4_moveSpit_6 rfl (lv_at hl 3 rfl) ?_
    refine k_xv hw (k_runXS [.int (b)] [] hM hw (m_X4_needFeet l g κ _ (b) hlst) (k_gS u_ml_X4_51 u_st_X4_needFeet u_ini_X4 u_co_X4_needFeet) (q_X4_needFeet) rfl rfl rfl ⟨Nat.le_of_ble_eq_true rfl, Nat.le_of_ble_eq_true rfl⟩ hl.1 rfl (Nat.le_of_ble_eq_true rfl) dX4_moveSpit_7 ⟨Nat.le_of_ble_eq_true rfl, Nat.le_of_ble_eq_true rfl⟩) (fun E κx ce q9 H locs hx hw h1 h2 h3 => ?_) (fun κz H locs hp hw => ?_)
    · simp only [hx.1] at hF
      exact k_xout hM hno hw h1 h2 h3 ⟨hF, (by decide +kernel : ∀ E ∈ [nIAE], E ∈ [nIOE, nIAE]) E hx.2⟩ (Nat.le_of_ble_eq_true rfl) (Nat.le_of_ble_eq_true rfl)
    · obtain ⟨hp, hkz⟩ := hp
      rw [hkz] at hw
      simp only [hp] at hF
      refine lv_aload_n hM.x hM.b dX4_moveSpit_10 rfl (lv_at hl 0 rfl) ?_
      refine k_get3 1 hM hw hp1 (by decide) u_fl_X4_64 dX4_moveSpit_11 ?_
      refine lv_istore (lv' := [(4, .int (κ (p1) 1)), (3, .ref (g.2.2 (p1))), (0, .ref (g.2.2 (0))), (1, .int (a)), (2, .int (b))]) hM.x hM.b dX4_moveSpit_14 hl (by decide) rfl (fun ls hl => ?_)
      refine lv_aload_n hM.x hM.b dX4_moveSpit_16 rfl (lv_at hl 1 rfl) ?_
      refine lv_iload_n hM.x hM.b dX4_moveSpit_17 rfl (lv_at hl 4 rfl) ?_
      refine k_put3 1 hM hw hp1 (by decide) u_fl_X4_64 dX4_moveSpit_18 (fun H locs hw => ?_)
      obtain ⟨κ1, eκ1⟩ : ∃ z : Kp, up2 κ (p1) 1 (b) = z := ⟨_, rfl⟩
      rw [eκ1] at hw
      rw [eκ1] at hF
      try dsimp only at hF
      refine lv_iload hM.x hM.b dX4_moveSpit_21 (lv_at hl 0 rfl) ?_
      exact vx_ret (k_iret hM hr hw (Nat.le_of_ble_eq_true rfl) (Nat.le_of_ble_eq_true rfl) hF dX4_moveSpit_23)
theorem q_X4_turnEach : hdV yX4_turnEach RX4 2 := ⟨rfl, by decide +kernel, by decide +kernel, by decide +kernel⟩
def f_X4_turnEach (κ : Kp) (a : Int32) (b : Int32) : (String × Kp) ⊕ (Int32 × Kp) := match f_X4_needSpit κ (a) with | .inl (E, κx) => .inl (E, κx) | .inr p1 => (if (b) < 0 then (.inl (nIAE, κ)) else (if (b) ≤ (9) then ((fun κ1 : Kp => .inr (κ (p1) 2, κ1)) (f_X3_countAnew κ (p1) (b))) else (.inl (nIAE, κ))))
set_option maxRecDepth 100000 in
set_option maxHeartbeats 4000000 in
theorem m_X4_turnEach (l : Launch) (g : Gt) (κ : Kp) (sz : Nat) (a : Int32) (b : Int32) (hlst : l.stackTraces = false) : vx_Met l yX4_turnEach (.code yX4_turnEach cX4_turnEach 5 (some .int) :: uW) { frames := 7, cells := 2, slots := 12, locals := 210 } (PRE g κ sz [.ref (g.2.2 (0)), .int (a), .int (b)]) (va_Qi (fun r κ' => f_X4_turnEach κ a b = .inr (r, κ')) (Wp g) (fr g sz)) (xC g sz (fun E κx => f_X4_turnEach κ a b = .inl (E, κx) ∧ E ∈ [nIOE, nIAE])) 2 12 (fr g sz) := by
  refine k_xenter (by decide +kernel) (Nat.le_of_ble_eq_true rfl) ?_
  intro p e s m below meth c ls hM hno hr hl hw hsz
  subst hsz
  have hl : lv_has ls 5 [(0, .ref (g.2.2 (0))), (1, .int (a)), (2, .int (b))] := hl
  have hF := f_X4_turnEach.eq_1 κ a b
  refine lv_aload_n hM.x hM.b dX4_turnEach_0 rfl (lv_at hl 0 rfl) ?_
  refine lv_iload_n hM.x hM.b dX4_turnEach_1 rfl (lv_at hl 1 rfl) ?_
  refine k_xe hw (k_runXV [.int (a)] [] hM hw (m_X4_needSpit l g κ _ (a) hlst) (hw.dm kd_0 (by decide)) (sh4 kd_0) rfl (k_gV u_ml_X4_60 u_im_X4_needSpit u_se_X4_needSpit u_ini_X4 u_co_X4_needSpit) (q_X4_needSpit) rfl rfl rfl ⟨Nat.le_of_ble_eq_true rfl, Nat.le_of_ble_eq_true rfl⟩ hl.1 rfl (Nat.le_of_ble_eq_true rfl) dX4_turnEach_2 ⟨Nat.le_of_ble_eq_true rfl, Nat.le_of_ble_eq_true rfl⟩) (fun E κx ce q9 H locs hx hw h1 h2 h3 => ?_) (fun rz κz H locs hp hw => ?_)
  · simp only [hx.1] at hF
    exact k_xout hM hno hw h1 h2 h3 ⟨hF, (by decide +kernel : ∀ E ∈ [nIOE], E ∈ [nIOE, nIAE]) E hx.2⟩ (Nat.le_of_ble_eq_true rfl) (Nat.le_of_ble_eq_true rfl)
  · obtain ⟨p1, hrz, hp, hkz⟩ := hp
    rw [hkz] at hw
    rw [hrz]
    simp only [hp] at hF
    have hp1 := kdp_X4_needSpit hp
    refine W.eq (g2 := F0 m 5 ls [.ref (g.2.2 (p1))]) rfl ?_
    refine lv_astore_n (lv' := [(3, .ref (g.2.2 (p1))), (0, .ref (g.2.2 (0))), (1, .int (a)), (2, .int (b))]) hM.x hM.b dX4_turnEach_5 rfl hl (by decide) rfl (fun ls hl => ?_)
    refine lv_iload_n hM.x hM.b dX4_turnEach_6 rfl (lv_at hl 3 rfl) ?_
    refine lv_if_lt (tgt := 16) hM.x hM.b dX4_turnEach_7 (by decide) (fun c1 => ?_) (fun c1 => ?_)
    · rw [if_pos c1] at hF
      exact k_throw (cls := nIAE) (text := "minutes is not 0 to 9") (is := 69) hlst hM hno hw (by decide +kernel) u_cl_X4_34 u_ini_JA (by decide +kernel) xIAE1 xIAE2 xIAE3 hl.1 dX4_turnEach_16 dX4_turnEach_19 dX4_turnEach_20 dX4_turnEach_22 dX4_turnEach_25 (Nat.le_of_ble_eq_true rfl) (Nat.le_of_ble_eq_true rfl) (Nat.le_of_ble_eq_true rfl) (Nat.le_of_ble_eq_true rfl) ⟨hF, by decide +kernel⟩ (Nat.le_of_ble_eq_true rfl) (Nat.le_of_ble_eq_true rfl)
    · rw [if_neg c1] at hF
      refine lv_iload_n hM.x hM.b dX4_turnEach_10 rfl (lv_at hl 3 rfl) ?_
      refine lv_bipush (v := 9) hM.x hM.b dX4_turnEach_11 (by decide) ?_
      refine lv_icmp_le (tgt := 26) hM.x hM.b dX4_turnEach_13 (by decide) (fun c2 => ?_) (fun c2 => ?_)
      · rw [if_pos c2] at hF
        refine lv_aload_n hM.x hM.b dX4_turnEach_26 rfl (lv_at hl 0 rfl) ?_
        refine k_get3 2 hM hw hp1 (by decide) u_fl_X4_71 dX4_turnEach_27 ?_
        refine lv_istore (lv' := [(4, .int (κ (p1) 2)), (3, .ref (g.2.2 (p1))), (0, .ref (g.2.2 (0))), (1, .int (a)), (2, .int (b))]) hM.x hM.b dX4_turnEach_30 hl (by decide) rfl (fun ls hl => ?_)
        refine lv_aload_n hM.x hM.b dX4_turnEach_32 rfl (lv_at hl 1 rfl) ?_
        refine lv_iload_n hM.x hM.b dX4_turnEach_33 rfl (lv_at hl 4 rfl) ?_
        refine k_cvp hw (k_runV [.int (b)] [] hM hw (m_X3_countAnew l g κ _ (p1) (b) (hp1)) (hw.dm hp1 (by decide)) (sh3 hp1) rfl (k_gV u_ml_X4_74 u_im_X3_countAnew u_se_X3_countAnew u_ini_X3 u_co_X3_countAnew) (q_X3_countAnew) rfl rfl rfl ⟨Nat.le_of_ble_eq_true rfl, Nat.le_of_ble_eq_true rfl⟩ hl.1 rfl (Nat.le_of_ble_eq_true rfl) dX4_turnEach_34 ⟨Nat.le_of_ble_eq_true rfl, Nat.le_of_ble_eq_true rfl⟩) (fun κ1 H locs eκ1 hw => ?_)
        rw [eκ1] at hF
        try dsimp only at hF
        refine lv_iload hM.x hM.b dX4_turnEach_37 (lv_at hl 0 rfl) ?_
        exact vx_ret (k_iret hM hr hw (Nat.le_of_ble_eq_true rfl) (Nat.le_of_ble_eq_true rfl) hF dX4_turnEach_39)
      · rw [if_neg c2] at hF
        exact k_throw (cls := nIAE) (text := "minutes is not 0 to 9") (is := 69) hlst hM hno hw (by decide +kernel) u_cl_X4_34 u_ini_JA (by decide +kernel) xIAE1 xIAE2 xIAE3 hl.1 dX4_turnEach_16 dX4_turnEach_19 dX4_turnEach_20 dX4_turnEach_22 dX4_turnEach_25 (Nat.le_of_ble_eq_true rfl) (Nat.le_of_ble_eq_true rfl) (Nat.le_of_ble_eq_true rfl) (Nat.le_of_ble_eq_true rfl) ⟨hF, by decide +kernel⟩ (Nat.le_of_ble_eq_true rfl) (Nat.le_of_ble_eq_true rfl)
theorem q_X4_setFeast : hdV yX4_setFeast RX4 1 := ⟨rfl, by decide +kernel, by decide +kernel, by decide +kernel⟩
def f_X4_setFeast (κ : Kp) (a : Int32) : (String × Kp) ⊕ (Int32 × Kp) := if (a) < 0 then (.inl (nIAE, κ)) else (if (a) ≤ (5000) then ((fun κ1 : Kp => .inr (κ (1) 7, κ1)) (up2 κ (1) 7 (a))) else (.inl (nIAE, κ)))
set_option maxRecDepth 100000 in
set_option maxHeartbeats 4000000 in
theorem m_X4_setFeast (l : Launch) (g : Gt) (κ : Kp) (sz : Nat) (a : Int32) (hlst : l.stackTraces = false) : vx_Met l yX4_setFeast (.code yX4_setFeast cX4_setFeast 3 (some .int) :: uW) { frames := 6, cells := 1, slots := 6, locals := 180 } (PRE g κ sz [.ref (g.2.2 (0)), .int (a)]) (va_Qi (fun r κ' => f_X4_setFeast κ a = .inr (r, κ')) (Wp g) (fr g sz)) (xC g sz (fun E κx => f_X4_setFeast κ a = .inl (E, κx) ∧ E ∈ [nIAE])) 1 6 (fr g sz) := by
  refine k_xenter (by decide +kernel) (Nat.le_of_ble_eq_true rfl) ?_
  intro p e s m below meth c ls hM hno hr hl hw hsz
  subst hsz
  have hl : lv_has ls 3 [(0, .ref (g.2.2 (0))), (1, .int (a))] := hl
  have hF := f_X4_setFeast.eq_1 κ a
  refine lv_iload_n hM.x hM.b dX4_setFeast_0 rfl (lv_at hl 1 rfl) ?_
  refine lv_if_lt (tgt := 11) hM.x hM.b dX4_setFeast_1 (by decide) (fun c1 => ?_) (fun c1 => ?_)
  · rw [if_pos c1] at hF
    exact k_throw (cls := nIAE) (text := "minute is not 0 to 5000") (is := 77) hlst hM hno hw (by decide +kernel) u_cl_X4_34 u_ini_JA (by decide +kernel) xIAE1 xIAE2 xIAE3 hl.1 dX4_setFeast_11 dX4_setFeast_14 dX4_setFeast_15 dX4_setFeast_17 dX4_setFeast_20 (Nat.le_of_ble_eq_true rfl) (Nat.le_of_ble_eq_true rfl) (Nat.le_of_ble_eq_true rfl) (Nat.le_of_ble_eq_true rfl) ⟨hF, by decide +kernel⟩ (Nat.le_of_ble_eq_true rfl) (Nat.le_of_ble_eq_true rfl)
  · rw [if_neg c1] at hF
    refine lv_iload_n hM.x hM.b dX4_setFeast_4 rfl (lv_at hl 1 rfl) ?_
    refine lv_sipush (v := 5000) hM.x hM.b dX4_setFeast_5 (by decide) ?_
    refine lv_icmp_le (tgt := 21) hM.x hM.b dX4_setFeast_8 (by decide) (fun c2 => ?_) (fun c2 => ?_)
    · rw [if_pos c2] at hF
      refine lv_aload_n hM.x hM.b dX4_setFeast_21 rfl (lv_at hl 0 rfl) ?_
      refine k_get4a hM hw u_fl_X4_10 dX4_setFeast_22 ?_
      refine k_get1 7 hM hw kd_1 (by decide) u_fl_X4_79 dX4_setFeast_25 ?_
      refine lv_istore_n (lv' := [(2, .int (κ (1) 7)), (0, .ref (g.2.2 (0))), (1, .int (a))]) hM.x hM.b dX4_setFeast_28 rfl hl (by decide) rfl (fun ls hl => ?_)
      refine lv_aload_n hM.x hM.b dX4_setFeast_29 rfl (lv_at hl 1 rfl) ?_
      refine k_get4a hM hw u_fl_X4_10 dX4_setFeast_30 ?_
      refine lv_iload_n hM.x hM.b dX4_setFeast_33 rfl (lv_at hl 2 rfl) ?_
      refine k_put1 7 hM hw kd_1 (by decide) u_fl_X4_79 dX4_setFeast_34 (fun H locs hw => ?_)
      obtain ⟨κ1, eκ1⟩ : ∃ z : Kp, up2 κ (1) 7 (a) = z := ⟨_, rfl⟩
      rw [eκ1] at hw
      rw [eκ1] at hF
      try dsimp only at hF
      refine lv_iload_n hM.x hM.b dX4_setFeast_37 rfl (lv_at hl 0 rfl) ?_
      exact vx_ret (k_iret hM hr hw (Nat.le_of_ble_eq_true rfl) (Nat.le_of_ble_eq_true rfl) hF dX4_setFeast_38)
    · rw [if_neg c2] at hF
      exact k_throw (cls := nIAE) (text := "minute is not 0 to 5000") (is := 77) hlst hM hno hw (by decide +kernel) u_cl_X4_34 u_ini_JA (by decide +kernel) xIAE1 xIAE2 xIAE3 hl.1 dX4_setFeast_11 dX4_setFeast_14 dX4_setFeast_15 dX4_setFeast_17 dX4_setFeast_20 (Nat.le_of_ble_eq_true rfl) (Nat.le_of_ble_eq_true rfl) (Nat.le_of_ble_eq_true rfl) (Nat.le_of_ble_eq_true rfl) ⟨hF, by decide +kernel⟩ (Nat.le_of_ble_eq_true rfl) (Nat.le_of_ble_eq_true rfl)
theorem q_X4_hang : hdV yX4_hang RX4 2 := ⟨rfl, by decide +kernel, by decide +kernel, by decide +kernel⟩
def f_X4_hang (κ : Kp) (a : Int32) (b : Int32) : (String × Kp) ⊕ (Int32 × Kp) := match f_X4_needSpit κ (a) with | .inl (E, κx) => .inl (E, κx) | .inr p1 => (match f_X4_needPounds κ (b) with | .inl (E, κx) => .inl (E, κx) | .inr _ => (match f_X1_placeRoast κ (1) (a) (b) with | (r1, κ1) => (if (r1) = ((-1)) then (.inl (nISE, κ1)) else (.inr (r1, κ1)))))
set_option maxRecDepth 100000 in
set_option maxHeartbeats 4000000 in
theorem m_X4_hang (l : Launch) (g : Gt) (κ : Kp) (sz : Nat) (a : Int32) (b : Int32) (hlst : l.stackTraces = false) : vx_Met l yX4_hang (.code yX4_hang cX4_hang 4 (some .int) :: uW) { frames := 7, cells := 3, slots := 18, locals := 210 } (PRE g κ sz [.ref (g.2.2 (0)), .int (a), .int (b)]) (va_Qi (fun r κ' => f_X4_hang κ a b = .inr (r, κ')) (Wp g) (fr g sz)) (xC g sz (fun E κx => f_X4_hang κ a b = .inl (E, κx) ∧ E ∈ [nIOE, nIAE, nISE])) 3 18 (fr g sz) := by
  refine k_xenter (by decide +kernel) (Nat.le_of_ble_eq_true rfl) ?_
  intro p e s m below meth c ls hM hno hr hl hw hsz
  subst hsz
  have hl : lv_has ls 4 [(0, .ref (g.2.2 (0))), (1, .int (a)), (2, .int (b))] := hl
  have hF := f_X4_hang.eq_1 κ a b
  refine lv_aload_n hM.x hM.b dX4_hang_0 rfl (lv_at hl 0 rfl) ?_
  refine lv_iload_n hM.x hM.b dX4_hang_1 rfl (lv_at hl 1 rfl) ?_
  refine k_xe hw (k_runXV [.int (a)] [] hM hw (m_X4_needSpit l g κ _ (a) hlst) (hw.dm kd_0 (by decide)) (sh4 kd_0) rfl (k_gV u_ml_X4_60 u_im_X4_needSpit u_se_X4_needSpit u_ini_X4 u_co_X4_needSpit) (q_X4_needSpit) rfl rfl rfl ⟨Nat.le_of_ble_eq_true rfl, Nat.le_of_ble_eq_true rfl⟩ hl.1 rfl (Nat.le_of_ble_eq_true rfl) dX4_hang_2 ⟨Nat.le_of_ble_eq_true rfl, Nat.le_of_ble_eq_true rfl⟩) (fun E κx ce q9 H locs hx hw h1 h2 h3 => ?_) (fun rz κz H locs hp hw => ?_)
  · simp only [hx.1] at hF
    exact k_xout hM hno hw h1 h2 h3 ⟨hF, (by decide +kernel : ∀ E ∈ [nIOE], E ∈ [nIOE, nIAE, nISE]) E hx.2⟩ (Nat.le_of_ble_eq_true rfl) (Nat.le_of_ble_eq_true rfl)
  · obtain ⟨p1, hrz, hp, hkz⟩ := hp
    rw [hkz] at hw
    rw [hrz]
    simp only [hp] at hF
    have hp1 := kdp_X4_needSpit hp
    refine W.eq (g2 := F0 m 5 ls [.ref (g.2.2 (p1))]) rfl ?_
    refine lv_pop hM.x hM.b dX4_hang_5 rfl ?_
    refine lv_iload_n hM.x hM.b dX4_hang_6 rfl (lv_at hl 2 rfl) ?_
    refine k_xv hw (k_runXS [.int (b)] [] hM hw (m_X4_needPounds l g κ _ (b) hlst) (k_gS u_ml_X4_82 u_st_X4_needPounds u_ini_X4 u_co_X4_needPounds) (q_X4_needPounds) rfl rfl rfl ⟨Nat.le_of_ble_eq_true rfl, Nat.le_of_ble_eq_true rfl⟩ hl.1 rfl (Nat.le_of_ble_eq_true rfl) dX4_hang_7 ⟨Nat.le_of_ble_eq_true rfl, Nat.le_of_ble_eq_true rfl⟩) (fun E κx ce q9 H locs hx hw h1 h2 h3 => ?_) (fun κz H locs hp hw => ?_)
    · simp only [hx.1] at hF
      exact k_xout hM hno hw h1 h2 h3 ⟨hF, (by decide +kernel : ∀ E ∈ [nIAE], E ∈ [nIOE, nIAE, nISE]) E hx.2⟩ (Nat.le_of_ble_eq_true rfl) (Nat.le_of_ble_eq_true rfl)
    · obtain ⟨hp, hkz⟩ := hp
      rw [hkz] at hw
      simp only [hp] at hF
      refine lv_aload_n hM.x hM.b dX4_hang_10 rfl (lv_at hl 0 rfl) ?_
      refine k_get4a hM hw u_fl_X4_10 dX4_hang_11 ?_
      refine lv_iload_n hM.x hM.b dX4_hang_14 rfl (lv_at hl 1 rfl) ?_
      refine lv_iload_n hM.x hM.b dX4_hang_15 rfl (lv_at hl 2 rfl) ?_
      refine k_ci hw (k_runV [.int (a), .int (b)] [] hM hw (m_X1_placeRoast l g κ _ (1) (a) (b) (kd_1)) (hw.dm kd_1 (by decide)) (sh1 kd_1) rfl (k_gV u_ml_X4_85 u_im_X1_placeRoast u_se_X1_placeRoast u_ini_X1 u_co_X1_placeRoast) (q_X1_placeRoast) rfl rfl rfl ⟨Nat.le_of_ble_eq_true rfl, Nat.le_of_ble_eq_true rfl⟩ hl.1 rfl (Nat.le_of_ble_eq_true rfl) dX4_hang_16 ⟨Nat.le_of_ble_eq_true rfl, Nat.le_of_ble_eq_true rfl⟩) (fun r1 κ1 H locs hpκ1 hw => ?_)
      simp only [hpκ1] at hF
      refine lv_istore_n (lv' := [(3, .int (r1)), (0, .ref (g.2.2 (0))), (1, .int (a)), (2, .int (b))]) hM.x hM.b dX4_hang_19 rfl hl (by decide) rfl (fun ls hl => ?_)
      refine lv_iload_n hM.x hM.b dX4_hang_20 rfl (lv_at hl 0 rfl) ?_
      refine lv_iconst (v := -1) hM.x hM.b dX4_hang_21 (by decide) ?_
      refine lv_icmp_ne (tgt := 35) hM.x hM.b dX4_hang_22 (by decide) (fun c1 => ?_) (fun c1 => ?_)
      · rw [if_neg c1] at hF
        refine lv_iload_n hM.x hM.b dX4_hang_35 rfl (lv_at hl 0 rfl) ?_
        exact vx_ret (k_iret hM hr hw (Nat.le_of_ble_eq_true rfl) (Nat.le_of_ble_eq_true rfl) hF dX4_hang_36)
      · rw [if_pos c1] at hF
        exact k_throw (cls := nISE) (text := "the spit has a roast, or 16 roasts were hung already") (is := 88) hlst hM hno hw (by decide +kernel) u_cl_X4_23 u_ini_JS (by decide +kernel) xISE1 xISE2 xISE3 hl.1 dX4_hang_25 dX4_hang_28 dX4_hang_29 dX4_hang_31 dX4_hang_34 (Nat.le_of_ble_eq_true rfl) (Nat.le_of_ble_eq_true rfl) (Nat.le_of_ble_eq_true rfl) (Nat.le_of_ble_eq_true rfl) ⟨hF, by decide +kernel⟩ (Nat.le_of_ble_eq_true rfl) (Nat.le_of_ble_eq_true rfl)
theorem q_X4_turnNow : hdV yX4_turnNow RX4 1 := ⟨rfl, by decide +kernel, by decide +kernel, by decide +kernel⟩
def f_X4_turnNow (κ : Kp) (a : Int32) : (String × Kp) ⊕ (Int32 × Kp) := match f_X4_needSpit κ (a) with | .inl (E, κx) => .inl (E, κx) | .inr p1 => (match f_X4_needRoastOf κ (p1) with | .inl (E, κx) => .inl (E, κx) | .inr p2 => ((fun κ1 : Kp => .inr (κ1 (p2) 3, κ1)) (f_X2_turn κ (p2))))
set_option maxRecDepth 100000 in
set_option maxHeartbeats 4000000 in
theorem m_X4_turnNow (l : Launch) (g : Gt) (κ : Kp) (sz : Nat) (a : Int32) (hlst : l.stackTraces = false) : vx_Met l yX4_turnNow (.code yX4_turnNow cX4_turnNow 3 (some .int) :: uW) { frames := 7, cells := 2, slots := 12, locals := 210 } (PRE g κ sz [.ref (g.2.2 (0)), .int (a)]) (va_Qi (fun r κ' => f_X4_turnNow κ a = .inr (r, κ')) (Wp g) (fr g sz)) (xC g sz (fun E κx => f_X4_turnNow κ a = .inl (E, κx) ∧ E ∈ [nIOE, nISE])) 2 12 (fr g sz) := by
  refine k_xenter (by decide +kernel) (Nat.le_of_ble_eq_true rfl) ?_
  intro p e s m below meth c ls hM hno hr hl hw hsz
  subst hsz
  have hl : lv_has ls 3 [(0, .ref (g.2.2 (0))), (1, .int (a))] := hl
  have hF := f_X4_turnNow.eq_1 κ a
  refine lv_aload_n hM.x hM.b dX4_turnNow_0 rfl (lv_at hl 0 rfl) ?_
  refine lv_aload_n hM.x hM.b dX4_turnNow_1 rfl (lv_at hl 0 rfl) ?_
  refine lv_iload_n hM.x hM.b dX4_turnNow_2 rfl (lv_at hl 1 rfl) ?_
  refine k_xe hw (k_runXV [.int (a)] [.ref (g.2.2 (0))] hM hw (m_X4_needSpit l g κ _ (a) hlst) (hw.dm kd_0 (by decide)) (sh4 kd_0) rfl (k_gV u_ml_X4_60 u_im_X4_needSpit u_se_X4_needSpit u_ini_X4 u_co_X4_needSpit) (q_X4_needSpit) rfl rfl rfl ⟨Nat.le_of_ble_eq_true rfl, Nat.le_of_ble_eq_true rfl⟩ hl.1 rfl (Nat.le_of_ble_eq_true rfl) dX4_turnNow_3 ⟨Nat.le_of_ble_eq_true rfl, Nat.le_of_ble_eq_true rfl⟩) (fun E κx ce q9 H locs hx hw h1 h2 h3 => ?_) (fun rz κz H locs hp hw => ?_)
  · simp only [hx.1] at hF
    exact k_xout hM hno hw h1 h2 h3 ⟨hF, (by decide +kernel : ∀ E ∈ [nIOE], E ∈ [nIOE, nISE]) E hx.2⟩ (Nat.le_of_ble_eq_true rfl) (Nat.le_of_ble_eq_true rfl)
  · obtain ⟨p1, hrz, hp, hkz⟩ := hp
    rw [hkz] at hw
    rw [hrz]
    simp only [hp] at hF
    have hp1 := kdp_X4_needSpit hp
    refine W.eq (g2 := F0 m 6 ls [.ref (g.2.2 (p1)), .ref (g.2.2 (0))]) rfl ?_
    refine k_xe hw (k_runXV [.ref (g.2.2 (p1))] [] hM hw (m_X4_needRoastOf l g κ _ (p1) (hp1) hlst) (hw.dm kd_0 (by decide)) (sh4 kd_0) rfl (k_gV u_ml_X4_90 u_im_X4_needRoastOf u_se_X4_needRoastOf u_ini_X4 u_co_X4_needRoastOf) (q_X4_needRoastOf) rfl rfl rfl ⟨Nat.le_of_ble_eq_true rfl, Nat.le_of_ble_eq_true rfl⟩ hl.1 rfl (Nat.le_of_ble_eq_true rfl) dX4_turnNow_6 ⟨Nat.le_of_ble_eq_true rfl, Nat.le_of_ble_eq_true rfl⟩) (fun E κx ce q9 H locs hx hw h1 h2 h3 => ?_) (fun rz κz H locs hp hw => ?_)
    · simp only [hx.1] at hF
      exact k_xout hM hno hw h1 h2 h3 ⟨hF, (by decide +kernel : ∀ E ∈ [nISE], E ∈ [nIOE, nISE]) E hx.2⟩ (Nat.le_of_ble_eq_true rfl) (Nat.le_of_ble_eq_true rfl)
    · obtain ⟨p2, hrz, hp, hkz⟩ := hp
      rw [hkz] at hw
      rw [hrz]
      simp only [hp] at hF
      have hp2 := kdp_X4_needRoastOf hp
      refine W.eq (g2 := F0 m 9 ls [.ref (g.2.2 (p2))]) rfl ?_
      refine lv_astore_n (lv' := [(2, .ref (g.2.2 (p2))), (0, .ref (g.2.2 (0))), (1, .int (a))]) hM.x hM.b dX4_turnNow_9 rfl hl (by decide) rfl (fun ls hl => ?_)
      refine lv_aload_n hM.x hM.b dX4_turnNow_10 rfl (lv_at hl 0 rfl) ?_
      refine k_cvp hw (k_runV [] [] hM hw (m_X2_turn l g κ _ (p2) (hp2)) (hw.dm hp2 (by decide)) (sh2 hp2) rfl (k_gV u_ml_X4_94 u_im_X2_turn u_se_X2_turn u_ini_X2 u_co_X2_turn) (q_X2_turn) rfl rfl rfl ⟨Nat.le_of_ble_eq_true rfl, Nat.le_of_ble_eq_true rfl⟩ hl.1 rfl (Nat.le_of_ble_eq_true rfl) dX4_turnNow_11 ⟨Nat.le_of_ble_eq_true rfl, Nat.le_of_ble_eq_true rfl⟩) (fun κ1 H locs eκ1 hw => ?_)
      rw [eκ1] at hF
      try dsimp only at hF
      refine lv_aload_n hM.x hM.b dX4_turnNow_14 rfl (lv_at hl 0 rfl) ?_
      refine k_get2 3 hM hw hp2 (by decide) u_fl_X4_99 dX4_turnNow_15 ?_
      exact vx_ret (k_iret hM hr hw (Nat.le_of_ble_eq_true rfl) (Nat.le_of_ble_eq_true rfl) hF dX4_turnNow_18)
theorem q_X4_baste : hdV yX4_baste RX4 1 := ⟨rfl, by decide +kernel, by decide +kernel, by decide +kernel⟩
def f_X4_baste (κ : Kp) (a : Int32) : (String × Kp) ⊕ (Int32 × Kp) := match f_X4_needSpit κ (a) with | .inl (E, κx) => .inl (E, κx) | .inr p1 => (match f_X4_needRoastOf κ (p1) with | .inl (E, κx) => .inl (E, κx) | .inr p2 => (if (2) ≤ (κ (p1) 4) then ((fun κ1 : Kp => (fun κ2 : Kp => .inr (κ2 (p1) 4, κ2)) (up2 κ1 (p2) 5 (3))) (up2 κ (p1) 4 (((κ (p1) 4) - (2))))) else (.inl (nISE, κ))))
set_option maxRecDepth 100000 in
set_option maxHeartbeats 4000000 in
theorem m_X4_baste (l : Launch) (g : Gt) (κ : Kp) (sz : Nat) (a : Int32) (hlst : l.stackTraces = false) : vx_Met l yX4_baste (.code yX4_baste cX4_baste 4 (some .int) :: uW) { frames := 7, cells := 3, slots := 18, locals := 210 } (PRE g κ sz [.ref (g.2.2 (0)), .int (a)]) (va_Qi (fun r κ' => f_X4_baste κ a = .inr (r, κ')) (Wp g) (fr g sz)) (xC g sz (fun E κx => f_X4_baste κ a = .inl (E, κx) ∧ E ∈ [nIOE, nISE])) 3 18 (fr g sz) := by
  refine k_xenter (by decide +kernel) (Nat.le_of_ble_eq_true rfl) ?_
  intro p e s m below meth c ls hM hno hr hl hw hsz
  subst hsz
  have hl : lv_has ls 4 [(0, .ref (g.2.2 (0))), (1, .int (a))] := hl
  have hF := f_X4_baste.eq_1 κ a
  refine lv_aload_n hM.x hM.b dX4_baste_0 rfl (lv_at hl 0 rfl) ?_
  refine lv_iload_n hM.x hM.b dX4_baste_1 rfl (lv_at hl 1 rfl) ?_
  refine k_xe hw (k_runXV [.int (a)] [] hM hw (m_X4_needSpit l g κ _ (a) hlst) (hw.dm kd_0 (by decide)) (sh4 kd_0) rfl (k_gV u_ml_X4_60 u_im_X4_needSpit u_se_X4_needSpit u_ini_X4 u_co_X4_needSpit) (q_X4_needSpit) rfl rfl rfl ⟨Nat.le_of_ble_eq_true rfl, Nat.le_of_ble_eq_true rfl⟩ hl.1 rfl (Nat.le_of_ble_eq_true rfl) dX4_baste_2 ⟨Nat.le_of_ble_eq_true rfl, Nat.le_of_ble_eq_true rfl⟩) (fun E κx ce q9 H locs hx hw h1 h2 h3 => ?_) (fun rz κz H locs hp hw => ?_)
  · simp only [hx.1] at hF
    exact k_xout hM hno hw h1 h2 h3 ⟨hF, (by decide +kernel : ∀ E ∈ [nIOE], E ∈ [nIOE, nISE]) E hx.2⟩ (Nat.le_of_ble_eq_true rfl) (Nat.le_of_ble_eq_true rfl)
  · obtain ⟨p1, hrz, hp, hkz⟩ := hp
    rw [hkz] at hw
    rw [hrz]
    simp only [hp] at hF
    have hp1 := kdp_X4_needSpit hp
    refine W.eq (g2 := F0 m 5 ls [.ref (g.2.2 (p1))]) rfl ?_
    refine lv_astore_n (lv' := [(2, .ref (g.2.2 (p1))), (0, .ref (g.2.2 (0))), (1, .int (a))]) hM.x hM.b dX4_baste_5 rfl hl (by decide) rfl (fun ls hl => ?_)
    refine lv_aload_n hM.x hM.b dX4_baste_6 rfl (lv_at hl 1 rfl) ?_
    refine lv_aload_n hM.x hM.b dX4_baste_7 rfl (lv_at hl 0 rfl) ?_
    refine k_xe hw (k_runXV [.ref (g.2.2 (p1))] [] hM hw (m_X4_needRoastOf l g κ _ (p1) (hp1) hlst) (hw.dm kd_0 (by decide)) (sh4 kd_0) rfl (k_gV u_ml_X4_90 u_im_X4_needRoastOf u_se_X4_needRoastOf u_ini_X4 u_co_X4_needRoastOf) (q_X4_needRoastOf) rfl rfl rfl ⟨Nat.le_of_ble_eq_true rfl, Nat.le_of_ble_eq_true rfl⟩ hl.1 rfl (Nat.le_of_ble_eq_true rfl) dX4_baste_8 ⟨Nat.le_of_ble_eq_true rfl, Nat.le_of_ble_eq_true rfl⟩) (fun E κx ce q9 H locs hx hw h1 h2 h3 => ?_) (fun rz κz H locs hp hw => ?_)
    · simp only [hx.1] at hF
      exact k_xout hM hno hw h1 h2 h3 ⟨hF, (by decide +kernel : ∀ E ∈ [nISE], E ∈ [nIOE, nISE]) E hx.2⟩ (Nat.le_of_ble_eq_true rfl) (Nat.le_of_ble_eq_true rfl)
    · obtain ⟨p2, hrz, hp, hkz⟩ := hp
      rw [hkz] at hw
      rw [hrz]
      simp only [hp] at hF
      have hp2 := kdp_X4_needRoastOf hp
      refine W.eq (g2 := F0 m 11 ls [.ref (g.2.2 (p2))]) rfl ?_
      refine lv_astore_n (lv' := [(3, .ref (g.2.2 (p2))), (2, .ref (g.2.2 (p1))), (0, .ref (g.2.2 (0))), (1, .int (a))]) hM.x hM.b dX4_baste_11 rfl hl (by decide) rfl (fun ls hl => ?_)
      refine lv_aload_n hM.x hM.b dX4_baste_12 rfl (lv_at hl 1 rfl) ?_
      refine k_get3 4 hM hw hp1 (by decide) u_fl_X4_102 dX4_baste_13 ?_
      refine lv_iconst (v := 2) hM.x hM.b dX4_baste_16 (by decide) ?_
      refine lv_icmp_ge (tgt := 30) hM.x hM.b dX4_baste_17 (by decide) (fun c1 => ?_) (fun c1 => ?_)
      · rw [if_pos c1] at hF
        refine lv_aload_n hM.x hM.b dX4_baste_30 rfl (lv_at hl 1 rfl) ?_
        refine lv_dup hM.x hM.b dX4_baste_31 rfl ?_
        refine k_get3 4 hM hw hp1 (by decide) u_fl_X4_102 dX4_baste_32 ?_
        refine lv_iconst (v := 2) hM.x hM.b dX4_baste_35 (by decide) ?_
        refine lv_isub hM.x hM.b dX4_baste_36 ?_
        refine k_put3 4 hM hw hp1 (by decide) u_fl_X4_102 dX4_baste_37 (fun H locs hw => ?_)
        obtain ⟨κ1, eκ1⟩ : ∃ z : Kp, up2 κ (p1) 4 (((κ (p1) 4) - (2))) = z := ⟨_, rfl⟩
        rw [eκ1] at hw
        rw [eκ1] at hF
        try dsimp only at hF
        refine lv_aload_n hM.x hM.b dX4_baste_40 rfl (lv_at hl 0 rfl) ?_
        refine lv_iconst (v := 3) hM.x hM.b dX4_baste_41 (by decide) ?_
        refine k_put2 5 hM hw hp2 (by decide) u_fl_X4_107 dX4_baste_42 (fun H locs hw => ?_)
        obtain ⟨κ2, eκ2⟩ : ∃ z : Kp, up2 κ1 (p2) 5 (3) = z := ⟨_, rfl⟩
        rw [eκ2] at hw
        rw [eκ2] at hF
        try dsimp only at hF
        refine lv_aload_n hM.x hM.b dX4_baste_45 rfl (lv_at hl 1 rfl) ?_
        refine k_get3 4 hM hw hp1 (by decide) u_fl_X4_102 dX4_baste_46 ?_
        exact vx_ret (k_iret hM hr hw (Nat.le_of_ble_eq_true rfl) (Nat.le_of_ble_eq_true rfl) hF dX4_baste_49)
      · rw [if_neg c1] at hF
        exact k_throw (cls := nISE) (text := "the pan has less than 2 drippings") (is := 105) hlst hM hno hw (by decide +kernel) u_cl_X4_23 u_ini_JS (by decide +kernel) xISE1 xISE2 xISE3 hl.1 dX4_baste_20 dX4_baste_23 dX4_baste_24 dX4_baste_26 dX4_baste_29 (Nat.le_of_ble_eq_true rfl) (Nat.le_of_ble_eq_true rfl) (Nat.le_of_ble_eq_true rfl) (Nat.le_of_ble_eq_true rfl) ⟨hF, by decide +kernel⟩ (Nat.le_of_ble_eq_true rfl) (Nat.le_of_ble_eq_true rfl)
theorem q_X4_takeDown : hdV yX4_takeDown RX4 1 := ⟨rfl, by decide +kernel, by decide +kernel, by decide +kernel⟩
def f_X4_takeDown (κ : Kp) (a : Int32) : (String × Kp) ⊕ (Int32 × Kp) := match f_X4_needSpit κ (a) with | .inl (E, κx) => .inl (E, κx) | .inr p1 => (match f_X4_needRoastOf κ (p1) with | .inl (E, κx) => .inl (E, κx) | .inr p2 => ((fun κ1 : Kp => (fun κ2 : Kp => .inr (κ (p1) 5, κ2)) (up2 κ1 (p1) 5 ((-1)))) (up2 κ (p2) 2 ((-1)))))
set_option maxRecDepth 100000 in
set_option maxHeartbeats 4000000 in
theorem m_X4_takeDown (l : Launch) (g : Gt) (κ : Kp) (sz : Nat) (a : Int32) (hlst : l.stackTraces = false) : vx_Met l yX4_takeDown (.code yX4_takeDown cX4_takeDown 5 (some .int) :: uW) { frames := 7, cells := 2, slots := 12, locals := 210 } (PRE g κ sz [.ref (g.2.2 (0)), .int (a)]) (va_Qi (fun r κ' => f_X4_takeDown κ a = .inr (r, κ')) (Wp g) (fr g sz)) (xC g sz (fun E κx => f_X4_takeDown κ a = .inl (E, κx) ∧ E ∈ [nIOE, nISE])) 2 12 (fr g sz) := by
  refine k_xenter (by decide +kernel) (Nat.le_of_ble_eq_true rfl) ?_
  intro p e s m below meth c ls hM hno hr hl hw hsz
  subst hsz
  have hl : lv_has ls 5 [(0, .ref (g.2.2 (0))), (1, .int (a))] := hl
  have hF := f_X4_takeDown.eq_1 κ a
  refine lv_aload_n hM.x hM.b dX4_takeDown_0 rfl (lv_at hl 0 rfl) ?_
  refine lv_iload_n hM.x hM.b dX4_takeDown_1 rfl (lv_at hl 1 rfl) ?_
  refine k_xe hw (k_runXV [.int (a)] [] hM hw (m_X4_needSpit l g κ _ (a) hlst) (hw.dm kd_0 (by decide)) (sh4 kd_0) rfl (k_gV u_ml_X4_60 u_im_X4_needSpit u_se_X4_needSpit u_ini_X4 u_co_X4_needSpit) (q_X4_needSpit) rfl rfl rfl ⟨Nat.le_of_ble_eq_true rfl, Nat.le_of_ble_eq_true rfl⟩ hl.1 rfl (Nat.le_of_ble_eq_true rfl) dX4_takeDown_2 ⟨Nat.le_of_ble_eq_true rfl, Nat.le_of_ble_eq_true rfl⟩) (fun E κx ce q9 H locs hx hw h1 h2 h3 => ?_) (fun rz κz H locs hp hw => ?_)
  · simp only [hx.1] at hF
    exact k_xout hM hno hw h1 h2 h3 ⟨hF, (by decide +kernel : ∀ E ∈ [nIOE], E ∈ [nIOE, nISE]) E hx.2⟩ (Nat.le_of_ble_eq_true rfl) (Nat.le_of_ble_eq_true rfl)
  · obtain ⟨p1, hrz, hp, hkz⟩ := hp
    rw [hkz] at hw
    rw [hrz]
    simp only [hp] at hF
    have hp1 := kdp_X4_needSpit hp
    refine W.eq (g2 := F0 m 5 ls [.ref (g.2.2 (p1))]) rfl ?_
    refine lv_astore_n (lv' := [(2, .ref (g.2.2 (p1))), (0, .ref (g.2.2 (0))), (1, .int (a))]) hM.x hM.b dX4_takeDown_5 rfl hl (by decide) rfl (fun ls hl => ?_)
    refine lv_aload_n hM.x hM.b dX4_takeDown_6 rfl (lv_at hl 1 rfl) ?_
    refine lv_aload_n hM.x hM.b dX4_takeDown_7 rfl (lv_at hl 0 rfl) ?_
    refine k_xe hw (k_runXV [.ref (g.2.2 (p1))] [] hM hw (m_X4_needRoastOf l g κ _ (p1) (hp1) hlst) (hw.dm kd_0 (by decide)) (sh4 kd_0) rfl (k_gV u_ml_X4_90 u_im_X4_needRoastOf u_se_X4_needRoastOf u_ini_X4 u_co_X4_needRoastOf) (q_X4_needRoastOf) rfl rfl rfl ⟨Nat.le_of_ble_eq_true rfl, Nat.le_of_ble_eq_true rfl⟩ hl.1 rfl (Nat.le_of_ble_eq_true rfl) dX4_takeDown_8 ⟨Nat.le_of_ble_eq_true rfl, Nat.le_of_ble_eq_true rfl⟩) (fun E κx ce q9 H locs hx hw h1 h2 h3 => ?_) (fun rz κz H locs hp hw => ?_)
    · simp only [hx.1] at hF
      exact k_xout hM hno hw h1 h2 h3 ⟨hF, (by decide +kernel : ∀ E ∈ [nISE], E ∈ [nIOE, nISE]) E hx.2⟩ (Nat.le_of_ble_eq_true rfl) (Nat.le_of_ble_eq_true rfl)
    · obtain ⟨p2, hrz, hp, hkz⟩ := hp
      rw [hkz] at hw
      rw [hrz]
      simp only [hp] at hF
      have hp2 := kdp_X4_needRoastOf hp
      refine W.eq (g2 := F0 m 11 ls [.ref (g.2.2 (p2))]) rfl ?_
      refine lv_astore_n (lv' := [(3, .ref (g.2.2 (p2))), (2, .ref (g.2.2 (p1))), (0, .ref (g.2.2 (0))), (1, .int (a))]) hM.x hM.b dX4_takeDown_11 rfl hl (by decide) rfl (fun ls hl => ?_)
      refine lv_aload_n hM.x hM.b dX4_takeDown_12 rfl (lv_at hl 1 rfl) ?_
      refine k_get3 5 hM hw hp1 (by decide) u_fl_X4_110 dX4_takeDown_13 ?_
      refine lv_istore (lv' := [(4, .int (κ (p1) 5)), (3, .ref (g.2.2 (p2))), (2, .ref (g.2.2 (p1))), (0, .ref (g.2.2 (0))), (1, .int (a))]) hM.x hM.b dX4_takeDown_16 hl (by decide) rfl (fun ls hl => ?_)
      refine lv_aload_n hM.x hM.b dX4_takeDown_18 rfl (lv_at hl 1 rfl) ?_
      refine lv_iconst (v := -1) hM.x hM.b dX4_takeDown_19 (by decide) ?_
      refine k_put2 2 hM hw hp2 (by decide) u_fl_X4_113 dX4_takeDown_20 (fun H locs hw => ?_)
      obtain ⟨κ1, eκ1⟩ : ∃ z : Kp, up2 κ (p2) 2 ((-1)) = z := ⟨_, rfl⟩
      rw [eκ1] at hw
      rw [eκ1] at hF
      try dsimp only at hF
      refine lv_aload_n hM.x hM.b dX4_takeDown_23 rfl (lv_at hl 2 rfl) ?_
      refine lv_iconst (v := -1) hM.x hM.b dX4_takeDown_24 (by decide) ?_
      refine k_put3 5 hM hw hp1 (by decide) u_fl_X4_110 dX4_takeDown_25 (fun H locs hw => ?_)
      obtain ⟨κ2, eκ2⟩ : ∃ z : Kp, up2 κ1 (p1) 5 ((-1)) = z := ⟨_, rfl⟩
      rw [eκ2] at hw
      rw [eκ2] at hF
      try dsimp only at hF
      refine lv_iload hM.x hM.b dX4_takeDown_28 (lv_at hl 0 rfl) ?_
      exact vx_ret (k_iret hM hr hw (Nat.le_of_ble_eq_true rfl) (Nat.le_of_ble_eq_true rfl) hF dX4_takeDown_30)
theorem q_X4_emptyPan : hdV yX4_emptyPan RX4 1 := ⟨rfl, by decide +kernel, by decide +kernel, by decide +kernel⟩
def f_X4_emptyPan (κ : Kp) (a : Int32) : (String × Kp) ⊕ (Int32 × Kp) := match f_X4_needSpit κ (a) with | .inl (E, κx) => .inl (E, κx) | .inr p1 => ((fun κ1 : Kp => .inr (κ (p1) 4, κ1)) (up2 κ (p1) 4 (0)))
set_option maxRecDepth 100000 in
set_option maxHeartbeats 4000000 in
theorem m_X4_emptyPan (l : Launch) (g : Gt) (κ : Kp) (sz : Nat) (a : Int32) (hlst : l.stackTraces = false) : vx_Met l yX4_emptyPan (.code yX4_emptyPan cX4_emptyPan 4 (some .int) :: uW) { frames := 7, cells := 1, slots := 6, locals := 210 } (PRE g κ sz [.ref (g.2.2 (0)), .int (a)]) (va_Qi (fun r κ' => f_X4_emptyPan κ a = .inr (r, κ')) (Wp g) (fr g sz)) (xC g sz (fun E κx => f_X4_emptyPan κ a = .inl (E, κx) ∧ E ∈ [nIOE])) 1 6 (fr g sz) := by
  refine k_xenter (by decide +kernel) (Nat.le_of_ble_eq_true rfl) ?_
  intro p e s m below meth c ls hM hno hr hl hw hsz
  subst hsz
  have hl : lv_has ls 4 [(0, .ref (g.2.2 (0))), (1, .int (a))] := hl
  have hF := f_X4_emptyPan.eq_1 κ a
  refine lv_aload_n hM.x hM.b dX4_emptyPan_0 rfl (lv_at hl 0 rfl) ?_
  refine lv_iload_n hM.x hM.b dX4_emptyPan_1 rfl (lv_at hl 1 rfl) ?_
  refine k_xe hw (k_runXV [.int (a)] [] hM hw (m_X4_needSpit l g κ _ (a) hlst) (hw.dm kd_0 (by decide)) (sh4 kd_0) rfl (k_gV u_ml_X4_60 u_im_X4_needSpit u_se_X4_needSpit u_ini_X4 u_co_X4_needSpit) (q_X4_needSpit) rfl rfl rfl ⟨Nat.le_of_ble_eq_true rfl, Nat.le_of_ble_eq_true rfl⟩ hl.1 rfl (Nat.le_of_ble_eq_true rfl) dX4_emptyPan_2 ⟨Nat.le_of_ble_eq_true rfl, Nat.le_of_ble_eq_true rfl⟩) (fun E κx ce q9 H locs hx hw h1 h2 h3 => ?_) (fun rz κz H locs hp hw => ?_)
  · simp only [hx.1] at hF
    exact k_xout hM hno hw h1 h2 h3 ⟨hF, (by decide +kernel : ∀ E ∈ [nIOE], E ∈ [nIOE]) E hx.2⟩ (Nat.le_of_ble_eq_true rfl) (Nat.le_of_ble_eq_true rfl)
  · obtain ⟨p1, hrz, hp, hkz⟩ := hp
    rw [hkz] at hw
    rw [hrz]
    simp only [hp] at hF
    have hp1 := kdp_X4_needSpit hp
    refine W.eq (g2 := F0 m 5 ls [.ref (g.2.2 (p1))]) rfl ?_
    refine lv_astore_n (lv' := [(2, .ref (g.2.2 (p1))), (0, .ref (g.2.2 (0))), (1, .int (a))]) hM.x hM.b dX4_emptyPan_5 rfl hl (by decide) rfl (fun ls hl => ?_)
    refine lv_aload_n hM.x hM.b dX4_emptyPan_6 rfl (lv_at hl 0 rfl) ?_
    refine k_get3 4 hM hw hp1 (by decide) u_fl_X4_102 dX4_emptyPan_7 ?_
    refine lv_istore_n (lv' := [(3, .int (κ (p1) 4)), (2, .ref (g.2.2 (p1))), (0, .ref (g.2.2 (0))), (1, .int (a))]) hM.x hM.b dX4_emptyPan_10 rfl hl (by decide) rfl (fun ls hl => ?_)
    refine lv_aload_n hM.x hM.b dX4_emptyPan_11 rfl (lv_at hl 1 rfl) ?_
    refine lv_iconst (v := 0) hM.x hM.b dX4_emptyPan_12 (by decide) ?_
    refine k_put3 4 hM hw hp1 (by decide) u_fl_X4_102 dX4_emptyPan_13 (fun H locs hw => ?_)
    obtain ⟨κ1, eκ1⟩ : ∃ z : Kp, up2 κ (p1) 4 (0) = z := ⟨_, rfl⟩
    rw [eκ1] at hw
    rw [eκ1] at hF
    try dsimp only at hF
    refine lv_iload_n hM.x hM.b dX4_emptyPan_16 rfl (lv_at hl 0 rfl) ?_
    exact vx_ret (k_iret hM hr hw (Nat.le_of_ble_eq_true rfl) (Nat.le_of_ble_eq_true rfl) hF dX4_emptyPan_17)
theorem q_X4_pass : hdV yX4_pass RX4 1 := ⟨rfl, by decide +kernel, by decide +kernel, by decide +kernel⟩
def f_X4_pass (κ : Kp) (a : Int32) : (String × Kp) ⊕ (Int32 × Kp) := if (a) < (1) then (.inl (nIAE, κ)) else (if (a) ≤ (200) then (match f_X1_goMinutes κ (1) (a) with | (r1, κ1) => (.inr (r1, κ1))) else (.inl (nIAE, κ)))
set_option maxRecDepth 100000 in
set_option maxHeartbeats 4000000 in
theorem m_X4_pass (l : Launch) (g : Gt) (κ : Kp) (sz : Nat) (a : Int32) (hlst : l.stackTraces = false) : vx_Met l yX4_pass (.code yX4_pass cX4_pass 2 (some .int) :: uW) { frames := 6, cells := 1, slots := 6, locals := 180 } (PRE g κ sz [.ref (g.2.2 (0)), .int (a)]) (va_Qi (fun r κ' => f_X4_pass κ a = .inr (r, κ')) (Wp g) (fr g sz)) (xC g sz (fun E κx => f_X4_pass κ a = .inl (E, κx) ∧ E ∈ [nIAE])) 1 6 (fr g sz) := by
  refine k_xenter (by decide +kernel) (Nat.le_of_ble_eq_true rfl) ?_
  intro p e s m below meth c ls hM hno hr hl hw hsz
  subst hsz
  have hl : lv_has ls 2 [(0, .ref (g.2.2 (0))), (1, .int (a))] := hl
  have hF := f_X4_pass.eq_1 κ a
  refine lv_iload_n hM.x hM.b dX4_pass_0 rfl (lv_at hl 1 rfl) ?_
  refine lv_iconst (v := 1) hM.x hM.b dX4_pass_1 (by decide) ?_
  refine lv_icmp_lt (tgt := 12) hM.x hM.b dX4_pass_2 (by decide) (fun c1 => ?_) (fun c1 => ?_)
  · rw [if_pos c1] at hF
    exact k_throw (cls := nIAE) (text := "minutes is not 1 to 200") (is := 116) hlst hM hno hw (by decide +kernel) u_cl_X4_34 u_ini_JA (by decide +kernel) xIAE1 xIAE2 xIAE3 hl.1 dX4_pass_12 dX4_pass_15 dX4_pass_16 dX4_pass_18 dX4_pass_21 (Nat.le_of_ble_eq_true rfl) (Nat.le_of_ble_eq_true rfl) (Nat.le_of_ble_eq_true rfl) (Nat.le_of_ble_eq_true rfl) ⟨hF, by decide +kernel⟩ (Nat.le_of_ble_eq_true rfl) (Nat.le_of_ble_eq_true rfl)
  · rw [if_neg c1] at hF
    refine lv_iload_n hM.x hM.b dX4_pass_5 rfl (lv_at hl 1 rfl) ?_
    refine lv_sipush (v := 200) hM.x hM.b dX4_pass_6 (by decide) ?_
    refine lv_icmp_le (tgt := 22) hM.x hM.b dX4_pass_9 (by decide) (fun c2 => ?_) (fun c2 => ?_)
    · rw [if_pos c2] at hF
      refine lv_aload_n hM.x hM.b dX4_pass_22 rfl (lv_at hl 0 rfl) ?_
      refine k_get4a hM hw u_fl_X4_10 dX4_pass_23 ?_
      refine lv_iload_n hM.x hM.b dX4_pass_26 rfl (lv_at hl 1 rfl) ?_
      refine k_ci hw (k_runV [.int (a)] [] hM hw (m_X1_goMinutes l g κ _ (1) (a) (kd_1)) (hw.dm kd_1 (by decide)) (sh1 kd_1) rfl (k_gV u_ml_X4_118 u_im_X1_goMinutes u_se_X1_goMinutes u_ini_X1 u_co_X1_goMinutes) (q_X1_goMinutes) rfl rfl rfl ⟨Nat.le_of_ble_eq_true rfl, Nat.le_of_ble_eq_true rfl⟩ hl.1 rfl (Nat.le_of_ble_eq_true rfl) dX4_pass_27 ⟨Nat.le_of_ble_eq_true rfl, Nat.le_of_ble_eq_true rfl⟩) (fun r1 κ1 H locs hpκ1 hw => ?_)
      simp only [hpκ1] at hF
      exact vx_ret (k_iret hM hr hw (Nat.le_of_ble_eq_true rfl) (Nat.le_of_ble_eq_true rfl) hF dX4_pass_30)
    · rw [if_neg c2] at hF
      exact k_throw (cls := nIAE) (text := "minutes is not 1 to 200") (is := 116) hlst hM hno hw (by decide +kernel) u_cl_X4_34 u_ini_JA (by decide +kernel) xIAE1 xIAE2 xIAE3 hl.1 dX4_pass_12 dX4_pass_15 dX4_pass_16 dX4_pass_18 dX4_pass_21 (Nat.le_of_ble_eq_true rfl) (Nat.le_of_ble_eq_true rfl) (Nat.le_of_ble_eq_true rfl) (Nat.le_of_ble_eq_true rfl) ⟨hF, by decide +kernel⟩ (Nat.le_of_ble_eq_true rfl) (Nat.le_of_ble_eq_true rfl)
