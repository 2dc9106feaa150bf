theorem q_X5_addFire : hdV yX5_addFire RX5 0 := ⟨rfl, by decide +kernel, by decide +kernel, by decide +kernel⟩
def f_X5_addFire (κ : Kp) : Int32 × Kp := (fun κ1 : Kp => if (κ1 91 1) = (3) then (match f_X5_fail κ1 (1) with | (r1, κ3) => ((r1, κ3))) else ((fun κ2 : Kp => (((κ2 91 1) - (1)), κ2)) (up2 κ1 (91) 1 (((κ1 91 1) + (1)))))) (up2 κ (91) 0 (0))
set_option maxRecDepth 100000 in
set_option maxHeartbeats 4000000 in
theorem m_X5_addFire (l : Launch) (g : Gt) (κ : Kp) (sz : Nat) (hMI : MI κ) : Met l yX5_addFire (.code yX5_addFire cX5_addFire 1 (some .int) :: uW) { frames := 3, cells := 0, slots := 0, locals := 90 } (PRE g κ sz [.ref (g.2.2 (91))]) (va_Qi (fun r κ' => f_X5_addFire κ  = (r, κ')) (Wp g) (fr g sz)) 0 0 (fr g sz) := by
  refine k_enter (by decide +kernel) (Nat.le_of_ble_eq_true rfl) ?_
  intro p e s m below meth c ls hM hr hl hw hsz
  subst hsz
  have hl : lv_has ls 1 [(0, .ref (g.2.2 (91)))] := hl
  have hF := f_X5_addFire.eq_1 κ 
  refine lv_aload_n hM.x hM.b dX5_addFire_0 rfl (lv_at hl 0 rfl) ?_
  refine lv_iconst (v := 0) hM.x hM.b dX5_addFire_1 (by decide) ?_
  refine k_put5 0 hM hw (by decide) u_fl_X5_32 dX5_addFire_2 (fun H locs hw => ?_)
  obtain ⟨κ1, eκ1⟩ : ∃ z : Kp, up2 κ (91) 0 (0) = z := ⟨_, rfl⟩
  rw [eκ1] at hw
  rw [eκ1] at hF
  try dsimp only at hF
  refine lv_aload_n hM.x hM.b dX5_addFire_5 rfl (lv_at hl 0 rfl) ?_
  refine k_get5 1 hM hw (by decide) u_fl_X5_35 dX5_addFire_6 ?_
  refine lv_iconst (v := 3) hM.x hM.b dX5_addFire_9 (by decide) ?_
  refine lv_icmp_ne (tgt := 19) hM.x hM.b dX5_addFire_10 (by decide) (fun c1 => ?_) (fun c1 => ?_)
  · rw [if_neg c1] at hF
    refine lv_aload_n hM.x hM.b dX5_addFire_19 rfl (lv_at hl 0 rfl) ?_
    refine lv_dup hM.x hM.b dX5_addFire_20 rfl ?_
    refine k_get5 1 hM hw (by decide) u_fl_X5_35 dX5_addFire_21 ?_
    refine lv_iconst (v := 1) hM.x hM.b dX5_addFire_24 (by decide) ?_
    refine lv_iadd hM.x hM.b dX5_addFire_25 ?_
    refine k_put5 1 hM hw (by decide) u_fl_X5_35 dX5_addFire_26 (fun H locs hw => ?_)
    obtain ⟨κ2, eκ2⟩ : ∃ z : Kp, up2 κ1 (91) 1 (((κ1 91 1) + (1))) = z := ⟨_, rfl⟩
    rw [eκ2] at hw
    rw [eκ2] at hF
    try dsimp only at hF
    refine lv_aload_n hM.x hM.b dX5_addFire_29 rfl (lv_at hl 0 rfl) ?_
    refine k_get5 1 hM hw (by decide) u_fl_X5_35 dX5_addFire_30 ?_
    refine lv_iconst (v := 1) hM.x hM.b dX5_addFire_33 (by decide) ?_
    refine lv_isub hM.x hM.b dX5_addFire_34 ?_
    exact k_iret hM hr hw (Nat.le_of_ble_eq_true rfl) (Nat.le_of_ble_eq_true rfl) hF dX5_addFire_35
  · rw [if_pos c1] at hF
    refine lv_aload_n hM.x hM.b dX5_addFire_13 rfl (lv_at hl 0 rfl) ?_
    refine lv_iconst (v := 1) hM.x hM.b dX5_addFire_14 (by decide) ?_
    refine k_ci hw (k_runV [.int (1)] [] hM hw (m_X5_fail l g κ1 _ (1)) (kd_lt kd_91 (by decide)) (sh5 kd_91) rfl (k_gV u_ml_X5_103 u_im_X5_fail u_se_X5_fail u_ini_X5 u_co_X5_fail) (q_X5_fail) rfl rfl rfl ⟨Nat.le_of_ble_eq_true rfl, Nat.le_of_ble_eq_true rfl⟩ hl.1 rfl (Nat.le_of_ble_eq_true rfl) dX5_addFire_15 ⟨Nat.le_of_ble_eq_true rfl, Nat.le_of_ble_eq_true rfl⟩) (fun r1 κ3 H locs hpκ3 hw => ?_)
    simp only [hpκ3] at hF
    exact k_iret hM hr hw (Nat.le_of_ble_eq_true rfl) (Nat.le_of_ble_eq_true rfl) hF dX5_addFire_18
theorem q_X5_layLogs : hdV yX5_layLogs RX5 2 := ⟨rfl, by decide +kernel, by decide +kernel, by decide +kernel⟩
def f_X5_layLogs (κ : Kp) (a : Int32) (b : Int32) : Int32 × Kp := (fun κ1 : Kp => if (bi (f_X5_isFire κ1 (a))) = 0 then (match f_X5_fail κ1 (1) with | (r2, κ4) => ((r2, κ4))) else (if (bi (f_X5_isIn (b) (1) (40))) = 0 then (match f_X5_fail κ1 (2) with | (r1, κ3) => ((r1, κ3))) else ((fun κ2 : Kp => (f_X5_fi κ2 (a) (0), κ2)) (f_X5_letFire κ1 (a) (0) ((if (((f_X5_fi κ1 (a) (0)) + (b))) < (40) then (((f_X5_fi κ1 (a) (0)) + (b))) else (40))))))) (up2 κ (91) 0 (0))
set_option maxRecDepth 100000 in
set_option maxHeartbeats 4000000 in
theorem m_X5_layLogs (l : Launch) (g : Gt) (κ : Kp) (sz : Nat) (a : Int32) (b : Int32) (hMI : MI κ) : Met l yX5_layLogs (.code yX5_layLogs cX5_layLogs 3 (some .int) :: uW) { frames := 3, cells := 0, slots := 0, locals := 90 } (PRE g κ sz [.ref (g.2.2 (91)), .int (a), .int (b)]) (va_Qi (fun r κ' => f_X5_layLogs κ a b = (r, κ')) (Wp g) (fr g sz)) 0 0 (fr g sz) := by
  refine k_enter (by decide +kernel) (Nat.le_of_ble_eq_true rfl) ?_
  intro p e s m below meth c ls hM hr hl hw hsz
  subst hsz
  have hl : lv_has ls 3 [(0, .ref (g.2.2 (91))), (1, .int (a)), (2, .int (b))] := hl
  have hF := f_X5_layLogs.eq_1 κ a b
  refine lv_aload_n hM.x hM.b dX5_layLogs_0 rfl (lv_at hl 0 rfl) ?_
  refine lv_iconst (v := 0) hM.x hM.b dX5_layLogs_1 (by decide) ?_
  refine k_put5 0 hM hw (by decide) u_fl_X5_32 dX5_layLogs_2 (fun H locs hw => ?_)
  obtain ⟨κ1, eκ1⟩ : ∃ z : Kp, up2 κ (91) 0 (0) = z := ⟨_, rfl⟩
  rw [eκ1] at hw
  rw [eκ1] at hF
  try dsimp only at hF
  refine lv_aload_n hM.x hM.b dX5_layLogs_5 rfl (lv_at hl 0 rfl) ?_
  refine lv_iload_n hM.x hM.b dX5_layLogs_6 rfl (lv_at hl 1 rfl) ?_
  refine k_cip hw (k_runV [.int (a)] [] hM hw (m_X5_isFire l g κ1 _ (a)) (kd_lt kd_91 (by decide)) (sh5 kd_91) rfl (k_gV u_ml_X5_106 u_im_X5_isFire u_se_X5_isFire u_ini_X5 u_co_X5_isFire) (q_X5_isFire) rfl rfl rfl ⟨Nat.le_of_ble_eq_true rfl, Nat.le_of_ble_eq_true rfl⟩ hl.1 rfl (Nat.le_of_ble_eq_true rfl) dX5_layLogs_7 ⟨Nat.le_of_ble_eq_true rfl, Nat.le_of_ble_eq_true rfl⟩) (fun H locs hw => ?_)
  refine lv_if_ne (tgt := 19) hM.x hM.b dX5_layLogs_10 (by decide) (fun c1 => ?_) (fun c1 => ?_)
  · rw [if_neg c1] at hF
    refine lv_iload_n hM.x hM.b dX5_layLogs_19 rfl (lv_at hl 2 rfl) ?_
    refine lv_iconst (v := 1) hM.x hM.b dX5_layLogs_20 (by decide) ?_
    refine lv_bipush (v := 40) hM.x hM.b dX5_layLogs_21 (by decide) ?_
    refine k_cip hw (k_runS [.int (b), .int (1), .int (40)] [] hM hw (m_X5_isIn l g κ1 _ (b) (1) (40)) (k_gS u_ml_X5_38 u_st_X5_isIn u_ini_X5 u_co_X5_isIn) (q_X5_isIn) rfl rfl rfl ⟨Nat.le_of_ble_eq_true rfl, Nat.le_of_ble_eq_true rfl⟩ hl.1 rfl (Nat.le_of_ble_eq_true rfl) dX5_layLogs_23 ⟨Nat.le_of_ble_eq_true rfl, Nat.le_of_ble_eq_true rfl⟩) (fun H locs hw => ?_)
    refine lv_if_ne (tgt := 35) hM.x hM.b dX5_layLogs_26 (by decide) (fun c2 => ?_) (fun c2 => ?_)
    · rw [if_neg c2] at hF
      refine lv_aload_n hM.x hM.b dX5_layLogs_35 rfl (lv_at hl 0 rfl) ?_
      refine lv_iload_n hM.x hM.b dX5_layLogs_36 rfl (lv_at hl 1 rfl) ?_
      refine lv_iconst (v := 0) hM.x hM.b dX5_layLogs_37 (by decide) ?_
      refine lv_bipush (v := 40) hM.x hM.b dX5_layLogs_38 (by decide) ?_
      refine lv_aload_n hM.x hM.b dX5_layLogs_40 rfl (lv_at hl 0 rfl) ?_
      refine lv_iload_n hM.x hM.b dX5_layLogs_41 rfl (lv_at hl 1 rfl) ?_
      refine lv_iconst (v := 0) hM.x hM.b dX5_layLogs_42 (by decide) ?_
      refine k_cip hw (k_runV [.int (a), .int (0)] [.int (40), .int (0), .int (a), .ref (g.2.2 (91))] hM hw (m_X5_fi l g κ1 _ (a) (0) (isFire_in (MI_th eκ1 hMI) c1) (vin_lit (by decide) : vp_in 0 2)) (kd_lt kd_91 (by decide)) (sh5 kd_91) rfl (k_gV u_ml_X5_54 u_im_X5_fi u_se_X5_fi u_ini_X5 u_co_X5_fi) (q_X5_fi) rfl rfl rfl ⟨Nat.le_of_ble_eq_true rfl, Nat.le_of_ble_eq_true rfl⟩ hl.1 rfl (Nat.le_of_ble_eq_true rfl) dX5_layLogs_43 ⟨Nat.le_of_ble_eq_true rfl, Nat.le_of_ble_eq_true rfl⟩) (fun H locs hw => ?_)
      refine lv_iload_n hM.x hM.b dX5_layLogs_46 rfl (lv_at hl 2 rfl) ?_
      refine lv_iadd hM.x hM.b dX5_layLogs_47 ?_
      refine va_mmin hM.x hM.b (hM.ml.trans hl.1.symm) hM.ow (hM.ts _ u_ml_X5_68) (hM.ts _ u_st_JM_min) (hM.ts _ u_ini_JM) (hM.ts _ u_co_JM_min) (Nat.le_of_ble_eq_true rfl) (Nat.le_of_ble_eq_true rfl) (Nat.le_of_ble_eq_true rfl) (Nat.le_of_ble_eq_true rfl) dX5_layLogs_48 ?_
      refine k_cvp hw (k_runV [.int (a), .int (0), .int ((if (((f_X5_fi κ1 (a) (0)) + (b))) < (40) then (((f_X5_fi κ1 (a) (0)) + (b))) else (40)))] [] hM hw (m_X5_letFire l g κ1 _ (a) (0) ((if (((f_X5_fi κ1 (a) (0)) + (b))) < (40) then (((f_X5_fi κ1 (a) (0)) + (b))) else (40))) (isFire_in (MI_th eκ1 hMI) c1) (vin_lit (by decide) : vp_in 0 2)) (kd_lt kd_91 (by decide)) (sh5 kd_91) rfl (k_gV u_ml_X5_100 u_im_X5_letFire u_se_X5_letFire u_ini_X5 u_co_X5_letFire) (q_X5_letFire) rfl rfl rfl ⟨Nat.le_of_ble_eq_true rfl, Nat.le_of_ble_eq_true rfl⟩ hl.1 rfl (Nat.le_of_ble_eq_true rfl) dX5_layLogs_51 ⟨Nat.le_of_ble_eq_true rfl, Nat.le_of_ble_eq_true rfl⟩) (fun κ2 H locs eκ2 hw => ?_)
      rw [eκ2] at hF
      try dsimp only at hF
      refine lv_aload_n hM.x hM.b dX5_layLogs_54 rfl (lv_at hl 0 rfl) ?_
      refine lv_iload_n hM.x hM.b dX5_layLogs_55 rfl (lv_at hl 1 rfl) ?_
      refine lv_iconst (v := 0) hM.x hM.b dX5_layLogs_56 (by decide) ?_
      refine k_cip hw (k_runV [.int (a), .int (0)] [] hM hw (m_X5_fi l g κ2 _ (a) (0) (isFire_in (MI_th eκ1 hMI) c1) (vin_lit (by decide) : vp_in 0 2)) (kd_lt kd_91 (by decide)) (sh5 kd_91) rfl (k_gV u_ml_X5_54 u_im_X5_fi u_se_X5_fi u_ini_X5 u_co_X5_fi) (q_X5_fi) rfl rfl rfl ⟨Nat.le_of_ble_eq_true rfl, Nat.le_of_ble_eq_true rfl⟩ hl.1 rfl (Nat.le_of_ble_eq_true rfl) dX5_layLogs_57 ⟨Nat.le_of_ble_eq_true rfl, Nat.le_of_ble_eq_true rfl⟩) (fun H locs hw => ?_)
      exact k_iret hM hr hw (Nat.le_of_ble_eq_true rfl) (Nat.le_of_ble_eq_true rfl) hF dX5_layLogs_60
    · rw [if_pos c2] at hF
      refine lv_aload_n hM.x hM.b dX5_layLogs_29 rfl (lv_at hl 0 rfl) ?_
      refine lv_iconst (v := 2) hM.x hM.b dX5_layLogs_30 (by decide) ?_
      refine k_ci hw (k_runV [.int (2)] [] hM hw (m_X5_fail l g κ1 _ (2)) (kd_lt kd_91 (by decide)) (sh5 kd_91) rfl (k_gV u_ml_X5_103 u_im_X5_fail u_se_X5_fail u_ini_X5 u_co_X5_fail) (q_X5_fail) rfl rfl rfl ⟨Nat.le_of_ble_eq_true rfl, Nat.le_of_ble_eq_true rfl⟩ hl.1 rfl (Nat.le_of_ble_eq_true rfl) dX5_layLogs_31 ⟨Nat.le_of_ble_eq_true rfl, Nat.le_of_ble_eq_true rfl⟩) (fun r1 κ3 H locs hpκ3 hw => ?_)
      simp only [hpκ3] at hF
      exact k_iret hM hr hw (Nat.le_of_ble_eq_true rfl) (Nat.le_of_ble_eq_true rfl) hF dX5_layLogs_34
  · rw [if_pos c1] at hF
    refine lv_aload_n hM.x hM.b dX5_layLogs_13 rfl (lv_at hl 0 rfl) ?_
    refine lv_iconst (v := 1) hM.x hM.b dX5_layLogs_14 (by decide) ?_
    refine k_ci hw (k_runV [.int (1)] [] hM hw (m_X5_fail l g κ1 _ (1)) (kd_lt kd_91 (by decide)) (sh5 kd_91) rfl (k_gV u_ml_X5_103 u_im_X5_fail u_se_X5_fail u_ini_X5 u_co_X5_fail) (q_X5_fail) rfl rfl rfl ⟨Nat.le_of_ble_eq_true rfl, Nat.le_of_ble_eq_true rfl⟩ hl.1 rfl (Nat.le_of_ble_eq_true rfl) dX5_layLogs_15 ⟨Nat.le_of_ble_eq_true rfl, Nat.le_of_ble_eq_true rfl⟩) (fun r2 κ4 H locs hpκ4 hw => ?_)
    simp only [hpκ4] at hF
    exact k_iret hM hr hw (Nat.le_of_ble_eq_true rfl) (Nat.le_of_ble_eq_true rfl) hF dX5_layLogs_18
theorem q_X5_addSpit : hdV yX5_addSpit RX5 2 := ⟨rfl, by decide +kernel, by decide +kernel, by decide +kernel⟩
def f_X5_addSpit (κ : Kp) (a : Int32) (b : Int32) : Int32 × Kp := (fun κ1 : Kp => if (bi (f_X5_isFire κ1 (a))) = 0 then (match f_X5_fail κ1 (1) with | (r3, κ7) => ((r3, κ7))) else (if (bi (f_X5_isIn (b) (1) (3))) = 0 then (match f_X5_fail κ1 (2) with | (r2, κ6) => ((r2, κ6))) else (if (κ1 91 2) = (6) then (match f_X5_fail κ1 (3) with | (r1, κ5) => ((r1, κ5))) else ((fun κ2 : Kp => (fun κ3 : Kp => (fun κ4 : Kp => (((κ4 91 2) - (1)), κ4)) (up2 κ3 (91) 2 (((κ3 91 2) + (1))))) (f_X5_letSpit κ2 (κ2 91 2) (0) (b))) (up2 κ1 (92) ((κ1 91 2).toNatClampNeg) (a)))))) (up2 κ (91) 0 (0))
set_option maxRecDepth 100000 in
set_option maxHeartbeats 4000000 in
theorem m_X5_addSpit (l : Launch) (g : Gt) (κ : Kp) (sz : Nat) (a : Int32) (b : Int32) (hMI : MI κ) : Met l yX5_addSpit (.code yX5_addSpit cX5_addSpit 3 (some .int) :: uW) { frames := 3, cells := 0, slots := 0, locals := 90 } (PRE g κ sz [.ref (g.2.2 (91)), .int (a), .int (b)]) (va_Qi (fun r κ' => f_X5_addSpit κ a b = (r, κ')) (Wp g) (fr g sz)) 0 0 (fr g sz) := by
  refine k_enter (by decide +kernel) (Nat.le_of_ble_eq_true rfl) ?_
  intro p e s m below meth c ls hM hr hl hw hsz
  subst hsz
  have hl : lv_has ls 3 [(0, .ref (g.2.2 (91))), (1, .int (a)), (2, .int (b))] := hl
  have hF := f_X5_addSpit.eq_1 κ a b
  refine lv_aload_n hM.x hM.b dX5_addSpit_0 rfl (lv_at hl 0 rfl) ?_
  refine lv_iconst (v := 0) hM.x hM.b dX5_addSpit_1 (by decide) ?_
  refine k_put5 0 hM hw (by decide) u_fl_X5_32 dX5_addSpit_2 (fun H locs hw => ?_)
  obtain ⟨κ1, eκ1⟩ : ∃ z : Kp, up2 κ (91) 0 (0) = z := ⟨_, rfl⟩
  rw [eκ1] at hw
  rw [eκ1] at hF
  try dsimp only at hF
  refine lv_aload_n hM.x hM.b dX5_addSpit_5 rfl (lv_at hl 0 rfl) ?_
  refine lv_iload_n hM.x hM.b dX5_addSpit_6 rfl (lv_at hl 1 rfl) ?_
  refine k_cip hw (k_runV [.int (a)] [] hM hw (m_X5_isFire l g κ1 _ (a)) (kd_lt kd_91 (by decide)) (sh5 kd_91) rfl (k_gV u_ml_X5_106 u_im_X5_isFire u_se_X5_isFire u_ini_X5 u_co_X5_isFire) (q_X5_isFire) rfl rfl rfl ⟨Nat.le_of_ble_eq_true rfl, Nat.le_of_ble_eq_true rfl⟩ hl.1 rfl (Nat.le_of_ble_eq_true rfl) dX5_addSpit_7 ⟨Nat.le_of_ble_eq_true rfl, Nat.le_of_ble_eq_true rfl⟩) (fun H locs hw => ?_)
  refine lv_if_ne (tgt := 19) hM.x hM.b dX5_addSpit_10 (by decide) (fun c1 => ?_) (fun c1 => ?_)
  · rw [if_neg c1] at hF
    refine lv_iload_n hM.x hM.b dX5_addSpit_19 rfl (lv_at hl 2 rfl) ?_
    refine lv_iconst (v := 1) hM.x hM.b dX5_addSpit_20 (by decide) ?_
    refine lv_iconst (v := 3) hM.x hM.b dX5_addSpit_21 (by decide) ?_
    refine k_cip hw (k_runS [.int (b), .int (1), .int (3)] [] hM hw (m_X5_isIn l g κ1 _ (b) (1) (3)) (k_gS u_ml_X5_38 u_st_X5_isIn u_ini_X5 u_co_X5_isIn) (q_X5_isIn) rfl rfl rfl ⟨Nat.le_of_ble_eq_true rfl, Nat.le_of_ble_eq_true rfl⟩ hl.1 rfl (Nat.le_of_ble_eq_true rfl) dX5_addSpit_22 ⟨Nat.le_of_ble_eq_true rfl, Nat.le_of_ble_eq_true rfl⟩) (fun H locs hw => ?_)
    refine lv_if_ne (tgt := 34) hM.x hM.b dX5_addSpit_25 (by decide) (fun c2 => ?_) (fun c2 => ?_)
    · rw [if_neg c2] at hF
      refine lv_aload_n hM.x hM.b dX5_addSpit_34 rfl (lv_at hl 0 rfl) ?_
      refine k_get5 2 hM hw (by decide) u_fl_X5_42 dX5_addSpit_35 ?_
      refine lv_bipush (v := 6) hM.x hM.b dX5_addSpit_38 (by decide) ?_
      refine lv_icmp_ne (tgt := 49) hM.x hM.b dX5_addSpit_40 (by decide) (fun c3 => ?_) (fun c3 => ?_)
      · rw [if_neg c3] at hF
        refine lv_aload_n hM.x hM.b dX5_addSpit_49 rfl (lv_at hl 0 rfl) ?_
        refine k_get5r 0 hM hw (by decide) u_fl_X5_13 dX5_addSpit_50 ?_
        refine lv_aload_n hM.x hM.b dX5_addSpit_53 rfl (lv_at hl 0 rfl) ?_
        refine k_get5 2 hM hw (by decide) u_fl_X5_42 dX5_addSpit_54 ?_
        refine lv_iload_n hM.x hM.b dX5_addSpit_57 rfl (lv_at hl 1 rfl) ?_
        refine k_iast (n := 6) hM hw (kd_lt kd_92 (by decide)) (fun r => sh10 kd_92) (in_last ((MI_th eκ1 hMI)).2.1 (by decide) c3) dX5_addSpit_58 (fun H locs hw => ?_)
        obtain ⟨κ2, eκ2⟩ : ∃ z : Kp, up2 κ1 (92) ((κ1 91 2).toNatClampNeg) (a) = z := ⟨_, rfl⟩
        rw [eκ2] at hw
        rw [eκ2] at hF
        try dsimp only at hF
        refine lv_aload_n hM.x hM.b dX5_addSpit_59 rfl (lv_at hl 0 rfl) ?_
        refine lv_aload_n hM.x hM.b dX5_addSpit_60 rfl (lv_at hl 0 rfl) ?_
        refine k_get5 2 hM hw (by decide) u_fl_X5_42 dX5_addSpit_61 ?_
        refine lv_iconst (v := 0) hM.x hM.b dX5_addSpit_64 (by decide) ?_
        refine lv_iload_n hM.x hM.b dX5_addSpit_65 rfl (lv_at hl 2 rfl) ?_
        refine k_cvp hw (k_runV [.int (κ2 91 2), .int (0), .int (b)] [] hM hw (m_X5_letSpit l g κ2 _ (κ2 91 2) (0) (b) (by rw [← eκ2]; exact (in_last ((MI_th eκ1 hMI)).2.1 (by decide) c3)) (vin_lit (by decide) : vp_in 0 5)) (kd_lt kd_91 (by decide)) (sh5 kd_91) rfl (k_gV u_ml_X5_86 u_im_X5_letSpit u_se_X5_letSpit u_ini_X5 u_co_X5_letSpit) (q_X5_letSpit) rfl rfl rfl ⟨Nat.le_of_ble_eq_true rfl, Nat.le_of_ble_eq_true rfl⟩ hl.1 rfl (Nat.le_of_ble_eq_true rfl) dX5_addSpit_66 ⟨Nat.le_of_ble_eq_true rfl, Nat.le_of_ble_eq_true rfl⟩) (fun κ3 H locs eκ3 hw => ?_)
        rw [eκ3] at hF
        try dsimp only at hF
        refine lv_aload_n hM.x hM.b dX5_addSpit_69 rfl (lv_at hl 0 rfl) ?_
        refine lv_dup hM.x hM.b dX5_addSpit_70 rfl ?_
        refine k_get5 2 hM hw (by decide) u_fl_X5_42 dX5_addSpit_71 ?_
        refine lv_iconst (v := 1) hM.x hM.b dX5_addSpit_74 (by decide) ?_
        refine lv_iadd hM.x hM.b dX5_addSpit_75 ?_
        refine k_put5 2 hM hw (by decide) u_fl_X5_42 dX5_addSpit_76 (fun H locs hw => ?_)
        obtain ⟨κ4, eκ4⟩ : ∃ z : Kp, up2 κ3 (91) 2 (((κ3 91 2) + (1))) = z := ⟨_, rfl⟩
        rw [eκ4] at hw
        rw [eκ4] at hF
        try dsimp only at hF
        refine lv_aload_n hM.x hM.b dX5_addSpit_79 rfl (lv_at hl 0 rfl) ?_
        refine k_get5 2 hM hw (by decide) u_fl_X5_42 dX5_addSpit_80 ?_
        refine lv_iconst (v := 1) hM.x hM.b dX5_addSpit_83 (by decide) ?_
        refine lv_isub hM.x hM.b dX5_addSpit_84 ?_
        exact k_iret hM hr hw (Nat.le_of_ble_eq_true rfl) (Nat.le_of_ble_eq_true rfl) hF dX5_addSpit_85
      · rw [if_pos c3] at hF
        refine lv_aload_n hM.x hM.b dX5_addSpit_43 rfl (lv_at hl 0 rfl) ?_
        refine lv_iconst (v := 3) hM.x hM.b dX5_addSpit_44 (by decide) ?_
        refine k_ci hw (k_runV [.int (3)] [] hM hw (m_X5_fail l g κ1 _ (3)) (kd_lt kd_91 (by decide)) (sh5 kd_91) rfl (k_gV u_ml_X5_103 u_im_X5_fail u_se_X5_fail u_ini_X5 u_co_X5_fail) (q_X5_fail) rfl rfl rfl ⟨Nat.le_of_ble_eq_true rfl, Nat.le_of_ble_eq_true rfl⟩ hl.1 rfl (Nat.le_of_ble_eq_true rfl) dX5_addSpit_45 ⟨Nat.le_of_ble_eq_true rfl, Nat.le_of_ble_eq_true rfl⟩) (fun r1 κ5 H locs hpκ5 hw => ?_)
        simp only [hpκ5] at hF
        exact k_iret hM hr hw (Nat.le_of_ble_eq_true rfl) (Nat.le_of_ble_eq_true rfl) hF dX5_addSpit_48
    · rw [if_pos c2] at hF
      refine lv_aload_n hM.x hM.b dX5_addSpit_28 rfl (lv_at hl 0 rfl) ?_
      refine lv_iconst (v := 2) hM.x hM.b dX5_addSpit_29 (by decide) ?_
      refine k_ci hw (k_runV [.int (2)] [] hM hw (m_X5_fail l g κ1 _ (2)) (kd_lt kd_91 (by decide)) (sh5 kd_91) rfl (k_gV u_ml_X5_103 u_im_X5_fail u_se_X5_fail u_ini_X5 u_co_X5_fail) (q_X5_fail) rfl rfl rfl ⟨Nat.le_of_ble_eq_true rfl, Nat.le_of_ble_eq_true rfl⟩ hl.1 rfl (Nat.le_of_ble_eq_true rfl) dX5_addSpit_30 ⟨Nat.le_of_ble_eq_true rfl, Nat.le_of_ble_eq_true rfl⟩) (fun r2 κ6 H locs hpκ6 hw => ?_)
      simp only [hpκ6] at hF
      exact k_iret hM hr hw (Nat.le_of_ble_eq_true rfl) (Nat.le_of_ble_eq_true rfl) hF dX5_addSpit_33
  · rw [if_pos c1] at hF
    refine lv_aload_n hM.x hM.b dX5_addSpit_13 rfl (lv_at hl 0 rfl) ?_
    refine lv_iconst (v := 1) hM.x hM.b dX5_addSpit_14 (by decide) ?_
    refine k_ci hw (k_runV [.int (1)] [] hM hw (m_X5_fail l g κ1 _ (1)) (kd_lt kd_91 (by decide)) (sh5 kd_91) rfl (k_gV u_ml_X5_103 u_im_X5_fail u_se_X5_fail u_ini_X5 u_co_X5_fail) (q_X5_fail) rfl rfl rfl ⟨Nat.le_of_ble_eq_true rfl, Nat.le_of_ble_eq_true rfl⟩ hl.1 rfl (Nat.le_of_ble_eq_true rfl) dX5_addSpit_15 ⟨Nat.le_of_ble_eq_true rfl, Nat.le_of_ble_eq_true rfl⟩) (fun r3 κ7 H locs hpκ7 hw => ?_)
    simp only [hpκ7] at hF
    exact k_iret hM hr hw (Nat.le_of_ble_eq_true rfl) (Nat.le_of_ble_eq_true rfl) hF dX5_addSpit_18
theorem q_X5_moveSpit : hdV yX5_moveSpit RX5 2 := ⟨rfl, by decide +kernel, by decide +kernel, by decide +kernel⟩
def f_X5_moveSpit (κ : Kp) (a : Int32) (b : Int32) : Int32 × Kp := (fun κ1 : Kp => if (bi (f_X5_isSpit κ1 (a))) = 0 then (match f_X5_fail κ1 (1) with | (r2, κ4) => ((r2, κ4))) else (if (bi (f_X5_isIn (b) (1) (3))) = 0 then (match f_X5_fail κ1 (2) with | (r1, κ3) => ((r1, κ3))) else ((fun κ2 : Kp => (f_X5_sp κ1 (a) (0), κ2)) (f_X5_letSpit κ1 (a) (0) (b))))) (up2 κ (91) 0 (0))
set_option maxRecDepth 100000 in
set_option maxHeartbeats 4000000 in
theorem m_X5_moveSpit (l : Launch) (g : Gt) (κ : Kp) (sz : Nat) (a : Int32) (b : Int32) (hMI : MI κ) : Met l yX5_moveSpit (.code yX5_moveSpit cX5_moveSpit 4 (some .int) :: uW) { frames := 3, cells := 0, slots := 0, locals := 90 } (PRE g κ sz [.ref (g.2.2 (91)), .int (a), .int (b)]) (va_Qi (fun r κ' => f_X5_moveSpit κ a b = (r, κ')) (Wp g) (fr g sz)) 0 0 (fr g sz) := by
  refine k_enter (by decide +kernel) (Nat.le_of_ble_eq_true rfl) ?_
  intro p e s m below meth c ls hM hr hl hw hsz
  subst hsz
  have hl : lv_has ls 4 [(0, .ref (g.2.2 (91))), (1, .int (a)), (2, .int (b))] := hl
  have hF := f_X5_moveSpit.eq_1 κ a b
  refine lv_aload_n hM.x hM.b dX5_moveSpit_0 rfl (lv_at hl 0 rfl) ?_
  refine lv_iconst (v := 0) hM.x hM.b dX5_moveSpit_1 (by decide) ?_
  refine k_put5 0 hM hw (by decide) u_fl_X5_32 dX5_moveSpit_2 (fun H locs hw => ?_)
  obtain ⟨κ1, eκ1⟩ : ∃ z : Kp, up2 κ (91) 0 (0) = z := ⟨_, rfl⟩
  rw [eκ1] at hw
  rw [eκ1] at hF
  try dsimp only at hF
  refine lv_aload_n hM.x hM.b dX5_moveSpit_5 rfl (lv_at hl 0 rfl) ?_
  refine lv_iload_n hM.x hM.b dX5_moveSpit_6 rfl (lv_at hl 1 rfl) ?_
  refine k_cip hw (k_runV [.int (a)] [] hM hw (m_X5_isSpit l g κ1 _ (a)) (kd_lt kd_91 (by decide)) (sh5 kd_91) rfl (k_gV u_ml_X5_110 u_im_X5_isSpit u_se_X5_isSpit u_ini_X5 u_co_X5_isSpit) (q_X5_isSpit) rfl rfl rfl ⟨Nat.le_of_ble_eq_true rfl, Nat.le_of_ble_eq_true rfl⟩ hl.1 rfl (Nat.le_of_ble_eq_true rfl) dX5_moveSpit_7 ⟨Nat.le_of_ble_eq_true rfl, Nat.le_of_ble_eq_true rfl⟩) (fun H locs hw => ?_)
  refine lv_if_ne (tgt := 19) hM.x hM.b dX5_moveSpit_10 (by decide) (fun c1 => ?_) (fun c1 => ?_)
  · rw [if_neg c1] at hF
    refine lv_iload_n hM.x hM.b dX5_moveSpit_19 rfl (lv_at hl 2 rfl) ?_
    refine lv_iconst (v := 1) hM.x hM.b dX5_moveSpit_20 (by decide) ?_
    refine lv_iconst (v := 3) hM.x hM.b dX5_moveSpit_21 (by decide) ?_
    refine k_cip hw (k_runS [.int (b), .int (1), .int (3)] [] hM hw (m_X5_isIn l g κ1 _ (b) (1) (3)) (k_gS u_ml_X5_38 u_st_X5_isIn u_ini_X5 u_co_X5_isIn) (q_X5_isIn) rfl rfl rfl ⟨Nat.le_of_ble_eq_true rfl, Nat.le_of_ble_eq_true rfl⟩ hl.1 rfl (Nat.le_of_ble_eq_true rfl) dX5_moveSpit_22 ⟨Nat.le_of_ble_eq_true rfl, Nat.le_of_ble_eq_true rfl⟩) (fun H locs hw => ?_)
    refine lv_if_ne (tgt := 34) hM.x hM.b dX5_moveSpit_25 (by decide) (fun c2 => ?_) (fun c2 => ?_)
    · rw [if_neg c2] at hF
      refine lv_aload_n hM.x hM.b dX5_moveSpit_34 rfl (lv_at hl 0 rfl) ?_
      refine lv_iload_n hM.x hM.b dX5_moveSpit_35 rfl (lv_at hl 1 rfl) ?_
      refine lv_iconst (v := 0) hM.x hM.b dX5_moveSpit_36 (by decide) ?_
      refine k_cip hw (k_runV [.int (a), .int (0)] [] hM hw (m_X5_sp l g κ1 _ (a) (0) (isSpit_in (MI_th eκ1 hMI) c1) (vin_lit (by decide) : vp_in 0 5)) (kd_lt kd_91 (by decide)) (sh5 kd_91) rfl (k_gV u_ml_X5_58 u_im_X5_sp u_se_X5_sp u_ini_X5 u_co_X5_sp) (q_X5_sp) rfl rfl rfl ⟨Nat.le_of_ble_eq_true rfl, Nat.le_of_ble_eq_true rfl⟩ hl.1 rfl (Nat.le_of_ble_eq_true rfl) dX5_moveSpit_37 ⟨Nat.le_of_ble_eq_true rfl, Nat.le_of_ble_eq_true rfl⟩) (fun H locs hw => ?_)
      refine lv_istore_n (lv' := [(3, .int (f_X5_sp κ1 (a) (0))), (0, .ref (g.2.2 (91))), (1, .int (a)), (2, .int (b))]) hM.x hM.b dX5_moveSpit_40 rfl hl (by decide) rfl (fun ls hl => ?_)
      refine lv_aload_n hM.x hM.b dX5_moveSpit_41 rfl (lv_at hl 1 rfl) ?_
      refine lv_iload_n hM.x hM.b dX5_moveSpit_42 rfl (lv_at hl 2 rfl) ?_
      refine lv_iconst (v := 0) hM.x hM.b dX5_moveSpit_43 (by decide) ?_
      refine lv_iload_n hM.x hM.b dX5_moveSpit_44 rfl (lv_at hl 3 rfl) ?_
      refine k_cvp hw (k_runV [.int (a), .int (0), .int (b)] [] hM hw (m_X5_letSpit l g κ1 _ (a) (0) (b) (isSpit_in (MI_th eκ1 hMI) c1) (vin_lit (by decide) : vp_in 0 5)) (kd_lt kd_91 (by decide)) (sh5 kd_91) rfl (k_gV u_ml_X5_86 u_im_X5_letSpit u_se_X5_letSpit u_ini_X5 u_co_X5_letSpit) (q_X5_letSpit) rfl rfl rfl ⟨Nat.le_of_ble_eq_true rfl, Nat.le_of_ble_eq_true rfl⟩ hl.1 rfl (Nat.le_of_ble_eq_true rfl) dX5_moveSpit_45 ⟨Nat.le_of_ble_eq_true rfl, Nat.le_of_ble_eq_true rfl⟩) (fun κ2 H locs eκ2 hw => ?_)
      rw [eκ2] at hF
      try dsimp only at hF
      refine lv_iload_n hM.x hM.b dX5_moveSpit_48 rfl (lv_at hl 0 rfl) ?_
      exact k_iret hM hr hw (Nat.le_of_ble_eq_true rfl) (Nat.le_of_ble_eq_true rfl) hF dX5_moveSpit_49
    · rw [if_pos c2] at hF
      refine lv_aload_n hM.x hM.b dX5_moveSpit_28 rfl (lv_at hl 0 rfl) ?_
      refine lv_iconst (v := 2) hM.x hM.b dX5_moveSpit_29 (by decide) ?_
      refine k_ci hw (k_runV [.int (2)] [] hM hw (m_X5_fail l g κ1 _ (2)) (kd_lt kd_91 (by decide)) (sh5 kd_91) rfl (k_gV u_ml_X5_103 u_im_X5_fail u_se_X5_fail u_ini_X5 u_co_X5_fail) (q_X5_fail) rfl rfl rfl ⟨Nat.le_of_ble_eq_true rfl, Nat.le_of_ble_eq_true rfl⟩ hl.1 rfl (Nat.le_of_ble_eq_true rfl) dX5_moveSpit_30 ⟨Nat.le_of_ble_eq_true rfl, Nat.le_of_ble_eq_true rfl⟩) (fun r1 κ3 H locs hpκ3 hw => ?_)
      simp only [hpκ3] at hF
      exact k_iret hM hr hw (Nat.le_of_ble_eq_true rfl) (Nat.le_of_ble_eq_true rfl) hF dX5_moveSpit_33
  · rw [if_pos c1] at hF
    refine lv_aload_n hM.x hM.b dX5_moveSpit_13 rfl (lv_at hl 0 rfl) ?_
    refine lv_iconst (v := 1) hM.x hM.b dX5_moveSpit_14 (by decide) ?_
    refine k_ci hw (k_runV [.int (1)] [] hM hw (m_X5_fail l g κ1 _ (1)) (kd_lt kd_91 (by decide)) (sh5 kd_91) rfl (k_gV u_ml_X5_103 u_im_X5_fail u_se_X5_fail u_ini_X5 u_co_X5_fail) (q_X5_fail) rfl rfl rfl ⟨Nat.le_of_ble_eq_true rfl, Nat.le_of_ble_eq_true rfl⟩ hl.1 rfl (Nat.le_of_ble_eq_true rfl) dX5_moveSpit_15 ⟨Nat.le_of_ble_eq_true rfl, Nat.le_of_ble_eq_true rfl⟩) (fun r2 κ4 H locs hpκ4 hw => ?_)
    simp only [hpκ4] at hF
    exact k_iret hM hr hw (Nat.le_of_ble_eq_true rfl) (Nat.le_of_ble_eq_true rfl) hF dX5_moveSpit_18
theorem q_X5_turnEach : hdV yX5_turnEach RX5 2 := ⟨rfl, by decide +kernel, by decide +kernel, by decide +kernel⟩
def f_X5_turnEach (κ : Kp) (a : Int32) (b : Int32) : Int32 × Kp := (fun κ1 : Kp => if (bi (f_X5_isSpit κ1 (a))) = 0 then (match f_X5_fail κ1 (1) with | (r2, κ4) => ((r2, κ4))) else (if (bi (f_X5_isIn (b) (0) (9))) = 0 then (match f_X5_fail κ1 (2) with | (r1, κ3) => ((r1, κ3))) else ((fun κ2 : Kp => (f_X5_sp κ1 (a) (4), κ2)) (f_X5_each κ1 (a) (b))))) (up2 κ (91) 0 (0))
set_option maxRecDepth 100000 in
set_option maxHeartbeats 4000000 in
theorem m_X5_turnEach (l : Launch) (g : Gt) (κ : Kp) (sz : Nat) (a : Int32) (b : Int32) (hMI : MI κ) : Met l yX5_turnEach (.code yX5_turnEach cX5_turnEach 4 (some .int) :: uW) { frames := 3, cells := 0, slots := 0, locals := 90 } (PRE g κ sz [.ref (g.2.2 (91)), .int (a), .int (b)]) (va_Qi (fun r κ' => f_X5_turnEach κ a b = (r, κ')) (Wp g) (fr g sz)) 0 0 (fr g sz) := by
  refine k_enter (by decide +kernel) (Nat.le_of_ble_eq_true rfl) ?_
  intro p e s m below meth c ls hM hr hl hw hsz
  subst hsz
  have hl : lv_has ls 4 [(0, .ref (g.2.2 (91))), (1, .int (a)), (2, .int (b))] := hl
  have hF := f_X5_turnEach.eq_1 κ a b
  refine lv_aload_n hM.x hM.b dX5_turnEach_0 rfl (lv_at hl 0 rfl) ?_
  refine lv_iconst (v := 0) hM.x hM.b dX5_turnEach_1 (by decide) ?_
  refine k_put5 0 hM hw (by decide) u_fl_X5_32 dX5_turnEach_2 (fun H locs hw => ?_)
  obtain ⟨κ1, eκ1⟩ : ∃ z : Kp, up2 κ (91) 0 (0) = z := ⟨_, rfl⟩
  rw [eκ1] at hw
  rw [eκ1] at hF
  try dsimp only at hF
  refine lv_aload_n hM.x hM.b dX5_turnEach_5 rfl (lv_at hl 0 rfl) ?_
  refine lv_iload_n hM.x hM.b dX5_turnEach_6 rfl (lv_at hl 1 rfl) ?_
  refine k_cip hw (k_runV [.int (a)] [] hM hw (m_X5_isSpit l g κ1 _ (a)) (kd_lt kd_91 (by decide)) (sh5 kd_91) rfl (k_gV u_ml_X5_110 u_im_X5_isSpit u_se_X5_isSpit u_ini_X5 u_co_X5_isSpit) (q_X5_isSpit) rfl rfl rfl ⟨Nat.le_of_ble_eq_true rfl, Nat.le_of_ble_eq_true rfl⟩ hl.1 rfl (Nat.le_of_ble_eq_true rfl) dX5_turnEach_7 ⟨Nat.le_of_ble_eq_true rfl, Nat.le_of_ble_eq_true rfl⟩) (fun H locs hw => ?_)
  refine lv_if_ne (tgt := 19) hM.x hM.b dX5_turnEach_10 (by decide) (fun c1 => ?_) (fun c1 => ?_)
  · rw [if_neg c1] at hF
    refine lv_iload_n hM.x hM.b dX5_turnEach_19 rfl (lv_at hl 2 rfl) ?_
    refine lv_iconst (v := 0) hM.x hM.b dX5_turnEach_20 (by decide) ?_
    refine lv_bipush (v := 9) hM.x hM.b dX5_turnEach_21 (by decide) ?_
    refine k_cip hw (k_runS [.int (b), .int (0), .int (9)] [] hM hw (m_X5_isIn l g κ1 _ (b) (0) (9)) (k_gS u_ml_X5_38 u_st_X5_isIn u_ini_X5 u_co_X5_isIn) (q_X5_isIn) rfl rfl rfl ⟨Nat.le_of_ble_eq_true rfl, Nat.le_of_ble_eq_true rfl⟩ hl.1 rfl (Nat.le_of_ble_eq_true rfl) dX5_turnEach_23 ⟨Nat.le_of_ble_eq_true rfl, Nat.le_of_ble_eq_true rfl⟩) (fun H locs hw => ?_)
    refine lv_if_ne (tgt := 35) hM.x hM.b dX5_turnEach_26 (by decide) (fun c2 => ?_) (fun c2 => ?_)
    · rw [if_neg c2] at hF
      refine lv_aload_n hM.x hM.b dX5_turnEach_35 rfl (lv_at hl 0 rfl) ?_
      refine lv_iload_n hM.x hM.b dX5_turnEach_36 rfl (lv_at hl 1 rfl) ?_
      refine lv_iconst (v := 4) hM.x hM.b dX5_turnEach_37 (by decide) ?_
      refine k_cip hw (k_runV [.int (a), .int (4)] [] hM hw (m_X5_sp l g κ1 _ (a) (4) (isSpit_in (MI_th eκ1 hMI) c1) (vin_lit (by decide) : vp_in 4 5)) (kd_lt kd_91 (by decide)) (sh5 kd_91) rfl (k_gV u_ml_X5_58 u_im_X5_sp u_se_X5_sp u_ini_X5 u_co_X5_sp) (q_X5_sp) rfl rfl rfl ⟨Nat.le_of_ble_eq_true rfl, Nat.le_of_ble_eq_true rfl⟩ hl.1 rfl (Nat.le_of_ble_eq_true rfl) dX5_turnEach_38 ⟨Nat.le_of_ble_eq_true rfl, Nat.le_of_ble_eq_true rfl⟩) (fun H locs hw => ?_)
      refine lv_istore_n (lv' := [(3, .int (f_X5_sp κ1 (a) (4))), (0, .ref (g.2.2 (91))), (1, .int (a)), (2, .int (b))]) hM.x hM.b dX5_turnEach_41 rfl hl (by decide) rfl (fun ls hl => ?_)
      refine lv_aload_n hM.x hM.b dX5_turnEach_42 rfl (lv_at hl 1 rfl) ?_
      refine lv_iload_n hM.x hM.b dX5_turnEach_43 rfl (lv_at hl 2 rfl) ?_
      refine lv_iload_n hM.x hM.b dX5_turnEach_44 rfl (lv_at hl 3 rfl) ?_
      refine k_cvp hw (k_runV [.int (a), .int (b)] [] hM hw (m_X5_each l g κ1 _ (a) (b) (isSpit_in (MI_th eκ1 hMI) c1)) (kd_lt kd_91 (by decide)) (sh5 kd_91) rfl (k_gV u_ml_X5_113 u_im_X5_each u_se_X5_each u_ini_X5 u_co_X5_each) (q_X5_each) rfl rfl rfl ⟨Nat.le_of_ble_eq_true rfl, Nat.le_of_ble_eq_true rfl⟩ hl.1 rfl (Nat.le_of_ble_eq_true rfl) dX5_turnEach_45 ⟨Nat.le_of_ble_eq_true rfl, Nat.le_of_ble_eq_true rfl⟩) (fun κ2 H locs eκ2 hw => ?_)
      rw [eκ2] at hF
      try dsimp only at hF
      refine lv_iload_n hM.x hM.b dX5_turnEach_48 rfl (lv_at hl 0 rfl) ?_
      exact k_iret hM hr hw (Nat.le_of_ble_eq_true rfl) (Nat.le_of_ble_eq_true rfl) hF dX5_turnEach_49
    · rw [if_pos c2] at hF
      refine lv_aload_n hM.x hM.b dX5_turnEach_29 rfl (lv_at hl 0 rfl) ?_
      refine lv_iconst (v := 2) hM.x hM.b dX5_turnEach_30 (by decide) ?_
      refine k_ci hw (k_runV [.int (2)] [] hM hw (m_X5_fail l g κ1 _ (2)) (kd_lt kd_91 (by decide)) (sh5 kd_91) rfl (k_gV u_ml_X5_103 u_im_X5_fail u_se_X5_fail u_ini_X5 u_co_X5_fail) (q_X5_fail) rfl rfl rfl ⟨Nat.le_of_ble_eq_true rfl, Nat.le_of_ble_eq_true rfl⟩ hl.1 rfl (Nat.le_of_ble_eq_true rfl) dX5_turnEach_31 ⟨Nat.le_of_ble_eq_true rfl, Nat.le_of_ble_eq_true rfl⟩) (fun r1 κ3 H locs hpκ3 hw => ?_)
      simp only [hpκ3] at hF
      exact k_iret hM hr hw (Nat.le_of_ble_eq_true rfl) (Nat.le_of_ble_eq_true rfl) hF dX5_turnEach_34
  · rw [if_pos c1] at hF
    refine lv_aload_n hM.x hM.b dX5_turnEach_13 rfl (lv_at hl 0 rfl) ?_
    refine lv_iconst (v := 1) hM.x hM.b dX5_turnEach_14 (by decide) ?_
    refine k_ci hw (k_runV [.int (1)] [] hM hw (m_X5_fail l g κ1 _ (1)) (kd_lt kd_91 (by decide)) (sh5 kd_91) rfl (k_gV u_ml_X5_103 u_im_X5_fail u_se_X5_fail u_ini_X5 u_co_X5_fail) (q_X5_fail) rfl rfl rfl ⟨Nat.le_of_ble_eq_true rfl, Nat.le_of_ble_eq_true rfl⟩ hl.1 rfl (Nat.le_of_ble_eq_true rfl) dX5_turnEach_15 ⟨Nat.le_of_ble_eq_true rfl, Nat.le_of_ble_eq_true rfl⟩) (fun r2 κ4 H locs hpκ4 hw => ?_)
    simp only [hpκ4] at hF
    exact k_iret hM hr hw (Nat.le_of_ble_eq_true rfl) (Nat.le_of_ble_eq_true rfl) hF dX5_turnEach_18
theorem q_X5_setFeast : hdV yX5_setFeast RX5 1 := ⟨rfl, by decide +kernel, by decide +kernel, by decide +kernel⟩
def f_X5_setFeast (κ : Kp) (a : Int32) : Int32 × Kp := (fun κ1 : Kp => if (bi (f_X5_isIn (a) (0) (5000))) = 0 then (match f_X5_fail κ1 (1) with | (r1, κ3) => ((r1, κ3))) else ((fun κ2 : Kp => (κ1 91 4, κ2)) (up2 κ1 (91) 4 (a)))) (up2 κ (91) 0 (0))
set_option maxRecDepth 100000 in
set_option maxHeartbeats 4000000 in
theorem m_X5_setFeast (l : Launch) (g : Gt) (κ : Kp) (sz : Nat) (a : Int32) (hMI : MI κ) : Met l yX5_setFeast (.code yX5_setFeast cX5_setFeast 3 (some .int) :: uW) { frames := 3, cells := 0, slots := 0, locals := 90 } (PRE g κ sz [.ref (g.2.2 (91)), .int (a)]) (va_Qi (fun r κ' => f_X5_setFeast κ a = (r, κ')) (Wp g) (fr g sz)) 0 0 (fr g sz) := by
  refine k_enter (by decide +kernel) (Nat.le_of_ble_eq_true rfl) ?_
  intro p e s m below meth c ls hM hr hl hw hsz
  subst hsz
  have hl : lv_has ls 3 [(0, .ref (g.2.2 (91))), (1, .int (a))] := hl
  have hF := f_X5_setFeast.eq_1 κ a
  refine lv_aload_n hM.x hM.b dX5_setFeast_0 rfl (lv_at hl 0 rfl) ?_
  refine lv_iconst (v := 0) hM.x hM.b dX5_setFeast_1 (by decide) ?_
  refine k_put5 0 hM hw (by decide) u_fl_X5_32 dX5_setFeast_2 (fun H locs hw => ?_)
  obtain ⟨κ1, eκ1⟩ : ∃ z : Kp, up2 κ (91) 0 (0) = z := ⟨_, rfl⟩
  rw [eκ1] at hw
  rw [eκ1] at hF
  try dsimp only at hF
  refine lv_iload_n hM.x hM.b dX5_setFeast_5 rfl (lv_at hl 1 rfl) ?_
  refine lv_iconst (v := 0) hM.x hM.b dX5_setFeast_6 (by decide) ?_
  refine lv_sipush (v := 5000) hM.x hM.b dX5_setFeast_7 (by decide) ?_
  refine k_cip hw (k_runS [.int (a), .int (0), .int (5000)] [] hM hw (m_X5_isIn l g κ1 _ (a) (0) (5000)) (k_gS u_ml_X5_38 u_st_X5_isIn u_ini_X5 u_co_X5_isIn) (q_X5_isIn) rfl rfl rfl ⟨Nat.le_of_ble_eq_true rfl, Nat.le_of_ble_eq_true rfl⟩ hl.1 rfl (Nat.le_of_ble_eq_true rfl) dX5_setFeast_10 ⟨Nat.le_of_ble_eq_true rfl, Nat.le_of_ble_eq_true rfl⟩) (fun H locs hw => ?_)
  refine lv_if_ne (tgt := 22) hM.x hM.b dX5_setFeast_13 (by decide) (fun c1 => ?_) (fun c1 => ?_)
  · rw [if_neg c1] at hF
    refine lv_aload_n hM.x hM.b dX5_setFeast_22 rfl (lv_at hl 0 rfl) ?_
    refine k_get5 4 hM hw (by decide) u_fl_X5_7 dX5_setFeast_23 ?_
    refine lv_istore_n (lv' := [(2, .int (κ1 91 4)), (0, .ref (g.2.2 (91))), (1, .int (a))]) hM.x hM.b dX5_setFeast_26 rfl hl (by decide) rfl (fun ls hl => ?_)
    refine lv_aload_n hM.x hM.b dX5_setFeast_27 rfl (lv_at hl 1 rfl) ?_
    refine lv_iload_n hM.x hM.b dX5_setFeast_28 rfl (lv_at hl 2 rfl) ?_
    refine k_put5 4 hM hw (by decide) u_fl_X5_7 dX5_setFeast_29 (fun H locs hw => ?_)
    obtain ⟨κ2, eκ2⟩ : ∃ z : Kp, up2 κ1 (91) 4 (a) = z := ⟨_, rfl⟩
    rw [eκ2] at hw
    rw [eκ2] at hF
    try dsimp only at hF
    refine lv_iload_n hM.x hM.b dX5_setFeast_32 rfl (lv_at hl 0 rfl) ?_
    exact k_iret hM hr hw (Nat.le_of_ble_eq_true rfl) (Nat.le_of_ble_eq_true rfl) hF dX5_setFeast_33
  · rw [if_pos c1] at hF
    refine lv_aload_n hM.x hM.b dX5_setFeast_16 rfl (lv_at hl 0 rfl) ?_
    refine lv_iconst (v := 1) hM.x hM.b dX5_setFeast_17 (by decide) ?_
    refine k_ci hw (k_runV [.int (1)] [] hM hw (m_X5_fail l g κ1 _ (1)) (kd_lt kd_91 (by decide)) (sh5 kd_91) rfl (k_gV u_ml_X5_103 u_im_X5_fail u_se_X5_fail u_ini_X5 u_co_X5_fail) (q_X5_fail) rfl rfl rfl ⟨Nat.le_of_ble_eq_true rfl, Nat.le_of_ble_eq_true rfl⟩ hl.1 rfl (Nat.le_of_ble_eq_true rfl) dX5_setFeast_18 ⟨Nat.le_of_ble_eq_true rfl, Nat.le_of_ble_eq_true rfl⟩) (fun r1 κ3 H locs hpκ3 hw => ?_)
    simp only [hpκ3] at hF
    exact k_iret hM hr hw (Nat.le_of_ble_eq_true rfl) (Nat.le_of_ble_eq_true rfl) hF dX5_setFeast_21
theorem q_X5_hang : hdV yX5_hang RX5 2 := ⟨rfl, by decide +kernel, by decide +kernel, by decide +kernel⟩
def f_X5_hang (κ : Kp) (a : Int32) (b : Int32) : Int32 × Kp := (fun κ1 : Kp => if (bi (f_X5_isSpit κ1 (a))) = 0 then (match f_X5_fail κ1 (1) with | (r4, κ7) => ((r4, κ7))) else (if (bi (f_X5_isIn (b) (1) (12))) = 0 then (match f_X5_fail κ1 (2) with | (r3, κ6) => ((r3, κ6))) else (if 0 < (f_X5_sp κ1 (a) (2)) then (match f_X5_fail κ1 (3) with | (r1, κ2) => ((r1, κ2))) else (if (κ1 91 3) = (16) then (match f_X5_fail κ1 (3) with | (r2, κ5) => ((r2, κ5))) else ((fun κ3 : Kp => (fun κ4 : Kp => (((κ4 91 3) - (1)), κ4)) (up2 κ3 (91) 3 (((κ3 91 3) + (1))))) (f_X5_hangNext κ1 (a) (b))))))) (up2 κ (91) 0 (0))
set_option maxRecDepth 100000 in
set_option maxHeartbeats 4000000 in
theorem m_X5_hang (l : Launch) (g : Gt) (κ : Kp) (sz : Nat) (a : Int32) (b : Int32) (hMI : MI κ) : Met l yX5_hang (.code yX5_hang cX5_hang 3 (some .int) :: uW) { frames := 3, cells := 0, slots := 0, locals := 90 } (PRE g κ sz [.ref (g.2.2 (91)), .int (a), .int (b)]) (va_Qi (fun r κ' => f_X5_hang κ a b = (r, κ')) (Wp g) (fr g sz)) 0 0 (fr g sz) := by
  refine k_enter (by decide +kernel) (Nat.le_of_ble_eq_true rfl) ?_
  intro p e s m below meth c ls hM hr hl hw hsz
  subst hsz
  have hl : lv_has ls 3 [(0, .ref (g.2.2 (91))), (1, .int (a)), (2, .int (b))] := hl
  have hF := f_X5_hang.eq_1 κ a b
  refine lv_aload_n hM.x hM.b dX5_hang_0 rfl (lv_at hl 0 rfl) ?_
  refine lv_iconst (v := 0) hM.x hM.b dX5_hang_1 (by decide) ?_
  refine k_put5 0 hM hw (by decide) u_fl_X5_32 dX5_hang_2 (fun H locs hw => ?_)
  obtain ⟨κ1, eκ1⟩ : ∃ z : Kp, up2 κ (91) 0 (0) = z := ⟨_, rfl⟩
  rw [eκ1] at hw
  rw [eκ1] at hF
  try dsimp only at hF
  refine lv_aload_n hM.x hM.b dX5_hang_5 rfl (lv_at hl 0 rfl) ?_
  refine lv_iload_n hM.x hM.b dX5_hang_6 rfl (lv_at hl 1 rfl) ?_
  refine k_cip hw (k_runV [.int (a)] [] hM hw (m_X5_isSpit l g κ1 _ (a)) (kd_lt kd_91 (by decide)) (sh5 kd_91) rfl (k_gV u_ml_X5_110 u_im_X5_isSpit u_se_X5_isSpit u_ini_X5 u_co_X5_isSpit) (q_X5_isSpit) rfl rfl rfl ⟨Nat.le_of_ble_eq_true rfl, Nat.le_of_ble_eq_true rfl⟩ hl.1 rfl (Nat.le_of_ble_eq_true rfl) dX5_hang_7 ⟨Nat.le_of_ble_eq_true rfl, Nat.le_of_ble_eq_true rfl⟩) (fun H locs hw => ?_)
  refine lv_if_ne (tgt := 19) hM.x hM.b dX5_hang_10 (by decide) (fun c1 => ?_) (fun c1 => ?_)
  · rw [if_neg c1] at hF
    refine lv_iload_n hM.x hM.b dX5_hang_19 rfl (lv_at hl 2 rfl) ?_
    refine lv_iconst (v := 1) hM.x hM.b dX5_hang_20 (by decide) ?_
    refine lv_bipush (v := 12) hM.x hM.b dX5_hang_21 (by decide) ?_
    refine k_cip hw (k_runS [.int (b), .int (1), .int (12)] [] hM hw (m_X5_isIn l g κ1 _ (b) (1) (12)) (k_gS u_ml_X5_38 u_st_X5_isIn u_ini_X5 u_co_X5_isIn) (q_X5_isIn) rfl rfl rfl ⟨Nat.le_of_ble_eq_true rfl, Nat.le_of_ble_eq_true rfl⟩ hl.1 rfl (Nat.le_of_ble_eq_true rfl) dX5_hang_23 ⟨Nat.le_of_ble_eq_true rfl, Nat.le_of_ble_eq_true rfl⟩) (fun H locs hw => ?_)
    refine lv_if_ne (tgt := 35) hM.x hM.b dX5_hang_26 (by decide) (fun c2 => ?_) (fun c2 => ?_)
    · rw [if_neg c2] at hF
      refine lv_aload_n hM.x hM.b dX5_hang_35 rfl (lv_at hl 0 rfl) ?_
      refine lv_iload_n hM.x hM.b dX5_hang_36 rfl (lv_at hl 1 rfl) ?_
      refine lv_iconst (v := 2) hM.x hM.b dX5_hang_37 (by decide) ?_
      refine k_cip hw (k_runV [.int (a), .int (2)] [] hM hw (m_X5_sp l g κ1 _ (a) (2) (isSpit_in (MI_th eκ1 hMI) c1) (vin_lit (by decide) : vp_in 2 5)) (kd_lt kd_91 (by decide)) (sh5 kd_91) rfl (k_gV u_ml_X5_58 u_im_X5_sp u_se_X5_sp u_ini_X5 u_co_X5_sp) (q_X5_sp) rfl rfl rfl ⟨Nat.le_of_ble_eq_true rfl, Nat.le_of_ble_eq_true rfl⟩ hl.1 rfl (Nat.le_of_ble_eq_true rfl) dX5_hang_38 ⟨Nat.le_of_ble_eq_true rfl, Nat.le_of_ble_eq_true rfl⟩) (fun H locs hw => ?_)
      refine lv_if_gt (tgt := 53) hM.x hM.b dX5_hang_41 (by decide) (fun c3 => ?_) (fun c3 => ?_)
      · rw [if_pos c3] at hF
        refine lv_aload_n hM.x hM.b dX5_hang_53 rfl (lv_at hl 0 rfl) ?_
        refine lv_iconst (v := 3) hM.x hM.b dX5_hang_54 (by decide) ?_
        refine k_ci hw (k_runV [.int (3)] [] hM hw (m_X5_fail l g κ1 _ (3)) (kd_lt kd_91 (by decide)) (sh5 kd_91) rfl (k_gV u_ml_X5_103 u_im_X5_fail u_se_X5_fail u_ini_X5 u_co_X5_fail) (q_X5_fail) rfl rfl rfl ⟨Nat.le_of_ble_eq_true rfl, Nat.le_of_ble_eq_true rfl⟩ hl.1 rfl (Nat.le_of_ble_eq_true rfl) dX5_hang_55 ⟨Nat.le_of_ble_eq_true rfl, Nat.le_of_ble_eq_true rfl⟩) (fun r1 κ2 H locs hpκ2 hw => ?_)
        simp only [hpκ2] at hF
        exact k_iret hM hr hw (Nat.le_of_ble_eq_true rfl) (Nat.le_of_ble_eq_true rfl) hF dX5_hang_58
      · rw [if_neg c3] at hF
        refine lv_aload_n hM.x hM.b dX5_hang_44 rfl (lv_at hl 0 rfl) ?_
        refine k_get5 3 hM hw (by decide) u_fl_X5_45 dX5_hang_45 ?_
        refine lv_bipush (v := 16) hM.x hM.b dX5_hang_48 (by decide) ?_
        refine lv_icmp_ne (tgt := 59) hM.x hM.b dX5_hang_50 (by decide) (fun c4 => ?_) (fun c4 => ?_)
        · rw [if_neg c4] at hF
          refine lv_aload_n hM.x hM.b dX5_hang_59 rfl (lv_at hl 0 rfl) ?_
          refine lv_iload_n hM.x hM.b dX5_hang_60 rfl (lv_at hl 1 rfl) ?_
          refine lv_iload_n hM.x hM.b dX5_hang_61 rfl (lv_at hl 2 rfl) ?_
          refine k_cvp hw (k_runV [.int (a), .int (b)] [] hM hw (m_X5_hangNext l g κ1 _ (a) (b) (isSpit_in (MI_th eκ1 hMI) c1) (in_last ((MI_th eκ1 hMI)).2.2.1 (by decide) c4)) (kd_lt kd_91 (by decide)) (sh5 kd_91) rfl (k_gV u_ml_X5_116 u_im_X5_hangNext u_se_X5_hangNext u_ini_X5 u_co_X5_hangNext) (q_X5_hangNext) rfl rfl rfl ⟨Nat.le_of_ble_eq_true rfl, Nat.le_of_ble_eq_true rfl⟩ hl.1 rfl (Nat.le_of_ble_eq_true rfl) dX5_hang_62 ⟨Nat.le_of_ble_eq_true rfl, Nat.le_of_ble_eq_true rfl⟩) (fun κ3 H locs eκ3 hw => ?_)
          rw [eκ3] at hF
          try dsimp only at hF
          refine lv_aload_n hM.x hM.b dX5_hang_65 rfl (lv_at hl 0 rfl) ?_
          refine lv_dup hM.x hM.b dX5_hang_66 rfl ?_
          refine k_get5 3 hM hw (by decide) u_fl_X5_45 dX5_hang_67 ?_
          refine lv_iconst (v := 1) hM.x hM.b dX5_hang_70 (by decide) ?_
          refine lv_iadd hM.x hM.b dX5_hang_71 ?_
          refine k_put5 3 hM hw (by decide) u_fl_X5_45 dX5_hang_72 (fun H locs hw => ?_)
          obtain ⟨κ4, eκ4⟩ : ∃ z : Kp, up2 κ3 (91) 3 (((κ3 91 3) + (1))) = z := ⟨_, rfl⟩
          rw [eκ4] at hw
          rw [eκ4] at hF
          try dsimp only at hF
          refine lv_aload_n hM.x hM.b dX5_hang_75 rfl (lv_at hl 0 rfl) ?_
          refine k_get5 3 hM hw (by decide) u_fl_X5_45 dX5_hang_76 ?_
          refine lv_iconst (v := 1) hM.x hM.b dX5_hang_79 (by decide) ?_
          refine lv_isub hM.x hM.b dX5_hang_80 ?_
          exact k_iret hM hr hw (Nat.le_of_ble_eq_true rfl) (Nat.le_of_ble_eq_true rfl) hF dX5_hang_81
        · rw [if_pos c4] at hF
          refine lv_aload_n hM.x hM.b dX5_hang_53 rfl (lv_at hl 0 rfl) ?_
          refine lv_iconst (v := 3) hM.x hM.b dX5_hang_54 (by decide) ?_
          refine k_ci hw (k_runV [.int (3)] [] hM hw (m_X5_fail l g κ1 _ (3)) (kd_lt kd_91 (by decide)) (sh5 kd_91) rfl (k_gV u_ml_X5_103 u_im_X5_fail u_se_X5_fail u_ini_X5 u_co_X5_fail) (q_X5_fail) rfl rfl rfl ⟨Nat.le_of_ble_eq_true rfl, Nat.le_of_ble_eq_true rfl⟩ hl.1 rfl (Nat.le_of_ble_eq_true rfl) dX5_hang_55 ⟨Nat.le_of_ble_eq_true rfl, Nat.le_of_ble_eq_true rfl⟩) (fun r2 κ5 H locs hpκ5 hw => ?_)
          simp only [hpκ5] at hF
          exact k_iret hM hr hw (Nat.le_of_ble_eq_true rfl) (Nat.le_of_ble_eq_true rfl) hF dX5_hang_58
    · rw [if_pos c2] at hF
      refine lv_aload_n hM.x hM.b dX5_hang_29 rfl (lv_at hl 0 rfl) ?_
      refine lv_iconst (v := 2) hM.x hM.b dX5_hang_30 (by decide) ?_
      refine k_ci hw (k_runV [.int (2)] [] hM hw (m_X5_fail l g κ1 _ (2)) (kd_lt kd_91 (by decide)) (sh5 kd_91) rfl (k_gV u_ml_X5_103 u_im_X5_fail u_se_X5_fail u_ini_X5 u_co_X5_fail) (q_X5_fail) rfl rfl rfl ⟨Nat.le_of_ble_eq_true rfl, Nat.le_of_ble_eq_true rfl⟩ hl.1 rfl (Nat.le_of_ble_eq_true rfl) dX5_hang_31 ⟨Nat.le_of_ble_eq_true rfl, Nat.le_of_ble_eq_true rfl⟩) (fun r3 κ6 H locs hpκ6 hw => ?_)
      simp only [hpκ6] at hF
      exact k_iret hM hr hw (Nat.le_of_ble_eq_true rfl) (Nat.le_of_ble_eq_true rfl) hF dX5_hang_34
  · rw [if_pos c1] at hF
    refine lv_aload_n hM.x hM.b dX5_hang_13 rfl (lv_at hl 0 rfl) ?_
    refine lv_iconst (v := 1) hM.x hM.b dX5_hang_14 (by decide) ?_
    refine k_ci hw (k_runV [.int (1)] [] hM hw (m_X5_fail l g κ1 _ (1)) (kd_lt kd_91 (by decide)) (sh5 kd_91) rfl (k_gV u_ml_X5_103 u_im_X5_fail u_se_X5_fail u_ini_X5 u_co_X5_fail) (q_X5_fail) rfl rfl rfl ⟨Nat.le_of_ble_eq_true rfl, Nat.le_of_ble_eq_true rfl⟩ hl.1 rfl (Nat.le_of_ble_eq_true rfl) dX5_hang_15 ⟨Nat.le_of_ble_eq_true rfl, Nat.le_of_ble_eq_true rfl⟩) (fun r4 κ7 H locs hpκ7 hw => ?_)
    simp only [hpκ7] at hF
    exact k_iret hM hr hw (Nat.le_of_ble_eq_true rfl) (Nat.le_of_ble_eq_true rfl) hF dX5_hang_18
theorem q_X5_turnNow : hdV yX5_turnNow RX5 1 := ⟨rfl, by decide +kernel, by decide +kernel, by decide +kernel⟩
def f_X5_turnNow (κ : Kp) (a : Int32) : Int32 × Kp := match f_X5_holds κ (a) with | (r1, κ1) => (if (r1) = 0 then ((0, κ1)) else ((fun κ2 : Kp => (f_X5_ro κ2 (((f_X5_sp κ2 (a) (2)) - (1))) (1), κ2)) (f_X5_turn κ1 (((f_X5_sp κ1 (a) (2)) - (1))))))
set_option maxRecDepth 100000 in
set_option maxHeartbeats 4000000 in
theorem m_X5_turnNow (l : Launch) (g : Gt) (κ : Kp) (sz : Nat) (a : Int32) (hMI : MI κ) : Met l yX5_turnNow (.code yX5_turnNow cX5_turnNow 2 (some .int) :: uW) { frames := 3, cells := 0, slots := 0, locals := 90 } (PRE g κ sz [.ref (g.2.2 (91)), .int (a)]) (va_Qi (fun r κ' => f_X5_turnNow κ a = (r, κ')) (Wp g) (fr g sz)) 0 0 (fr g sz) := by
  refine k_enter (by decide +kernel) (Nat.le_of_ble_eq_true rfl) ?_
  intro p e s m below meth c ls hM hr hl hw hsz
  subst hsz
  have hl : lv_has ls 2 [(0, .ref (g.2.2 (91))), (1, .int (a))] := hl
  have hF := f_X5_turnNow.eq_1 κ a
  refine lv_aload_n hM.x hM.b dX5_turnNow_0 rfl (lv_at hl 0 rfl) ?_
  refine lv_iload_n hM.x hM.b dX5_turnNow_1 rfl (lv_at hl 1 rfl) ?_
  refine k_ci hw (k_runV [.int (a)] [] hM hw (m_X5_holds l g κ _ (a) hMI) (kd_lt kd_91 (by decide)) (sh5 kd_91) rfl (k_gV u_ml_X5_119 u_im_X5_holds u_se_X5_holds u_ini_X5 u_co_X5_holds) (q_X5_holds) rfl rfl rfl ⟨Nat.le_of_ble_eq_true rfl, Nat.le_of_ble_eq_true rfl⟩ hl.1 rfl (Nat.le_of_ble_eq_true rfl) dX5_turnNow_2 ⟨Nat.le_of_ble_eq_true rfl, Nat.le_of_ble_eq_true rfl⟩) (fun r1 κ1 H locs hpκ1 hw => ?_)
  simp only [hpκ1] at hF
  refine lv_if_ne (tgt := 10) hM.x hM.b dX5_turnNow_5 (by decide) (fun c1 => ?_) (fun c1 => ?_)
  · rw [if_neg c1] at hF
    refine lv_aload_n hM.x hM.b dX5_turnNow_10 rfl (lv_at hl 0 rfl) ?_
    refine lv_aload_n hM.x hM.b dX5_turnNow_11 rfl (lv_at hl 0 rfl) ?_
    refine lv_iload_n hM.x hM.b dX5_turnNow_12 rfl (lv_at hl 1 rfl) ?_
    refine lv_iconst (v := 2) hM.x hM.b dX5_turnNow_13 (by decide) ?_
    refine k_cip hw (k_runV [.int (a), .int (2)] [.ref (g.2.2 (91))] hM hw (m_X5_sp l g κ1 _ (a) (2) (holds_in hpκ1 hMI c1) (vin_lit (by decide) : vp_in 2 5)) (kd_lt kd_91 (by decide)) (sh5 kd_91) rfl (k_gV u_ml_X5_58 u_im_X5_sp u_se_X5_sp u_ini_X5 u_co_X5_sp) (q_X5_sp) rfl rfl rfl ⟨Nat.le_of_ble_eq_true rfl, Nat.le_of_ble_eq_true rfl⟩ hl.1 rfl (Nat.le_of_ble_eq_true rfl) dX5_turnNow_14 ⟨Nat.le_of_ble_eq_true rfl, Nat.le_of_ble_eq_true rfl⟩) (fun H locs hw => ?_)
    refine lv_iconst (v := 1) hM.x hM.b dX5_turnNow_17 (by decide) ?_
    refine lv_isub hM.x hM.b dX5_turnNow_18 ?_
    refine k_cvp hw (k_runV [.int (((f_X5_sp κ1 (a) (2)) - (1)))] [] hM hw (m_X5_turn l g κ1 _ (((f_X5_sp κ1 (a) (2)) - (1))) (holds_r hpκ1 hMI c1)) (kd_lt kd_91 (by decide)) (sh5 kd_91) rfl (k_gV u_ml_X5_96 u_im_X5_turn u_se_X5_turn u_ini_X5 u_co_X5_turn) (q_X5_turn) rfl rfl rfl ⟨Nat.le_of_ble_eq_true rfl, Nat.le_of_ble_eq_true rfl⟩ hl.1 rfl (Nat.le_of_ble_eq_true rfl) dX5_turnNow_19 ⟨Nat.le_of_ble_eq_true rfl, Nat.le_of_ble_eq_true rfl⟩) (fun κ2 H locs eκ2 hw => ?_)
    rw [eκ2] at hF
    try dsimp only at hF
    refine lv_aload_n hM.x hM.b dX5_turnNow_22 rfl (lv_at hl 0 rfl) ?_
    refine lv_aload_n hM.x hM.b dX5_turnNow_23 rfl (lv_at hl 0 rfl) ?_
    refine lv_iload_n hM.x hM.b dX5_turnNow_24 rfl (lv_at hl 1 rfl) ?_
    refine lv_iconst (v := 2) hM.x hM.b dX5_turnNow_25 (by decide) ?_
    refine k_cip hw (k_runV [.int (a), .int (2)] [.ref (g.2.2 (91))] hM hw (m_X5_sp l g κ2 _ (a) (2) (holds_in hpκ1 hMI c1) (vin_lit (by decide) : vp_in 2 5)) (kd_lt kd_91 (by decide)) (sh5 kd_91) rfl (k_gV u_ml_X5_58 u_im_X5_sp u_se_X5_sp u_ini_X5 u_co_X5_sp) (q_X5_sp) rfl rfl rfl ⟨Nat.le_of_ble_eq_true rfl, Nat.le_of_ble_eq_true rfl⟩ hl.1 rfl (Nat.le_of_ble_eq_true rfl) dX5_turnNow_26 ⟨Nat.le_of_ble_eq_true rfl, Nat.le_of_ble_eq_true rfl⟩) (fun H locs hw => ?_)
    refine lv_iconst (v := 1) hM.x hM.b dX5_turnNow_29 (by decide) ?_
    refine lv_isub hM.x hM.b dX5_turnNow_30 ?_
    refine lv_iconst (v := 1) hM.x hM.b dX5_turnNow_31 (by decide) ?_
    refine k_cip hw (k_runV [.int (((f_X5_sp κ2 (a) (2)) - (1))), .int (1)] [] hM hw (m_X5_ro l g κ2 _ (((f_X5_sp κ2 (a) (2)) - (1))) (1) (hop_turn eκ2 (holds_r hpκ1 hMI c1) (holds_in hpκ1 hMI c1) (holds_r hpκ1 hMI c1)) (vin_lit (by decide) : vp_in 1 8)) (kd_lt kd_91 (by decide)) (sh5 kd_91) rfl (k_gV u_ml_X5_61 u_im_X5_ro u_se_X5_ro u_ini_X5 u_co_X5_ro) (q_X5_ro) rfl rfl rfl ⟨Nat.le_of_ble_eq_true rfl, Nat.le_of_ble_eq_true rfl⟩ hl.1 rfl (Nat.le_of_ble_eq_true rfl) dX5_turnNow_32 ⟨Nat.le_of_ble_eq_true rfl, Nat.le_of_ble_eq_true rfl⟩) (fun H locs hw => ?_)
    exact k_iret hM hr hw (Nat.le_of_ble_eq_true rfl) (Nat.le_of_ble_eq_true rfl) hF dX5_turnNow_35
  · rw [if_pos c1] at hF
    refine lv_iconst (v := 0) hM.x hM.b dX5_turnNow_8 (by decide) ?_
    exact k_iret hM hr hw (Nat.le_of_ble_eq_true rfl) (Nat.le_of_ble_eq_true rfl) hF dX5_turnNow_9
theorem q_X5_baste : hdV yX5_baste RX5 1 := ⟨rfl, by decide +kernel, by decide +kernel, by decide +kernel⟩
def f_X5_baste (κ : Kp) (a : Int32) : Int32 × Kp := match f_X5_holds κ (a) with | (r1, κ1) => (if (r1) = 0 then ((0, κ1)) else (if (2) ≤ (f_X5_sp κ1 (a) (1)) then ((fun κ2 : Kp => (fun κ3 : Kp => (f_X5_sp κ3 (a) (1), κ3)) (f_X5_let κ2 (((f_X5_sp κ2 (a) (2)) - (1))) (3) (3))) (f_X5_letSpit κ1 (a) (1) (((f_X5_sp κ1 (a) (1)) - (2))))) else (match f_X5_fail κ1 (2) with | (r2, κ4) => ((r2, κ4)))))
set_option maxRecDepth 100000 in
set_option maxHeartbeats 4000000 in
theorem m_X5_baste (l : Launch) (g : Gt) (κ : Kp) (sz : Nat) (a : Int32) (hMI : MI κ) : Met l yX5_baste (.code yX5_baste cX5_baste 2 (some .int) :: uW) { frames := 3, cells := 0, slots := 0, locals := 90 } (PRE g κ sz [.ref (g.2.2 (91)), .int (a)]) (va_Qi (fun r κ' => f_X5_baste κ a = (r, κ')) (Wp g) (fr g sz)) 0 0 (fr g sz) := by
  refine k_enter (by decide +kernel) (Nat.le_of_ble_eq_true rfl) ?_
  intro p e s m below meth c ls hM hr hl hw hsz
  subst hsz
  have hl : lv_has ls 2 [(0, .ref (g.2.2 (91))), (1, .int (a))] := hl
  have hF := f_X5_baste.eq_1 κ a
  refine lv_aload_n hM.x hM.b dX5_baste_0 rfl (lv_at hl 0 rfl) ?_
  refine lv_iload_n hM.x hM.b dX5_baste_1 rfl (lv_at hl 1 rfl) ?_
  refine k_ci hw (k_runV [.int (a)] [] hM hw (m_X5_holds l g κ _ (a) hMI) (kd_lt kd_91 (by decide)) (sh5 kd_91) rfl (k_gV u_ml_X5_119 u_im_X5_holds u_se_X5_holds u_ini_X5 u_co_X5_holds) (q_X5_holds) rfl rfl rfl ⟨Nat.le_of_ble_eq_true rfl, Nat.le_of_ble_eq_true rfl⟩ hl.1 rfl (Nat.le_of_ble_eq_true rfl) dX5_baste_2 ⟨Nat.le_of_ble_eq_true rfl, Nat.le_of_ble_eq_true rfl⟩) (fun r1 κ1 H locs hpκ1 hw => ?_)
  simp only [hpκ1] at hF
  refine lv_if_ne (tgt := 10) hM.x hM.b dX5_baste_5 (by decide) (fun c1 => ?_) (fun c1 => ?_)
  · rw [if_neg c1] at hF
    refine lv_aload_n hM.x hM.b dX5_baste_10 rfl (lv_at hl 0 rfl) ?_
    refine lv_iload_n hM.x hM.b dX5_baste_11 rfl (lv_at hl 1 rfl) ?_
    refine lv_iconst (v := 1) hM.x hM.b dX5_baste_12 (by decide) ?_
    refine k_cip hw (k_runV [.int (a), .int (1)] [] hM hw (m_X5_sp l g κ1 _ (a) (1) (holds_in hpκ1 hMI c1) (vin_lit (by decide) : vp_in 1 5)) (kd_lt kd_91 (by decide)) (sh5 kd_91) rfl (k_gV u_ml_X5_58 u_im_X5_sp u_se_X5_sp u_ini_X5 u_co_X5_sp) (q_X5_sp) rfl rfl rfl ⟨Nat.le_of_ble_eq_true rfl, Nat.le_of_ble_eq_true rfl⟩ hl.1 rfl (Nat.le_of_ble_eq_true rfl) dX5_baste_13 ⟨Nat.le_of_ble_eq_true rfl, Nat.le_of_ble_eq_true rfl⟩) (fun H locs hw => ?_)
    refine lv_iconst (v := 2) hM.x hM.b dX5_baste_16 (by decide) ?_
    refine lv_icmp_ge (tgt := 26) hM.x hM.b dX5_baste_17 (by decide) (fun c2 => ?_) (fun c2 => ?_)
    · rw [if_pos c2] at hF
      refine lv_aload_n hM.x hM.b dX5_baste_26 rfl (lv_at hl 0 rfl) ?_
      refine lv_iload_n hM.x hM.b dX5_baste_27 rfl (lv_at hl 1 rfl) ?_
      refine lv_iconst (v := 1) hM.x hM.b dX5_baste_28 (by decide) ?_
      refine lv_aload_n hM.x hM.b dX5_baste_29 rfl (lv_at hl 0 rfl) ?_
      refine lv_iload_n hM.x hM.b dX5_baste_30 rfl (lv_at hl 1 rfl) ?_
      refine lv_iconst (v := 1) hM.x hM.b dX5_baste_31 (by decide) ?_
      refine k_cip hw (k_runV [.int (a), .int (1)] [.int (1), .int (a), .ref (g.2.2 (91))] hM hw (m_X5_sp l g κ1 _ (a) (1) (holds_in hpκ1 hMI c1) (vin_lit (by decide) : vp_in 1 5)) (kd_lt kd_91 (by decide)) (sh5 kd_91) rfl (k_gV u_ml_X5_58 u_im_X5_sp u_se_X5_sp u_ini_X5 u_co_X5_sp) (q_X5_sp) rfl rfl rfl ⟨Nat.le_of_ble_eq_true rfl, Nat.le_of_ble_eq_true rfl⟩ hl.1 rfl (Nat.le_of_ble_eq_true rfl) dX5_baste_32 ⟨Nat.le_of_ble_eq_true rfl, Nat.le_of_ble_eq_true rfl⟩) (fun H locs hw => ?_)
      refine lv_iconst (v := 2) hM.x hM.b dX5_baste_35 (by decide) ?_
      refine lv_isub hM.x hM.b dX5_baste_36 ?_
      refine k_cvp hw (k_runV [.int (a), .int (1), .int (((f_X5_sp κ1 (a) (1)) - (2)))] [] hM hw (m_X5_letSpit l g κ1 _ (a) (1) (((f_X5_sp κ1 (a) (1)) - (2))) (holds_in hpκ1 hMI c1) (vin_lit (by decide) : vp_in 1 5)) (kd_lt kd_91 (by decide)) (sh5 kd_91) rfl (k_gV u_ml_X5_86 u_im_X5_letSpit u_se_X5_letSpit u_ini_X5 u_co_X5_letSpit) (q_X5_letSpit) rfl rfl rfl ⟨Nat.le_of_ble_eq_true rfl, Nat.le_of_ble_eq_true rfl⟩ hl.1 rfl (Nat.le_of_ble_eq_true rfl) dX5_baste_37 ⟨Nat.le_of_ble_eq_true rfl, Nat.le_of_ble_eq_true rfl⟩) (fun κ2 H locs eκ2 hw => ?_)
      rw [eκ2] at hF
      try dsimp only at hF
      refine lv_aload_n hM.x hM.b dX5_baste_40 rfl (lv_at hl 0 rfl) ?_
      refine lv_aload_n hM.x hM.b dX5_baste_41 rfl (lv_at hl 0 rfl) ?_
      refine lv_iload_n hM.x hM.b dX5_baste_42 rfl (lv_at hl 1 rfl) ?_
      refine lv_iconst (v := 2) hM.x hM.b dX5_baste_43 (by decide) ?_
      refine k_cip hw (k_runV [.int (a), .int (2)] [.ref (g.2.2 (91))] hM hw (m_X5_sp l g κ2 _ (a) (2) (holds_in hpκ1 hMI c1) (vin_lit (by decide) : vp_in 2 5)) (kd_lt kd_91 (by decide)) (sh5 kd_91) rfl (k_gV u_ml_X5_58 u_im_X5_sp u_se_X5_sp u_ini_X5 u_co_X5_sp) (q_X5_sp) rfl rfl rfl ⟨Nat.le_of_ble_eq_true rfl, Nat.le_of_ble_eq_true rfl⟩ hl.1 rfl (Nat.le_of_ble_eq_true rfl) dX5_baste_44 ⟨Nat.le_of_ble_eq_true rfl, Nat.le_of_ble_eq_true rfl⟩) (fun H locs hw => ?_)
      refine lv_iconst (v := 1) hM.x hM.b dX5_baste_47 (by decide) ?_
      refine lv_isub hM.x hM.b dX5_baste_48 ?_
      refine lv_iconst (v := 3) hM.x hM.b dX5_baste_49 (by decide) ?_
      refine lv_iconst (v := 3) hM.x hM.b dX5_baste_50 (by decide) ?_
      refine k_cvp hw (k_runV [.int (((f_X5_sp κ2 (a) (2)) - (1))), .int (3), .int (3)] [] hM hw (m_X5_let l g κ2 _ (((f_X5_sp κ2 (a) (2)) - (1))) (3) (3) (hop_letSpit eκ2 (holds_in hpκ1 hMI c1) (holds_in hpκ1 hMI c1) (vin_lit (by decide)) (by decide) (holds_r hpκ1 hMI c1)) (vin_lit (by decide) : vp_in 3 8)) (kd_lt kd_91 (by decide)) (sh5 kd_91) rfl (k_gV u_ml_X5_73 u_im_X5_let u_se_X5_let u_ini_X5 u_co_X5_let) (q_X5_let) rfl rfl rfl ⟨Nat.le_of_ble_eq_true rfl, Nat.le_of_ble_eq_true rfl⟩ hl.1 rfl (Nat.le_of_ble_eq_true rfl) dX5_baste_51 ⟨Nat.le_of_ble_eq_true rfl, Nat.le_of_ble_eq_true rfl⟩) (fun κ3 H locs eκ3 hw => ?_)
      rw [eκ3] at hF
      try dsimp only at hF
      refine lv_aload_n hM.x hM.b dX5_baste_54 rfl (lv_at hl 0 rfl) ?_
      refine lv_iload_n hM.x hM.b dX5_baste_55 rfl (lv_at hl 1 rfl) ?_
      refine lv_iconst (v := 1) hM.x hM.b dX5_baste_56 (by decide) ?_
      refine k_cip hw (k_runV [.int (a), .int (1)] [] hM hw (m_X5_sp l g κ3 _ (a) (1) (holds_in hpκ1 hMI c1) (vin_lit (by decide) : vp_in 1 5)) (kd_lt kd_91 (by decide)) (sh5 kd_91) rfl (k_gV u_ml_X5_58 u_im_X5_sp u_se_X5_sp u_ini_X5 u_co_X5_sp) (q_X5_sp) rfl rfl rfl ⟨Nat.le_of_ble_eq_true rfl, Nat.le_of_ble_eq_true rfl⟩ hl.1 rfl (Nat.le_of_ble_eq_true rfl) dX5_baste_57 ⟨Nat.le_of_ble_eq_true rfl, Nat.le_of_ble_eq_true rfl⟩) (fun H locs hw => ?_)
      exact k_iret hM hr hw (Nat.le_of_ble_eq_true rfl) (Nat.le_of_ble_eq_true rfl) hF dX5_baste_60
    · rw [if_neg c2] at hF
      refine lv_aload_n hM.x hM.b dX5_baste_20 rfl (lv_at hl 0 rfl) ?_
      refine lv_iconst (v := 2) hM.x hM.b dX5_baste_21 (by decide) ?_
      refine k_ci hw (k_runV [.int (2)] [] hM hw (m_X5_fail l g κ1 _ (2)) (kd_lt kd_91 (by decide)) (sh5 kd_91) rfl (k_gV u_ml_X5_103 u_im_X5_fail u_se_X5_fail u_ini_X5 u_co_X5_fail) (q_X5_fail) rfl rfl rfl ⟨Nat.le_of_ble_eq_true rfl, Nat.le_of_ble_eq_true rfl⟩ hl.1 rfl (Nat.le_of_ble_eq_true rfl) dX5_baste_22 ⟨Nat.le_of_ble_eq_true rfl, Nat.le_of_ble_eq_true rfl⟩) (fun r2 κ4 H locs hpκ4 hw => ?_)
      simp only [hpκ4] at hF
      exact k_iret hM hr hw (Nat.le_of_ble_eq_true rfl) (Nat.le_of_ble_eq_true rfl) hF dX5_baste_25
  · rw [if_pos c1] at hF
    refine lv_iconst (v := 0) hM.x hM.b dX5_baste_8 (by decide) ?_
    exact k_iret hM hr hw (Nat.le_of_ble_eq_true rfl) (Nat.le_of_ble_eq_true rfl) hF dX5_baste_9
theorem q_X5_takeDown : hdV yX5_takeDown RX5 1 := ⟨rfl, by decide +kernel, by decide +kernel, by decide +kernel⟩
def f_X5_takeDown (κ : Kp) (a : Int32) : Int32 × Kp := match f_X5_holds κ (a) with | (r1, κ1) => (if (r1) = 0 then ((0, κ1)) else ((fun κ2 : Kp => (fun κ3 : Kp => (((f_X5_sp κ1 (a) (2)) - (1)), κ3)) (f_X5_let κ2 (((f_X5_sp κ1 (a) (2)) - (1))) (0) (0))) (f_X5_letSpit κ1 (a) (2) (0))))
set_option maxRecDepth 100000 in
set_option maxHeartbeats 4000000 in
theorem m_X5_takeDown (l : Launch) (g : Gt) (κ : Kp) (sz : Nat) (a : Int32) (hMI : MI κ) : Met l yX5_takeDown (.code yX5_takeDown cX5_takeDown 3 (some .int) :: uW) { frames := 3, cells := 0, slots := 0, locals := 90 } (PRE g κ sz [.ref (g.2.2 (91)), .int (a)]) (va_Qi (fun r κ' => f_X5_takeDown κ a = (r, κ')) (Wp g) (fr g sz)) 0 0 (fr g sz) := by
  refine k_enter (by decide +kernel) (Nat.le_of_ble_eq_true rfl) ?_
  intro p e s m below meth c ls hM hr hl hw hsz
  subst hsz
  have hl : lv_has ls 3 [(0, .ref (g.2.2 (91))), (1, .int (a))] := hl
  have hF := f_X5_takeDown.eq_1 κ a
  refine lv_aload_n hM.x hM.b dX5_takeDown_0 rfl (lv_at hl 0 rfl) ?_
  refine lv_iload_n hM.x hM.b dX5_takeDown_1 rfl (lv_at hl 1 rfl) ?_
  refine k_ci hw (k_runV [.int (a)] [] hM hw (m_X5_holds l g κ _ (a) hMI) (kd_lt kd_91 (by decide)) (sh5 kd_91) rfl (k_gV u_ml_X5_119 u_im_X5_holds u_se_X5_holds u_ini_X5 u_co_X5_holds) (q_X5_holds) rfl rfl rfl ⟨Nat.le_of_ble_eq_true rfl, Nat.le_of_ble_eq_true rfl⟩ hl.1 rfl (Nat.le_of_ble_eq_true rfl) dX5_takeDown_2 ⟨Nat.le_of_ble_eq_true rfl, Nat.le_of_ble_eq_true rfl⟩) (fun r1 κ1 H locs hpκ1 hw => ?_)
  simp only [hpκ1] at hF
  refine lv_if_ne (tgt := 10) hM.x hM.b dX5_takeDown_5 (by decide) (fun c1 => ?_) (fun c1 => ?_)
  · rw [if_neg c1] at hF
    refine lv_aload_n hM.x hM.b dX5_takeDown_10 rfl (lv_at hl 0 rfl) ?_
    refine lv_iload_n hM.x hM.b dX5_takeDown_11 rfl (lv_at hl 1 rfl) ?_
    refine lv_iconst (v := 2) hM.x hM.b dX5_takeDown_12 (by decide) ?_
    refine k_cip hw (k_runV [.int (a), .int (2)] [] hM hw (m_X5_sp l g κ1 _ (a) (2) (holds_in hpκ1 hMI c1) (vin_lit (by decide) : vp_in 2 5)) (kd_lt kd_91 (by decide)) (sh5 kd_91) rfl (k_gV u_ml_X5_58 u_im_X5_sp u_se_X5_sp u_ini_X5 u_co_X5_sp) (q_X5_sp) rfl rfl rfl ⟨Nat.le_of_ble_eq_true rfl, Nat.le_of_ble_eq_true rfl⟩ hl.1 rfl (Nat.le_of_ble_eq_true rfl) dX5_takeDown_13 ⟨Nat.le_of_ble_eq_true rfl, Nat.le_of_ble_eq_true rfl⟩) (fun H locs hw => ?_)
    refine lv_iconst (v := 1) hM.x hM.b dX5_takeDown_16 (by decide) ?_
    refine lv_isub hM.x hM.b dX5_takeDown_17 ?_
    refine lv_istore_n (lv' := [(2, .int (((f_X5_sp κ1 (a) (2)) - (1)))), (0, .ref (g.2.2 (91))), (1, .int (a))]) hM.x hM.b dX5_takeDown_18 rfl hl (by decide) rfl (fun ls hl => ?_)
    refine lv_aload_n hM.x hM.b dX5_takeDown_19 rfl (lv_at hl 1 rfl) ?_
    refine lv_iload_n hM.x hM.b dX5_takeDown_20 rfl (lv_at hl 2 rfl) ?_
    refine lv_iconst (v := 2) hM.x hM.b dX5_takeDown_21 (by decide) ?_
    refine lv_iconst (v := 0) hM.x hM.b dX5_takeDown_22 (by decide) ?_
    refine k_cvp hw (k_runV [.int (a), .int (2), .int (0)] [] hM hw (m_X5_letSpit l g κ1 _ (a) (2) (0) (holds_in hpκ1 hMI c1) (vin_lit (by decide) : vp_in 2 5)) (kd_lt kd_91 (by decide)) (sh5 kd_91) rfl (k_gV u_ml_X5_86 u_im_X5_letSpit u_se_X5_letSpit u_ini_X5 u_co_X5_letSpit) (q_X5_letSpit) rfl rfl rfl ⟨Nat.le_of_ble_eq_true rfl, Nat.le_of_ble_eq_true rfl⟩ hl.1 rfl (Nat.le_of_ble_eq_true rfl) dX5_takeDown_23 ⟨Nat.le_of_ble_eq_true rfl, Nat.le_of_ble_eq_true rfl⟩) (fun κ2 H locs eκ2 hw => ?_)
    rw [eκ2] at hF
    try dsimp only at hF
    refine lv_aload_n hM.x hM.b dX5_takeDown_26 rfl (lv_at hl 1 rfl) ?_
    refine lv_iload_n hM.x hM.b dX5_takeDown_27 rfl (lv_at hl 0 rfl) ?_
    refine lv_iconst (v := 0) hM.x hM.b dX5_takeDown_28 (by decide) ?_
    refine lv_iconst (v := 0) hM.x hM.b dX5_takeDown_29 (by decide) ?_
    refine k_cvp hw (k_runV [.int (((f_X5_sp κ1 (a) (2)) - (1))), .int (0), .int (0)] [] hM hw (m_X5_let l g κ2 _ (((f_X5_sp κ1 (a) (2)) - (1))) (0) (0) (holds_r hpκ1 hMI c1) (vin_lit (by decide) : vp_in 0 8)) (kd_lt kd_91 (by decide)) (sh5 kd_91) rfl (k_gV u_ml_X5_73 u_im_X5_let u_se_X5_let u_ini_X5 u_co_X5_let) (q_X5_let) rfl rfl rfl ⟨Nat.le_of_ble_eq_true rfl, Nat.le_of_ble_eq_true rfl⟩ hl.1 rfl (Nat.le_of_ble_eq_true rfl) dX5_takeDown_30 ⟨Nat.le_of_ble_eq_true rfl, Nat.le_of_ble_eq_true rfl⟩) (fun κ3 H locs eκ3 hw => ?_)
    rw [eκ3] at hF
    try dsimp only at hF
    refine lv_iload_n hM.x hM.b dX5_takeDown_33 rfl (lv_at hl 0 rfl) ?_
    exact k_iret hM hr hw (Nat.le_of_ble_eq_true rfl) (Nat.le_of_ble_eq_true rfl) hF dX5_takeDown_34
  · rw [if_pos c1] at hF
    refine lv_iconst (v := 0) hM.x hM.b dX5_takeDown_8 (by decide) ?_
    exact k_iret hM hr hw (Nat.le_of_ble_eq_true rfl) (Nat.le_of_ble_eq_true rfl) hF dX5_takeDown_9
theorem q_X5_emptyPan : hdV yX5_emptyPan RX5 1 := ⟨rfl, by decide +kernel, by decide +kernel, by decide +kernel⟩
def f_X5_emptyPan (κ : Kp) (a : Int32) : Int32 × Kp := (fun κ1 : Kp => if (bi (f_X5_isSpit κ1 (a))) = 0 then (match f_X5_fail κ1 (1) with | (r1, κ3) => ((r1, κ3))) else ((fun κ2 : Kp => (f_X5_sp κ1 (a) (1), κ2)) (f_X5_letSpit κ1 (a) (1) (0)))) (up2 κ (91) 0 (0))
set_option maxRecDepth 100000 in
set_option maxHeartbeats 4000000 in
theorem m_X5_emptyPan (l : Launch) (g : Gt) (κ : Kp) (sz : Nat) (a : Int32) (hMI : MI κ) : Met l yX5_emptyPan (.code yX5_emptyPan cX5_emptyPan 3 (some .int) :: uW) { frames := 3, cells := 0, slots := 0, locals := 90 } (PRE g κ sz [.ref (g.2.2 (91)), .int (a)]) (va_Qi (fun r κ' => f_X5_emptyPan κ a = (r, κ')) (Wp g) (fr g sz)) 0 0 (fr g sz) := by
  refine k_enter (by decide +kernel) (Nat.le_of_ble_eq_true rfl) ?_
  intro p e s m below meth c ls hM hr hl hw hsz
  subst hsz
  have hl : lv_has ls 3 [(0, .ref (g.2.2 (91))), (1, .int (a))] := hl
  have hF := f_X5_emptyPan.eq_1 κ a
  refine lv_aload_n hM.x hM.b dX5_emptyPan_0 rfl (lv_at hl 0 rfl) ?_
  refine lv_iconst (v := 0) hM.x hM.b dX5_emptyPan_1 (by decide) ?_
  refine k_put5 0 hM hw (by decide) u_fl_X5_32 dX5_emptyPan_2 (fun H locs hw => ?_)
  obtain ⟨κ1, eκ1⟩ : ∃ z : Kp, up2 κ (91) 0 (0) = z := ⟨_, rfl⟩
  rw [eκ1] at hw
  rw [eκ1] at hF
  try dsimp only at hF
  refine lv_aload_n hM.x hM.b dX5_emptyPan_5 rfl (lv_at hl 0 rfl) ?_
  refine lv_iload_n hM.x hM.b dX5_emptyPan_6 rfl (lv_at hl 1 rfl) ?_
  refine k_cip hw (k_runV [.int (a)] [] hM hw (m_X5_isSpit l g κ1 _ (a)) (kd_lt kd_91 (by decide)) (sh5 kd_91) rfl (k_gV u_ml_X5_110 u_im_X5_isSpit u_se_X5_isSpit u_ini_X5 u_co_X5_isSpit) (q_X5_isSpit) rfl rfl rfl ⟨Nat.le_of_ble_eq_true rfl, Nat.le_of_ble_eq_true rfl⟩ hl.1 rfl (Nat.le_of_ble_eq_true rfl) dX5_emptyPan_7 ⟨Nat.le_of_ble_eq_true rfl, Nat.le_of_ble_eq_true rfl⟩) (fun H locs hw => ?_)
  refine lv_if_ne (tgt := 19) hM.x hM.b dX5_emptyPan_10 (by decide) (fun c1 => ?_) (fun c1 => ?_)
  · rw [if_neg c1] at hF
    refine lv_aload_n hM.x hM.b dX5_emptyPan_19 rfl (lv_at hl 0 rfl) ?_
    refine lv_iload_n hM.x hM.b dX5_emptyPan_20 rfl (lv_at hl 1 rfl) ?_
    refine lv_iconst (v := 1) hM.x hM.b dX5_emptyPan_21 (by decide) ?_
    refine k_cip hw (k_runV [.int (a), .int (1)] [] hM hw (m_X5_sp l g κ1 _ (a) (1) (isSpit_in (MI_th eκ1 hMI) c1) (vin_lit (by decide) : vp_in 1 5)) (kd_lt kd_91 (by decide)) (sh5 kd_91) rfl (k_gV u_ml_X5_58 u_im_X5_sp u_se_X5_sp u_ini_X5 u_co_X5_sp) (q_X5_sp) rfl rfl rfl ⟨Nat.le_of_ble_eq_true rfl, Nat.le_of_ble_eq_true rfl⟩ hl.1 rfl (Nat.le_of_ble_eq_true rfl) dX5_emptyPan_22 ⟨Nat.le_of_ble_eq_true rfl, Nat.le_of_ble_eq_true rfl⟩) (fun H locs hw => ?_)
    refine lv_istore_n (lv' := [(2, .int (f_X5_sp κ1 (a) (1))), (0, .ref (g.2.2 (91))), (1, .int (a))]) hM.x hM.b dX5_emptyPan_25 rfl hl (by decide) rfl (fun ls hl => ?_)
    refine lv_aload_n hM.x hM.b dX5_emptyPan_26 rfl (lv_at hl 1 rfl) ?_
    refine lv_iload_n hM.x hM.b dX5_emptyPan_27 rfl (lv_at hl 2 rfl) ?_
    refine lv_iconst (v := 1) hM.x hM.b dX5_emptyPan_28 (by decide) ?_
    refine lv_iconst (v := 0) hM.x hM.b dX5_emptyPan_29 (by decide) ?_
    refine k_cvp hw (k_runV [.int (a), .int (1), .int (0)] [] hM hw (m_X5_letSpit l g κ1 _ (a) (1) (0) (isSpit_in (MI_th eκ1 hMI) c1) (vin_lit (by decide) : vp_in 1 5)) (kd_lt kd_91 (by decide)) (sh5 kd_91) rfl (k_gV u_ml_X5_86 u_im_X5_letSpit u_se_X5_letSpit u_ini_X5 u_co_X5_letSpit) (q_X5_letSpit) rfl rfl rfl ⟨Nat.le_of_ble_eq_true rfl, Nat.le_of_ble_eq_true rfl⟩ hl.1 rfl (Nat.le_of_ble_eq_true rfl) dX5_emptyPan_30 ⟨Nat.le_of_ble_eq_true rfl, Nat.le_of_ble_eq_true rfl⟩) (fun κ2 H locs eκ2 hw => ?_)
    rw [eκ2] at hF
    try dsimp only at hF
    refine lv_iload_n hM.x hM.b dX5_emptyPan_33 rfl (lv_at hl 0 rfl) ?_
    exact k_iret hM hr hw (Nat.le_of_ble_eq_true rfl) (Nat.le_of_ble_eq_true rfl) hF dX5_emptyPan_34
  · rw [if_pos c1] at hF
    refine lv_aload_n hM.x hM.b dX5_emptyPan_13 rfl (lv_at hl 0 rfl) ?_
    refine lv_iconst (v := 1) hM.x hM.b dX5_emptyPan_14 (by decide) ?_
    refine k_ci hw (k_runV [.int (1)] [] hM hw (m_X5_fail l g κ1 _ (1)) (kd_lt kd_91 (by decide)) (sh5 kd_91) rfl (k_gV u_ml_X5_103 u_im_X5_fail u_se_X5_fail u_ini_X5 u_co_X5_fail) (q_X5_fail) rfl rfl rfl ⟨Nat.le_of_ble_eq_true rfl, Nat.le_of_ble_eq_true rfl⟩ hl.1 rfl (Nat.le_of_ble_eq_true rfl) dX5_emptyPan_15 ⟨Nat.le_of_ble_eq_true rfl, Nat.le_of_ble_eq_true rfl⟩) (fun r1 κ3 H locs hpκ3 hw => ?_)
    simp only [hpκ3] at hF
    exact k_iret hM hr hw (Nat.le_of_ble_eq_true rfl) (Nat.le_of_ble_eq_true rfl) hF dX5_emptyPan_18
