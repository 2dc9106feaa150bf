theorem q_X5_glow : hdV yX5_glow RX5 1 := ⟨rfl, by decide +kernel, by decide +kernel, by decide +kernel⟩
def f_X5_glow (κ : Kp) (a : Int32) : Int32 := ((f_X5_fi κ (κ (92) (a).toNatClampNeg) (1)) / (f_X5_sp κ (a) (0)))
set_option maxRecDepth 100000 in
set_option maxHeartbeats 4000000 in
theorem m_X5_glow (l : Launch) (g : Gt) (κ : Kp) (sz : Nat) (a : Int32) (ha : vp_in a 6) (hMI : MI κ) (hs : ¬ κ 91 2 ≤ a) : Met l yX5_glow (.code yX5_glow cX5_glow 2 (some .int) :: uW) { frames := 1, cells := 0, slots := 0, locals := 30 } (PRE g κ sz [.ref (g.2.2 (91)), .int (a)]) (va_Qi (fun r κ' => r = f_X5_glow κ a ∧ κ' = κ) (Wp g) (fr g sz)) 0 0 (fr g sz) := by
  refine k_enter (by decide +kernel) (Nat.le_of_ble_eq_true rfl) ?_
  intro p e s m below meth c ls hM hr hl hw hsz
  subst hsz
  have hl : lv_has ls 2 [(0, .ref (g.2.2 (91))), (1, .int (a))] := hl
  have hF := f_X5_glow.eq_1 κ a
  refine lv_aload_n hM.x hM.b dX5_glow_0 rfl (lv_at hl 0 rfl) ?_
  refine lv_aload_n hM.x hM.b dX5_glow_1 rfl (lv_at hl 0 rfl) ?_
  refine k_get5r 0 hM hw (by decide) u_fl_X5_13 dX5_glow_2 ?_
  refine lv_iload_n hM.x hM.b dX5_glow_5 rfl (lv_at hl 1 rfl) ?_
  refine k_iald (n := 6) hM hw (kd_lt kd_92 (by decide)) (sh10 kd_92) ha dX5_glow_6 ?_
  refine lv_iconst (v := 1) hM.x hM.b dX5_glow_7 (by decide) ?_
  refine k_cip hw (k_runV [.int (κ (92) (a).toNatClampNeg), .int (1)] [] hM hw (m_X5_fi l g κ _ (κ (92) (a).toNatClampNeg) (1) (MI_place hMI ha) (vin_lit (by decide) : vp_in 1 2)) (kd_lt kd_91 (by decide)) (sh5 kd_91) rfl (k_gV u_ml_X5_54 u_im_X5_fi u_se_X5_fi u_ini_X5 u_co_X5_fi) (q_X5_fi) rfl rfl rfl ⟨Nat.le_of_ble_eq_true rfl, Nat.le_of_ble_eq_true rfl⟩ hl.1 rfl (Nat.le_of_ble_eq_true rfl) dX5_glow_8 ⟨Nat.le_of_ble_eq_true rfl, Nat.le_of_ble_eq_true rfl⟩) (fun H locs hw => ?_)
  refine lv_aload_n hM.x hM.b dX5_glow_11 rfl (lv_at hl 0 rfl) ?_
  refine lv_iload_n hM.x hM.b dX5_glow_12 rfl (lv_at hl 1 rfl) ?_
  refine lv_iconst (v := 0) hM.x hM.b dX5_glow_13 (by decide) ?_
  refine k_cip hw (k_runV [.int (a), .int (0)] [.int (f_X5_fi κ (κ (92) (a).toNatClampNeg) (1))] hM hw (m_X5_sp l g κ _ (a) (0) ha (vin_lit (by decide) : vp_in 0 5)) (kd_lt kd_91 (by decide)) (sh5 kd_91) rfl (k_gV u_ml_X5_58 u_im_X5_sp u_se_X5_sp u_ini_X5 u_co_X5_sp) (q_X5_sp) rfl rfl rfl ⟨Nat.le_of_ble_eq_true rfl, Nat.le_of_ble_eq_true rfl⟩ hl.1 rfl (Nat.le_of_ble_eq_true rfl) dX5_glow_14 ⟨Nat.le_of_ble_eq_true rfl, Nat.le_of_ble_eq_true rfl⟩) (fun H locs hw => ?_)
  refine lv_idiv hM.x hM.b dX5_glow_17 (MI_feet hMI ha hs) ?_
  exact k_iret hM hr hw (Nat.le_of_ble_eq_true rfl) (Nat.le_of_ble_eq_true rfl) ⟨hF.symm, rfl⟩ dX5_glow_18
theorem q_X5_turn : hdV yX5_turn RX5 1 := ⟨rfl, by decide +kernel, by decide +kernel, by decide +kernel⟩
def f_X5_turn (κ : Kp) (a : Int32) : Kp := (fun κ1 : Kp => κ1) (f_X5_let κ (a) (1) (((((f_X5_ro κ (a) (1)) + (1))) - (((f_X5_ro κ (a) (1)) + (1))) / (4) * (4))))
set_option maxRecDepth 100000 in
set_option maxHeartbeats 4000000 in
theorem m_X5_turn (l : Launch) (g : Gt) (κ : Kp) (sz : Nat) (a : Int32) (ha : vp_in a 16) : Met l yX5_turn (.code yX5_turn cX5_turn 2 none :: uW) { frames := 1, cells := 0, slots := 0, locals := 30 } (PRE g κ sz [.ref (g.2.2 (91)), .int (a)]) (va_Qv (fun κ' => κ' = f_X5_turn κ a) (Wp g) (fr g sz)) 0 0 (fr g sz) := by
  refine k_enter (by decide +kernel) (Nat.le_of_ble_eq_true rfl) ?_
  intro p e s m below meth c ls hM hr hl hw hsz
  subst hsz
  have hl : lv_has ls 2 [(0, .ref (g.2.2 (91))), (1, .int (a))] := hl
  have hF := f_X5_turn.eq_1 κ a
  refine lv_aload_n hM.x hM.b dX5_turn_0 rfl (lv_at hl 0 rfl) ?_
  refine lv_iload_n hM.x hM.b dX5_turn_1 rfl (lv_at hl 1 rfl) ?_
  refine lv_iconst (v := 1) hM.x hM.b dX5_turn_2 (by decide) ?_
  refine lv_aload_n hM.x hM.b dX5_turn_3 rfl (lv_at hl 0 rfl) ?_
  refine lv_iload_n hM.x hM.b dX5_turn_4 rfl (lv_at hl 1 rfl) ?_
  refine lv_iconst (v := 1) hM.x hM.b dX5_turn_5 (by decide) ?_
  refine k_cip hw (k_runV [.int (a), .int (1)] [.int (1), .int (a), .ref (g.2.2 (91))] hM hw (m_X5_ro l g κ _ (a) (1) ha (vin_lit (by decide) : vp_in 1 8)) (kd_lt kd_91 (by decide)) (sh5 kd_91) rfl (k_gV u_ml_X5_61 u_im_X5_ro u_se_X5_ro u_ini_X5 u_co_X5_ro) (q_X5_ro) rfl rfl rfl ⟨Nat.le_of_ble_eq_true rfl, Nat.le_of_ble_eq_true rfl⟩ hl.1 rfl (Nat.le_of_ble_eq_true rfl) dX5_turn_6 ⟨Nat.le_of_ble_eq_true rfl, Nat.le_of_ble_eq_true rfl⟩) (fun H locs hw => ?_)
  refine lv_iconst (v := 1) hM.x hM.b dX5_turn_9 (by decide) ?_
  refine lv_iadd hM.x hM.b dX5_turn_10 ?_
  refine lv_iconst (v := 4) hM.x hM.b dX5_turn_11 (by decide) ?_
  refine lv_irem hM.x hM.b dX5_turn_12 (by decide) ?_
  refine k_cvp hw (k_runV [.int (a), .int (1), .int (((((f_X5_ro κ (a) (1)) + (1))) - (((f_X5_ro κ (a) (1)) + (1))) / (4) * (4)))] [] hM hw (m_X5_let l g κ _ (a) (1) (((((f_X5_ro κ (a) (1)) + (1))) - (((f_X5_ro κ (a) (1)) + (1))) / (4) * (4))) ha (vin_lit (by decide) : vp_in 1 8)) (kd_lt kd_91 (by decide)) (sh5 kd_91) rfl (k_gV u_ml_X5_73 u_im_X5_let u_se_X5_let u_ini_X5 u_co_X5_let) (q_X5_let) rfl rfl rfl ⟨Nat.le_of_ble_eq_true rfl, Nat.le_of_ble_eq_true rfl⟩ hl.1 rfl (Nat.le_of_ble_eq_true rfl) dX5_turn_13 ⟨Nat.le_of_ble_eq_true rfl, Nat.le_of_ble_eq_true rfl⟩) (fun κ1 H locs eκ1 hw => ?_)
  rw [eκ1] at hF
  try dsimp only at hF
  exact k_vret hM hr hw (Nat.le_of_ble_eq_true rfl) (Nat.le_of_ble_eq_true rfl) hF.symm dX5_turn_16
theorem q_X5_roasted : hdV yX5_roasted RX5 2 := ⟨rfl, by decide +kernel, by decide +kernel, by decide +kernel⟩
def f_X5_roasted (κ : Kp) (a : Int32) (b : Int32) : Kp := if (f_X5_ro κ (a) (3)) ≤ 0 then ((fun κ1 : Kp => (fun κ2 : Kp => (fun κ3 : Kp => (fun κ4 : Kp => κ4) (f_X5_tan κ3 (a) (((f_X5_ro κ1 (a) (1)) + (3))) (((κ3 (94) (a).toNatClampNeg) / (3))))) (f_X5_tan κ2 (a) (((f_X5_ro κ1 (a) (1)) + (1))) (((κ2 (94) (a).toNatClampNeg) / (3))))) (f_X5_tan κ1 (a) (f_X5_ro κ1 (a) (1)) (κ1 (94) (a).toNatClampNeg))) (up2 κ (94) ((a).toNatClampNeg) ((if (0) < (((f_X5_glow κ (b)) - (0))) then (((f_X5_glow κ (b)) - (0))) else (0))))) else ((fun κ5 : Kp => (fun κ6 : Kp => (fun κ7 : Kp => (fun κ8 : Kp => (fun κ9 : Kp => κ9) (f_X5_tan κ8 (a) (((f_X5_ro κ6 (a) (1)) + (3))) (((κ8 (94) (a).toNatClampNeg) / (3))))) (f_X5_tan κ7 (a) (((f_X5_ro κ6 (a) (1)) + (1))) (((κ7 (94) (a).toNatClampNeg) / (3))))) (f_X5_tan κ6 (a) (f_X5_ro κ6 (a) (1)) (κ6 (94) (a).toNatClampNeg))) (f_X5_let κ5 (a) (3) (((f_X5_ro κ5 (a) (3)) - (1))))) (up2 κ (94) ((a).toNatClampNeg) ((if (0) < (((f_X5_glow κ (b)) - (1))) then (((f_X5_glow κ (b)) - (1))) else (0)))))
set_option maxRecDepth 100000 in
set_option maxHeartbeats 4000000 in
theorem m_X5_roasted (l : Launch) (g : Gt) (κ : Kp) (sz : Nat) (a : Int32) (b : Int32) (ha : vp_in a 16) (hb : vp_in b 6) (hMI : MI κ) (hs : ¬ κ 91 2 ≤ b) : Met l yX5_roasted (.code yX5_roasted cX5_roasted 5 none :: uW) { frames := 2, cells := 0, slots := 0, locals := 60 } (PRE g κ sz [.ref (g.2.2 (91)), .int (a), .int (b)]) (va_Qv (fun κ' => κ' = f_X5_roasted κ a b) (Wp g) (fr g sz)) 0 0 (fr g sz) := by
  refine k_enter (by decide +kernel) (Nat.le_of_ble_eq_true rfl) ?_
  intro p e s m below meth c ls hM hr hl hw hsz
  subst hsz
  have hl : lv_has ls 5 [(0, .ref (g.2.2 (91))), (1, .int (a)), (2, .int (b))] := hl
  have hF := f_X5_roasted.eq_1 κ a b
  refine lv_aload_n hM.x hM.b dX5_roasted_0 rfl (lv_at hl 0 rfl) ?_
  refine lv_iload_n hM.x hM.b dX5_roasted_1 rfl (lv_at hl 1 rfl) ?_
  refine lv_iconst (v := 3) hM.x hM.b dX5_roasted_2 (by decide) ?_
  refine k_cip hw (k_runV [.int (a), .int (3)] [] hM hw (m_X5_ro l g κ _ (a) (3) ha (vin_lit (by decide) : vp_in 3 8)) (kd_lt kd_91 (by decide)) (sh5 kd_91) rfl (k_gV u_ml_X5_61 u_im_X5_ro u_se_X5_ro u_ini_X5 u_co_X5_ro) (q_X5_ro) rfl rfl rfl ⟨Nat.le_of_ble_eq_true rfl, Nat.le_of_ble_eq_true rfl⟩ hl.1 rfl (Nat.le_of_ble_eq_true rfl) dX5_roasted_3 ⟨Nat.le_of_ble_eq_true rfl, Nat.le_of_ble_eq_true rfl⟩) (fun H locs hw => ?_)
  refine lv_if_le (tgt := 13) hM.x hM.b dX5_roasted_6 (by decide) (fun c1 => ?_) (fun c1 => ?_)
  · rw [if_pos c1] at hF
    refine lv_iconst (v := 0) hM.x hM.b dX5_roasted_13 (by decide) ?_
    refine lv_istore_n (lv' := [(3, .int (0)), (0, .ref (g.2.2 (91))), (1, .int (a)), (2, .int (b))]) hM.x hM.b dX5_roasted_14 rfl hl (by decide) rfl (fun ls hl => ?_)
    refine lv_aload_n hM.x hM.b dX5_roasted_15 rfl (lv_at hl 1 rfl) ?_
    refine k_get5r 2 hM hw (by decide) u_fl_X5_20 dX5_roasted_16 ?_
    refine lv_iload_n hM.x hM.b dX5_roasted_19 rfl (lv_at hl 2 rfl) ?_
    refine lv_iconst (v := 0) hM.x hM.b dX5_roasted_20 (by decide) ?_
    refine lv_aload_n hM.x hM.b dX5_roasted_21 rfl (lv_at hl 1 rfl) ?_
    refine lv_iload_n hM.x hM.b dX5_roasted_22 rfl (lv_at hl 3 rfl) ?_
    refine k_cip hw (k_runV [.int (b)] [.int (0), .int (a), .ref (g.2.2 (94))] hM hw (m_X5_glow l g κ _ (b) hb hMI hs) (kd_lt kd_91 (by decide)) (sh5 kd_91) rfl (k_gV u_ml_X5_77 u_im_X5_glow u_se_X5_glow u_ini_X5 u_co_X5_glow) (q_X5_glow) rfl rfl rfl ⟨Nat.le_of_ble_eq_true rfl, Nat.le_of_ble_eq_true rfl⟩ hl.1 rfl (Nat.le_of_ble_eq_true rfl) dX5_roasted_23 ⟨Nat.le_of_ble_eq_true rfl, Nat.le_of_ble_eq_true rfl⟩) (fun H locs hw => ?_)
    refine lv_iload_n hM.x hM.b dX5_roasted_26 rfl (lv_at hl 0 rfl) ?_
    refine lv_if_eq (tgt := 34) hM.x hM.b dX5_roasted_27 (by decide) (fun _ => ?_) (fun cz => absurd cz (by decide))
    refine lv_iconst (v := 0) hM.x hM.b dX5_roasted_34 (by decide) ?_
    refine lv_isub hM.x hM.b dX5_roasted_35 ?_
    refine va_mmax hM.x hM.b (hM.ml.trans hl.1.symm) hM.ow (hM.ts _ u_ml_X5_80) (hM.ts _ u_st_JM_max) (hM.ts _ u_ini_JM) (hM.ts _ u_co_JM_max) (Nat.le_of_ble_eq_true rfl) (Nat.le_of_ble_eq_true rfl) (Nat.le_of_ble_eq_true rfl) (Nat.le_of_ble_eq_true rfl) dX5_roasted_36 ?_
    refine k_iast (n := 16) hM hw (kd_lt kd_94 (by decide)) (fun r => sh11 kd_94) ha dX5_roasted_39 (fun H locs hw => ?_)
    obtain ⟨κ1, eκ1⟩ : ∃ z : Kp, up2 κ (94) ((a).toNatClampNeg) ((if (0) < (((f_X5_glow κ (b)) - (0))) then (((f_X5_glow κ (b)) - (0))) else (0))) = z := ⟨_, rfl⟩
    rw [eκ1] at hw
    rw [eκ1] at hF
    try dsimp only at hF
    refine lv_iload_n hM.x hM.b dX5_roasted_40 rfl (lv_at hl 0 rfl) ?_
    refine lv_if_eq (tgt := 58) hM.x hM.b dX5_roasted_41 (by decide) (fun _ => ?_) (fun cz => absurd cz (by decide))
    refine lv_aload_n hM.x hM.b dX5_roasted_58 rfl (lv_at hl 1 rfl) ?_
    refine lv_iload_n hM.x hM.b dX5_roasted_59 rfl (lv_at hl 2 rfl) ?_
    refine lv_iconst (v := 1) hM.x hM.b dX5_roasted_60 (by decide) ?_
    refine k_cip hw (k_runV [.int (a), .int (1)] [] hM hw (m_X5_ro l g κ1 _ (a) (1) ha (vin_lit (by decide) : vp_in 1 8)) (kd_lt kd_91 (by decide)) (sh5 kd_91) rfl (k_gV u_ml_X5_61 u_im_X5_ro u_se_X5_ro u_ini_X5 u_co_X5_ro) (q_X5_ro) rfl rfl rfl ⟨Nat.le_of_ble_eq_true rfl, Nat.le_of_ble_eq_true rfl⟩ hl.1 rfl (Nat.le_of_ble_eq_true rfl) dX5_roasted_61 ⟨Nat.le_of_ble_eq_true rfl, Nat.le_of_ble_eq_true rfl⟩) (fun H locs hw => ?_)
    refine lv_istore (lv' := [(4, .int (f_X5_ro κ1 (a) (1))), (3, .int (0)), (0, .ref (g.2.2 (91))), (1, .int (a)), (2, .int (b))]) hM.x hM.b dX5_roasted_64 hl (by decide) rfl (fun ls hl => ?_)
    refine lv_aload_n hM.x hM.b dX5_roasted_66 rfl (lv_at hl 2 rfl) ?_
    refine lv_iload_n hM.x hM.b dX5_roasted_67 rfl (lv_at hl 3 rfl) ?_
    refine lv_iload hM.x hM.b dX5_roasted_68 (lv_at hl 0 rfl) ?_
    refine lv_aload_n hM.x hM.b dX5_roasted_70 rfl (lv_at hl 2 rfl) ?_
    refine k_get5r 2 hM hw (by decide) u_fl_X5_20 dX5_roasted_71 ?_
    refine lv_iload_n hM.x hM.b dX5_roasted_74 rfl (lv_at hl 3 rfl) ?_
    refine k_iald (n := 16) hM hw (kd_lt kd_94 (by decide)) (sh11 kd_94) ha dX5_roasted_75 ?_
    refine k_cvp hw (k_runV [.int (a), .int (f_X5_ro κ1 (a) (1)), .int (κ1 (94) (a).toNatClampNeg)] [] hM hw (m_X5_tan l g κ1 _ (a) (f_X5_ro κ1 (a) (1)) (κ1 (94) (a).toNatClampNeg) ha (in_mono (MI_side (MI_eq eκ1 (MI_94 hMI)) ha) (by decide))) (kd_lt kd_91 (by decide)) (sh5 kd_91) rfl (k_gV u_ml_X5_83 u_im_X5_tan u_se_X5_tan u_ini_X5 u_co_X5_tan) (q_X5_tan) rfl rfl rfl ⟨Nat.le_of_ble_eq_true rfl, Nat.le_of_ble_eq_true rfl⟩ hl.1 rfl (Nat.le_of_ble_eq_true rfl) dX5_roasted_76 ⟨Nat.le_of_ble_eq_true rfl, Nat.le_of_ble_eq_true rfl⟩) (fun κ2 H locs eκ2 hw => ?_)
    rw [eκ2] at hF
    try dsimp only at hF
    refine lv_aload_n hM.x hM.b dX5_roasted_79 rfl (lv_at hl 2 rfl) ?_
    refine lv_iload_n hM.x hM.b dX5_roasted_80 rfl (lv_at hl 3 rfl) ?_
    refine lv_iload hM.x hM.b dX5_roasted_81 (lv_at hl 0 rfl) ?_
    refine lv_iconst (v := 1) hM.x hM.b dX5_roasted_83 (by decide) ?_
    refine lv_iadd hM.x hM.b dX5_roasted_84 ?_
    refine lv_aload_n hM.x hM.b dX5_roasted_85 rfl (lv_at hl 2 rfl) ?_
    refine k_get5r 2 hM hw (by decide) u_fl_X5_20 dX5_roasted_86 ?_
    refine lv_iload_n hM.x hM.b dX5_roasted_89 rfl (lv_at hl 3 rfl) ?_
    refine k_iald (n := 16) hM hw (kd_lt kd_94 (by decide)) (sh11 kd_94) ha dX5_roasted_90 ?_
    refine lv_iconst (v := 3) hM.x hM.b dX5_roasted_91 (by decide) ?_
    refine lv_idiv hM.x hM.b dX5_roasted_92 (by decide) ?_
    refine k_cvp hw (k_runV [.int (a), .int (((f_X5_ro κ1 (a) (1)) + (1))), .int (((κ2 (94) (a).toNatClampNeg) / (3)))] [] hM hw (m_X5_tan l g κ2 _ (a) (((f_X5_ro κ1 (a) (1)) + (1))) (((κ2 (94) (a).toNatClampNeg) / (3))) ha (in_add 1 (MI_side (MI_eq eκ1 (MI_94 hMI)) ha) (by decide) (by decide))) (kd_lt kd_91 (by decide)) (sh5 kd_91) rfl (k_gV u_ml_X5_83 u_im_X5_tan u_se_X5_tan u_ini_X5 u_co_X5_tan) (q_X5_tan) rfl rfl rfl ⟨Nat.le_of_ble_eq_true rfl, Nat.le_of_ble_eq_true rfl⟩ hl.1 rfl (Nat.le_of_ble_eq_true rfl) dX5_roasted_93 ⟨Nat.le_of_ble_eq_true rfl, Nat.le_of_ble_eq_true rfl⟩) (fun κ3 H locs eκ3 hw => ?_)
    rw [eκ3] at hF
    try dsimp only at hF
    refine lv_aload_n hM.x hM.b dX5_roasted_96 rfl (lv_at hl 2 rfl) ?_
    refine lv_iload_n hM.x hM.b dX5_roasted_97 rfl (lv_at hl 3 rfl) ?_
    refine lv_iload hM.x hM.b dX5_roasted_98 (lv_at hl 0 rfl) ?_
    refine lv_iconst (v := 3) hM.x hM.b dX5_roasted_100 (by decide) ?_
    refine lv_iadd hM.x hM.b dX5_roasted_101 ?_
    refine lv_aload_n hM.x hM.b dX5_roasted_102 rfl (lv_at hl 2 rfl) ?_
    refine k_get5r 2 hM hw (by decide) u_fl_X5_20 dX5_roasted_103 ?_
    refine lv_iload_n hM.x hM.b dX5_roasted_106 rfl (lv_at hl 3 rfl) ?_
    refine k_iald (n := 16) hM hw (kd_lt kd_94 (by decide)) (sh11 kd_94) ha dX5_roasted_107 ?_
    refine lv_iconst (v := 3) hM.x hM.b dX5_roasted_108 (by decide) ?_
    refine lv_idiv hM.x hM.b dX5_roasted_109 (by decide) ?_
    refine k_cvp hw (k_runV [.int (a), .int (((f_X5_ro κ1 (a) (1)) + (3))), .int (((κ3 (94) (a).toNatClampNeg) / (3)))] [] hM hw (m_X5_tan l g κ3 _ (a) (((f_X5_ro κ1 (a) (1)) + (3))) (((κ3 (94) (a).toNatClampNeg) / (3))) ha (in_add 3 (MI_side (MI_eq eκ1 (MI_94 hMI)) ha) (by decide) (by decide))) (kd_lt kd_91 (by decide)) (sh5 kd_91) rfl (k_gV u_ml_X5_83 u_im_X5_tan u_se_X5_tan u_ini_X5 u_co_X5_tan) (q_X5_tan) rfl rfl rfl ⟨Nat.le_of_ble_eq_true rfl, Nat.le_of_ble_eq_true rfl⟩ hl.1 rfl (Nat.le_of_ble_eq_true rfl) dX5_roasted_110 ⟨Nat.le_of_ble_eq_true rfl, Nat.le_of_ble_eq_true rfl⟩) (fun κ4 H locs eκ4 hw => ?_)
    rw [eκ4] at hF
    try dsimp only at hF
    exact k_vret hM hr hw (Nat.le_of_ble_eq_true rfl) (Nat.le_of_ble_eq_true rfl) hF.symm dX5_roasted_113
  · rw [if_neg c1] at hF
    refine lv_iconst (v := 1) hM.x hM.b dX5_roasted_9 (by decide) ?_
    refine lv_goto (tgt := 14) hM.x hM.b dX5_roasted_10 (by decide) ?_
    refine lv_istore_n (lv' := [(3, .int (1)), (0, .ref (g.2.2 (91))), (1, .int (a)), (2, .int (b))]) hM.x hM.b dX5_roasted_14 rfl hl (by decide) rfl (fun ls hl => ?_)
    refine lv_aload_n hM.x hM.b dX5_roasted_15 rfl (lv_at hl 1 rfl) ?_
    refine k_get5r 2 hM hw (by decide) u_fl_X5_20 dX5_roasted_16 ?_
    refine lv_iload_n hM.x hM.b dX5_roasted_19 rfl (lv_at hl 2 rfl) ?_
    refine lv_iconst (v := 0) hM.x hM.b dX5_roasted_20 (by decide) ?_
    refine lv_aload_n hM.x hM.b dX5_roasted_21 rfl (lv_at hl 1 rfl) ?_
    refine lv_iload_n hM.x hM.b dX5_roasted_22 rfl (lv_at hl 3 rfl) ?_
    refine k_cip hw (k_runV [.int (b)] [.int (0), .int (a), .ref (g.2.2 (94))] hM hw (m_X5_glow l g κ _ (b) hb hMI hs) (kd_lt kd_91 (by decide)) (sh5 kd_91) rfl (k_gV u_ml_X5_77 u_im_X5_glow u_se_X5_glow u_ini_X5 u_co_X5_glow) (q_X5_glow) rfl rfl rfl ⟨Nat.le_of_ble_eq_true rfl, Nat.le_of_ble_eq_true rfl⟩ hl.1 rfl (Nat.le_of_ble_eq_true rfl) dX5_roasted_23 ⟨Nat.le_of_ble_eq_true rfl, Nat.le_of_ble_eq_true rfl⟩) (fun H locs hw => ?_)
    refine lv_iload_n hM.x hM.b dX5_roasted_26 rfl (lv_at hl 0 rfl) ?_
    refine lv_if_eq (tgt := 34) hM.x hM.b dX5_roasted_27 (by decide) (fun cz => absurd cz (by decide)) (fun _ => ?_)
    refine lv_iconst (v := 1) hM.x hM.b dX5_roasted_30 (by decide) ?_
    refine lv_goto (tgt := 35) hM.x hM.b dX5_roasted_31 (by decide) ?_
    refine lv_isub hM.x hM.b dX5_roasted_35 ?_
    refine va_mmax hM.x hM.b (hM.ml.trans hl.1.symm) hM.ow (hM.ts _ u_ml_X5_80) (hM.ts _ u_st_JM_max) (hM.ts _ u_ini_JM) (hM.ts _ u_co_JM_max) (Nat.le_of_ble_eq_true rfl) (Nat.le_of_ble_eq_true rfl) (Nat.le_of_ble_eq_true rfl) (Nat.le_of_ble_eq_true rfl) dX5_roasted_36 ?_
    refine k_iast (n := 16) hM hw (kd_lt kd_94 (by decide)) (fun r => sh11 kd_94) ha dX5_roasted_39 (fun H locs hw => ?_)
    obtain ⟨κ5, eκ5⟩ : ∃ z : Kp, up2 κ (94) ((a).toNatClampNeg) ((if (0) < (((f_X5_glow κ (b)) - (1))) then (((f_X5_glow κ (b)) - (1))) else (0))) = z := ⟨_, rfl⟩
    rw [eκ5] at hw
    rw [eκ5] at hF
    try dsimp only at hF
    refine lv_iload_n hM.x hM.b dX5_roasted_40 rfl (lv_at hl 0 rfl) ?_
    refine lv_if_eq (tgt := 58) hM.x hM.b dX5_roasted_41 (by decide) (fun cz => absurd cz (by decide)) (fun _ => ?_)
    refine lv_aload_n hM.x hM.b dX5_roasted_44 rfl (lv_at hl 1 rfl) ?_
    refine lv_iload_n hM.x hM.b dX5_roasted_45 rfl (lv_at hl 2 rfl) ?_
    refine lv_iconst (v := 3) hM.x hM.b dX5_roasted_46 (by decide) ?_
    refine lv_aload_n hM.x hM.b dX5_roasted_47 rfl (lv_at hl 1 rfl) ?_
    refine lv_iload_n hM.x hM.b dX5_roasted_48 rfl (lv_at hl 2 rfl) ?_
    refine lv_iconst (v := 3) hM.x hM.b dX5_roasted_49 (by decide) ?_
    refine k_cip hw (k_runV [.int (a), .int (3)] [.int (3), .int (a), .ref (g.2.2 (91))] hM hw (m_X5_ro l g κ5 _ (a) (3) ha (vin_lit (by decide) : vp_in 3 8)) (kd_lt kd_91 (by decide)) (sh5 kd_91) rfl (k_gV u_ml_X5_61 u_im_X5_ro u_se_X5_ro u_ini_X5 u_co_X5_ro) (q_X5_ro) rfl rfl rfl ⟨Nat.le_of_ble_eq_true rfl, Nat.le_of_ble_eq_true rfl⟩ hl.1 rfl (Nat.le_of_ble_eq_true rfl) dX5_roasted_50 ⟨Nat.le_of_ble_eq_true rfl, Nat.le_of_ble_eq_true rfl⟩) (fun H locs hw => ?_)
    refine lv_iconst (v := 1) hM.x hM.b dX5_roasted_53 (by decide) ?_
    refine lv_isub hM.x hM.b dX5_roasted_54 ?_
    refine k_cvp hw (k_runV [.int (a), .int (3), .int (((f_X5_ro κ5 (a) (3)) - (1)))] [] hM hw (m_X5_let l g κ5 _ (a) (3) (((f_X5_ro κ5 (a) (3)) - (1))) ha (vin_lit (by decide) : vp_in 3 8)) (kd_lt kd_91 (by decide)) (sh5 kd_91) rfl (k_gV u_ml_X5_73 u_im_X5_let u_se_X5_let u_ini_X5 u_co_X5_let) (q_X5_let) rfl rfl rfl ⟨Nat.le_of_ble_eq_true rfl, Nat.le_of_ble_eq_true rfl⟩ hl.1 rfl (Nat.le_of_ble_eq_true rfl) dX5_roasted_55 ⟨Nat.le_of_ble_eq_true rfl, Nat.le_of_ble_eq_true rfl⟩) (fun κ6 H locs eκ6 hw => ?_)
    rw [eκ6] at hF
    try dsimp only at hF
    refine lv_aload_n hM.x hM.b dX5_roasted_58 rfl (lv_at hl 1 rfl) ?_
    refine lv_iload_n hM.x hM.b dX5_roasted_59 rfl (lv_at hl 2 rfl) ?_
    refine lv_iconst (v := 1) hM.x hM.b dX5_roasted_60 (by decide) ?_
    refine k_cip hw (k_runV [.int (a), .int (1)] [] hM hw (m_X5_ro l g κ6 _ (a) (1) ha (vin_lit (by decide) : vp_in 1 8)) (kd_lt kd_91 (by decide)) (sh5 kd_91) rfl (k_gV u_ml_X5_61 u_im_X5_ro u_se_X5_ro u_ini_X5 u_co_X5_ro) (q_X5_ro) rfl rfl rfl ⟨Nat.le_of_ble_eq_true rfl, Nat.le_of_ble_eq_true rfl⟩ hl.1 rfl (Nat.le_of_ble_eq_true rfl) dX5_roasted_61 ⟨Nat.le_of_ble_eq_true rfl, Nat.le_of_ble_eq_true rfl⟩) (fun H locs hw => ?_)
    refine lv_istore (lv' := [(4, .int (f_X5_ro κ6 (a) (1))), (3, .int (1)), (0, .ref (g.2.2 (91))), (1, .int (a)), (2, .int (b))]) hM.x hM.b dX5_roasted_64 hl (by decide) rfl (fun ls hl => ?_)
    refine lv_aload_n hM.x hM.b dX5_roasted_66 rfl (lv_at hl 2 rfl) ?_
    refine lv_iload_n hM.x hM.b dX5_roasted_67 rfl (lv_at hl 3 rfl) ?_
    refine lv_iload hM.x hM.b dX5_roasted_68 (lv_at hl 0 rfl) ?_
    refine lv_aload_n hM.x hM.b dX5_roasted_70 rfl (lv_at hl 2 rfl) ?_
    refine k_get5r 2 hM hw (by decide) u_fl_X5_20 dX5_roasted_71 ?_
    refine lv_iload_n hM.x hM.b dX5_roasted_74 rfl (lv_at hl 3 rfl) ?_
    refine k_iald (n := 16) hM hw (kd_lt kd_94 (by decide)) (sh11 kd_94) ha dX5_roasted_75 ?_
    refine k_cvp hw (k_runV [.int (a), .int (f_X5_ro κ6 (a) (1)), .int (κ6 (94) (a).toNatClampNeg)] [] hM hw (m_X5_tan l g κ6 _ (a) (f_X5_ro κ6 (a) (1)) (κ6 (94) (a).toNatClampNeg) ha (in_mono (MI_side (MI_eq eκ6 (MI_let (MI_eq eκ5 (MI_94 hMI)) ha (vin_lit (by decide) : vp_in 3 8) (fun q => absurd q (by decide)))) ha) (by decide))) (kd_lt kd_91 (by decide)) (sh5 kd_91) rfl (k_gV u_ml_X5_83 u_im_X5_tan u_se_X5_tan u_ini_X5 u_co_X5_tan) (q_X5_tan) rfl rfl rfl ⟨Nat.le_of_ble_eq_true rfl, Nat.le_of_ble_eq_true rfl⟩ hl.1 rfl (Nat.le_of_ble_eq_true rfl) dX5_roasted_76 ⟨Nat.le_of_ble_eq_true rfl, Nat.le_of_ble_eq_true rfl⟩) (fun κ7 H locs eκ7 hw => ?_)
    rw [eκ7] at hF
    try dsimp only at hF
    refine lv_aload_n hM.x hM.b dX5_roasted_79 rfl (lv_at hl 2 rfl) ?_
    refine lv_iload_n hM.x hM.b dX5_roasted_80 rfl (lv_at hl 3 rfl) ?_
    refine lv_iload hM.x hM.b dX5_roasted_81 (lv_at hl 0 rfl) ?_
    refine lv_iconst (v := 1) hM.x hM.b dX5_roasted_83 (by decide) ?_
    refine lv_iadd hM.x hM.b dX5_roasted_84 ?_
    refine lv_aload_n hM.x hM.b dX5_roasted_85 rfl (lv_at hl 2 rfl) ?_
    refine k_get5r 2 hM hw (by decide) u_fl_X5_20 dX5_roasted_86 ?_
    refine lv_iload_n hM.x hM.b dX5_roasted_89 rfl (lv_at hl 3 rfl) ?_
    refine k_iald (n := 16) hM hw (kd_lt kd_94 (by decide)) (sh11 kd_94) ha dX5_roasted_90 ?_
    refine lv_iconst (v := 3) hM.x hM.b dX5_roasted_91 (by decide) ?_
    refine lv_idiv hM.x hM.b dX5_roasted_92 (by decide) ?_
    refine k_cvp hw (k_runV [.int (a), .int (((f_X5_ro κ6 (a) (1)) + (1))), .int (((κ7 (94) (a).toNatClampNeg) / (3)))] [] hM hw (m_X5_tan l g κ7 _ (a) (((f_X5_ro κ6 (a) (1)) + (1))) (((κ7 (94) (a).toNatClampNeg) / (3))) ha (in_add 1 (MI_side (MI_eq eκ6 (MI_let (MI_eq eκ5 (MI_94 hMI)) ha (vin_lit (by decide) : vp_in 3 8) (fun q => absurd q (by decide)))) ha) (by decide) (by decide))) (kd_lt kd_91 (by decide)) (sh5 kd_91) rfl (k_gV u_ml_X5_83 u_im_X5_tan u_se_X5_tan u_ini_X5 u_co_X5_tan) (q_X5_tan) rfl rfl rfl ⟨Nat.le_of_ble_eq_true rfl, Nat.le_of_ble_eq_true rfl⟩ hl.1 rfl (Nat.le_of_ble_eq_true rfl) dX5_roasted_93 ⟨Nat.le_of_ble_eq_true rfl, Nat.le_of_ble_eq_true rfl⟩) (fun κ8 H locs eκ8 hw => ?_)
    rw [eκ8] at hF
    try dsimp only at hF
    refine lv_aload_n hM.x hM.b dX5_roasted_96 rfl (lv_at hl 2 rfl) ?_
    refine lv_iload_n hM.x hM.b dX5_roasted_97 rfl (lv_at hl 3 rfl) ?_
    refine lv_iload hM.x hM.b dX5_roasted_98 (lv_at hl 0 rfl) ?_
    refine lv_iconst (v := 3) hM.x hM.b dX5_roasted_100 (by decide) ?_
    refine lv_iadd hM.x hM.b dX5_roasted_101 ?_
    refine lv_aload_n hM.x hM.b dX5_roasted_102 rfl (lv_at hl 2 rfl) ?_
    refine k_get5r 2 hM hw (by decide) u_fl_X5_20 dX5_roasted_103 ?_
    refine lv_iload_n hM.x hM.b dX5_roasted_106 rfl (lv_at hl 3 rfl) ?_
    refine k_iald (n := 16) hM hw (kd_lt kd_94 (by decide)) (sh11 kd_94) ha dX5_roasted_107 ?_
    refine lv_iconst (v := 3) hM.x hM.b dX5_roasted_108 (by decide) ?_
    refine lv_idiv hM.x hM.b dX5_roasted_109 (by decide) ?_
    refine k_cvp hw (k_runV [.int (a), .int (((f_X5_ro κ6 (a) (1)) + (3))), .int (((κ8 (94) (a).toNatClampNeg) / (3)))] [] hM hw (m_X5_tan l g κ8 _ (a) (((f_X5_ro κ6 (a) (1)) + (3))) (((κ8 (94) (a).toNatClampNeg) / (3))) ha (in_add 3 (MI_side (MI_eq eκ6 (MI_let (MI_eq eκ5 (MI_94 hMI)) ha (vin_lit (by decide) : vp_in 3 8) (fun q => absurd q (by decide)))) ha) (by decide) (by decide))) (kd_lt kd_91 (by decide)) (sh5 kd_91) rfl (k_gV u_ml_X5_83 u_im_X5_tan u_se_X5_tan u_ini_X5 u_co_X5_tan) (q_X5_tan) rfl rfl rfl ⟨Nat.le_of_ble_eq_true rfl, Nat.le_of_ble_eq_true rfl⟩ hl.1 rfl (Nat.le_of_ble_eq_true rfl) dX5_roasted_110 ⟨Nat.le_of_ble_eq_true rfl, Nat.le_of_ble_eq_true rfl⟩) (fun κ9 H locs eκ9 hw => ?_)
    rw [eκ9] at hF
    try dsimp only at hF
    exact k_vret hM hr hw (Nat.le_of_ble_eq_true rfl) (Nat.le_of_ble_eq_true rfl) hF.symm dX5_roasted_113
theorem q_X5_drip : hdV yX5_drip RX5 2 := ⟨rfl, by decide +kernel, by decide +kernel, by decide +kernel⟩
def f_X5_drip (κ : Kp) (a : Int32) (b : Int32) : Kp := if (κ (94) (a).toNatClampNeg) < (2) then (κ) else (if (f_X5_ro κ (a) (2)) = 0 then (κ) else ((fun κ1 : Kp => if (20) ≤ (f_X5_sp κ1 (b) (1)) then ((fun κ2 : Kp => κ2) (up2 κ1 (95) ((κ1 (92) (b).toNatClampNeg).toNatClampNeg) (((κ1 (95) (κ1 (92) (b).toNatClampNeg).toNatClampNeg) + (1))))) else ((fun κ3 : Kp => κ3) (f_X5_letSpit κ1 (b) (1) (((f_X5_sp κ1 (b) (1)) + (1)))))) (f_X5_let κ (a) (2) (((f_X5_ro κ (a) (2)) - (1))))))
set_option maxRecDepth 100000 in
set_option maxHeartbeats 4000000 in
theorem m_X5_drip (l : Launch) (g : Gt) (κ : Kp) (sz : Nat) (a : Int32) (b : Int32) (ha : vp_in a 16) (hb : vp_in b 6) (hMI : MI κ) : Met l yX5_drip (.code yX5_drip cX5_drip 3 none :: uW) { frames := 1, cells := 0, slots := 0, locals := 30 } (PRE g κ sz [.ref (g.2.2 (91)), .int (a), .int (b)]) (va_Qv (fun κ' => κ' = f_X5_drip κ a b) (Wp g) (fr g sz)) 0 0 (fr g sz) := by
  refine k_enter (by decide +kernel) (Nat.le_of_ble_eq_true rfl) ?_
  intro p e s m below meth c ls hM hr hl hw hsz
  subst hsz
  have hl : lv_has ls 3 [(0, .ref (g.2.2 (91))), (1, .int (a)), (2, .int (b))] := hl
  have hF := f_X5_drip.eq_1 κ a b
  refine lv_aload_n hM.x hM.b dX5_drip_0 rfl (lv_at hl 0 rfl) ?_
  refine k_get5r 2 hM hw (by decide) u_fl_X5_20 dX5_drip_1 ?_
  refine lv_iload_n hM.x hM.b dX5_drip_4 rfl (lv_at hl 1 rfl) ?_
  refine k_iald (n := 16) hM hw (kd_lt kd_94 (by decide)) (sh11 kd_94) ha dX5_drip_5 ?_
  refine lv_iconst (v := 2) hM.x hM.b dX5_drip_6 (by decide) ?_
  refine lv_icmp_lt (tgt := 19) hM.x hM.b dX5_drip_7 (by decide) (fun c1 => ?_) (fun c1 => ?_)
  · rw [if_pos c1] at hF
    exact k_vret hM hr hw (Nat.le_of_ble_eq_true rfl) (Nat.le_of_ble_eq_true rfl) hF.symm dX5_drip_19
  · rw [if_neg c1] at hF
    refine lv_aload_n hM.x hM.b dX5_drip_10 rfl (lv_at hl 0 rfl) ?_
    refine lv_iload_n hM.x hM.b dX5_drip_11 rfl (lv_at hl 1 rfl) ?_
    refine lv_iconst (v := 2) hM.x hM.b dX5_drip_12 (by decide) ?_
    refine k_cip hw (k_runV [.int (a), .int (2)] [] hM hw (m_X5_ro l g κ _ (a) (2) ha (vin_lit (by decide) : vp_in 2 8)) (kd_lt kd_91 (by decide)) (sh5 kd_91) rfl (k_gV u_ml_X5_61 u_im_X5_ro u_se_X5_ro u_ini_X5 u_co_X5_ro) (q_X5_ro) rfl rfl rfl ⟨Nat.le_of_ble_eq_true rfl, Nat.le_of_ble_eq_true rfl⟩ hl.1 rfl (Nat.le_of_ble_eq_true rfl) dX5_drip_13 ⟨Nat.le_of_ble_eq_true rfl, Nat.le_of_ble_eq_true rfl⟩) (fun H locs hw => ?_)
    refine lv_if_ne (tgt := 20) hM.x hM.b dX5_drip_16 (by decide) (fun c2 => ?_) (fun c2 => ?_)
    · rw [if_neg c2] at hF
      refine lv_aload_n hM.x hM.b dX5_drip_20 rfl (lv_at hl 0 rfl) ?_
      refine lv_iload_n hM.x hM.b dX5_drip_21 rfl (lv_at hl 1 rfl) ?_
      refine lv_iconst (v := 2) hM.x hM.b dX5_drip_22 (by decide) ?_
      refine lv_aload_n hM.x hM.b dX5_drip_23 rfl (lv_at hl 0 rfl) ?_
      refine lv_iload_n hM.x hM.b dX5_drip_24 rfl (lv_at hl 1 rfl) ?_
      refine lv_iconst (v := 2) hM.x hM.b dX5_drip_25 (by decide) ?_
      refine k_cip hw (k_runV [.int (a), .int (2)] [.int (2), .int (a), .ref (g.2.2 (91))] hM hw (m_X5_ro l g κ _ (a) (2) ha (vin_lit (by decide) : vp_in 2 8)) (kd_lt kd_91 (by decide)) (sh5 kd_91) rfl (k_gV u_ml_X5_61 u_im_X5_ro u_se_X5_ro u_ini_X5 u_co_X5_ro) (q_X5_ro) rfl rfl rfl ⟨Nat.le_of_ble_eq_true rfl, Nat.le_of_ble_eq_true rfl⟩ hl.1 rfl (Nat.le_of_ble_eq_true rfl) dX5_drip_26 ⟨Nat.le_of_ble_eq_true rfl, Nat.le_of_ble_eq_true rfl⟩) (fun H locs hw => ?_)
      refine lv_iconst (v := 1) hM.x hM.b dX5_drip_29 (by decide) ?_
      refine lv_isub hM.x hM.b dX5_drip_30 ?_
      refine k_cvp hw (k_runV [.int (a), .int (2), .int (((f_X5_ro κ (a) (2)) - (1)))] [] hM hw (m_X5_let l g κ _ (a) (2) (((f_X5_ro κ (a) (2)) - (1))) ha (vin_lit (by decide) : vp_in 2 8)) (kd_lt kd_91 (by decide)) (sh5 kd_91) rfl (k_gV u_ml_X5_73 u_im_X5_let u_se_X5_let u_ini_X5 u_co_X5_let) (q_X5_let) rfl rfl rfl ⟨Nat.le_of_ble_eq_true rfl, Nat.le_of_ble_eq_true rfl⟩ hl.1 rfl (Nat.le_of_ble_eq_true rfl) dX5_drip_31 ⟨Nat.le_of_ble_eq_true rfl, Nat.le_of_ble_eq_true rfl⟩) (fun κ1 H locs eκ1 hw => ?_)
      rw [eκ1] at hF
      try dsimp only at hF
      refine lv_aload_n hM.x hM.b dX5_drip_34 rfl (lv_at hl 0 rfl) ?_
      refine lv_iload_n hM.x hM.b dX5_drip_35 rfl (lv_at hl 2 rfl) ?_
      refine lv_iconst (v := 1) hM.x hM.b dX5_drip_36 (by decide) ?_
      refine k_cip hw (k_runV [.int (b), .int (1)] [] hM hw (m_X5_sp l g κ1 _ (b) (1) hb (vin_lit (by decide) : vp_in 1 5)) (kd_lt kd_91 (by decide)) (sh5 kd_91) rfl (k_gV u_ml_X5_58 u_im_X5_sp u_se_X5_sp u_ini_X5 u_co_X5_sp) (q_X5_sp) rfl rfl rfl ⟨Nat.le_of_ble_eq_true rfl, Nat.le_of_ble_eq_true rfl⟩ hl.1 rfl (Nat.le_of_ble_eq_true rfl) dX5_drip_37 ⟨Nat.le_of_ble_eq_true rfl, Nat.le_of_ble_eq_true rfl⟩) (fun H locs hw => ?_)
      refine lv_bipush (v := 20) hM.x hM.b dX5_drip_40 (by decide) ?_
      refine lv_icmp_ge (tgt := 62) hM.x hM.b dX5_drip_42 (by decide) (fun c3 => ?_) (fun c3 => ?_)
      · rw [if_pos c3] at hF
        refine lv_aload_n hM.x hM.b dX5_drip_62 rfl (lv_at hl 0 rfl) ?_
        refine k_get5r 3 hM hw (by decide) u_fl_X5_23 dX5_drip_63 ?_
        refine lv_aload_n hM.x hM.b dX5_drip_66 rfl (lv_at hl 0 rfl) ?_
        refine k_get5r 0 hM hw (by decide) u_fl_X5_13 dX5_drip_67 ?_
        refine lv_iload_n hM.x hM.b dX5_drip_70 rfl (lv_at hl 2 rfl) ?_
        refine k_iald (n := 6) hM hw (kd_lt kd_92 (by decide)) (sh10 kd_92) hb dX5_drip_71 ?_
        refine lv_dup2_11 hM.x hM.b dX5_drip_72 rfl rfl ?_
        refine k_iald (n := 3) hM hw (kd_lt kd_95 (by decide)) (sh12 kd_95) (MI_place (MI_eq eκ1 (MI_let hMI ha (vin_lit (by decide) : vp_in 2 8) (fun q => absurd q (by decide)))) hb) dX5_drip_73 ?_
        refine lv_iconst (v := 1) hM.x hM.b dX5_drip_74 (by decide) ?_
        refine lv_iadd hM.x hM.b dX5_drip_75 ?_
        refine k_iast (n := 3) hM hw (kd_lt kd_95 (by decide)) (fun r => sh12 kd_95) (MI_place (MI_eq eκ1 (MI_let hMI ha (vin_lit (by decide) : vp_in 2 8) (fun q => absurd q (by decide)))) hb) dX5_drip_76 (fun H locs hw => ?_)
        obtain ⟨κ2, eκ2⟩ : ∃ z : Kp, up2 κ1 (95) ((κ1 (92) (b).toNatClampNeg).toNatClampNeg) (((κ1 (95) (κ1 (92) (b).toNatClampNeg).toNatClampNeg) + (1))) = z := ⟨_, rfl⟩
        rw [eκ2] at hw
        rw [eκ2] at hF
        try dsimp only at hF
        exact k_vret hM hr hw (Nat.le_of_ble_eq_true rfl) (Nat.le_of_ble_eq_true rfl) hF.symm dX5_drip_77
      · rw [if_neg c3] at hF
        refine lv_aload_n hM.x hM.b dX5_drip_45 rfl (lv_at hl 0 rfl) ?_
        refine lv_iload_n hM.x hM.b dX5_drip_46 rfl (lv_at hl 2 rfl) ?_
        refine lv_iconst (v := 1) hM.x hM.b dX5_drip_47 (by decide) ?_
        refine lv_aload_n hM.x hM.b dX5_drip_48 rfl (lv_at hl 0 rfl) ?_
        refine lv_iload_n hM.x hM.b dX5_drip_49 rfl (lv_at hl 2 rfl) ?_
        refine lv_iconst (v := 1) hM.x hM.b dX5_drip_50 (by decide) ?_
        refine k_cip hw (k_runV [.int (b), .int (1)] [.int (1), .int (b), .ref (g.2.2 (91))] hM hw (m_X5_sp l g κ1 _ (b) (1) hb (vin_lit (by decide) : vp_in 1 5)) (kd_lt kd_91 (by decide)) (sh5 kd_91) rfl (k_gV u_ml_X5_58 u_im_X5_sp u_se_X5_sp u_ini_X5 u_co_X5_sp) (q_X5_sp) rfl rfl rfl ⟨Nat.le_of_ble_eq_true rfl, Nat.le_of_ble_eq_true rfl⟩ hl.1 rfl (Nat.le_of_ble_eq_true rfl) dX5_drip_51 ⟨Nat.le_of_ble_eq_true rfl, Nat.le_of_ble_eq_true rfl⟩) (fun H locs hw => ?_)
        refine lv_iconst (v := 1) hM.x hM.b dX5_drip_54 (by decide) ?_
        refine lv_iadd hM.x hM.b dX5_drip_55 ?_
        refine k_cvp hw (k_runV [.int (b), .int (1), .int (((f_X5_sp κ1 (b) (1)) + (1)))] [] hM hw (m_X5_letSpit l g κ1 _ (b) (1) (((f_X5_sp κ1 (b) (1)) + (1))) hb (vin_lit (by decide) : vp_in 1 5)) (kd_lt kd_91 (by decide)) (sh5 kd_91) rfl (k_gV u_ml_X5_86 u_im_X5_letSpit u_se_X5_letSpit u_ini_X5 u_co_X5_letSpit) (q_X5_letSpit) rfl rfl rfl ⟨Nat.le_of_ble_eq_true rfl, Nat.le_of_ble_eq_true rfl⟩ hl.1 rfl (Nat.le_of_ble_eq_true rfl) dX5_drip_56 ⟨Nat.le_of_ble_eq_true rfl, Nat.le_of_ble_eq_true rfl⟩) (fun κ3 H locs eκ3 hw => ?_)
        rw [eκ3] at hF
        try dsimp only at hF
        refine lv_goto (tgt := 77) hM.x hM.b dX5_drip_59 (by decide) ?_
        exact k_vret hM hr hw (Nat.le_of_ble_eq_true rfl) (Nat.le_of_ble_eq_true rfl) hF.symm dX5_drip_77
    · rw [if_pos c2] at hF
      exact k_vret hM hr hw (Nat.le_of_ble_eq_true rfl) (Nat.le_of_ble_eq_true rfl) hF.symm dX5_drip_19
theorem q_X5_each : hdV yX5_each RX5 2 := ⟨rfl, by decide +kernel, by decide +kernel, by decide +kernel⟩
def f_X5_each (κ : Kp) (a : Int32) (b : Int32) : Kp := (fun κ1 : Kp => (fun κ2 : Kp => κ2) (f_X5_letSpit κ1 (a) (3) (0))) (f_X5_letSpit κ (a) (4) (b))
set_option maxRecDepth 100000 in
set_option maxHeartbeats 4000000 in
theorem m_X5_each (l : Launch) (g : Gt) (κ : Kp) (sz : Nat) (a : Int32) (b : Int32) (ha : vp_in a 6) : Met l yX5_each (.code yX5_each cX5_each 3 none :: uW) { frames := 1, cells := 0, slots := 0, locals := 30 } (PRE g κ sz [.ref (g.2.2 (91)), .int (a), .int (b)]) (va_Qv (fun κ' => κ' = f_X5_each κ a b) (Wp g) (fr g sz)) 0 0 (fr g sz) := by
  refine k_enter (by decide +kernel) (Nat.le_of_ble_eq_true rfl) ?_
  intro p e s m below meth c ls hM hr hl hw hsz
  subst hsz
  have hl : lv_has ls 3 [(0, .ref (g.2.2 (91))), (1, .int (a)), (2, .int (b))] := hl
  have hF := f_X5_each.eq_1 κ a b
  refine lv_aload_n hM.x hM.b dX5_each_0 rfl (lv_at hl 0 rfl) ?_
  refine lv_iload_n hM.x hM.b dX5_each_1 rfl (lv_at hl 1 rfl) ?_
  refine lv_iconst (v := 4) hM.x hM.b dX5_each_2 (by decide) ?_
  refine lv_iload_n hM.x hM.b dX5_each_3 rfl (lv_at hl 2 rfl) ?_
  refine k_cvp hw (k_runV [.int (a), .int (4), .int (b)] [] hM hw (m_X5_letSpit l g κ _ (a) (4) (b) ha (vin_lit (by decide) : vp_in 4 5)) (kd_lt kd_91 (by decide)) (sh5 kd_91) rfl (k_gV u_ml_X5_86 u_im_X5_letSpit u_se_X5_letSpit u_ini_X5 u_co_X5_letSpit) (q_X5_letSpit) rfl rfl rfl ⟨Nat.le_of_ble_eq_true rfl, Nat.le_of_ble_eq_true rfl⟩ hl.1 rfl (Nat.le_of_ble_eq_true rfl) dX5_each_4 ⟨Nat.le_of_ble_eq_true rfl, Nat.le_of_ble_eq_true rfl⟩) (fun κ1 H locs eκ1 hw => ?_)
  rw [eκ1] at hF
  try dsimp only at hF
  refine lv_aload_n hM.x hM.b dX5_each_7 rfl (lv_at hl 0 rfl) ?_
  refine lv_iload_n hM.x hM.b dX5_each_8 rfl (lv_at hl 1 rfl) ?_
  refine lv_iconst (v := 3) hM.x hM.b dX5_each_9 (by decide) ?_
  refine lv_iconst (v := 0) hM.x hM.b dX5_each_10 (by decide) ?_
  refine k_cvp hw (k_runV [.int (a), .int (3), .int (0)] [] hM hw (m_X5_letSpit l g κ1 _ (a) (3) (0) ha (vin_lit (by decide) : vp_in 3 5)) (kd_lt kd_91 (by decide)) (sh5 kd_91) rfl (k_gV u_ml_X5_86 u_im_X5_letSpit u_se_X5_letSpit u_ini_X5 u_co_X5_letSpit) (q_X5_letSpit) rfl rfl rfl ⟨Nat.le_of_ble_eq_true rfl, Nat.le_of_ble_eq_true rfl⟩ hl.1 rfl (Nat.le_of_ble_eq_true rfl) dX5_each_11 ⟨Nat.le_of_ble_eq_true rfl, Nat.le_of_ble_eq_true rfl⟩) (fun κ2 H locs eκ2 hw => ?_)
  rw [eκ2] at hF
  try dsimp only at hF
  exact k_vret hM hr hw (Nat.le_of_ble_eq_true rfl) (Nat.le_of_ble_eq_true rfl) hF.symm dX5_each_14
theorem q_X5_hangNext : hdV yX5_hangNext RX5 2 := ⟨rfl, by decide +kernel, by decide +kernel, by decide +kernel⟩
def lp_X5_hangNext (a : Int32) (b : Int32) : Nat → Nat → Kp → Kp
  | 0, j, κ => κ
  | n + 1, j, κ => (fun κ1 : Kp => lp_X5_hangNext (a) (b) n (j + 1) κ1) (f_X5_let κ (κ 91 3) (nI (j)) (0))
set_option maxRecDepth 100000 in
set_option maxHeartbeats 4000000 in
theorem ml_X5_hangNext {p : Program} {e : Env} {s : State} {m : MethodId} {below : List Frame} {meth : Method} {c : Code} {Q : State → Prop} (l : Launch) (g : Gt) (a : Int32) (b : Int32) (ha : vp_in a 6) (hM : Mc g p s m ([.ref (g.2.2 (91)), .int (a), .int (b)] : List Value).toArray meth c cX5_hangNext 4 yX5_hangNext.cls) : ∀ (n j : Nat), j + n = 8 → ∀ (κ : Kp), vp_in (κ 91 3) 16 → ∀ (H : Heap) (locs : List Loc) (ls : Array Slot), lv_has ls 4 [(3, .int (nI (j))), (0, .ref (g.2.2 (91))), (1, .int (a)), (2, .int (b))] → Ws g s κ H locs → (∀ (κz : Kp) (H : Heap) (locs : List Loc) (ls : Array Slot), lp_X5_hangNext a b n j κ = κz → lv_has ls 4 [(0, .ref (g.2.2 (91))), (1, .int (a)), (2, .int (b))] → vp_in (κz 91 3) 16 → Ws g s κz H locs → W p l e { frames := 1, cells := 0, slots := 0, locals := 30 } s m ([.ref (g.2.2 (91)), .int (a), .int (b)] : List Value).toArray below meth c H locs 0 0 Q (F0 m 34 ls [])) → W p l e { frames := 1, cells := 0, slots := 0, locals := 30 } s m ([.ref (g.2.2 (91)), .int (a), .int (b)] : List Value).toArray below meth c H locs 0 0 Q (F0 m 12 ls []) := by
  intro n
  induction n with
  | zero =>
    intro j hj κ hinv H locs ls hl hw hx34
    have hF := Eq.refl (lp_X5_hangNext a b 0 j κ)
    conv at hF => rhs; rw [lp_X5_hangNext]
    refine lv_iload_n hM.x hM.b dX5_hangNext_12 rfl (lv_at hl 0 rfl) ?_
    refine lv_bipush (v := nI 8) hM.x hM.b dX5_hangNext_13 (by decide) ?_
    refine lv_icmp_ge (tgt := 34) hM.x hM.b dX5_hangNext_15 (by decide) (fun _ => ?_) (fun cz => absurd (nI_le (by omega) (by omega) : nI 8 ≤ nI j) cz)
    exact hx34 κ H locs ls hF (lv_sub hl [1, 2, 3] rfl) (hinv) hw
  | succ n ih =>
    intro j hj κ hinv H locs ls hl hw hx34
    have hF := Eq.refl (lp_X5_hangNext a b (n + 1) j κ)
    conv at hF => rhs; rw [lp_X5_hangNext]
    refine lv_iload_n hM.x hM.b dX5_hangNext_12 rfl (lv_at hl 0 rfl) ?_
    refine lv_bipush (v := nI 8) hM.x hM.b dX5_hangNext_13 (by decide) ?_
    refine lv_icmp_ge (tgt := 34) hM.x hM.b dX5_hangNext_15 (by decide) (fun cz => absurd cz (nI_ge (by omega) (by decide) : ¬ nI 8 ≤ nI j)) (fun _ => ?_)
    refine lv_aload_n hM.x hM.b dX5_hangNext_18 rfl (lv_at hl 1 rfl) ?_
    refine lv_aload_n hM.x hM.b dX5_hangNext_19 rfl (lv_at hl 1 rfl) ?_
    refine k_get5 3 hM hw (by decide) u_fl_X5_45 dX5_hangNext_20 ?_
    refine lv_iload_n hM.x hM.b dX5_hangNext_23 rfl (lv_at hl 0 rfl) ?_
    refine lv_iconst (v := 0) hM.x hM.b dX5_hangNext_24 (by decide) ?_
    refine k_cvp hw (k_runV [.int (κ 91 3), .int (nI (j)), .int (0)] [] hM hw (m_X5_let l g κ _ (κ 91 3) (nI (j)) (0) hinv (vp_in_nI (n := j) (N := 8) (by omega) (by decide))) (kd_lt kd_91 (by decide)) (sh5 kd_91) rfl (k_gV u_ml_X5_73 u_im_X5_let u_se_X5_let u_ini_X5 u_co_X5_let) (q_X5_let) rfl rfl rfl ⟨Nat.le_of_ble_eq_true rfl, Nat.le_of_ble_eq_true rfl⟩ hl.1 rfl (Nat.le_of_ble_eq_true rfl) dX5_hangNext_25 ⟨Nat.le_of_ble_eq_true rfl, Nat.le_of_ble_eq_true rfl⟩) (fun κ1 H locs eκ1 hw => ?_)
    rw [eκ1] at hF
    try dsimp only at hF
    refine lv_iinc (v := nI (j + 1)) (lv' := [(3, .int (nI (j + 1))), (0, .ref (g.2.2 (91))), (1, .int (a)), (2, .int (b))]) hM.x hM.b dX5_hangNext_28 hl (k := 0) rfl (nI_1 (j)) (by decide) rfl (fun ls hl => ?_)
    refine lv_goto (tgt := 12) hM.x hM.b dX5_hangNext_31 (by decide) ?_
    exact ih (j + 1) (by omega) κ1 ((by rw [← eκ1]; exact hinv)) H locs ls (lv_sub hl [0, 1, 2, 3] rfl) hw (fun κz H locs ls he hl hiz hw => hx34 κz H locs ls (hF.trans he) hl hiz hw)
def f_X5_hangNext (κ : Kp) (a : Int32) (b : Int32) : Kp := (fun κ1 : Kp => (fun κ2 : Kp => (fun κ3 : Kp => (fun κ4 : Kp => (fun κ5 : Kp => (fun κ6 : Kp => κ6) (f_X5_letSpit κ5 (a) (3) (0))) (f_X5_letSpit κ4 (a) (2) (((κ4 91 3) + (1))))) (f_X5_let κ3 (κ3 91 3) (2) (((3) * (b))))) (f_X5_let κ2 (κ2 91 3) (0) (((a) + (1))))) (lp_X5_hangNext a b 8 0 κ1)) (up2 κ (93) ((κ 91 3).toNatClampNeg) (b))
set_option maxRecDepth 100000 in
set_option maxHeartbeats 4000000 in
theorem m_X5_hangNext (l : Launch) (g : Gt) (κ : Kp) (sz : Nat) (a : Int32) (b : Int32) (ha : vp_in a 6) (hc3 : vp_in (κ 91 3) 16) : Met l yX5_hangNext (.code yX5_hangNext cX5_hangNext 4 none :: uW) { frames := 1, cells := 0, slots := 0, locals := 30 } (PRE g κ sz [.ref (g.2.2 (91)), .int (a), .int (b)]) (va_Qv (fun κ' => κ' = f_X5_hangNext κ a b) (Wp g) (fr g sz)) 0 0 (fr g sz) := by
  refine k_enter (by decide +kernel) (Nat.le_of_ble_eq_true rfl) ?_
  intro p e s m below meth c ls hM hr hl hw hsz
  subst hsz
  have hl : lv_has ls 4 [(0, .ref (g.2.2 (91))), (1, .int (a)), (2, .int (b))] := hl
  have hF := f_X5_hangNext.eq_1 κ a b
  refine lv_aload_n hM.x hM.b dX5_hangNext_0 rfl (lv_at hl 0 rfl) ?_
  refine k_get5r 1 hM hw (by decide) u_fl_X5_17 dX5_hangNext_1 ?_
  refine lv_aload_n hM.x hM.b dX5_hangNext_4 rfl (lv_at hl 0 rfl) ?_
  refine k_get5 3 hM hw (by decide) u_fl_X5_45 dX5_hangNext_5 ?_
  refine lv_iload_n hM.x hM.b dX5_hangNext_8 rfl (lv_at hl 2 rfl) ?_
  refine k_iast (n := 16) hM hw (kd_lt kd_93 (by decide)) (fun r => sh11 kd_93) hc3 dX5_hangNext_9 (fun H locs hw => ?_)
  obtain ⟨κ1, eκ1⟩ : ∃ z : Kp, up2 κ (93) ((κ 91 3).toNatClampNeg) (b) = z := ⟨_, rfl⟩
  rw [eκ1] at hw
  rw [eκ1] at hF
  try dsimp only at hF
  refine lv_iconst (v := nI 0) hM.x hM.b dX5_hangNext_10 (by decide) ?_
  refine lv_istore_n (lv' := [(3, .int (nI (0))), (0, .ref (g.2.2 (91))), (1, .int (a)), (2, .int (b))]) hM.x hM.b dX5_hangNext_11 rfl hl (by decide) rfl (fun ls hl => ?_)
  refine ml_X5_hangNext l g a b ha hM (8) (0) (by omega) κ1 ((by rw [← eκ1]; exact hc3)) _ _ _ (lv_sub hl [0, 1, 2, 3] rfl) hw (fun κ2 H locs ls he hl hiκ2 hw => ?_)
  rw [he] at hF
  try dsimp only at hF
  refine lv_aload_n hM.x hM.b dX5_hangNext_34 rfl (lv_at hl 0 rfl) ?_
  refine lv_aload_n hM.x hM.b dX5_hangNext_35 rfl (lv_at hl 0 rfl) ?_
  refine k_get5 3 hM hw (by decide) u_fl_X5_45 dX5_hangNext_36 ?_
  refine lv_iconst (v := 0) hM.x hM.b dX5_hangNext_39 (by decide) ?_
  refine lv_iload_n hM.x hM.b dX5_hangNext_40 rfl (lv_at hl 1 rfl) ?_
  refine lv_iconst (v := 1) hM.x hM.b dX5_hangNext_41 (by decide) ?_
  refine lv_iadd hM.x hM.b dX5_hangNext_42 ?_
  refine k_cvp hw (k_runV [.int (κ2 91 3), .int (0), .int (((a) + (1)))] [] hM hw (m_X5_let l g κ2 _ (κ2 91 3) (0) (((a) + (1))) hiκ2 (vin_lit (by decide) : vp_in 0 8)) (kd_lt kd_91 (by decide)) (sh5 kd_91) rfl (k_gV u_ml_X5_73 u_im_X5_let u_se_X5_let u_ini_X5 u_co_X5_let) (q_X5_let) rfl rfl rfl ⟨Nat.le_of_ble_eq_true rfl, Nat.le_of_ble_eq_true rfl⟩ hl.1 rfl (Nat.le_of_ble_eq_true rfl) dX5_hangNext_43 ⟨Nat.le_of_ble_eq_true rfl, Nat.le_of_ble_eq_true rfl⟩) (fun κ3 H locs eκ3 hw => ?_)
  rw [eκ3] at hF
  try dsimp only at hF
  refine lv_aload_n hM.x hM.b dX5_hangNext_46 rfl (lv_at hl 0 rfl) ?_
  refine lv_aload_n hM.x hM.b dX5_hangNext_47 rfl (lv_at hl 0 rfl) ?_
  refine k_get5 3 hM hw (by decide) u_fl_X5_45 dX5_hangNext_48 ?_
  refine lv_iconst (v := 2) hM.x hM.b dX5_hangNext_51 (by decide) ?_
  refine lv_iconst (v := 3) hM.x hM.b dX5_hangNext_52 (by decide) ?_
  refine lv_iload_n hM.x hM.b dX5_hangNext_53 rfl (lv_at hl 2 rfl) ?_
  refine lv_imul hM.x hM.b dX5_hangNext_54 ?_
  refine k_cvp hw (k_runV [.int (κ3 91 3), .int (2), .int (((3) * (b)))] [] hM hw (m_X5_let l g κ3 _ (κ3 91 3) (2) (((3) * (b))) (by rw [← eκ3]; exact hiκ2) (vin_lit (by decide) : vp_in 2 8)) (kd_lt kd_91 (by decide)) (sh5 kd_91) rfl (k_gV u_ml_X5_73 u_im_X5_let u_se_X5_let u_ini_X5 u_co_X5_let) (q_X5_let) rfl rfl rfl ⟨Nat.le_of_ble_eq_true rfl, Nat.le_of_ble_eq_true rfl⟩ hl.1 rfl (Nat.le_of_ble_eq_true rfl) dX5_hangNext_55 ⟨Nat.le_of_ble_eq_true rfl, Nat.le_of_ble_eq_true rfl⟩) (fun κ4 H locs eκ4 hw => ?_)
  rw [eκ4] at hF
  try dsimp only at hF
  refine lv_aload_n hM.x hM.b dX5_hangNext_58 rfl (lv_at hl 0 rfl) ?_
  refine lv_iload_n hM.x hM.b dX5_hangNext_59 rfl (lv_at hl 1 rfl) ?_
  refine lv_iconst (v := 2) hM.x hM.b dX5_hangNext_60 (by decide) ?_
  refine lv_aload_n hM.x hM.b dX5_hangNext_61 rfl (lv_at hl 0 rfl) ?_
  refine k_get5 3 hM hw (by decide) u_fl_X5_45 dX5_hangNext_62 ?_
  refine lv_iconst (v := 1) hM.x hM.b dX5_hangNext_65 (by decide) ?_
  refine lv_iadd hM.x hM.b dX5_hangNext_66 ?_
  refine k_cvp hw (k_runV [.int (a), .int (2), .int (((κ4 91 3) + (1)))] [] hM hw (m_X5_letSpit l g κ4 _ (a) (2) (((κ4 91 3) + (1))) ha (vin_lit (by decide) : vp_in 2 5)) (kd_lt kd_91 (by decide)) (sh5 kd_91) rfl (k_gV u_ml_X5_86 u_im_X5_letSpit u_se_X5_letSpit u_ini_X5 u_co_X5_letSpit) (q_X5_letSpit) rfl rfl rfl ⟨Nat.le_of_ble_eq_true rfl, Nat.le_of_ble_eq_true rfl⟩ hl.1 rfl (Nat.le_of_ble_eq_true rfl) dX5_hangNext_67 ⟨Nat.le_of_ble_eq_true rfl, Nat.le_of_ble_eq_true rfl⟩) (fun κ5 H locs eκ5 hw => ?_)
  rw [eκ5] at hF
  try dsimp only at hF
  refine lv_aload_n hM.x hM.b dX5_hangNext_70 rfl (lv_at hl 0 rfl) ?_
  refine lv_iload_n hM.x hM.b dX5_hangNext_71 rfl (lv_at hl 1 rfl) ?_
  refine lv_iconst (v := 3) hM.x hM.b dX5_hangNext_72 (by decide) ?_
  refine lv_iconst (v := 0) hM.x hM.b dX5_hangNext_73 (by decide) ?_
  refine k_cvp hw (k_runV [.int (a), .int (3), .int (0)] [] hM hw (m_X5_letSpit l g κ5 _ (a) (3) (0) ha (vin_lit (by decide) : vp_in 3 5)) (kd_lt kd_91 (by decide)) (sh5 kd_91) rfl (k_gV u_ml_X5_86 u_im_X5_letSpit u_se_X5_letSpit u_ini_X5 u_co_X5_letSpit) (q_X5_letSpit) rfl rfl rfl ⟨Nat.le_of_ble_eq_true rfl, Nat.le_of_ble_eq_true rfl⟩ hl.1 rfl (Nat.le_of_ble_eq_true rfl) dX5_hangNext_74 ⟨Nat.le_of_ble_eq_true rfl, Nat.le_of_ble_eq_true rfl⟩) (fun κ6 H locs eκ6 hw => ?_)
  rw [eκ6] at hF
  try dsimp only at hF
  exact k_vret hM hr hw (Nat.le_of_ble_eq_true rfl) (Nat.le_of_ble_eq_true rfl) hF.symm dX5_hangNext_77
theorem q_X5_holds : hdV yX5_holds RX5 1 := ⟨rfl, by decide +kernel, by decide +kernel, by decide +kernel⟩
def f_X5_holds (κ : Kp) (a : Int32) : Int32 × Kp := if (bi (f_X5_isSpit κ (a))) = 0 then ((fun κ3 : Kp => (bi false, κ3)) (up2 κ (91) 0 (1))) else (if (f_X5_sp κ (a) (2)) = 0 then ((fun κ2 : Kp => (bi false, κ2)) (up2 κ (91) 0 (2))) else ((fun κ1 : Kp => (bi true, κ1)) (up2 κ (91) 0 (0))))
set_option maxRecDepth 100000 in
set_option maxHeartbeats 4000000 in
theorem m_X5_holds (l : Launch) (g : Gt) (κ : Kp) (sz : Nat) (a : Int32) (hMI : MI κ) : Met l yX5_holds (.code yX5_holds cX5_holds 2 (some .boolean) :: uW) { frames := 2, cells := 0, slots := 0, locals := 60 } (PRE g κ sz [.ref (g.2.2 (91)), .int (a)]) (va_Qi (fun r κ' => f_X5_holds κ a = (r, κ')) (Wp g) (fr g sz)) 0 0 (fr g sz) := by
  refine k_enter (by decide +kernel) (Nat.le_of_ble_eq_true rfl) ?_
  intro p e s m below meth c ls hM hr hl hw hsz
  subst hsz
  have hl : lv_has ls 2 [(0, .ref (g.2.2 (91))), (1, .int (a))] := hl
  have hF := f_X5_holds.eq_1 κ a
  refine lv_aload_n hM.x hM.b dX5_holds_0 rfl (lv_at hl 0 rfl) ?_
  refine lv_aload_n hM.x hM.b dX5_holds_1 rfl (lv_at hl 0 rfl) ?_
  refine lv_iload_n hM.x hM.b dX5_holds_2 rfl (lv_at hl 1 rfl) ?_
  refine k_cip hw (k_runV [.int (a)] [.ref (g.2.2 (91))] hM hw (m_X5_isSpit l g κ _ (a)) (kd_lt kd_91 (by decide)) (sh5 kd_91) rfl (k_gV u_ml_X5_110 u_im_X5_isSpit u_se_X5_isSpit u_ini_X5 u_co_X5_isSpit) (q_X5_isSpit) rfl rfl rfl ⟨Nat.le_of_ble_eq_true rfl, Nat.le_of_ble_eq_true rfl⟩ hl.1 rfl (Nat.le_of_ble_eq_true rfl) dX5_holds_3 ⟨Nat.le_of_ble_eq_true rfl, Nat.le_of_ble_eq_true rfl⟩) (fun H locs hw => ?_)
  refine lv_if_ne (tgt := 13) hM.x hM.b dX5_holds_6 (by decide) (fun c1 => ?_) (fun c1 => ?_)
  · rw [if_neg c1] at hF
    refine lv_aload_n hM.x hM.b dX5_holds_13 rfl (lv_at hl 0 rfl) ?_
    refine lv_iload_n hM.x hM.b dX5_holds_14 rfl (lv_at hl 1 rfl) ?_
    refine lv_iconst (v := 2) hM.x hM.b dX5_holds_15 (by decide) ?_
    refine k_cip hw (k_runV [.int (a), .int (2)] [.ref (g.2.2 (91))] hM hw (m_X5_sp l g κ _ (a) (2) (isSpit_in hMI c1) (vin_lit (by decide) : vp_in 2 5)) (kd_lt kd_91 (by decide)) (sh5 kd_91) rfl (k_gV u_ml_X5_58 u_im_X5_sp u_se_X5_sp u_ini_X5 u_co_X5_sp) (q_X5_sp) rfl rfl rfl ⟨Nat.le_of_ble_eq_true rfl, Nat.le_of_ble_eq_true rfl⟩ hl.1 rfl (Nat.le_of_ble_eq_true rfl) dX5_holds_16 ⟨Nat.le_of_ble_eq_true rfl, Nat.le_of_ble_eq_true rfl⟩) (fun H locs hw => ?_)
    refine lv_if_ne (tgt := 26) hM.x hM.b dX5_holds_19 (by decide) (fun c2 => ?_) (fun c2 => ?_)
    · rw [if_neg c2] at hF
      refine lv_iconst (v := 0) hM.x hM.b dX5_holds_26 (by decide) ?_
      refine k_put5 0 hM hw (by decide) u_fl_X5_32 dX5_holds_27 (fun H locs hw => ?_)
      obtain ⟨κ1, eκ1⟩ : ∃ z : Kp, up2 κ (91) 0 (0) = z := ⟨_, rfl⟩
      rw [eκ1] at hw
      rw [eκ1] at hF
      try dsimp only at hF
      refine lv_aload_n hM.x hM.b dX5_holds_30 rfl (lv_at hl 0 rfl) ?_
      refine k_get5v 0 (v := 0) hM hw (by decide) u_fl_X5_32 (by rw [← eκ1]; exact up2_self _ _ _ _) dX5_holds_31 ?_
      refine lv_if_ne (tgt := 41) hM.x hM.b dX5_holds_34 (by decide) (fun cz => absurd cz (by decide)) (fun _ => ?_)
      refine lv_iconst (v := 1) hM.x hM.b dX5_holds_37 (by decide) ?_
      refine lv_goto (tgt := 42) hM.x hM.b dX5_holds_38 (by decide) ?_
      exact k_zret (b := true) hM hr hw (Nat.le_of_ble_eq_true rfl) (Nat.le_of_ble_eq_true rfl) hF dX5_holds_42
    · rw [if_pos c2] at hF
      refine lv_iconst (v := 2) hM.x hM.b dX5_holds_22 (by decide) ?_
      refine lv_goto (tgt := 27) hM.x hM.b dX5_holds_23 (by decide) ?_
      refine k_put5 0 hM hw (by decide) u_fl_X5_32 dX5_holds_27 (fun H locs hw => ?_)
      obtain ⟨κ2, eκ2⟩ : ∃ z : Kp, up2 κ (91) 0 (2) = z := ⟨_, rfl⟩
      rw [eκ2] at hw
      rw [eκ2] at hF
      try dsimp only at hF
      refine lv_aload_n hM.x hM.b dX5_holds_30 rfl (lv_at hl 0 rfl) ?_
      refine k_get5v 0 (v := 2) hM hw (by decide) u_fl_X5_32 (by rw [← eκ2]; exact up2_self _ _ _ _) dX5_holds_31 ?_
      refine lv_if_ne (tgt := 41) hM.x hM.b dX5_holds_34 (by decide) (fun _ => ?_) (fun cz => absurd cz (by decide))
      refine lv_iconst (v := 0) hM.x hM.b dX5_holds_41 (by decide) ?_
      exact k_zret (b := false) hM hr hw (Nat.le_of_ble_eq_true rfl) (Nat.le_of_ble_eq_true rfl) hF dX5_holds_42
  · rw [if_pos c1] at hF
    refine lv_iconst (v := 1) hM.x hM.b dX5_holds_9 (by decide) ?_
    refine lv_goto (tgt := 27) hM.x hM.b dX5_holds_10 (by decide) ?_
    refine k_put5 0 hM hw (by decide) u_fl_X5_32 dX5_holds_27 (fun H locs hw => ?_)
    obtain ⟨κ3, eκ3⟩ : ∃ z : Kp, up2 κ (91) 0 (1) = z := ⟨_, rfl⟩
    rw [eκ3] at hw
    rw [eκ3] at hF
    try dsimp only at hF
    refine lv_aload_n hM.x hM.b dX5_holds_30 rfl (lv_at hl 0 rfl) ?_
    refine k_get5v 0 (v := 1) hM hw (by decide) u_fl_X5_32 (by rw [← eκ3]; exact up2_self _ _ _ _) dX5_holds_31 ?_
    refine lv_if_ne (tgt := 41) hM.x hM.b dX5_holds_34 (by decide) (fun _ => ?_) (fun cz => absurd cz (by decide))
    refine lv_iconst (v := 0) hM.x hM.b dX5_holds_41 (by decide) ?_
    exact k_zret (b := false) hM hr hw (Nat.le_of_ble_eq_true rfl) (Nat.le_of_ble_eq_true rfl) hF dX5_holds_42
