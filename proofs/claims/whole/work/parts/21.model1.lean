theorem q_X5_thrown : hdV yX5_thrown RX5 0 := ⟨rfl, by decide +kernel, by decide +kernel, by decide +kernel⟩
def f_X5_thrown (κ : Kp) : Int32 := κ 91 0
set_option maxRecDepth 100000 in
set_option maxHeartbeats 4000000 in
theorem m_X5_thrown (l : Launch) (g : Gt) (κ : Kp) (sz : Nat)  : Met l yX5_thrown (.code yX5_thrown cX5_thrown 1 (some .int) :: uW) { frames := 0, cells := 0, slots := 0, locals := 0 } (PRE g κ sz [.ref (g.2.2 (91))]) (va_Qi (fun r κ' => r = f_X5_thrown κ  ∧ κ' = κ) (Wp g) (fr g sz)) 0 0 (fr g sz) := by
  refine k_enter (by decide +kernel) (Nat.le_of_ble_eq_true rfl) ?_
  intro p e s m below meth c ls hM hr hl hw hsz
  subst hsz
  have hl : lv_has ls 1 [(0, .ref (g.2.2 (91)))] := hl
  have hF := f_X5_thrown.eq_1 κ 
  refine lv_aload_n hM.x hM.b dX5_thrown_0 rfl (lv_at hl 0 rfl) ?_
  refine k_get5 0 hM hw (by decide) u_fl_X5_32 dX5_thrown_1 ?_
  exact k_iret hM hr hw (Nat.le_of_ble_eq_true rfl) (Nat.le_of_ble_eq_true rfl) ⟨hF.symm, rfl⟩ dX5_thrown_4
theorem q_X5_fail : hdV yX5_fail RX5 1 := ⟨rfl, by decide +kernel, by decide +kernel, by decide +kernel⟩
def f_X5_fail (κ : Kp) (a : Int32) : Int32 × Kp := (fun κ1 : Kp => (0, κ1)) (up2 κ (91) 0 (a))
set_option maxRecDepth 100000 in
set_option maxHeartbeats 4000000 in
theorem m_X5_fail (l : Launch) (g : Gt) (κ : Kp) (sz : Nat) (a : Int32) : Met l yX5_fail (.code yX5_fail cX5_fail 2 (some .int) :: uW) { frames := 0, cells := 0, slots := 0, locals := 0 } (PRE g κ sz [.ref (g.2.2 (91)), .int (a)]) (va_Qi (fun r κ' => f_X5_fail κ a = (r, κ')) (Wp g) (fr g sz)) 0 0 (fr g sz) := by
  refine k_enter (by decide +kernel) (Nat.le_of_ble_eq_true rfl) ?_
  intro p e s m below meth c ls hM hr hl hw hsz
  subst hsz
  have hl : lv_has ls 2 [(0, .ref (g.2.2 (91))), (1, .int (a))] := hl
  have hF := f_X5_fail.eq_1 κ a
  refine lv_aload_n hM.x hM.b dX5_fail_0 rfl (lv_at hl 0 rfl) ?_
  refine lv_iload_n hM.x hM.b dX5_fail_1 rfl (lv_at hl 1 rfl) ?_
  refine k_put5 0 hM hw (by decide) u_fl_X5_32 dX5_fail_2 (fun H locs hw => ?_)
  obtain ⟨κ1, eκ1⟩ : ∃ z : Kp, up2 κ (91) 0 (a) = z := ⟨_, rfl⟩
  rw [eκ1] at hw
  rw [eκ1] at hF
  try dsimp only at hF
  refine lv_iconst (v := 0) hM.x hM.b dX5_fail_5 (by decide) ?_
  exact k_iret hM hr hw (Nat.le_of_ble_eq_true rfl) (Nat.le_of_ble_eq_true rfl) hF dX5_fail_6
theorem q_X5_told : hdV yX5_told RX5 1 := ⟨rfl, by decide +kernel, by decide +kernel, by decide +kernel⟩
def f_X5_told (κ : Kp) (a : Int32) : Int32 × Kp := (fun κ1 : Kp => (a, κ1)) (up2 κ (91) 0 (0))
set_option maxRecDepth 100000 in
set_option maxHeartbeats 4000000 in
theorem m_X5_told (l : Launch) (g : Gt) (κ : Kp) (sz : Nat) (a : Int32) : Met l yX5_told (.code yX5_told cX5_told 2 (some .int) :: uW) { frames := 0, cells := 0, slots := 0, locals := 0 } (PRE g κ sz [.ref (g.2.2 (91)), .int (a)]) (va_Qi (fun r κ' => f_X5_told κ a = (r, κ')) (Wp g) (fr g sz)) 0 0 (fr g sz) := by
  refine k_enter (by decide +kernel) (Nat.le_of_ble_eq_true rfl) ?_
  intro p e s m below meth c ls hM hr hl hw hsz
  subst hsz
  have hl : lv_has ls 2 [(0, .ref (g.2.2 (91))), (1, .int (a))] := hl
  have hF := f_X5_told.eq_1 κ a
  refine lv_aload_n hM.x hM.b dX5_told_0 rfl (lv_at hl 0 rfl) ?_
  refine lv_iconst (v := 0) hM.x hM.b dX5_told_1 (by decide) ?_
  refine k_put5 0 hM hw (by decide) u_fl_X5_32 dX5_told_2 (fun H locs hw => ?_)
  obtain ⟨κ1, eκ1⟩ : ∃ z : Kp, up2 κ (91) 0 (0) = z := ⟨_, rfl⟩
  rw [eκ1] at hw
  rw [eκ1] at hF
  try dsimp only at hF
  refine lv_iload_n hM.x hM.b dX5_told_5 rfl (lv_at hl 1 rfl) ?_
  exact k_iret hM hr hw (Nat.le_of_ble_eq_true rfl) (Nat.le_of_ble_eq_true rfl) hF dX5_told_6
theorem q_X5_isIn : hdV yX5_isIn RX5 3 := ⟨rfl, by decide +kernel, by decide +kernel, by decide +kernel⟩
def f_X5_isIn (a : Int32) (b : Int32) (d3 : Int32) : Bool := if (a) < (b) then (false) else (if (d3) < (a) then (false) else (true))
set_option maxRecDepth 100000 in
set_option maxHeartbeats 4000000 in
theorem m_X5_isIn (l : Launch) (g : Gt) (κ : Kp) (sz : Nat) (a : Int32) (b : Int32) (d3 : Int32) : Met l yX5_isIn (.code yX5_isIn cX5_isIn 3 (some .boolean) :: uW) { frames := 0, cells := 0, slots := 0, locals := 0 } (PRE g κ sz [.int (a), .int (b), .int (d3)]) (va_Qi (fun r κ' => r = bi (f_X5_isIn a b d3) ∧ κ' = κ) (Wp g) (fr g sz)) 0 0 (fr g sz) := by
  refine k_enter (by decide +kernel) (Nat.le_of_ble_eq_true rfl) ?_
  intro p e s m below meth c ls hM hr hl hw hsz
  subst hsz
  have hl : lv_has ls 3 [(0, .int (a)), (1, .int (b)), (2, .int (d3))] := hl
  have hF := f_X5_isIn.eq_1 a b d3
  refine lv_iload_n hM.x hM.b dX5_isIn_0 rfl (lv_at hl 0 rfl) ?_
  refine lv_iload_n hM.x hM.b dX5_isIn_1 rfl (lv_at hl 1 rfl) ?_
  refine lv_icmp_lt (tgt := 14) hM.x hM.b dX5_isIn_2 (by decide) (fun c1 => ?_) (fun c1 => ?_)
  · rw [if_pos c1] at hF
    refine lv_iconst (v := 0) hM.x hM.b dX5_isIn_14 (by decide) ?_
    exact k_zret (b := false) hM hr hw (Nat.le_of_ble_eq_true rfl) (Nat.le_of_ble_eq_true rfl) ⟨congrArg bi hF.symm, rfl⟩ dX5_isIn_15
  · rw [if_neg c1] at hF
    refine lv_iload_n hM.x hM.b dX5_isIn_5 rfl (lv_at hl 0 rfl) ?_
    refine lv_iload_n hM.x hM.b dX5_isIn_6 rfl (lv_at hl 2 rfl) ?_
    refine lv_icmp_gt (tgt := 14) hM.x hM.b dX5_isIn_7 (by decide) (fun c2 => ?_) (fun c2 => ?_)
    · rw [if_pos c2] at hF
      refine lv_iconst (v := 0) hM.x hM.b dX5_isIn_14 (by decide) ?_
      exact k_zret (b := false) hM hr hw (Nat.le_of_ble_eq_true rfl) (Nat.le_of_ble_eq_true rfl) ⟨congrArg bi hF.symm, rfl⟩ dX5_isIn_15
    · rw [if_neg c2] at hF
      refine lv_iconst (v := 1) hM.x hM.b dX5_isIn_10 (by decide) ?_
      refine lv_goto (tgt := 15) hM.x hM.b dX5_isIn_11 (by decide) ?_
      exact k_zret (b := true) hM hr hw (Nat.le_of_ble_eq_true rfl) (Nat.le_of_ble_eq_true rfl) ⟨congrArg bi hF.symm, rfl⟩ dX5_isIn_15
theorem q_X5_isFire : hdV yX5_isFire RX5 1 := ⟨rfl, by decide +kernel, by decide +kernel, by decide +kernel⟩
def f_X5_isFire (κ : Kp) (a : Int32) : Bool := f_X5_isIn (a) (0) (((κ 91 1) - (1)))
set_option maxRecDepth 100000 in
set_option maxHeartbeats 4000000 in
theorem m_X5_isFire (l : Launch) (g : Gt) (κ : Kp) (sz : Nat) (a : Int32) : Met l yX5_isFire (.code yX5_isFire cX5_isFire 2 (some .boolean) :: uW) { frames := 1, cells := 0, slots := 0, locals := 30 } (PRE g κ sz [.ref (g.2.2 (91)), .int (a)]) (va_Qi (fun r κ' => r = bi (f_X5_isFire κ a) ∧ κ' = κ) (Wp g) (fr g sz)) 0 0 (fr g sz) := by
  refine k_enter (by decide +kernel) (Nat.le_of_ble_eq_true rfl) ?_
  intro p e s m below meth c ls hM hr hl hw hsz
  subst hsz
  have hl : lv_has ls 2 [(0, .ref (g.2.2 (91))), (1, .int (a))] := hl
  have hF := f_X5_isFire.eq_1 κ a
  refine lv_iload_n hM.x hM.b dX5_isFire_0 rfl (lv_at hl 1 rfl) ?_
  refine lv_iconst (v := 0) hM.x hM.b dX5_isFire_1 (by decide) ?_
  refine lv_aload_n hM.x hM.b dX5_isFire_2 rfl (lv_at hl 0 rfl) ?_
  refine k_get5 1 hM hw (by decide) u_fl_X5_35 dX5_isFire_3 ?_
  refine lv_iconst (v := 1) hM.x hM.b dX5_isFire_6 (by decide) ?_
  refine lv_isub hM.x hM.b dX5_isFire_7 ?_
  refine k_cip hw (k_runS [.int (a), .int (0), .int (((κ 91 1) - (1)))] [] hM hw (m_X5_isIn l g κ _ (a) (0) (((κ 91 1) - (1)))) (k_gS u_ml_X5_38 u_st_X5_isIn u_ini_X5 u_co_X5_isIn) (q_X5_isIn) rfl rfl rfl ⟨Nat.le_of_ble_eq_true rfl, Nat.le_of_ble_eq_true rfl⟩ hl.1 rfl (Nat.le_of_ble_eq_true rfl) dX5_isFire_8 ⟨Nat.le_of_ble_eq_true rfl, Nat.le_of_ble_eq_true rfl⟩) (fun H locs hw => ?_)
  exact k_zret hM hr hw (Nat.le_of_ble_eq_true rfl) (Nat.le_of_ble_eq_true rfl) ⟨congrArg bi hF.symm, rfl⟩ dX5_isFire_11
theorem q_X5_isSpit : hdV yX5_isSpit RX5 1 := ⟨rfl, by decide +kernel, by decide +kernel, by decide +kernel⟩
def f_X5_isSpit (κ : Kp) (a : Int32) : Bool := f_X5_isIn (a) (0) (((κ 91 2) - (1)))
set_option maxRecDepth 100000 in
set_option maxHeartbeats 4000000 in
theorem m_X5_isSpit (l : Launch) (g : Gt) (κ : Kp) (sz : Nat) (a : Int32) : Met l yX5_isSpit (.code yX5_isSpit cX5_isSpit 2 (some .boolean) :: uW) { frames := 1, cells := 0, slots := 0, locals := 30 } (PRE g κ sz [.ref (g.2.2 (91)), .int (a)]) (va_Qi (fun r κ' => r = bi (f_X5_isSpit κ a) ∧ κ' = κ) (Wp g) (fr g sz)) 0 0 (fr g sz) := by
  refine k_enter (by decide +kernel) (Nat.le_of_ble_eq_true rfl) ?_
  intro p e s m below meth c ls hM hr hl hw hsz
  subst hsz
  have hl : lv_has ls 2 [(0, .ref (g.2.2 (91))), (1, .int (a))] := hl
  have hF := f_X5_isSpit.eq_1 κ a
  refine lv_iload_n hM.x hM.b dX5_isSpit_0 rfl (lv_at hl 1 rfl) ?_
  refine lv_iconst (v := 0) hM.x hM.b dX5_isSpit_1 (by decide) ?_
  refine lv_aload_n hM.x hM.b dX5_isSpit_2 rfl (lv_at hl 0 rfl) ?_
  refine k_get5 2 hM hw (by decide) u_fl_X5_42 dX5_isSpit_3 ?_
  refine lv_iconst (v := 1) hM.x hM.b dX5_isSpit_6 (by decide) ?_
  refine lv_isub hM.x hM.b dX5_isSpit_7 ?_
  refine k_cip hw (k_runS [.int (a), .int (0), .int (((κ 91 2) - (1)))] [] hM hw (m_X5_isIn l g κ _ (a) (0) (((κ 91 2) - (1)))) (k_gS u_ml_X5_38 u_st_X5_isIn u_ini_X5 u_co_X5_isIn) (q_X5_isIn) rfl rfl rfl ⟨Nat.le_of_ble_eq_true rfl, Nat.le_of_ble_eq_true rfl⟩ hl.1 rfl (Nat.le_of_ble_eq_true rfl) dX5_isSpit_8 ⟨Nat.le_of_ble_eq_true rfl, Nat.le_of_ble_eq_true rfl⟩) (fun H locs hw => ?_)
  exact k_zret hM hr hw (Nat.le_of_ble_eq_true rfl) (Nat.le_of_ble_eq_true rfl) ⟨congrArg bi hF.symm, rfl⟩ dX5_isSpit_11
theorem q_X5_isRoast : hdV yX5_isRoast RX5 1 := ⟨rfl, by decide +kernel, by decide +kernel, by decide +kernel⟩
def f_X5_isRoast (κ : Kp) (a : Int32) : Bool := f_X5_isIn (a) (0) (((κ 91 3) - (1)))
set_option maxRecDepth 100000 in
set_option maxHeartbeats 4000000 in
theorem m_X5_isRoast (l : Launch) (g : Gt) (κ : Kp) (sz : Nat) (a : Int32) : Met l yX5_isRoast (.code yX5_isRoast cX5_isRoast 2 (some .boolean) :: uW) { frames := 1, cells := 0, slots := 0, locals := 30 } (PRE g κ sz [.ref (g.2.2 (91)), .int (a)]) (va_Qi (fun r κ' => r = bi (f_X5_isRoast κ a) ∧ κ' = κ) (Wp g) (fr g sz)) 0 0 (fr g sz) := by
  refine k_enter (by decide +kernel) (Nat.le_of_ble_eq_true rfl) ?_
  intro p e s m below meth c ls hM hr hl hw hsz
  subst hsz
  have hl : lv_has ls 2 [(0, .ref (g.2.2 (91))), (1, .int (a))] := hl
  have hF := f_X5_isRoast.eq_1 κ a
  refine lv_iload_n hM.x hM.b dX5_isRoast_0 rfl (lv_at hl 1 rfl) ?_
  refine lv_iconst (v := 0) hM.x hM.b dX5_isRoast_1 (by decide) ?_
  refine lv_aload_n hM.x hM.b dX5_isRoast_2 rfl (lv_at hl 0 rfl) ?_
  refine k_get5 3 hM hw (by decide) u_fl_X5_45 dX5_isRoast_3 ?_
  refine lv_iconst (v := 1) hM.x hM.b dX5_isRoast_6 (by decide) ?_
  refine lv_isub hM.x hM.b dX5_isRoast_7 ?_
  refine k_cip hw (k_runS [.int (a), .int (0), .int (((κ 91 3) - (1)))] [] hM hw (m_X5_isIn l g κ _ (a) (0) (((κ 91 3) - (1)))) (k_gS u_ml_X5_38 u_st_X5_isIn u_ini_X5 u_co_X5_isIn) (q_X5_isIn) rfl rfl rfl ⟨Nat.le_of_ble_eq_true rfl, Nat.le_of_ble_eq_true rfl⟩ hl.1 rfl (Nat.le_of_ble_eq_true rfl) dX5_isRoast_8 ⟨Nat.le_of_ble_eq_true rfl, Nat.le_of_ble_eq_true rfl⟩) (fun H locs hw => ?_)
  exact k_zret hM hr hw (Nat.le_of_ble_eq_true rfl) (Nat.le_of_ble_eq_true rfl) ⟨congrArg bi hF.symm, rfl⟩ dX5_isRoast_11
theorem q_X5_fi : hdV yX5_fi RX5 2 := ⟨rfl, by decide +kernel, by decide +kernel, by decide +kernel⟩
def f_X5_fi (κ : Kp) (a : Int32) (b : Int32) : Int32 := κ (96) (((((1) + (((2) * (a))))) + (b))).toNatClampNeg
set_option maxRecDepth 100000 in
set_option maxHeartbeats 4000000 in
theorem m_X5_fi (l : Launch) (g : Gt) (κ : Kp) (sz : Nat) (a : Int32) (b : Int32) (ha : vp_in a 3) (hb : vp_in b 2) : Met l yX5_fi (.code yX5_fi cX5_fi 3 (some .int) :: uW) { frames := 0, cells := 0, slots := 0, locals := 0 } (PRE g κ sz [.ref (g.2.2 (91)), .int (a), .int (b)]) (va_Qi (fun r κ' => r = f_X5_fi κ a b ∧ κ' = κ) (Wp g) (fr g sz)) 0 0 (fr g sz) := by
  refine k_enter (by decide +kernel) (Nat.le_of_ble_eq_true rfl) ?_
  intro p e s m below meth c ls hM hr hl hw hsz
  subst hsz
  have hl : lv_has ls 3 [(0, .ref (g.2.2 (91))), (1, .int (a)), (2, .int (b))] := hl
  have hF := f_X5_fi.eq_1 κ a b
  refine lv_aload_n hM.x hM.b dX5_fi_0 rfl (lv_at hl 0 rfl) ?_
  refine k_get5r 4 hM hw (by decide) u_fl_X5_26 dX5_fi_1 ?_
  refine lv_iconst (v := 1) hM.x hM.b dX5_fi_4 (by decide) ?_
  refine lv_iconst (v := 2) hM.x hM.b dX5_fi_5 (by decide) ?_
  refine lv_iload_n hM.x hM.b dX5_fi_6 rfl (lv_at hl 1 rfl) ?_
  refine lv_imul hM.x hM.b dX5_fi_7 ?_
  refine lv_iadd hM.x hM.b dX5_fi_8 ?_
  refine lv_iload_n hM.x hM.b dX5_fi_9 rfl (lv_at hl 2 rfl) ?_
  refine lv_iadd hM.x hM.b dX5_fi_10 ?_
  refine k_iald (n := 165) hM hw (kd_lt kd_96 (by decide)) (sh13 kd_96) (ix_fi ha hb) dX5_fi_11 ?_
  exact k_iret hM hr hw (Nat.le_of_ble_eq_true rfl) (Nat.le_of_ble_eq_true rfl) ⟨hF.symm, rfl⟩ dX5_fi_12
theorem q_X5_sp : hdV yX5_sp RX5 2 := ⟨rfl, by decide +kernel, by decide +kernel, by decide +kernel⟩
def f_X5_sp (κ : Kp) (a : Int32) (b : Int32) : Int32 := κ (96) (((((7) + (((5) * (a))))) + (b))).toNatClampNeg
set_option maxRecDepth 100000 in
set_option maxHeartbeats 4000000 in
theorem m_X5_sp (l : Launch) (g : Gt) (κ : Kp) (sz : Nat) (a : Int32) (b : Int32) (ha : vp_in a 6) (hb : vp_in b 5) : Met l yX5_sp (.code yX5_sp cX5_sp 3 (some .int) :: uW) { frames := 0, cells := 0, slots := 0, locals := 0 } (PRE g κ sz [.ref (g.2.2 (91)), .int (a), .int (b)]) (va_Qi (fun r κ' => r = f_X5_sp κ a b ∧ κ' = κ) (Wp g) (fr g sz)) 0 0 (fr g sz) := by
  refine k_enter (by decide +kernel) (Nat.le_of_ble_eq_true rfl) ?_
  intro p e s m below meth c ls hM hr hl hw hsz
  subst hsz
  have hl : lv_has ls 3 [(0, .ref (g.2.2 (91))), (1, .int (a)), (2, .int (b))] := hl
  have hF := f_X5_sp.eq_1 κ a b
  refine lv_aload_n hM.x hM.b dX5_sp_0 rfl (lv_at hl 0 rfl) ?_
  refine k_get5r 4 hM hw (by decide) u_fl_X5_26 dX5_sp_1 ?_
  refine lv_bipush (v := 7) hM.x hM.b dX5_sp_4 (by decide) ?_
  refine lv_iconst (v := 5) hM.x hM.b dX5_sp_6 (by decide) ?_
  refine lv_iload_n hM.x hM.b dX5_sp_7 rfl (lv_at hl 1 rfl) ?_
  refine lv_imul hM.x hM.b dX5_sp_8 ?_
  refine lv_iadd hM.x hM.b dX5_sp_9 ?_
  refine lv_iload_n hM.x hM.b dX5_sp_10 rfl (lv_at hl 2 rfl) ?_
  refine lv_iadd hM.x hM.b dX5_sp_11 ?_
  refine k_iald (n := 165) hM hw (kd_lt kd_96 (by decide)) (sh13 kd_96) (ix_sp ha hb) dX5_sp_12 ?_
  exact k_iret hM hr hw (Nat.le_of_ble_eq_true rfl) (Nat.le_of_ble_eq_true rfl) ⟨hF.symm, rfl⟩ dX5_sp_13
theorem q_X5_ro : hdV yX5_ro RX5 2 := ⟨rfl, by decide +kernel, by decide +kernel, by decide +kernel⟩
def f_X5_ro (κ : Kp) (a : Int32) (b : Int32) : Int32 := κ (96) (((((37) + (((8) * (a))))) + (b))).toNatClampNeg
set_option maxRecDepth 100000 in
set_option maxHeartbeats 4000000 in
theorem m_X5_ro (l : Launch) (g : Gt) (κ : Kp) (sz : Nat) (a : Int32) (b : Int32) (ha : vp_in a 16) (hb : vp_in b 8) : Met l yX5_ro (.code yX5_ro cX5_ro 3 (some .int) :: uW) { frames := 0, cells := 0, slots := 0, locals := 0 } (PRE g κ sz [.ref (g.2.2 (91)), .int (a), .int (b)]) (va_Qi (fun r κ' => r = f_X5_ro κ a b ∧ κ' = κ) (Wp g) (fr g sz)) 0 0 (fr g sz) := by
  refine k_enter (by decide +kernel) (Nat.le_of_ble_eq_true rfl) ?_
  intro p e s m below meth c ls hM hr hl hw hsz
  subst hsz
  have hl : lv_has ls 3 [(0, .ref (g.2.2 (91))), (1, .int (a)), (2, .int (b))] := hl
  have hF := f_X5_ro.eq_1 κ a b
  refine lv_aload_n hM.x hM.b dX5_ro_0 rfl (lv_at hl 0 rfl) ?_
  refine k_get5r 4 hM hw (by decide) u_fl_X5_26 dX5_ro_1 ?_
  refine lv_bipush (v := 37) hM.x hM.b dX5_ro_4 (by decide) ?_
  refine lv_bipush (v := 8) hM.x hM.b dX5_ro_6 (by decide) ?_
  refine lv_iload_n hM.x hM.b dX5_ro_8 rfl (lv_at hl 1 rfl) ?_
  refine lv_imul hM.x hM.b dX5_ro_9 ?_
  refine lv_iadd hM.x hM.b dX5_ro_10 ?_
  refine lv_iload_n hM.x hM.b dX5_ro_11 rfl (lv_at hl 2 rfl) ?_
  refine lv_iadd hM.x hM.b dX5_ro_12 ?_
  refine k_iald (n := 165) hM hw (kd_lt kd_96 (by decide)) (sh13 kd_96) (ix_ro ha hb) dX5_ro_13 ?_
  exact k_iret hM hr hw (Nat.le_of_ble_eq_true rfl) (Nat.le_of_ble_eq_true rfl) ⟨hF.symm, rfl⟩ dX5_ro_14
theorem q_X5_letFire : hdV yX5_letFire RX5 3 := ⟨rfl, by decide +kernel, by decide +kernel, by decide +kernel⟩
def f_X5_letFire (κ : Kp) (a : Int32) (b : Int32) (d3 : Int32) : Kp := (fun κ1 : Kp => κ1) (up2 κ (96) ((((((1) + (((2) * (a))))) + (b))).toNatClampNeg) (d3))
set_option maxRecDepth 100000 in
set_option maxHeartbeats 4000000 in
theorem m_X5_letFire (l : Launch) (g : Gt) (κ : Kp) (sz : Nat) (a : Int32) (b : Int32) (d3 : Int32) (ha : vp_in a 3) (hb : vp_in b 2) : Met l yX5_letFire (.code yX5_letFire cX5_letFire 4 none :: uW) { frames := 0, cells := 0, slots := 0, locals := 0 } (PRE g κ sz [.ref (g.2.2 (91)), .int (a), .int (b), .int (d3)]) (va_Qv (fun κ' => κ' = f_X5_letFire κ a b d3) (Wp g) (fr g sz)) 0 0 (fr g sz) := by
  refine k_enter (by decide +kernel) (Nat.le_of_ble_eq_true rfl) ?_
  intro p e s m below meth c ls hM hr hl hw hsz
  subst hsz
  have hl : lv_has ls 4 [(0, .ref (g.2.2 (91))), (1, .int (a)), (2, .int (b)), (3, .int (d3))] := hl
  have hF := f_X5_letFire.eq_1 κ a b d3
  refine lv_aload_n hM.x hM.b dX5_letFire_0 rfl (lv_at hl 0 rfl) ?_
  refine k_get5r 4 hM hw (by decide) u_fl_X5_26 dX5_letFire_1 ?_
  refine lv_iconst (v := 1) hM.x hM.b dX5_letFire_4 (by decide) ?_
  refine lv_iconst (v := 2) hM.x hM.b dX5_letFire_5 (by decide) ?_
  refine lv_iload_n hM.x hM.b dX5_letFire_6 rfl (lv_at hl 1 rfl) ?_
  refine lv_imul hM.x hM.b dX5_letFire_7 ?_
  refine lv_iadd hM.x hM.b dX5_letFire_8 ?_
  refine lv_iload_n hM.x hM.b dX5_letFire_9 rfl (lv_at hl 2 rfl) ?_
  refine lv_iadd hM.x hM.b dX5_letFire_10 ?_
  refine lv_iload_n hM.x hM.b dX5_letFire_11 rfl (lv_at hl 3 rfl) ?_
  refine k_iast (n := 165) hM hw (kd_lt kd_96 (by decide)) (fun r => sh13 kd_96) (ix_fi ha hb) dX5_letFire_12 (fun H locs hw => ?_)
  obtain ⟨κ1, eκ1⟩ : ∃ z : Kp, up2 κ (96) ((((((1) + (((2) * (a))))) + (b))).toNatClampNeg) (d3) = z := ⟨_, rfl⟩
  rw [eκ1] at hw
  rw [eκ1] at hF
  try dsimp only at hF
  exact k_vret hM hr hw (Nat.le_of_ble_eq_true rfl) (Nat.le_of_ble_eq_true rfl) hF.symm dX5_letFire_13
theorem q_X5_letSpit : hdV yX5_letSpit RX5 3 := ⟨rfl, by decide +kernel, by decide +kernel, by decide +kernel⟩
def f_X5_letSpit (κ : Kp) (a : Int32) (b : Int32) (d3 : Int32) : Kp := (fun κ1 : Kp => κ1) (up2 κ (96) ((((((7) + (((5) * (a))))) + (b))).toNatClampNeg) (d3))
set_option maxRecDepth 100000 in
set_option maxHeartbeats 4000000 in
theorem m_X5_letSpit (l : Launch) (g : Gt) (κ : Kp) (sz : Nat) (a : Int32) (b : Int32) (d3 : Int32) (ha : vp_in a 6) (hb : vp_in b 5) : Met l yX5_letSpit (.code yX5_letSpit cX5_letSpit 4 none :: uW) { frames := 0, cells := 0, slots := 0, locals := 0 } (PRE g κ sz [.ref (g.2.2 (91)), .int (a), .int (b), .int (d3)]) (va_Qv (fun κ' => κ' = f_X5_letSpit κ a b d3) (Wp g) (fr g sz)) 0 0 (fr g sz) := by
  refine k_enter (by decide +kernel) (Nat.le_of_ble_eq_true rfl) ?_
  intro p e s m below meth c ls hM hr hl hw hsz
  subst hsz
  have hl : lv_has ls 4 [(0, .ref (g.2.2 (91))), (1, .int (a)), (2, .int (b)), (3, .int (d3))] := hl
  have hF := f_X5_letSpit.eq_1 κ a b d3
  refine lv_aload_n hM.x hM.b dX5_letSpit_0 rfl (lv_at hl 0 rfl) ?_
  refine k_get5r 4 hM hw (by decide) u_fl_X5_26 dX5_letSpit_1 ?_
  refine lv_bipush (v := 7) hM.x hM.b dX5_letSpit_4 (by decide) ?_
  refine lv_iconst (v := 5) hM.x hM.b dX5_letSpit_6 (by decide) ?_
  refine lv_iload_n hM.x hM.b dX5_letSpit_7 rfl (lv_at hl 1 rfl) ?_
  refine lv_imul hM.x hM.b dX5_letSpit_8 ?_
  refine lv_iadd hM.x hM.b dX5_letSpit_9 ?_
  refine lv_iload_n hM.x hM.b dX5_letSpit_10 rfl (lv_at hl 2 rfl) ?_
  refine lv_iadd hM.x hM.b dX5_letSpit_11 ?_
  refine lv_iload_n hM.x hM.b dX5_letSpit_12 rfl (lv_at hl 3 rfl) ?_
  refine k_iast (n := 165) hM hw (kd_lt kd_96 (by decide)) (fun r => sh13 kd_96) (ix_sp ha hb) dX5_letSpit_13 (fun H locs hw => ?_)
  obtain ⟨κ1, eκ1⟩ : ∃ z : Kp, up2 κ (96) ((((((7) + (((5) * (a))))) + (b))).toNatClampNeg) (d3) = z := ⟨_, rfl⟩
  rw [eκ1] at hw
  rw [eκ1] at hF
  try dsimp only at hF
  exact k_vret hM hr hw (Nat.le_of_ble_eq_true rfl) (Nat.le_of_ble_eq_true rfl) hF.symm dX5_letSpit_14
theorem q_X5_let : hdV yX5_let RX5 3 := ⟨rfl, by decide +kernel, by decide +kernel, by decide +kernel⟩
def f_X5_let (κ : Kp) (a : Int32) (b : Int32) (d3 : Int32) : Kp := (fun κ1 : Kp => κ1) (up2 κ (96) ((((((37) + (((8) * (a))))) + (b))).toNatClampNeg) (d3))
set_option maxRecDepth 100000 in
set_option maxHeartbeats 4000000 in
theorem m_X5_let (l : Launch) (g : Gt) (κ : Kp) (sz : Nat) (a : Int32) (b : Int32) (d3 : Int32) (ha : vp_in a 16) (hb : vp_in b 8) : Met l yX5_let (.code yX5_let cX5_let 4 none :: uW) { frames := 0, cells := 0, slots := 0, locals := 0 } (PRE g κ sz [.ref (g.2.2 (91)), .int (a), .int (b), .int (d3)]) (va_Qv (fun κ' => κ' = f_X5_let κ a b d3) (Wp g) (fr g sz)) 0 0 (fr g sz) := by
  refine k_enter (by decide +kernel) (Nat.le_of_ble_eq_true rfl) ?_
  intro p e s m below meth c ls hM hr hl hw hsz
  subst hsz
  have hl : lv_has ls 4 [(0, .ref (g.2.2 (91))), (1, .int (a)), (2, .int (b)), (3, .int (d3))] := hl
  have hF := f_X5_let.eq_1 κ a b d3
  refine lv_aload_n hM.x hM.b dX5_let_0 rfl (lv_at hl 0 rfl) ?_
  refine k_get5r 4 hM hw (by decide) u_fl_X5_26 dX5_let_1 ?_
  refine lv_bipush (v := 37) hM.x hM.b dX5_let_4 (by decide) ?_
  refine lv_bipush (v := 8) hM.x hM.b dX5_let_6 (by decide) ?_
  refine lv_iload_n hM.x hM.b dX5_let_8 rfl (lv_at hl 1 rfl) ?_
  refine lv_imul hM.x hM.b dX5_let_9 ?_
  refine lv_iadd hM.x hM.b dX5_let_10 ?_
  refine lv_iload_n hM.x hM.b dX5_let_11 rfl (lv_at hl 2 rfl) ?_
  refine lv_iadd hM.x hM.b dX5_let_12 ?_
  refine lv_iload_n hM.x hM.b dX5_let_13 rfl (lv_at hl 3 rfl) ?_
  refine k_iast (n := 165) hM hw (kd_lt kd_96 (by decide)) (fun r => sh13 kd_96) (ix_ro ha hb) dX5_let_14 (fun H locs hw => ?_)
  obtain ⟨κ1, eκ1⟩ : ∃ z : Kp, up2 κ (96) ((((((37) + (((8) * (a))))) + (b))).toNatClampNeg) (d3) = z := ⟨_, rfl⟩
  rw [eκ1] at hw
  rw [eκ1] at hF
  try dsimp only at hF
  exact k_vret hM hr hw (Nat.le_of_ble_eq_true rfl) (Nat.le_of_ble_eq_true rfl) hF.symm dX5_let_15
theorem q_X5_keep : hdV yX5_keep RX5 0 := ⟨rfl, by decide +kernel, by decide +kernel, by decide +kernel⟩
def f_X5_keep (κ : Kp) : Kp := (fun κ1 : Kp => κ1) (cp κ 96 97)
set_option maxRecDepth 100000 in
set_option maxHeartbeats 4000000 in
theorem m_X5_keep (l : Launch) (g : Gt) (κ : Kp) (sz : Nat)  : Met l yX5_keep (.code yX5_keep cX5_keep 1 none :: uW) { frames := 1, cells := 0, slots := 0, locals := 30 } (PRE g κ sz [.ref (g.2.2 (91))]) (va_Qv (fun κ' => κ' = f_X5_keep κ ) (Wp g) (fr g sz)) 0 0 (fr g sz) := by
  refine k_enter (by decide +kernel) (Nat.le_of_ble_eq_true rfl) ?_
  intro p e s m below meth c ls hM hr hl hw hsz
  subst hsz
  have hl : lv_has ls 1 [(0, .ref (g.2.2 (91)))] := hl
  have hF := f_X5_keep.eq_1 κ 
  refine lv_aload_n hM.x hM.b dX5_keep_0 rfl (lv_at hl 0 rfl) ?_
  refine k_get5r 4 hM hw (by decide) u_fl_X5_26 dX5_keep_1 ?_
  refine lv_iconst (v := 0) hM.x hM.b dX5_keep_4 (by decide) ?_
  refine lv_aload_n hM.x hM.b dX5_keep_5 rfl (lv_at hl 0 rfl) ?_
  refine k_get5r 5 hM hw (by decide) u_fl_X5_29 dX5_keep_6 ?_
  refine lv_iconst (v := 0) hM.x hM.b dX5_keep_9 (by decide) ?_
  refine lv_sipush (v := 165) hM.x hM.b dX5_keep_10 (by decide) ?_
  refine k_copy (k := 96) (k2 := 97) hM hw kd_96 kd_97 hl.1 (Nat.le_of_ble_eq_true rfl) (Nat.le_of_ble_eq_true rfl) u_ml_X5_48 dX5_keep_13 (fun H locs hw => ?_)
  obtain ⟨κ1, eκ1⟩ : ∃ z : Kp, cp κ 96 97 = z := ⟨_, rfl⟩
  rw [eκ1] at hw
  rw [eκ1] at hF
  try dsimp only at hF
  exact k_vret hM hr hw (Nat.le_of_ble_eq_true rfl) (Nat.le_of_ble_eq_true rfl) hF.symm dX5_keep_16
theorem q_X5_bringBack : hdV yX5_bringBack RX5 0 := ⟨rfl, by decide +kernel, by decide +kernel, by decide +kernel⟩
def f_X5_bringBack (κ : Kp) : Kp := (fun κ1 : Kp => κ1) (cp κ 97 96)
set_option maxRecDepth 100000 in
set_option maxHeartbeats 4000000 in
theorem m_X5_bringBack (l : Launch) (g : Gt) (κ : Kp) (sz : Nat)  : Met l yX5_bringBack (.code yX5_bringBack cX5_bringBack 1 none :: uW) { frames := 1, cells := 0, slots := 0, locals := 30 } (PRE g κ sz [.ref (g.2.2 (91))]) (va_Qv (fun κ' => κ' = f_X5_bringBack κ ) (Wp g) (fr g sz)) 0 0 (fr g sz) := by
  refine k_enter (by decide +kernel) (Nat.le_of_ble_eq_true rfl) ?_
  intro p e s m below meth c ls hM hr hl hw hsz
  subst hsz
  have hl : lv_has ls 1 [(0, .ref (g.2.2 (91)))] := hl
  have hF := f_X5_bringBack.eq_1 κ 
  refine lv_aload_n hM.x hM.b dX5_bringBack_0 rfl (lv_at hl 0 rfl) ?_
  refine k_get5r 5 hM hw (by decide) u_fl_X5_29 dX5_bringBack_1 ?_
  refine lv_iconst (v := 0) hM.x hM.b dX5_bringBack_4 (by decide) ?_
  refine lv_aload_n hM.x hM.b dX5_bringBack_5 rfl (lv_at hl 0 rfl) ?_
  refine k_get5r 4 hM hw (by decide) u_fl_X5_26 dX5_bringBack_6 ?_
  refine lv_iconst (v := 0) hM.x hM.b dX5_bringBack_9 (by decide) ?_
  refine lv_sipush (v := 165) hM.x hM.b dX5_bringBack_10 (by decide) ?_
  refine k_copy (k := 97) (k2 := 96) hM hw kd_97 kd_96 hl.1 (Nat.le_of_ble_eq_true rfl) (Nat.le_of_ble_eq_true rfl) u_ml_X5_48 dX5_bringBack_13 (fun H locs hw => ?_)
  obtain ⟨κ1, eκ1⟩ : ∃ z : Kp, cp κ 97 96 = z := ⟨_, rfl⟩
  rw [eκ1] at hw
  rw [eκ1] at hF
  try dsimp only at hF
  exact k_vret hM hr hw (Nat.le_of_ble_eq_true rfl) (Nat.le_of_ble_eq_true rfl) hF.symm dX5_bringBack_16
theorem q_X5_most : hdV yX5_most RX5 1 := ⟨rfl, by decide +kernel, by decide +kernel, by decide +kernel⟩
def f_X5_most (κ : Kp) (a : Int32) : Int32 := ((((3) * (κ (93) (a).toNatClampNeg))) + (30))
set_option maxRecDepth 100000 in
set_option maxHeartbeats 4000000 in
theorem m_X5_most (l : Launch) (g : Gt) (κ : Kp) (sz : Nat) (a : Int32) (ha : vp_in a 16) : Met l yX5_most (.code yX5_most cX5_most 2 (some .int) :: uW) { frames := 0, cells := 0, slots := 0, locals := 0 } (PRE g κ sz [.ref (g.2.2 (91)), .int (a)]) (va_Qi (fun r κ' => r = f_X5_most κ a ∧ κ' = κ) (Wp g) (fr g sz)) 0 0 (fr g sz) := by
  refine k_enter (by decide +kernel) (Nat.le_of_ble_eq_true rfl) ?_
  intro p e s m below meth c ls hM hr hl hw hsz
  subst hsz
  have hl : lv_has ls 2 [(0, .ref (g.2.2 (91))), (1, .int (a))] := hl
  have hF := f_X5_most.eq_1 κ a
  refine lv_iconst (v := 3) hM.x hM.b dX5_most_0 (by decide) ?_
  refine lv_aload_n hM.x hM.b dX5_most_1 rfl (lv_at hl 0 rfl) ?_
  refine k_get5r 1 hM hw (by decide) u_fl_X5_17 dX5_most_2 ?_
  refine lv_iload_n hM.x hM.b dX5_most_5 rfl (lv_at hl 1 rfl) ?_
  refine k_iald (n := 16) hM hw (kd_lt kd_93 (by decide)) (sh11 kd_93) ha dX5_most_6 ?_
  refine lv_imul hM.x hM.b dX5_most_7 ?_
  refine lv_bipush (v := 30) hM.x hM.b dX5_most_8 (by decide) ?_
  refine lv_iadd hM.x hM.b dX5_most_10 ?_
  exact k_iret hM hr hw (Nat.le_of_ble_eq_true rfl) (Nat.le_of_ble_eq_true rfl) ⟨hF.symm, rfl⟩ dX5_most_11
theorem q_X5_done : hdV yX5_done RX5 1 := ⟨rfl, by decide +kernel, by decide +kernel, by decide +kernel⟩
def lp_X5_done (κ : Kp) (a : Int32) : Nat → Nat → Bool
  | 0, j => true
  | n + 1, j => if (f_X5_ro κ (a) (nI ((4 + j)))) < (((3) * (κ (93) (a).toNatClampNeg))) then (false) else (if (f_X5_ro κ (a) (nI ((4 + j)))) ≤ (f_X5_most κ (a)) then (lp_X5_done (κ) (a) n (j + 1) ) else (false))
set_option maxRecDepth 100000 in
set_option maxHeartbeats 4000000 in
theorem ml_X5_done {p : Program} {e : Env} {s : State} {m : MethodId} {below : List Frame} {meth : Method} {c : Code} {Q : State → Prop} (l : Launch) (g : Gt) (κ : Kp) (a : Int32) (ha : vp_in a 16) (hM : Mc g p s m ([.ref (g.2.2 (91)), .int (a)] : List Value).toArray meth c cX5_done 3 yX5_done.cls) : ∀ (n j : Nat), j + n = 4 → ∀ (H : Heap) (locs : List Loc) (ls : Array Slot), lv_has ls 3 [(2, .int (nI (j))), (0, .ref (g.2.2 (91))), (1, .int (a))] → Ws g s κ H locs → (∀ (H : Heap) (locs : List Loc) (ls : Array Slot), lp_X5_done κ a n j = false → lv_has ls 3 [(0, .ref (g.2.2 (91))), (1, .int (a))] → Ws g s κ H locs → W p l e { frames := 1, cells := 0, slots := 0, locals := 30 } s m ([.ref (g.2.2 (91)), .int (a)] : List Value).toArray below meth c H locs 0 0 Q (F0 m 42 ls [])) → (∀ (H : Heap) (locs : List Loc) (ls : Array Slot), lp_X5_done κ a n j = true → lv_has ls 3 [(0, .ref (g.2.2 (91))), (1, .int (a))] → Ws g s κ H locs → W p l e { frames := 1, cells := 0, slots := 0, locals := 30 } s m ([.ref (g.2.2 (91)), .int (a)] : List Value).toArray below meth c H locs 0 0 Q (F0 m 50 ls [])) → W p l e { frames := 1, cells := 0, slots := 0, locals := 30 } s m ([.ref (g.2.2 (91)), .int (a)] : List Value).toArray below meth c H locs 0 0 Q (F0 m 2 ls []) := by
  intro n
  induction n with
  | zero =>
    intro j hj H locs ls hl hw hx42 hx50
    have hF := Eq.refl (lp_X5_done κ a 0 j)
    conv at hF => rhs; rw [lp_X5_done]
    refine lv_iload_n hM.x hM.b dX5_done_2 rfl (lv_at hl 0 rfl) ?_
    refine lv_iconst (v := nI 4) hM.x hM.b dX5_done_3 (by decide) ?_
    refine lv_icmp_ge (tgt := 50) hM.x hM.b dX5_done_4 (by decide) (fun _ => ?_) (fun cz => absurd (nI_le (by omega) (by omega) : nI 4 ≤ nI j) cz)
    exact hx50  H locs ls hF (lv_sub hl [1, 2] rfl) hw
  | succ n ih =>
    intro j hj H locs ls hl hw hx42 hx50
    have hF := Eq.refl (lp_X5_done κ a (n + 1) j)
    conv at hF => rhs; rw [lp_X5_done]
    refine lv_iload_n hM.x hM.b dX5_done_2 rfl (lv_at hl 0 rfl) ?_
    refine lv_iconst (v := nI 4) hM.x hM.b dX5_done_3 (by decide) ?_
    refine lv_icmp_ge (tgt := 50) hM.x hM.b dX5_done_4 (by decide) (fun cz => absurd cz (nI_ge (by omega) (by decide) : ¬ nI 4 ≤ nI j)) (fun _ => ?_)
    refine lv_aload_n hM.x hM.b dX5_done_7 rfl (lv_at hl 1 rfl) ?_
    refine lv_iload_n hM.x hM.b dX5_done_8 rfl (lv_at hl 2 rfl) ?_
    refine lv_iconst (v := 4) hM.x hM.b dX5_done_9 (by decide) ?_
    refine lv_iload_n hM.x hM.b dX5_done_10 rfl (lv_at hl 0 rfl) ?_
    refine k_iaddN (a := 4) (b := j) hM dX5_done_11 ?_
    refine k_cip hw (k_runV [.int (a), .int (nI ((4 + j)))] [] hM hw (m_X5_ro l g κ _ (a) (nI ((4 + j))) ha (vp_in_nI (n := (4 + j)) (N := 8) (by omega) (by decide))) (kd_lt kd_91 (by decide)) (sh5 kd_91) rfl (k_gV u_ml_X5_61 u_im_X5_ro u_se_X5_ro u_ini_X5 u_co_X5_ro) (q_X5_ro) rfl rfl rfl ⟨Nat.le_of_ble_eq_true rfl, Nat.le_of_ble_eq_true rfl⟩ hl.1 rfl (Nat.le_of_ble_eq_true rfl) dX5_done_12 ⟨Nat.le_of_ble_eq_true rfl, Nat.le_of_ble_eq_true rfl⟩) (fun H locs hw => ?_)
    refine lv_iconst (v := 3) hM.x hM.b dX5_done_15 (by decide) ?_
    refine lv_aload_n hM.x hM.b dX5_done_16 rfl (lv_at hl 1 rfl) ?_
    refine k_get5r 1 hM hw (by decide) u_fl_X5_17 dX5_done_17 ?_
    refine lv_iload_n hM.x hM.b dX5_done_20 rfl (lv_at hl 2 rfl) ?_
    refine k_iald (n := 16) hM hw (kd_lt kd_93 (by decide)) (sh11 kd_93) ha dX5_done_21 ?_
    refine lv_imul hM.x hM.b dX5_done_22 ?_
    refine lv_icmp_lt (tgt := 42) hM.x hM.b dX5_done_23 (by decide) (fun c1 => ?_) (fun c1 => ?_)
    · rw [if_pos c1] at hF
      exact hx42  H locs ls hF (lv_sub hl [1, 2] rfl) hw
    · rw [if_neg c1] at hF
      refine lv_aload_n hM.x hM.b dX5_done_26 rfl (lv_at hl 1 rfl) ?_
      refine lv_iload_n hM.x hM.b dX5_done_27 rfl (lv_at hl 2 rfl) ?_
      refine lv_iconst (v := 4) hM.x hM.b dX5_done_28 (by decide) ?_
      refine lv_iload_n hM.x hM.b dX5_done_29 rfl (lv_at hl 0 rfl) ?_
      refine k_iaddN (a := 4) (b := j) hM dX5_done_30 ?_
      refine k_cip hw (k_runV [.int (a), .int (nI ((4 + j)))] [] hM hw (m_X5_ro l g κ _ (a) (nI ((4 + j))) ha (vp_in_nI (n := (4 + j)) (N := 8) (by omega) (by decide))) (kd_lt kd_91 (by decide)) (sh5 kd_91) rfl (k_gV u_ml_X5_61 u_im_X5_ro u_se_X5_ro u_ini_X5 u_co_X5_ro) (q_X5_ro) rfl rfl rfl ⟨Nat.le_of_ble_eq_true rfl, Nat.le_of_ble_eq_true rfl⟩ hl.1 rfl (Nat.le_of_ble_eq_true rfl) dX5_done_31 ⟨Nat.le_of_ble_eq_true rfl, Nat.le_of_ble_eq_true rfl⟩) (fun H locs hw => ?_)
      refine lv_aload_n hM.x hM.b dX5_done_34 rfl (lv_at hl 1 rfl) ?_
      refine lv_iload_n hM.x hM.b dX5_done_35 rfl (lv_at hl 2 rfl) ?_
      refine k_cip hw (k_runV [.int (a)] [.int (f_X5_ro κ (a) (nI ((4 + j))))] hM hw (m_X5_most l g κ _ (a) ha) (kd_lt kd_91 (by decide)) (sh5 kd_91) rfl (k_gV u_ml_X5_64 u_im_X5_most u_se_X5_most u_ini_X5 u_co_X5_most) (q_X5_most) rfl rfl rfl ⟨Nat.le_of_ble_eq_true rfl, Nat.le_of_ble_eq_true rfl⟩ hl.1 rfl (Nat.le_of_ble_eq_true rfl) dX5_done_36 ⟨Nat.le_of_ble_eq_true rfl, Nat.le_of_ble_eq_true rfl⟩) (fun H locs hw => ?_)
      refine lv_icmp_le (tgt := 44) hM.x hM.b dX5_done_39 (by decide) (fun c2 => ?_) (fun c2 => ?_)
      · rw [if_pos c2] at hF
        refine lv_iinc (v := nI (j + 1)) (lv' := [(2, .int (nI (j + 1))), (0, .ref (g.2.2 (91))), (1, .int (a))]) hM.x hM.b dX5_done_44 hl (k := 0) rfl (nI_1 (j)) (by decide) rfl (fun ls hl => ?_)
        refine lv_goto (tgt := 2) hM.x hM.b dX5_done_47 (by decide) ?_
        exact ih (j + 1) (by omega)  H locs ls (lv_sub hl [0, 1, 2] rfl) hw (fun  H locs ls he hl hw => hx42  H locs ls (hF.trans he) hl hw) (fun  H locs ls he hl hw => hx50  H locs ls (hF.trans he) hl hw)
      · rw [if_neg c2] at hF
        exact hx42  H locs ls hF (lv_sub hl [1, 2] rfl) hw
def f_X5_done (κ : Kp) (a : Int32) : Bool := match lp_X5_done κ a 4 0  with | false => (false) | true => (true)
set_option maxRecDepth 100000 in
set_option maxHeartbeats 4000000 in
theorem m_X5_done (l : Launch) (g : Gt) (κ : Kp) (sz : Nat) (a : Int32) (ha : vp_in a 16) : Met l yX5_done (.code yX5_done cX5_done 3 (some .boolean) :: uW) { frames := 1, cells := 0, slots := 0, locals := 30 } (PRE g κ sz [.ref (g.2.2 (91)), .int (a)]) (va_Qi (fun r κ' => r = bi (f_X5_done κ a) ∧ κ' = κ) (Wp g) (fr g sz)) 0 0 (fr g sz) := by
  refine k_enter (by decide +kernel) (Nat.le_of_ble_eq_true rfl) ?_
  intro p e s m below meth c ls hM hr hl hw hsz
  subst hsz
  have hl : lv_has ls 3 [(0, .ref (g.2.2 (91))), (1, .int (a))] := hl
  have hF := f_X5_done.eq_1 κ a
  refine lv_iconst (v := nI 0) hM.x hM.b dX5_done_0 (by decide) ?_
  refine lv_istore_n (lv' := [(2, .int (nI (0))), (0, .ref (g.2.2 (91))), (1, .int (a))]) hM.x hM.b dX5_done_1 rfl hl (by decide) rfl (fun ls hl => ?_)
  refine ml_X5_done l g κ a ha hM (4) (0) (by omega)  _ _ _ (lv_sub hl [0, 1, 2] rfl) hw (fun  H locs ls he hl hw => ?_) (fun  H locs ls he hl hw => ?_)
  · rw [he] at hF; try dsimp only at hF
    refine lv_iconst (v := 0) hM.x hM.b dX5_done_42 (by decide) ?_
    exact k_zret (b := false) hM hr hw (Nat.le_of_ble_eq_true rfl) (Nat.le_of_ble_eq_true rfl) ⟨congrArg bi hF.symm, rfl⟩ dX5_done_43
  · rw [he] at hF; try dsimp only at hF
    refine lv_iconst (v := 1) hM.x hM.b dX5_done_50 (by decide) ?_
    exact k_zret (b := true) hM hr hw (Nat.le_of_ble_eq_true rfl) (Nat.le_of_ble_eq_true rfl) ⟨congrArg bi hF.symm, rfl⟩ dX5_done_51
theorem q_X5_burnt : hdV yX5_burnt RX5 1 := ⟨rfl, by decide +kernel, by decide +kernel, by decide +kernel⟩
def lp_X5_burnt (κ : Kp) (a : Int32) : Nat → Nat → Bool
  | 0, j => false
  | n + 1, j => if (f_X5_ro κ (a) (nI ((4 + j)))) ≤ (f_X5_most κ (a)) then (lp_X5_burnt (κ) (a) n (j + 1) ) else (true)
set_option maxRecDepth 100000 in
set_option maxHeartbeats 4000000 in
theorem ml_X5_burnt {p : Program} {e : Env} {s : State} {m : MethodId} {below : List Frame} {meth : Method} {c : Code} {Q : State → Prop} (l : Launch) (g : Gt) (κ : Kp) (a : Int32) (ha : vp_in a 16) (hM : Mc g p s m ([.ref (g.2.2 (91)), .int (a)] : List Value).toArray meth c cX5_burnt 3 yX5_burnt.cls) : ∀ (n j : Nat), j + n = 4 → ∀ (H : Heap) (locs : List Loc) (ls : Array Slot), lv_has ls 3 [(2, .int (nI (j))), (0, .ref (g.2.2 (91))), (1, .int (a))] → Ws g s κ H locs → (∀ (H : Heap) (locs : List Loc) (ls : Array Slot), lp_X5_burnt κ a n j = true → lv_has ls 3 [(0, .ref (g.2.2 (91))), (1, .int (a))] → Ws g s κ H locs → W p l e { frames := 1, cells := 0, slots := 0, locals := 30 } s m ([.ref (g.2.2 (91)), .int (a)] : List Value).toArray below meth c H locs 0 0 Q (F0 m 23 ls [])) → (∀ (H : Heap) (locs : List Loc) (ls : Array Slot), lp_X5_burnt κ a n j = false → lv_has ls 3 [(0, .ref (g.2.2 (91))), (1, .int (a))] → Ws g s κ H locs → W p l e { frames := 1, cells := 0, slots := 0, locals := 30 } s m ([.ref (g.2.2 (91)), .int (a)] : List Value).toArray below meth c H locs 0 0 Q (F0 m 31 ls [])) → W p l e { frames := 1, cells := 0, slots := 0, locals := 30 } s m ([.ref (g.2.2 (91)), .int (a)] : List Value).toArray below meth c H locs 0 0 Q (F0 m 2 ls []) := by
  intro n
  induction n with
  | zero =>
    intro j hj H locs ls hl hw hx23 hx31
    have hF := Eq.refl (lp_X5_burnt κ a 0 j)
    conv at hF => rhs; rw [lp_X5_burnt]
    refine lv_iload_n hM.x hM.b dX5_burnt_2 rfl (lv_at hl 0 rfl) ?_
    refine lv_iconst (v := nI 4) hM.x hM.b dX5_burnt_3 (by decide) ?_
    refine lv_icmp_ge (tgt := 31) hM.x hM.b dX5_burnt_4 (by decide) (fun _ => ?_) (fun cz => absurd (nI_le (by omega) (by omega) : nI 4 ≤ nI j) cz)
    exact hx31  H locs ls hF (lv_sub hl [1, 2] rfl) hw
  | succ n ih =>
    intro j hj H locs ls hl hw hx23 hx31
    have hF := Eq.refl (lp_X5_burnt κ a (n + 1) j)
    conv at hF => rhs; rw [lp_X5_burnt]
    refine lv_iload_n hM.x hM.b dX5_burnt_2 rfl (lv_at hl 0 rfl) ?_
    refine lv_iconst (v := nI 4) hM.x hM.b dX5_burnt_3 (by decide) ?_
    refine lv_icmp_ge (tgt := 31) hM.x hM.b dX5_burnt_4 (by decide) (fun cz => absurd cz (nI_ge (by omega) (by decide) : ¬ nI 4 ≤ nI j)) (fun _ => ?_)
    refine lv_aload_n hM.x hM.b dX5_burnt_7 rfl (lv_at hl 1 rfl) ?_
    refine lv_iload_n hM.x hM.b dX5_burnt_8 rfl (lv_at hl 2 rfl) ?_
    refine lv_iconst (v := 4) hM.x hM.b dX5_burnt_9 (by decide) ?_
    refine lv_iload_n hM.x hM.b dX5_burnt_10 rfl (lv_at hl 0 rfl) ?_
    refine k_iaddN (a := 4) (b := j) hM dX5_burnt_11 ?_
    refine k_cip hw (k_runV [.int (a), .int (nI ((4 + j)))] [] hM hw (m_X5_ro l g κ _ (a) (nI ((4 + j))) ha (vp_in_nI (n := (4 + j)) (N := 8) (by omega) (by decide))) (kd_lt kd_91 (by decide)) (sh5 kd_91) rfl (k_gV u_ml_X5_61 u_im_X5_ro u_se_X5_ro u_ini_X5 u_co_X5_ro) (q_X5_ro) rfl rfl rfl ⟨Nat.le_of_ble_eq_true rfl, Nat.le_of_ble_eq_true rfl⟩ hl.1 rfl (Nat.le_of_ble_eq_true rfl) dX5_burnt_12 ⟨Nat.le_of_ble_eq_true rfl, Nat.le_of_ble_eq_true rfl⟩) (fun H locs hw => ?_)
    refine lv_aload_n hM.x hM.b dX5_burnt_15 rfl (lv_at hl 1 rfl) ?_
    refine lv_iload_n hM.x hM.b dX5_burnt_16 rfl (lv_at hl 2 rfl) ?_
    refine k_cip hw (k_runV [.int (a)] [.int (f_X5_ro κ (a) (nI ((4 + j))))] hM hw (m_X5_most l g κ _ (a) ha) (kd_lt kd_91 (by decide)) (sh5 kd_91) rfl (k_gV u_ml_X5_64 u_im_X5_most u_se_X5_most u_ini_X5 u_co_X5_most) (q_X5_most) rfl rfl rfl ⟨Nat.le_of_ble_eq_true rfl, Nat.le_of_ble_eq_true rfl⟩ hl.1 rfl (Nat.le_of_ble_eq_true rfl) dX5_burnt_17 ⟨Nat.le_of_ble_eq_true rfl, Nat.le_of_ble_eq_true rfl⟩) (fun H locs hw => ?_)
    refine lv_icmp_le (tgt := 25) hM.x hM.b dX5_burnt_20 (by decide) (fun c1 => ?_) (fun c1 => ?_)
    · rw [if_pos c1] at hF
      refine lv_iinc (v := nI (j + 1)) (lv' := [(2, .int (nI (j + 1))), (0, .ref (g.2.2 (91))), (1, .int (a))]) hM.x hM.b dX5_burnt_25 hl (k := 0) rfl (nI_1 (j)) (by decide) rfl (fun ls hl => ?_)
      refine lv_goto (tgt := 2) hM.x hM.b dX5_burnt_28 (by decide) ?_
      exact ih (j + 1) (by omega)  H locs ls (lv_sub hl [0, 1, 2] rfl) hw (fun  H locs ls he hl hw => hx23  H locs ls (hF.trans he) hl hw) (fun  H locs ls he hl hw => hx31  H locs ls (hF.trans he) hl hw)
    · rw [if_neg c1] at hF
      exact hx23  H locs ls hF (lv_sub hl [1, 2] rfl) hw
def f_X5_burnt (κ : Kp) (a : Int32) : Bool := match lp_X5_burnt κ a 4 0  with | true => (true) | false => (false)
set_option maxRecDepth 100000 in
set_option maxHeartbeats 4000000 in
theorem m_X5_burnt (l : Launch) (g : Gt) (κ : Kp) (sz : Nat) (a : Int32) (ha : vp_in a 16) : Met l yX5_burnt (.code yX5_burnt cX5_burnt 3 (some .boolean) :: uW) { frames := 1, cells := 0, slots := 0, locals := 30 } (PRE g κ sz [.ref (g.2.2 (91)), .int (a)]) (va_Qi (fun r κ' => r = bi (f_X5_burnt κ a) ∧ κ' = κ) (Wp g) (fr g sz)) 0 0 (fr g sz) := by
  refine k_enter (by decide +kernel) (Nat.le_of_ble_eq_true rfl) ?_
  intro p e s m below meth c ls hM hr hl hw hsz
  subst hsz
  have hl : lv_has ls 3 [(0, .ref (g.2.2 (91))), (1, .int (a))] := hl
  have hF := f_X5_burnt.eq_1 κ a
  refine lv_iconst (v := nI 0) hM.x hM.b dX5_burnt_0 (by decide) ?_
  refine lv_istore_n (lv' := [(2, .int (nI (0))), (0, .ref (g.2.2 (91))), (1, .int (a))]) hM.x hM.b dX5_burnt_1 rfl hl (by decide) rfl (fun ls hl => ?_)
  refine ml_X5_burnt l g κ a ha hM (4) (0) (by omega)  _ _ _ (lv_sub hl [0, 1, 2] rfl) hw (fun  H locs ls he hl hw => ?_) (fun  H locs ls he hl hw => ?_)
  · rw [he] at hF; try dsimp only at hF
    refine lv_iconst (v := 1) hM.x hM.b dX5_burnt_23 (by decide) ?_
    exact k_zret (b := true) hM hr hw (Nat.le_of_ble_eq_true rfl) (Nat.le_of_ble_eq_true rfl) ⟨congrArg bi hF.symm, rfl⟩ dX5_burnt_24
  · rw [he] at hF; try dsimp only at hF
    refine lv_iconst (v := 0) hM.x hM.b dX5_burnt_31 (by decide) ?_
    exact k_zret (b := false) hM hr hw (Nat.le_of_ble_eq_true rfl) (Nat.le_of_ble_eq_true rfl) ⟨congrArg bi hF.symm, rfl⟩ dX5_burnt_32
theorem q_X5_tan : hdV yX5_tan RX5 3 := ⟨rfl, by decide +kernel, by decide +kernel, by decide +kernel⟩
def f_X5_tan (κ : Kp) (a : Int32) (b : Int32) (d3 : Int32) : Kp := (fun κ1 : Kp => κ1) (f_X5_let κ (a) (((4) + (((b) - (b) / (4) * (4))))) ((if (((f_X5_ro κ (a) (((4) + (((b) - (b) / (4) * (4)))))) + (d3))) < (99) then (((f_X5_ro κ (a) (((4) + (((b) - (b) / (4) * (4)))))) + (d3))) else (99))))
set_option maxRecDepth 100000 in
set_option maxHeartbeats 4000000 in
theorem m_X5_tan (l : Launch) (g : Gt) (κ : Kp) (sz : Nat) (a : Int32) (b : Int32) (d3 : Int32) (ha : vp_in a 16) (hb : vp_in b 8) : Met l yX5_tan (.code yX5_tan cX5_tan 5 none :: uW) { frames := 1, cells := 0, slots := 0, locals := 30 } (PRE g κ sz [.ref (g.2.2 (91)), .int (a), .int (b), .int (d3)]) (va_Qv (fun κ' => κ' = f_X5_tan κ a b d3) (Wp g) (fr g sz)) 0 0 (fr g sz) := by
  refine k_enter (by decide +kernel) (Nat.le_of_ble_eq_true rfl) ?_
  intro p e s m below meth c ls hM hr hl hw hsz
  subst hsz
  have hl : lv_has ls 5 [(0, .ref (g.2.2 (91))), (1, .int (a)), (2, .int (b)), (3, .int (d3))] := hl
  have hF := f_X5_tan.eq_1 κ a b d3
  refine lv_iconst (v := 4) hM.x hM.b dX5_tan_0 (by decide) ?_
  refine lv_iload_n hM.x hM.b dX5_tan_1 rfl (lv_at hl 2 rfl) ?_
  refine lv_iconst (v := 4) hM.x hM.b dX5_tan_2 (by decide) ?_
  refine lv_irem hM.x hM.b dX5_tan_3 (by decide) ?_
  refine lv_iadd hM.x hM.b dX5_tan_4 ?_
  refine lv_istore (lv' := [(4, .int (((4) + (((b) - (b) / (4) * (4)))))), (0, .ref (g.2.2 (91))), (1, .int (a)), (2, .int (b)), (3, .int (d3))]) hM.x hM.b dX5_tan_5 hl (by decide) rfl (fun ls hl => ?_)
  refine lv_aload_n hM.x hM.b dX5_tan_7 rfl (lv_at hl 1 rfl) ?_
  refine lv_iload_n hM.x hM.b dX5_tan_8 rfl (lv_at hl 2 rfl) ?_
  refine lv_iload hM.x hM.b dX5_tan_9 (lv_at hl 0 rfl) ?_
  refine lv_bipush (v := 99) hM.x hM.b dX5_tan_11 (by decide) ?_
  refine lv_aload_n hM.x hM.b dX5_tan_13 rfl (lv_at hl 1 rfl) ?_
  refine lv_iload_n hM.x hM.b dX5_tan_14 rfl (lv_at hl 2 rfl) ?_
  refine lv_iload hM.x hM.b dX5_tan_15 (lv_at hl 0 rfl) ?_
  refine k_cip hw (k_runV [.int (a), .int (((4) + (((b) - (b) / (4) * (4)))))] [.int (99), .int (((4) + (((b) - (b) / (4) * (4))))), .int (a), .ref (g.2.2 (91))] hM hw (m_X5_ro l g κ _ (a) (((4) + (((b) - (b) / (4) * (4))))) ha (ix_rem4 hb)) (kd_lt kd_91 (by decide)) (sh5 kd_91) rfl (k_gV u_ml_X5_61 u_im_X5_ro u_se_X5_ro u_ini_X5 u_co_X5_ro) (q_X5_ro) rfl rfl rfl ⟨Nat.le_of_ble_eq_true rfl, Nat.le_of_ble_eq_true rfl⟩ hl.1 rfl (Nat.le_of_ble_eq_true rfl) dX5_tan_17 ⟨Nat.le_of_ble_eq_true rfl, Nat.le_of_ble_eq_true rfl⟩) (fun H locs hw => ?_)
  refine lv_iload_n hM.x hM.b dX5_tan_20 rfl (lv_at hl 4 rfl) ?_
  refine lv_iadd hM.x hM.b dX5_tan_21 ?_
  refine va_mmin hM.x hM.b (hM.ml.trans hl.1.symm) hM.ow (hM.ts _ u_ml_X5_68) (hM.ts _ u_st_JM_min) (hM.ts _ u_ini_JM) (hM.ts _ u_co_JM_min) (Nat.le_of_ble_eq_true rfl) (Nat.le_of_ble_eq_true rfl) (Nat.le_of_ble_eq_true rfl) (Nat.le_of_ble_eq_true rfl) dX5_tan_22 ?_
  refine k_cvp hw (k_runV [.int (a), .int (((4) + (((b) - (b) / (4) * (4))))), .int ((if (((f_X5_ro κ (a) (((4) + (((b) - (b) / (4) * (4)))))) + (d3))) < (99) then (((f_X5_ro κ (a) (((4) + (((b) - (b) / (4) * (4)))))) + (d3))) else (99)))] [] hM hw (m_X5_let l g κ _ (a) (((4) + (((b) - (b) / (4) * (4))))) ((if (((f_X5_ro κ (a) (((4) + (((b) - (b) / (4) * (4)))))) + (d3))) < (99) then (((f_X5_ro κ (a) (((4) + (((b) - (b) / (4) * (4)))))) + (d3))) else (99))) ha (ix_rem4 hb)) (kd_lt kd_91 (by decide)) (sh5 kd_91) rfl (k_gV u_ml_X5_73 u_im_X5_let u_se_X5_let u_ini_X5 u_co_X5_let) (q_X5_let) rfl rfl rfl ⟨Nat.le_of_ble_eq_true rfl, Nat.le_of_ble_eq_true rfl⟩ hl.1 rfl (Nat.le_of_ble_eq_true rfl) dX5_tan_25 ⟨Nat.le_of_ble_eq_true rfl, Nat.le_of_ble_eq_true rfl⟩) (fun κ1 H locs eκ1 hw => ?_)
  rw [eκ1] at hF
  try dsimp only at hF
  exact k_vret hM hr hw (Nat.le_of_ble_eq_true rfl) (Nat.le_of_ble_eq_true rfl) hF.symm dX5_tan_28
