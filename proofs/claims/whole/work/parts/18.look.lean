theorem q_X4_untilDoneTurnedEach : hdV yX4_untilDoneTurnedEach RX4 2 := ⟨rfl, by decide +kernel, by decide +kernel, by decide +kernel⟩
def f_X4_untilDoneTurnedEach (κ : Kp) (a : Int32) (b : Int32) : Int32 × Kp := (fun κ1 : Kp => match f_X1_spitAt κ1 (46) (a) with | none => (((-1), κ1)) | some p1 => ((fun κ2 : Kp => match f_X4_aheadUntilDone κ2 (κ2 (p1) 5) with | (r1, κ3) => ((r1, κ3))) (f_X3_countAnew κ1 (p1) (b)))) (f_X1_copyFrom κ (46) (1))
set_option maxRecDepth 100000 in
set_option maxHeartbeats 4000000 in
theorem m_X4_untilDoneTurnedEach (l : Launch) (g : Gt) (κ : Kp) (sz : Nat) (a : Int32) (b : Int32) : Met l yX4_untilDoneTurnedEach (.code yX4_untilDoneTurnedEach cX4_untilDoneTurnedEach 4 (some .int) :: uW) { frames := 5, cells := 0, slots := 0, locals := 150 } (PRE g κ sz [.ref (g.2.2 (0)), .int (a), .int (b)]) (va_Qi (fun r κ' => f_X4_untilDoneTurnedEach κ a b = (r, κ')) (Wp g) (fr g sz)) 0 0 (fr g sz) := by
  refine k_enter (by decide +kernel) (Nat.le_of_ble_eq_true rfl) ?_
  intro p e s m below meth c ls hM hr hl hw hsz
  subst hsz
  have hl : lv_has ls 4 [(0, .ref (g.2.2 (0))), (1, .int (a)), (2, .int (b))] := hl
  have hF := f_X4_untilDoneTurnedEach.eq_1 κ a b
  refine lv_aload_n hM.x hM.b dX4_untilDoneTurnedEach_0 rfl (lv_at hl 0 rfl) ?_
  refine k_get4b hM hw u_fl_X4_16 dX4_untilDoneTurnedEach_1 ?_
  refine lv_aload_n hM.x hM.b dX4_untilDoneTurnedEach_4 rfl (lv_at hl 0 rfl) ?_
  refine k_get4a hM hw u_fl_X4_10 dX4_untilDoneTurnedEach_5 ?_
  refine k_cvp hw (k_runV [.ref (g.2.2 (1))] [] hM hw (m_X1_copyFrom l g κ _ (46) (1) (kd_46) (kd_1)) (kd_lt kd_46 (by decide)) (sh1 kd_46) rfl (k_gV u_ml_X4_170 u_im_X1_copyFrom u_se_X1_copyFrom u_ini_X1 u_co_X1_copyFrom) (q_X1_copyFrom) rfl rfl rfl ⟨Nat.le_of_ble_eq_true rfl, Nat.le_of_ble_eq_true rfl⟩ hl.1 rfl (Nat.le_of_ble_eq_true rfl) dX4_untilDoneTurnedEach_8 ⟨Nat.le_of_ble_eq_true rfl, Nat.le_of_ble_eq_true rfl⟩) (fun κ1 H locs eκ1 hw => ?_)
  rw [eκ1] at hF
  try dsimp only at hF
  refine lv_aload_n hM.x hM.b dX4_untilDoneTurnedEach_11 rfl (lv_at hl 0 rfl) ?_
  refine k_get4b hM hw u_fl_X4_16 dX4_untilDoneTurnedEach_12 ?_
  refine lv_iload_n hM.x hM.b dX4_untilDoneTurnedEach_15 rfl (lv_at hl 1 rfl) ?_
  refine k_cepO hw (k_runV [.int (a)] [] hM hw (m_X1_spitAt l g κ1 _ (46) (a) (kd_46)) (kd_lt kd_46 (by decide)) (sh1 kd_46) rfl (k_gV u_ml_X4_215 u_im_X1_spitAt u_se_X1_spitAt u_ini_X1 u_co_X1_spitAt) (q_X1_spitAt) rfl rfl rfl ⟨Nat.le_of_ble_eq_true rfl, Nat.le_of_ble_eq_true rfl⟩ hl.1 rfl (Nat.le_of_ble_eq_true rfl) dX4_untilDoneTurnedEach_16 ⟨Nat.le_of_ble_eq_true rfl, Nat.le_of_ble_eq_true rfl⟩) (fun H locs ho hw => ?_) (fun p1 H locs ho hw => ?_)
  · simp only [ho] at hF
    refine lv_astore_nN (lv' := [(3, .null), (0, .ref (g.2.2 (0))), (1, .int (a)), (2, .int (b))]) hM.x hM.b dX4_untilDoneTurnedEach_19 rfl hl (by decide) rfl (fun ls hl => ?_)
    refine lv_aload_nN hM.x hM.b dX4_untilDoneTurnedEach_20 rfl (lv_at hl 0 rfl) ?_
    refine lv_ifnonnullN hM.x hM.b dX4_untilDoneTurnedEach_21 ?_
    refine lv_iconst (v := -1) hM.x hM.b dX4_untilDoneTurnedEach_24 (by decide) ?_
    exact k_iret hM hr hw (Nat.le_of_ble_eq_true rfl) (Nat.le_of_ble_eq_true rfl) hF dX4_untilDoneTurnedEach_25
  · simp only [ho] at hF
    have hop1 := ho
    refine lv_astore_n (lv' := [(3, .ref (g.2.2 (p1))), (0, .ref (g.2.2 (0))), (1, .int (a)), (2, .int (b))]) hM.x hM.b dX4_untilDoneTurnedEach_19 rfl hl (by decide) rfl (fun ls hl => ?_)
    refine lv_aload_n hM.x hM.b dX4_untilDoneTurnedEach_20 rfl (lv_at hl 0 rfl) ?_
    refine lv_ifnonnull (tgt := 26) hM.x hM.b dX4_untilDoneTurnedEach_21 (by decide) ?_
    refine lv_aload_n hM.x hM.b dX4_untilDoneTurnedEach_26 rfl (lv_at hl 0 rfl) ?_
    refine lv_iload_n hM.x hM.b dX4_untilDoneTurnedEach_27 rfl (lv_at hl 3 rfl) ?_
    refine k_cvp hw (k_runV [.int (b)] [] hM hw (m_X3_countAnew l g κ1 _ (p1) (b) ((kdp_X1_spitAt kd_46 hop1))) (kd_lt (kdp_X1_spitAt kd_46 hop1) (by decide)) (sh3 (kdp_X1_spitAt kd_46 hop1)) rfl (k_gV u_ml_X4_74 u_im_X3_countAnew u_se_X3_countAnew u_ini_X3 u_co_X3_countAnew) (q_X3_countAnew) rfl rfl rfl ⟨Nat.le_of_ble_eq_true rfl, Nat.le_of_ble_eq_true rfl⟩ hl.1 rfl (Nat.le_of_ble_eq_true rfl) dX4_untilDoneTurnedEach_28 ⟨Nat.le_of_ble_eq_true rfl, Nat.le_of_ble_eq_true rfl⟩) (fun κ2 H locs eκ2 hw => ?_)
    rw [eκ2] at hF
    try dsimp only at hF
    refine lv_aload_n hM.x hM.b dX4_untilDoneTurnedEach_31 rfl (lv_at hl 1 rfl) ?_
    refine lv_aload_n hM.x hM.b dX4_untilDoneTurnedEach_32 rfl (lv_at hl 0 rfl) ?_
    refine k_get3 5 hM hw (kdp_X1_spitAt kd_46 hop1) (by decide) u_fl_X4_110 dX4_untilDoneTurnedEach_33 ?_
    refine k_ci hw (k_runV [.int (κ2 (p1) 5)] [] hM hw (m_X4_aheadUntilDone l g κ2 _ (κ2 (p1) 5)) (kd_lt kd_0 (by decide)) (sh4 kd_0) rfl (k_gV u_ml_X4_174 u_im_X4_aheadUntilDone u_se_X4_aheadUntilDone u_ini_X4 u_co_X4_aheadUntilDone) (q_X4_aheadUntilDone) rfl rfl rfl ⟨Nat.le_of_ble_eq_true rfl, Nat.le_of_ble_eq_true rfl⟩ hl.1 rfl (Nat.le_of_ble_eq_true rfl) dX4_untilDoneTurnedEach_36 ⟨Nat.le_of_ble_eq_true rfl, Nat.le_of_ble_eq_true rfl⟩) (fun r1 κ3 H locs hpκ3 hw => ?_)
    simp only [hpκ3] at hF
    exact k_iret hM hr hw (Nat.le_of_ble_eq_true rfl) (Nat.le_of_ble_eq_true rfl) hF dX4_untilDoneTurnedEach_39
theorem q_X4_untilDoneHungOn : hdV yX4_untilDoneHungOn RX4 2 := ⟨rfl, by decide +kernel, by decide +kernel, by decide +kernel⟩
def f_X4_untilDoneHungOn (κ : Kp) (a : Int32) (b : Int32) : Int32 × Kp := (fun κ1 : Kp => match f_X1_placeRoast κ1 (46) (a) (b) with | (r1, κ2) => (match f_X4_aheadUntilDone κ2 (r1) with | (r2, κ3) => ((r2, κ3)))) (f_X1_copyFrom κ (46) (1))
set_option maxRecDepth 100000 in
set_option maxHeartbeats 4000000 in
theorem m_X4_untilDoneHungOn (l : Launch) (g : Gt) (κ : Kp) (sz : Nat) (a : Int32) (b : Int32) : Met l yX4_untilDoneHungOn (.code yX4_untilDoneHungOn cX4_untilDoneHungOn 3 (some .int) :: uW) { frames := 5, cells := 0, slots := 0, locals := 150 } (PRE g κ sz [.ref (g.2.2 (0)), .int (a), .int (b)]) (va_Qi (fun r κ' => f_X4_untilDoneHungOn κ a b = (r, κ')) (Wp g) (fr g sz)) 0 0 (fr g sz) := by
  refine k_enter (by decide +kernel) (Nat.le_of_ble_eq_true rfl) ?_
  intro p e s m below meth c ls hM hr hl hw hsz
  subst hsz
  have hl : lv_has ls 3 [(0, .ref (g.2.2 (0))), (1, .int (a)), (2, .int (b))] := hl
  have hF := f_X4_untilDoneHungOn.eq_1 κ a b
  refine lv_aload_n hM.x hM.b dX4_untilDoneHungOn_0 rfl (lv_at hl 0 rfl) ?_
  refine k_get4b hM hw u_fl_X4_16 dX4_untilDoneHungOn_1 ?_
  refine lv_aload_n hM.x hM.b dX4_untilDoneHungOn_4 rfl (lv_at hl 0 rfl) ?_
  refine k_get4a hM hw u_fl_X4_10 dX4_untilDoneHungOn_5 ?_
  refine k_cvp hw (k_runV [.ref (g.2.2 (1))] [] hM hw (m_X1_copyFrom l g κ _ (46) (1) (kd_46) (kd_1)) (kd_lt kd_46 (by decide)) (sh1 kd_46) rfl (k_gV u_ml_X4_170 u_im_X1_copyFrom u_se_X1_copyFrom u_ini_X1 u_co_X1_copyFrom) (q_X1_copyFrom) rfl rfl rfl ⟨Nat.le_of_ble_eq_true rfl, Nat.le_of_ble_eq_true rfl⟩ hl.1 rfl (Nat.le_of_ble_eq_true rfl) dX4_untilDoneHungOn_8 ⟨Nat.le_of_ble_eq_true rfl, Nat.le_of_ble_eq_true rfl⟩) (fun κ1 H locs eκ1 hw => ?_)
  rw [eκ1] at hF
  try dsimp only at hF
  refine lv_aload_n hM.x hM.b dX4_untilDoneHungOn_11 rfl (lv_at hl 0 rfl) ?_
  refine lv_aload_n hM.x hM.b dX4_untilDoneHungOn_12 rfl (lv_at hl 0 rfl) ?_
  refine k_get4b hM hw u_fl_X4_16 dX4_untilDoneHungOn_13 ?_
  refine lv_iload_n hM.x hM.b dX4_untilDoneHungOn_16 rfl (lv_at hl 1 rfl) ?_
  refine lv_iload_n hM.x hM.b dX4_untilDoneHungOn_17 rfl (lv_at hl 2 rfl) ?_
  refine k_ci hw (k_runV [.int (a), .int (b)] [.ref (g.2.2 (0))] hM hw (m_X1_placeRoast l g κ1 _ (46) (a) (b) (kd_46)) (kd_lt kd_46 (by decide)) (sh1 kd_46) rfl (k_gV u_ml_X4_85 u_im_X1_placeRoast u_se_X1_placeRoast u_ini_X1 u_co_X1_placeRoast) (q_X1_placeRoast) rfl rfl rfl ⟨Nat.le_of_ble_eq_true rfl, Nat.le_of_ble_eq_true rfl⟩ hl.1 rfl (Nat.le_of_ble_eq_true rfl) dX4_untilDoneHungOn_18 ⟨Nat.le_of_ble_eq_true rfl, Nat.le_of_ble_eq_true rfl⟩) (fun r1 κ2 H locs hpκ2 hw => ?_)
  simp only [hpκ2] at hF
  refine k_ci hw (k_runV [.int (r1)] [] hM hw (m_X4_aheadUntilDone l g κ2 _ (r1)) (kd_lt kd_0 (by decide)) (sh4 kd_0) rfl (k_gV u_ml_X4_174 u_im_X4_aheadUntilDone u_se_X4_aheadUntilDone u_ini_X4 u_co_X4_aheadUntilDone) (q_X4_aheadUntilDone) rfl rfl rfl ⟨Nat.le_of_ble_eq_true rfl, Nat.le_of_ble_eq_true rfl⟩ hl.1 rfl (Nat.le_of_ble_eq_true rfl) dX4_untilDoneHungOn_21 ⟨Nat.le_of_ble_eq_true rfl, Nat.le_of_ble_eq_true rfl⟩) (fun r2 κ3 H locs hpκ3 hw => ?_)
  simp only [hpκ3] at hF
  exact k_iret hM hr hw (Nat.le_of_ble_eq_true rfl) (Nat.le_of_ble_eq_true rfl) hF dX4_untilDoneHungOn_24
theorem q_X4_minutesUntilDone : hdV yX4_minutesUntilDone RX4 1 := ⟨rfl, by decide +kernel, by decide +kernel, by decide +kernel⟩
def f_X4_minutesUntilDone (κ : Kp) (a : Int32) : (String × Kp) ⊕ (Int32 × Kp) := match f_X4_needRoast κ (a) with | .inl (E, κx) => .inl (E, κx) | .inr p1 => ((fun κ1 : Kp => match f_X4_aheadUntilDone κ1 (a) with | (r1, κ2) => (.inr (r1, κ2))) (f_X1_copyFrom κ (46) (1)))
set_option maxRecDepth 100000 in
set_option maxHeartbeats 4000000 in
theorem m_X4_minutesUntilDone (l : Launch) (g : Gt) (κ : Kp) (sz : Nat) (a : Int32) (hlst : l.stackTraces = false) : vx_Met l yX4_minutesUntilDone (.code yX4_minutesUntilDone cX4_minutesUntilDone 2 (some .int) :: uW) { frames := 7, cells := 1, slots := 6, locals := 210 } (PRE g κ sz [.ref (g.2.2 (0)), .int (a)]) (va_Qi (fun r κ' => f_X4_minutesUntilDone κ a = .inr (r, κ')) (Wp g) (fr g sz)) (xC g sz (fun E κx => f_X4_minutesUntilDone κ a = .inl (E, κx) ∧ E ∈ [nIOE])) 1 6 (fr g sz) := by
  refine k_xenter (by decide +kernel) (Nat.le_of_ble_eq_true rfl) ?_
  intro p e s m below meth c ls hM hno hr hl hw hsz
  subst hsz
  have hl : lv_has ls 2 [(0, .ref (g.2.2 (0))), (1, .int (a))] := hl
  have hF := f_X4_minutesUntilDone.eq_1 κ a
  refine lv_aload_n hM.x hM.b dX4_minutesUntilDone_0 rfl (lv_at hl 0 rfl) ?_
  refine lv_iload_n hM.x hM.b dX4_minutesUntilDone_1 rfl (lv_at hl 1 rfl) ?_
  refine k_xe hw (k_runXV [.int (a)] [] hM hw (m_X4_needRoast l g κ _ (a) hlst) (kd_lt kd_0 (by decide)) (sh4 kd_0) rfl (k_gV u_ml_X4_144 u_im_X4_needRoast u_se_X4_needRoast u_ini_X4 u_co_X4_needRoast) (q_X4_needRoast) rfl rfl rfl ⟨Nat.le_of_ble_eq_true rfl, Nat.le_of_ble_eq_true rfl⟩ hl.1 rfl (Nat.le_of_ble_eq_true rfl) dX4_minutesUntilDone_2 ⟨Nat.le_of_ble_eq_true rfl, Nat.le_of_ble_eq_true rfl⟩) (fun E κx ce q9 H locs hx hw h1 h2 h3 => ?_) (fun rz κz H locs hp hw => ?_)
  · simp only [hx.1] at hF
    exact k_xout hM hno hw h1 h2 h3 ⟨hF, (by decide +kernel : ∀ E ∈ [nIOE], E ∈ [nIOE]) E hx.2⟩ (Nat.le_of_ble_eq_true rfl) (Nat.le_of_ble_eq_true rfl)
  · obtain ⟨p1, hrz, hp, hkz⟩ := hp
    rw [hkz] at hw
    rw [hrz]
    simp only [hp] at hF
    have hp1 := kdp_X4_needRoast hp
    refine W.eq (g2 := F0 m 5 ls [.ref (g.2.2 (p1))]) rfl ?_
    refine lv_pop hM.x hM.b dX4_minutesUntilDone_5 rfl ?_
    refine lv_aload_n hM.x hM.b dX4_minutesUntilDone_6 rfl (lv_at hl 0 rfl) ?_
    refine k_get4b hM hw u_fl_X4_16 dX4_minutesUntilDone_7 ?_
    refine lv_aload_n hM.x hM.b dX4_minutesUntilDone_10 rfl (lv_at hl 0 rfl) ?_
    refine k_get4a hM hw u_fl_X4_10 dX4_minutesUntilDone_11 ?_
    refine k_cvp hw (k_runV [.ref (g.2.2 (1))] [] hM hw (m_X1_copyFrom l g κ _ (46) (1) (kd_46) (kd_1)) (kd_lt kd_46 (by decide)) (sh1 kd_46) rfl (k_gV u_ml_X4_170 u_im_X1_copyFrom u_se_X1_copyFrom u_ini_X1 u_co_X1_copyFrom) (q_X1_copyFrom) rfl rfl rfl ⟨Nat.le_of_ble_eq_true rfl, Nat.le_of_ble_eq_true rfl⟩ hl.1 rfl (Nat.le_of_ble_eq_true rfl) dX4_minutesUntilDone_14 ⟨Nat.le_of_ble_eq_true rfl, Nat.le_of_ble_eq_true rfl⟩) (fun κ1 H locs eκ1 hw => ?_)
    rw [eκ1] at hF
    try dsimp only at hF
    refine lv_aload_n hM.x hM.b dX4_minutesUntilDone_17 rfl (lv_at hl 0 rfl) ?_
    refine lv_iload_n hM.x hM.b dX4_minutesUntilDone_18 rfl (lv_at hl 1 rfl) ?_
    refine k_ci hw (k_runV [.int (a)] [] hM hw (m_X4_aheadUntilDone l g κ1 _ (a)) (kd_lt kd_0 (by decide)) (sh4 kd_0) rfl (k_gV u_ml_X4_174 u_im_X4_aheadUntilDone u_se_X4_aheadUntilDone u_ini_X4 u_co_X4_aheadUntilDone) (q_X4_aheadUntilDone) rfl rfl rfl ⟨Nat.le_of_ble_eq_true rfl, Nat.le_of_ble_eq_true rfl⟩ hl.1 rfl (Nat.le_of_ble_eq_true rfl) dX4_minutesUntilDone_19 ⟨Nat.le_of_ble_eq_true rfl, Nat.le_of_ble_eq_true rfl⟩) (fun r1 κ2 H locs hpκ2 hw => ?_)
    simp only [hpκ2] at hF
    exact vx_ret (k_iret hM hr hw (Nat.le_of_ble_eq_true rfl) (Nat.le_of_ble_eq_true rfl) hF dX4_minutesUntilDone_22)
theorem q_X4_minutesUntilBurnt : hdV yX4_minutesUntilBurnt RX4 1 := ⟨rfl, by decide +kernel, by decide +kernel, by decide +kernel⟩
def f_X4_minutesUntilBurnt (κ : Kp) (a : Int32) : (String × Kp) ⊕ (Int32 × Kp) := match f_X4_needRoast κ (a) with | .inl (E, κx) => .inl (E, κx) | .inr p1 => ((fun κ1 : Kp => match f_X4_aheadUntilBurnt κ1 (a) with | (r1, κ2) => (.inr (r1, κ2))) (f_X1_copyFrom κ (46) (1)))
set_option maxRecDepth 100000 in
set_option maxHeartbeats 4000000 in
theorem m_X4_minutesUntilBurnt (l : Launch) (g : Gt) (κ : Kp) (sz : Nat) (a : Int32) (hlst : l.stackTraces = false) : vx_Met l yX4_minutesUntilBurnt (.code yX4_minutesUntilBurnt cX4_minutesUntilBurnt 2 (some .int) :: uW) { frames := 7, cells := 1, slots := 6, locals := 210 } (PRE g κ sz [.ref (g.2.2 (0)), .int (a)]) (va_Qi (fun r κ' => f_X4_minutesUntilBurnt κ a = .inr (r, κ')) (Wp g) (fr g sz)) (xC g sz (fun E κx => f_X4_minutesUntilBurnt κ a = .inl (E, κx) ∧ E ∈ [nIOE])) 1 6 (fr g sz) := by
  refine k_xenter (by decide +kernel) (Nat.le_of_ble_eq_true rfl) ?_
  intro p e s m below meth c ls hM hno hr hl hw hsz
  subst hsz
  have hl : lv_has ls 2 [(0, .ref (g.2.2 (0))), (1, .int (a))] := hl
  have hF := f_X4_minutesUntilBurnt.eq_1 κ a
  refine lv_aload_n hM.x hM.b dX4_minutesUntilBurnt_0 rfl (lv_at hl 0 rfl) ?_
  refine lv_iload_n hM.x hM.b dX4_minutesUntilBurnt_1 rfl (lv_at hl 1 rfl) ?_
  refine k_xe hw (k_runXV [.int (a)] [] hM hw (m_X4_needRoast l g κ _ (a) hlst) (kd_lt kd_0 (by decide)) (sh4 kd_0) rfl (k_gV u_ml_X4_144 u_im_X4_needRoast u_se_X4_needRoast u_ini_X4 u_co_X4_needRoast) (q_X4_needRoast) rfl rfl rfl ⟨Nat.le_of_ble_eq_true rfl, Nat.le_of_ble_eq_true rfl⟩ hl.1 rfl (Nat.le_of_ble_eq_true rfl) dX4_minutesUntilBurnt_2 ⟨Nat.le_of_ble_eq_true rfl, Nat.le_of_ble_eq_true rfl⟩) (fun E κx ce q9 H locs hx hw h1 h2 h3 => ?_) (fun rz κz H locs hp hw => ?_)
  · simp only [hx.1] at hF
    exact k_xout hM hno hw h1 h2 h3 ⟨hF, (by decide +kernel : ∀ E ∈ [nIOE], E ∈ [nIOE]) E hx.2⟩ (Nat.le_of_ble_eq_true rfl) (Nat.le_of_ble_eq_true rfl)
  · obtain ⟨p1, hrz, hp, hkz⟩ := hp
    rw [hkz] at hw
    rw [hrz]
    simp only [hp] at hF
    have hp1 := kdp_X4_needRoast hp
    refine W.eq (g2 := F0 m 5 ls [.ref (g.2.2 (p1))]) rfl ?_
    refine lv_pop hM.x hM.b dX4_minutesUntilBurnt_5 rfl ?_
    refine lv_aload_n hM.x hM.b dX4_minutesUntilBurnt_6 rfl (lv_at hl 0 rfl) ?_
    refine k_get4b hM hw u_fl_X4_16 dX4_minutesUntilBurnt_7 ?_
    refine lv_aload_n hM.x hM.b dX4_minutesUntilBurnt_10 rfl (lv_at hl 0 rfl) ?_
    refine k_get4a hM hw u_fl_X4_10 dX4_minutesUntilBurnt_11 ?_
    refine k_cvp hw (k_runV [.ref (g.2.2 (1))] [] hM hw (m_X1_copyFrom l g κ _ (46) (1) (kd_46) (kd_1)) (kd_lt kd_46 (by decide)) (sh1 kd_46) rfl (k_gV u_ml_X4_170 u_im_X1_copyFrom u_se_X1_copyFrom u_ini_X1 u_co_X1_copyFrom) (q_X1_copyFrom) rfl rfl rfl ⟨Nat.le_of_ble_eq_true rfl, Nat.le_of_ble_eq_true rfl⟩ hl.1 rfl (Nat.le_of_ble_eq_true rfl) dX4_minutesUntilBurnt_14 ⟨Nat.le_of_ble_eq_true rfl, Nat.le_of_ble_eq_true rfl⟩) (fun κ1 H locs eκ1 hw => ?_)
    rw [eκ1] at hF
    try dsimp only at hF
    refine lv_aload_n hM.x hM.b dX4_minutesUntilBurnt_17 rfl (lv_at hl 0 rfl) ?_
    refine lv_iload_n hM.x hM.b dX4_minutesUntilBurnt_18 rfl (lv_at hl 1 rfl) ?_
    refine k_ci hw (k_runV [.int (a)] [] hM hw (m_X4_aheadUntilBurnt l g κ1 _ (a)) (kd_lt kd_0 (by decide)) (sh4 kd_0) rfl (k_gV u_ml_X4_177 u_im_X4_aheadUntilBurnt u_se_X4_aheadUntilBurnt u_ini_X4 u_co_X4_aheadUntilBurnt) (q_X4_aheadUntilBurnt) rfl rfl rfl ⟨Nat.le_of_ble_eq_true rfl, Nat.le_of_ble_eq_true rfl⟩ hl.1 rfl (Nat.le_of_ble_eq_true rfl) dX4_minutesUntilBurnt_19 ⟨Nat.le_of_ble_eq_true rfl, Nat.le_of_ble_eq_true rfl⟩) (fun r1 κ2 H locs hpκ2 hw => ?_)
    simp only [hpκ2] at hF
    exact vx_ret (k_iret hM hr hw (Nat.le_of_ble_eq_true rfl) (Nat.le_of_ble_eq_true rfl) hF dX4_minutesUntilBurnt_22)
theorem q_X4_doneAtFeast : hdV yX4_doneAtFeast RX4 0 := ⟨rfl, by decide +kernel, by decide +kernel, by decide +kernel⟩
def f_X4_doneAtFeast (κ : Kp) : Int32 × Kp := if (((κ (1) 7) - (κ (1) 6))) < 0 then (((-1), κ)) else (if (((κ (1) 7) - (κ (1) 6))) ≤ (200) then ((fun κ1 : Kp => match f_X1_goMinutes κ1 (46) (((κ (1) 7) - (κ (1) 6))) with | (r1, κ2) => ((f_X1_countDone κ2 (46), κ2))) (f_X1_copyFrom κ (46) (1))) else (((-1), κ)))
set_option maxRecDepth 100000 in
set_option maxHeartbeats 4000000 in
theorem m_X4_doneAtFeast (l : Launch) (g : Gt) (κ : Kp) (sz : Nat)  : Met l yX4_doneAtFeast (.code yX4_doneAtFeast cX4_doneAtFeast 2 (some .int) :: uW) { frames := 5, cells := 0, slots := 0, locals := 150 } (PRE g κ sz [.ref (g.2.2 (0))]) (va_Qi (fun r κ' => f_X4_doneAtFeast κ  = (r, κ')) (Wp g) (fr g sz)) 0 0 (fr g sz) := by
  refine k_enter (by decide +kernel) (Nat.le_of_ble_eq_true rfl) ?_
  intro p e s m below meth c ls hM hr hl hw hsz
  subst hsz
  have hl : lv_has ls 2 [(0, .ref (g.2.2 (0)))] := hl
  have hF := f_X4_doneAtFeast.eq_1 κ 
  refine lv_aload_n hM.x hM.b dX4_doneAtFeast_0 rfl (lv_at hl 0 rfl) ?_
  refine k_get4a hM hw u_fl_X4_10 dX4_doneAtFeast_1 ?_
  refine k_get1 7 hM hw kd_1 (by decide) u_fl_X4_79 dX4_doneAtFeast_4 ?_
  refine lv_aload_n hM.x hM.b dX4_doneAtFeast_7 rfl (lv_at hl 0 rfl) ?_
  refine k_get4a hM hw u_fl_X4_10 dX4_doneAtFeast_8 ?_
  refine k_get1 6 hM hw kd_1 (by decide) u_fl_X4_122 dX4_doneAtFeast_11 ?_
  refine lv_isub hM.x hM.b dX4_doneAtFeast_14 ?_
  refine lv_istore_n (lv' := [(1, .int (((κ (1) 7) - (κ (1) 6)))), (0, .ref (g.2.2 (0)))]) hM.x hM.b dX4_doneAtFeast_15 rfl hl (by decide) rfl (fun ls hl => ?_)
  refine lv_iload_n hM.x hM.b dX4_doneAtFeast_16 rfl (lv_at hl 0 rfl) ?_
  refine lv_if_lt (tgt := 27) hM.x hM.b dX4_doneAtFeast_17 (by decide) (fun c1 => ?_) (fun c1 => ?_)
  · rw [if_pos c1] at hF
    refine lv_iconst (v := -1) hM.x hM.b dX4_doneAtFeast_27 (by decide) ?_
    exact k_iret hM hr hw (Nat.le_of_ble_eq_true rfl) (Nat.le_of_ble_eq_true rfl) hF dX4_doneAtFeast_28
  · rw [if_neg c1] at hF
    refine lv_iload_n hM.x hM.b dX4_doneAtFeast_20 rfl (lv_at hl 0 rfl) ?_
    refine lv_sipush (v := 200) hM.x hM.b dX4_doneAtFeast_21 (by decide) ?_
    refine lv_icmp_le (tgt := 29) hM.x hM.b dX4_doneAtFeast_24 (by decide) (fun c2 => ?_) (fun c2 => ?_)
    · rw [if_pos c2] at hF
      refine lv_aload_n hM.x hM.b dX4_doneAtFeast_29 rfl (lv_at hl 1 rfl) ?_
      refine k_get4b hM hw u_fl_X4_16 dX4_doneAtFeast_30 ?_
      refine lv_aload_n hM.x hM.b dX4_doneAtFeast_33 rfl (lv_at hl 1 rfl) ?_
      refine k_get4a hM hw u_fl_X4_10 dX4_doneAtFeast_34 ?_
      refine k_cvp hw (k_runV [.ref (g.2.2 (1))] [] hM hw (m_X1_copyFrom l g κ _ (46) (1) (kd_46) (kd_1)) (kd_lt kd_46 (by decide)) (sh1 kd_46) rfl (k_gV u_ml_X4_170 u_im_X1_copyFrom u_se_X1_copyFrom u_ini_X1 u_co_X1_copyFrom) (q_X1_copyFrom) rfl rfl rfl ⟨Nat.le_of_ble_eq_true rfl, Nat.le_of_ble_eq_true rfl⟩ hl.1 rfl (Nat.le_of_ble_eq_true rfl) dX4_doneAtFeast_37 ⟨Nat.le_of_ble_eq_true rfl, Nat.le_of_ble_eq_true rfl⟩) (fun κ1 H locs eκ1 hw => ?_)
      rw [eκ1] at hF
      try dsimp only at hF
      refine lv_aload_n hM.x hM.b dX4_doneAtFeast_40 rfl (lv_at hl 1 rfl) ?_
      refine k_get4b hM hw u_fl_X4_16 dX4_doneAtFeast_41 ?_
      refine lv_iload_n hM.x hM.b dX4_doneAtFeast_44 rfl (lv_at hl 0 rfl) ?_
      refine k_ci hw (k_runV [.int (((κ (1) 7) - (κ (1) 6)))] [] hM hw (m_X1_goMinutes l g κ1 _ (46) (((κ (1) 7) - (κ (1) 6))) (kd_46)) (kd_lt kd_46 (by decide)) (sh1 kd_46) rfl (k_gV u_ml_X4_118 u_im_X1_goMinutes u_se_X1_goMinutes u_ini_X1 u_co_X1_goMinutes) (q_X1_goMinutes) rfl rfl rfl ⟨Nat.le_of_ble_eq_true rfl, Nat.le_of_ble_eq_true rfl⟩ hl.1 rfl (Nat.le_of_ble_eq_true rfl) dX4_doneAtFeast_45 ⟨Nat.le_of_ble_eq_true rfl, Nat.le_of_ble_eq_true rfl⟩) (fun r1 κ2 H locs hpκ2 hw => ?_)
      simp only [hpκ2] at hF
      refine lv_pop hM.x hM.b dX4_doneAtFeast_48 rfl ?_
      refine lv_aload_n hM.x hM.b dX4_doneAtFeast_49 rfl (lv_at hl 1 rfl) ?_
      refine k_get4b hM hw u_fl_X4_16 dX4_doneAtFeast_50 ?_
      refine k_cip hw (k_runV [] [] hM hw (m_X1_countDone l g κ2 _ (46) (kd_46)) (kd_lt kd_46 (by decide)) (sh1 kd_46) rfl (k_gV u_ml_X4_180 u_im_X1_countDone u_se_X1_countDone u_ini_X1 u_co_X1_countDone) (q_X1_countDone) rfl rfl rfl ⟨Nat.le_of_ble_eq_true rfl, Nat.le_of_ble_eq_true rfl⟩ hl.1 rfl (Nat.le_of_ble_eq_true rfl) dX4_doneAtFeast_53 ⟨Nat.le_of_ble_eq_true rfl, Nat.le_of_ble_eq_true rfl⟩) (fun H locs hw => ?_)
      exact k_iret hM hr hw (Nat.le_of_ble_eq_true rfl) (Nat.le_of_ble_eq_true rfl) hF dX4_doneAtFeast_56
    · rw [if_neg c2] at hF
      refine lv_iconst (v := -1) hM.x hM.b dX4_doneAtFeast_27 (by decide) ?_
      exact k_iret hM hr hw (Nat.le_of_ble_eq_true rfl) (Nat.le_of_ble_eq_true rfl) hF dX4_doneAtFeast_28
theorem q_X4_bestEach : hdV yX4_bestEach RX4 1 := ⟨rfl, by decide +kernel, by decide +kernel, by decide +kernel⟩
def lp_X4_bestEach (a : Int32) : Nat → Nat → Int32 → Int32 → Kp → Int32 × Kp
  | 0, j, v2, v3, κ => (v2, κ)
  | n + 1, j, v2, v3, κ => match f_X4_untilDoneTurnedEach κ (a) (nI (j)) with | (r1, κ1) => (if (r1) = ((-1)) then (lp_X4_bestEach (a) n (j + 1) (v2) (v3) κ1) else (if (v3) ≤ (r1) then (lp_X4_bestEach (a) n (j + 1) (v2) (v3) κ1) else (lp_X4_bestEach (a) n (j + 1) (nI (j)) (r1) κ1)))
set_option maxRecDepth 100000 in
set_option maxHeartbeats 4000000 in
theorem ml_X4_bestEach {p : Program} {e : Env} {s : State} {m : MethodId} {below : List Frame} {meth : Method} {c : Code} {Q : State → Prop} (l : Launch) (g : Gt) (a : Int32)  (hM : Mc g p s m ([.ref (g.2.2 (0)), .int (a)] : List Value).toArray meth c cX4_bestEach 6 yX4_bestEach.cls) : ∀ (n j : Nat), j + n = 10 → ∀ (v2 : Int32) (v3 : Int32) (κ : Kp), ∀ (H : Heap) (locs : List Loc) (ls : Array Slot), lv_has ls 6 [(4, .int (nI (j))), (3, .int (v3)), (2, .int (v2)), (0, .ref (g.2.2 (0))), (1, .int (a))] → Ws g s κ H locs → (∀ (u2 : Int32) (κz : Kp) (H : Heap) (locs : List Loc) (ls : Array Slot), lp_X4_bestEach a n j v2 v3 κ = (u2, κz) → lv_has ls 6 [(2, .int (u2))] → Ws g s κz H locs → W p l e { frames := 7, cells := 1, slots := 6, locals := 210 } s m ([.ref (g.2.2 (0)), .int (a)] : List Value).toArray below meth c H locs 1 6 Q (F0 m 55 ls [])) → W p l e { frames := 7, cells := 1, slots := 6, locals := 210 } s m ([.ref (g.2.2 (0)), .int (a)] : List Value).toArray below meth c H locs 1 6 Q (F0 m 15 ls []) := by
  intro n
  induction n with
  | zero =>
    intro j hj v2 v3 κ H locs ls hl hw hx55
    have hF := Eq.refl (lp_X4_bestEach a 0 j v2 v3 κ)
    conv at hF => rhs; rw [lp_X4_bestEach]
    refine lv_iload hM.x hM.b dX4_bestEach_15 (lv_at hl 0 rfl) ?_
    refine lv_bipush (v := nI 9) hM.x hM.b dX4_bestEach_17 (by decide) ?_
    refine lv_icmp_gt (tgt := 55) hM.x hM.b dX4_bestEach_19 (by decide) (fun _ => ?_) (fun cz => absurd (nI_lt (by omega) (by omega) : nI 9 < nI j) cz)
    exact hx55 (v2) κ H locs ls hF (lv_sub hl [2] rfl) hw
  | succ n ih =>
    intro j hj v2 v3 κ H locs ls hl hw hx55
    have hF := Eq.refl (lp_X4_bestEach a (n + 1) j v2 v3 κ)
    conv at hF => rhs; rw [lp_X4_bestEach]
    refine lv_iload hM.x hM.b dX4_bestEach_15 (lv_at hl 0 rfl) ?_
    refine lv_bipush (v := nI 9) hM.x hM.b dX4_bestEach_17 (by decide) ?_
    refine lv_icmp_gt (tgt := 55) hM.x hM.b dX4_bestEach_19 (by decide) (fun cz => absurd cz (nI_nlt (by omega) (by decide) : ¬ nI 9 < nI j)) (fun _ => ?_)
    refine lv_aload_n hM.x hM.b dX4_bestEach_22 rfl (lv_at hl 3 rfl) ?_
    refine lv_iload_n hM.x hM.b dX4_bestEach_23 rfl (lv_at hl 4 rfl) ?_
    refine lv_iload hM.x hM.b dX4_bestEach_24 (lv_at hl 0 rfl) ?_
    refine k_ci hw (k_runV [.int (a), .int (nI (j))] [] hM hw (m_X4_untilDoneTurnedEach l g κ _ (a) (nI (j))) (kd_lt kd_0 (by decide)) (sh4 kd_0) rfl (k_gV u_ml_X4_183 u_im_X4_untilDoneTurnedEach u_se_X4_untilDoneTurnedEach u_ini_X4 u_co_X4_untilDoneTurnedEach) (q_X4_untilDoneTurnedEach) rfl rfl rfl ⟨Nat.le_of_ble_eq_true rfl, Nat.le_of_ble_eq_true rfl⟩ hl.1 rfl (Nat.le_of_ble_eq_true rfl) dX4_bestEach_26 ⟨Nat.le_of_ble_eq_true rfl, Nat.le_of_ble_eq_true rfl⟩) (fun r1 κ1 H locs hpκ1 hw => ?_)
    simp only [hpκ1] at hF
    refine lv_istore (lv' := [(5, .int (r1)), (4, .int (nI (j))), (3, .int (v3)), (2, .int (v2)), (0, .ref (g.2.2 (0))), (1, .int (a))]) hM.x hM.b dX4_bestEach_29 hl (by decide) rfl (fun ls hl => ?_)
    refine lv_iload hM.x hM.b dX4_bestEach_31 (lv_at hl 0 rfl) ?_
    refine lv_iconst (v := -1) hM.x hM.b dX4_bestEach_33 (by decide) ?_
    refine lv_icmp_eq (tgt := 49) hM.x hM.b dX4_bestEach_34 (by decide) (fun c1 => ?_) (fun c1 => ?_)
    · rw [if_pos c1] at hF
      refine lv_iinc (v := nI (j + 1)) (lv' := [(4, .int (nI (j + 1))), (5, .int (r1)), (3, .int (v3)), (2, .int (v2)), (0, .ref (g.2.2 (0))), (1, .int (a))]) hM.x hM.b dX4_bestEach_49 hl (k := 1) rfl (nI_1 (j)) (by decide) rfl (fun ls hl => ?_)
      refine lv_goto (tgt := 15) hM.x hM.b dX4_bestEach_52 (by decide) ?_
      exact ih (j + 1) (by omega) (v2) (v3) κ1 H locs ls (lv_sub hl [0, 2, 3, 4, 5] rfl) hw (fun u2 κz H locs ls he hl hw => hx55 u2 κz H locs ls (hF.trans he) hl hw)
    · rw [if_neg c1] at hF
      refine lv_iload hM.x hM.b dX4_bestEach_37 (lv_at hl 0 rfl) ?_
      refine lv_iload_n hM.x hM.b dX4_bestEach_39 rfl (lv_at hl 2 rfl) ?_
      refine lv_icmp_ge (tgt := 49) hM.x hM.b dX4_bestEach_40 (by decide) (fun c2 => ?_) (fun c2 => ?_)
      · rw [if_pos c2] at hF
        refine lv_iinc (v := nI (j + 1)) (lv' := [(4, .int (nI (j + 1))), (5, .int (r1)), (3, .int (v3)), (2, .int (v2)), (0, .ref (g.2.2 (0))), (1, .int (a))]) hM.x hM.b dX4_bestEach_49 hl (k := 1) rfl (nI_1 (j)) (by decide) rfl (fun ls hl => ?_)
        refine lv_goto (tgt := 15) hM.x hM.b dX4_bestEach_52 (by decide) ?_
        exact ih (j + 1) (by omega) (v2) (v3) κ1 H locs ls (lv_sub hl [0, 2, 3, 4, 5] rfl) hw (fun u2 κz H locs ls he hl hw => hx55 u2 κz H locs ls (hF.trans he) hl hw)
      · rw [if_neg c2] at hF
        refine lv_iload hM.x hM.b dX4_bestEach_43 (lv_at hl 0 rfl) ?_
        refine lv_istore_n (lv' := [(3, .int (r1)), (5, .int (r1)), (4, .int (nI (j))), (2, .int (v2)), (0, .ref (g.2.2 (0))), (1, .int (a))]) hM.x hM.b dX4_bestEach_45 rfl hl (by decide) rfl (fun ls hl => ?_)
        refine lv_iload hM.x hM.b dX4_bestEach_46 (lv_at hl 2 rfl) ?_
        refine lv_istore_n (lv' := [(2, .int (nI (j))), (3, .int (r1)), (5, .int (r1)), (4, .int (nI (j))), (0, .ref (g.2.2 (0))), (1, .int (a))]) hM.x hM.b dX4_bestEach_48 rfl hl (by decide) rfl (fun ls hl => ?_)
        refine lv_iinc (v := nI (j + 1)) (lv' := [(4, .int (nI (j + 1))), (2, .int (nI (j))), (3, .int (r1)), (5, .int (r1)), (0, .ref (g.2.2 (0))), (1, .int (a))]) hM.x hM.b dX4_bestEach_49 hl (k := 3) rfl (nI_1 (j)) (by decide) rfl (fun ls hl => ?_)
        refine lv_goto (tgt := 15) hM.x hM.b dX4_bestEach_52 (by decide) ?_
        exact ih (j + 1) (by omega) (nI (j)) (r1) κ1 H locs ls (lv_sub hl [0, 2, 1, 4, 5] rfl) hw (fun u2 κz H locs ls he hl hw => hx55 u2 κz H locs ls (hF.trans he) hl hw)
def f_X4_bestEach (κ : Kp) (a : Int32) : (String × Kp) ⊕ (Int32 × Kp) := match f_X4_needSpit κ (a) with | .inl (E, κx) => .inl (E, κx) | .inr p1 => (match lp_X4_bestEach a 9 1 ((-1)) (201) κ with | (uz1, κ1) => (.inr (uz1, κ1)))
set_option maxRecDepth 100000 in
set_option maxHeartbeats 4000000 in
theorem m_X4_bestEach (l : Launch) (g : Gt) (κ : Kp) (sz : Nat) (a : Int32) (hlst : l.stackTraces = false) : vx_Met l yX4_bestEach (.code yX4_bestEach cX4_bestEach 6 (some .int) :: uW) { frames := 7, cells := 1, slots := 6, locals := 210 } (PRE g κ sz [.ref (g.2.2 (0)), .int (a)]) (va_Qi (fun r κ' => f_X4_bestEach κ a = .inr (r, κ')) (Wp g) (fr g sz)) (xC g sz (fun E κx => f_X4_bestEach κ a = .inl (E, κx) ∧ E ∈ [nIOE])) 1 6 (fr g sz) := by
  refine k_xenter (by decide +kernel) (Nat.le_of_ble_eq_true rfl) ?_
  intro p e s m below meth c ls hM hno hr hl hw hsz
  subst hsz
  have hl : lv_has ls 6 [(0, .ref (g.2.2 (0))), (1, .int (a))] := hl
  have hF := f_X4_bestEach.eq_1 κ a
  refine lv_aload_n hM.x hM.b dX4_bestEach_0 rfl (lv_at hl 0 rfl) ?_
  refine lv_iload_n hM.x hM.b dX4_bestEach_1 rfl (lv_at hl 1 rfl) ?_
  refine k_xe hw (k_runXV [.int (a)] [] hM hw (m_X4_needSpit l g κ _ (a) hlst) (kd_lt kd_0 (by decide)) (sh4 kd_0) rfl (k_gV u_ml_X4_60 u_im_X4_needSpit u_se_X4_needSpit u_ini_X4 u_co_X4_needSpit) (q_X4_needSpit) rfl rfl rfl ⟨Nat.le_of_ble_eq_true rfl, Nat.le_of_ble_eq_true rfl⟩ hl.1 rfl (Nat.le_of_ble_eq_true rfl) dX4_bestEach_2 ⟨Nat.le_of_ble_eq_true rfl, Nat.le_of_ble_eq_true rfl⟩) (fun E κx ce q9 H locs hx hw h1 h2 h3 => ?_) (fun rz κz H locs hp hw => ?_)
  · simp only [hx.1] at hF
    exact k_xout hM hno hw h1 h2 h3 ⟨hF, (by decide +kernel : ∀ E ∈ [nIOE], E ∈ [nIOE]) E hx.2⟩ (Nat.le_of_ble_eq_true rfl) (Nat.le_of_ble_eq_true rfl)
  · obtain ⟨p1, hrz, hp, hkz⟩ := hp
    rw [hkz] at hw
    rw [hrz]
    simp only [hp] at hF
    have hp1 := kdp_X4_needSpit hp
    refine W.eq (g2 := F0 m 5 ls [.ref (g.2.2 (p1))]) rfl ?_
    refine lv_pop hM.x hM.b dX4_bestEach_5 rfl ?_
    refine lv_iconst (v := -1) hM.x hM.b dX4_bestEach_6 (by decide) ?_
    refine lv_istore_n (lv' := [(2, .int ((-1))), (0, .ref (g.2.2 (0))), (1, .int (a))]) hM.x hM.b dX4_bestEach_7 rfl hl (by decide) rfl (fun ls hl => ?_)
    refine lv_sipush (v := 201) hM.x hM.b dX4_bestEach_8 (by decide) ?_
    refine lv_istore_n (lv' := [(3, .int (201)), (2, .int ((-1))), (0, .ref (g.2.2 (0))), (1, .int (a))]) hM.x hM.b dX4_bestEach_11 rfl hl (by decide) rfl (fun ls hl => ?_)
    refine lv_iconst (v := nI 1) hM.x hM.b dX4_bestEach_12 (by decide) ?_
    refine lv_istore (lv' := [(4, .int (nI (1))), (3, .int (201)), (2, .int ((-1))), (0, .ref (g.2.2 (0))), (1, .int (a))]) hM.x hM.b dX4_bestEach_13 hl (by decide) rfl (fun ls hl => ?_)
    refine ml_X4_bestEach l g a  hM (9) (1) (by omega) ((-1)) (201) κ _ _ _ (lv_sub hl [0, 1, 2, 3, 4] rfl) hw (fun uz1 κ1 H locs ls he hl hw => ?_)
    rw [he] at hF
    try dsimp only at hF
    refine lv_iload_n hM.x hM.b dX4_bestEach_55 rfl (lv_at hl 0 rfl) ?_
    exact vx_ret (k_iret hM hr hw (Nat.le_of_ble_eq_true rfl) (Nat.le_of_ble_eq_true rfl) hF dX4_bestEach_56)
