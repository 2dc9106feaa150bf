theorem q_X4_minute : hdV yX4_minute RX4 0 := ⟨rfl, by decide +kernel, by decide +kernel, by decide +kernel⟩
def f_X4_minute (κ : Kp) : Int32 := κ (1) 6
set_option maxRecDepth 100000 in
set_option maxHeartbeats 4000000 in
theorem m_X4_minute (l : Launch) (g : Gt) (κ : Kp) (sz : Nat)  : Met l yX4_minute (.code yX4_minute cX4_minute 1 (some .int) :: uW) { frames := 0, cells := 0, slots := 0, locals := 0 } (PRE g κ sz [.ref (g.2.2 (0))]) (va_Qi (fun r κ' => r = f_X4_minute κ  ∧ κ' = κ) (Wp g) (fr g sz)) 0 0 (fr g sz) := by
  refine k_enter (by decide +kernel) (Nat.le_of_ble_eq_true rfl) ?_
  intro p e s m below meth c ls hM hr hl hw hsz
  subst hsz
  have hl : lv_has ls 1 [(0, .ref (g.2.2 (0)))] := hl
  have hF := f_X4_minute.eq_1 κ 
  refine lv_aload_n hM.x hM.b dX4_minute_0 rfl (lv_at hl 0 rfl) ?_
  refine k_get4a hM hw u_fl_X4_10 dX4_minute_1 ?_
  refine k_get1 6 hM hw kd_1 (by decide) u_fl_X4_122 dX4_minute_4 ?_
  exact k_iret hM hr hw (Nat.le_of_ble_eq_true rfl) (Nat.le_of_ble_eq_true rfl) ⟨hF.symm, rfl⟩ dX4_minute_7
theorem q_X4_feast : hdV yX4_feast RX4 0 := ⟨rfl, by decide +kernel, by decide +kernel, by decide +kernel⟩
def f_X4_feast (κ : Kp) : Int32 := κ (1) 7
set_option maxRecDepth 100000 in
set_option maxHeartbeats 4000000 in
theorem m_X4_feast (l : Launch) (g : Gt) (κ : Kp) (sz : Nat)  : Met l yX4_feast (.code yX4_feast cX4_feast 1 (some .int) :: uW) { frames := 0, cells := 0, slots := 0, locals := 0 } (PRE g κ sz [.ref (g.2.2 (0))]) (va_Qi (fun r κ' => r = f_X4_feast κ  ∧ κ' = κ) (Wp g) (fr g sz)) 0 0 (fr g sz) := by
  refine k_enter (by decide +kernel) (Nat.le_of_ble_eq_true rfl) ?_
  intro p e s m below meth c ls hM hr hl hw hsz
  subst hsz
  have hl : lv_has ls 1 [(0, .ref (g.2.2 (0)))] := hl
  have hF := f_X4_feast.eq_1 κ 
  refine lv_aload_n hM.x hM.b dX4_feast_0 rfl (lv_at hl 0 rfl) ?_
  refine k_get4a hM hw u_fl_X4_10 dX4_feast_1 ?_
  refine k_get1 7 hM hw kd_1 (by decide) u_fl_X4_79 dX4_feast_4 ?_
  exact k_iret hM hr hw (Nat.le_of_ble_eq_true rfl) (Nat.le_of_ble_eq_true rfl) ⟨hF.symm, rfl⟩ dX4_feast_7
theorem q_X4_fires : hdV yX4_fires RX4 0 := ⟨rfl, by decide +kernel, by decide +kernel, by decide +kernel⟩
def f_X4_fires (κ : Kp) : Int32 := κ (1) 3
set_option maxRecDepth 100000 in
set_option maxHeartbeats 4000000 in
theorem m_X4_fires (l : Launch) (g : Gt) (κ : Kp) (sz : Nat)  : Met l yX4_fires (.code yX4_fires cX4_fires 1 (some .int) :: uW) { frames := 0, cells := 0, slots := 0, locals := 0 } (PRE g κ sz [.ref (g.2.2 (0))]) (va_Qi (fun r κ' => r = f_X4_fires κ  ∧ κ' = κ) (Wp g) (fr g sz)) 0 0 (fr g sz) := by
  refine k_enter (by decide +kernel) (Nat.le_of_ble_eq_true rfl) ?_
  intro p e s m below meth c ls hM hr hl hw hsz
  subst hsz
  have hl : lv_has ls 1 [(0, .ref (g.2.2 (0)))] := hl
  have hF := f_X4_fires.eq_1 κ 
  refine lv_aload_n hM.x hM.b dX4_fires_0 rfl (lv_at hl 0 rfl) ?_
  refine k_get4a hM hw u_fl_X4_10 dX4_fires_1 ?_
  refine k_get1 3 hM hw kd_1 (by decide) u_fl_X4_125 dX4_fires_4 ?_
  exact k_iret hM hr hw (Nat.le_of_ble_eq_true rfl) (Nat.le_of_ble_eq_true rfl) ⟨hF.symm, rfl⟩ dX4_fires_7
theorem q_X4_spits : hdV yX4_spits RX4 0 := ⟨rfl, by decide +kernel, by decide +kernel, by decide +kernel⟩
def f_X4_spits (κ : Kp) : Int32 := κ (1) 4
set_option maxRecDepth 100000 in
set_option maxHeartbeats 4000000 in
theorem m_X4_spits (l : Launch) (g : Gt) (κ : Kp) (sz : Nat)  : Met l yX4_spits (.code yX4_spits cX4_spits 1 (some .int) :: uW) { frames := 0, cells := 0, slots := 0, locals := 0 } (PRE g κ sz [.ref (g.2.2 (0))]) (va_Qi (fun r κ' => r = f_X4_spits κ  ∧ κ' = κ) (Wp g) (fr g sz)) 0 0 (fr g sz) := by
  refine k_enter (by decide +kernel) (Nat.le_of_ble_eq_true rfl) ?_
  intro p e s m below meth c ls hM hr hl hw hsz
  subst hsz
  have hl : lv_has ls 1 [(0, .ref (g.2.2 (0)))] := hl
  have hF := f_X4_spits.eq_1 κ 
  refine lv_aload_n hM.x hM.b dX4_spits_0 rfl (lv_at hl 0 rfl) ?_
  refine k_get4a hM hw u_fl_X4_10 dX4_spits_1 ?_
  refine k_get1 4 hM hw kd_1 (by decide) u_fl_X4_131 dX4_spits_4 ?_
  exact k_iret hM hr hw (Nat.le_of_ble_eq_true rfl) (Nat.le_of_ble_eq_true rfl) ⟨hF.symm, rfl⟩ dX4_spits_7
theorem q_X4_roasts : hdV yX4_roasts RX4 0 := ⟨rfl, by decide +kernel, by decide +kernel, by decide +kernel⟩
def f_X4_roasts (κ : Kp) : Int32 := κ (1) 5
set_option maxRecDepth 100000 in
set_option maxHeartbeats 4000000 in
theorem m_X4_roasts (l : Launch) (g : Gt) (κ : Kp) (sz : Nat)  : Met l yX4_roasts (.code yX4_roasts cX4_roasts 1 (some .int) :: uW) { frames := 0, cells := 0, slots := 0, locals := 0 } (PRE g κ sz [.ref (g.2.2 (0))]) (va_Qi (fun r κ' => r = f_X4_roasts κ  ∧ κ' = κ) (Wp g) (fr g sz)) 0 0 (fr g sz) := by
  refine k_enter (by decide +kernel) (Nat.le_of_ble_eq_true rfl) ?_
  intro p e s m below meth c ls hM hr hl hw hsz
  subst hsz
  have hl : lv_has ls 1 [(0, .ref (g.2.2 (0)))] := hl
  have hF := f_X4_roasts.eq_1 κ 
  refine lv_aload_n hM.x hM.b dX4_roasts_0 rfl (lv_at hl 0 rfl) ?_
  refine k_get4a hM hw u_fl_X4_10 dX4_roasts_1 ?_
  refine k_get1 5 hM hw kd_1 (by decide) u_fl_X4_141 dX4_roasts_4 ?_
  exact k_iret hM hr hw (Nat.le_of_ble_eq_true rfl) (Nat.le_of_ble_eq_true rfl) ⟨hF.symm, rfl⟩ dX4_roasts_7
theorem q_X4_logsOf : hdV yX4_logsOf RX4 1 := ⟨rfl, by decide +kernel, by decide +kernel, by decide +kernel⟩
def f_X4_logsOf (κ : Kp) (a : Int32) : (String × Kp) ⊕ (Int32 × Kp) := match f_X4_needFire κ (a) with | .inl (E, κx) => .inl (E, κx) | .inr p1 => (.inr (κ (p1) 0, κ))
set_option maxRecDepth 100000 in
set_option maxHeartbeats 4000000 in
theorem m_X4_logsOf (l : Launch) (g : Gt) (κ : Kp) (sz : Nat) (a : Int32) (hlst : l.stackTraces = false) : vx_Met l yX4_logsOf (.code yX4_logsOf cX4_logsOf 2 (some .int) :: uW) { frames := 7, cells := 1, slots := 6, locals := 210 } (PRE g κ sz [.ref (g.2.2 (0)), .int (a)]) (va_Qi (fun r κ' => f_X4_logsOf κ a = .inr (r, κ')) (Wp g) (fr g sz)) (xC g sz (fun E κx => f_X4_logsOf κ a = .inl (E, κx) ∧ E ∈ [nIOE])) 1 6 (fr g sz) := by
  refine k_xenter (by decide +kernel) (Nat.le_of_ble_eq_true rfl) ?_
  intro p e s m below meth c ls hM hno hr hl hw hsz
  subst hsz
  have hl : lv_has ls 2 [(0, .ref (g.2.2 (0))), (1, .int (a))] := hl
  have hF := f_X4_logsOf.eq_1 κ a
  refine lv_aload_n hM.x hM.b dX4_logsOf_0 rfl (lv_at hl 0 rfl) ?_
  refine lv_iload_n hM.x hM.b dX4_logsOf_1 rfl (lv_at hl 1 rfl) ?_
  refine k_xe hw (k_runXV [.int (a)] [] hM hw (m_X4_needFire l g κ _ (a) hlst) (hw.dm kd_0 (by decide)) (sh4 kd_0) rfl (k_gV u_ml_X4_30 u_im_X4_needFire u_se_X4_needFire u_ini_X4 u_co_X4_needFire) (q_X4_needFire) rfl rfl rfl ⟨Nat.le_of_ble_eq_true rfl, Nat.le_of_ble_eq_true rfl⟩ hl.1 rfl (Nat.le_of_ble_eq_true rfl) dX4_logsOf_2 ⟨Nat.le_of_ble_eq_true rfl, Nat.le_of_ble_eq_true rfl⟩) (fun E κx ce q9 H locs hx hw h1 h2 h3 => ?_) (fun rz κz H locs hp hw => ?_)
  · simp only [hx.1] at hF
    exact k_xout hM hno hw h1 h2 h3 ⟨hF, (by decide +kernel : ∀ E ∈ [nIOE], E ∈ [nIOE]) E hx.2⟩ (Nat.le_of_ble_eq_true rfl) (Nat.le_of_ble_eq_true rfl)
  · obtain ⟨p1, hrz, hp, hkz⟩ := hp
    rw [hkz] at hw
    rw [hrz]
    simp only [hp] at hF
    have hp1 := kdp_X4_needFire hp
    refine W.eq (g2 := F0 m 5 ls [.ref (g.2.2 (p1))]) rfl ?_
    refine k_get0 0 hM hw hp1 (by decide) u_fl_X4_39 dX4_logsOf_5 ?_
    exact vx_ret (k_iret hM hr hw (Nat.le_of_ble_eq_true rfl) (Nat.le_of_ble_eq_true rfl) hF dX4_logsOf_8)
theorem q_X4_heatOf : hdV yX4_heatOf RX4 1 := ⟨rfl, by decide +kernel, by decide +kernel, by decide +kernel⟩
def f_X4_heatOf (κ : Kp) (a : Int32) : (String × Kp) ⊕ (Int32 × Kp) := match f_X4_needFire κ (a) with | .inl (E, κx) => .inl (E, κx) | .inr p1 => (.inr (κ (p1) 1, κ))
set_option maxRecDepth 100000 in
set_option maxHeartbeats 4000000 in
theorem m_X4_heatOf (l : Launch) (g : Gt) (κ : Kp) (sz : Nat) (a : Int32) (hlst : l.stackTraces = false) : vx_Met l yX4_heatOf (.code yX4_heatOf cX4_heatOf 2 (some .int) :: uW) { frames := 7, cells := 1, slots := 6, locals := 210 } (PRE g κ sz [.ref (g.2.2 (0)), .int (a)]) (va_Qi (fun r κ' => f_X4_heatOf κ a = .inr (r, κ')) (Wp g) (fr g sz)) (xC g sz (fun E κx => f_X4_heatOf κ a = .inl (E, κx) ∧ E ∈ [nIOE])) 1 6 (fr g sz) := by
  refine k_xenter (by decide +kernel) (Nat.le_of_ble_eq_true rfl) ?_
  intro p e s m below meth c ls hM hno hr hl hw hsz
  subst hsz
  have hl : lv_has ls 2 [(0, .ref (g.2.2 (0))), (1, .int (a))] := hl
  have hF := f_X4_heatOf.eq_1 κ a
  refine lv_aload_n hM.x hM.b dX4_heatOf_0 rfl (lv_at hl 0 rfl) ?_
  refine lv_iload_n hM.x hM.b dX4_heatOf_1 rfl (lv_at hl 1 rfl) ?_
  refine k_xe hw (k_runXV [.int (a)] [] hM hw (m_X4_needFire l g κ _ (a) hlst) (hw.dm kd_0 (by decide)) (sh4 kd_0) rfl (k_gV u_ml_X4_30 u_im_X4_needFire u_se_X4_needFire u_ini_X4 u_co_X4_needFire) (q_X4_needFire) rfl rfl rfl ⟨Nat.le_of_ble_eq_true rfl, Nat.le_of_ble_eq_true rfl⟩ hl.1 rfl (Nat.le_of_ble_eq_true rfl) dX4_heatOf_2 ⟨Nat.le_of_ble_eq_true rfl, Nat.le_of_ble_eq_true rfl⟩) (fun E κx ce q9 H locs hx hw h1 h2 h3 => ?_) (fun rz κz H locs hp hw => ?_)
  · simp only [hx.1] at hF
    exact k_xout hM hno hw h1 h2 h3 ⟨hF, (by decide +kernel : ∀ E ∈ [nIOE], E ∈ [nIOE]) E hx.2⟩ (Nat.le_of_ble_eq_true rfl) (Nat.le_of_ble_eq_true rfl)
  · obtain ⟨p1, hrz, hp, hkz⟩ := hp
    rw [hkz] at hw
    rw [hrz]
    simp only [hp] at hF
    have hp1 := kdp_X4_needFire hp
    refine W.eq (g2 := F0 m 5 ls [.ref (g.2.2 (p1))]) rfl ?_
    refine k_get0 1 hM hw hp1 (by decide) u_fl_X4_128 dX4_heatOf_5 ?_
    exact vx_ret (k_iret hM hr hw (Nat.le_of_ble_eq_true rfl) (Nat.le_of_ble_eq_true rfl) hF dX4_heatOf_8)
theorem q_X4_fireOf : hdV yX4_fireOf RX4 1 := ⟨rfl, by decide +kernel, by decide +kernel, by decide +kernel⟩
def f_X4_fireOf (κ : Kp) (a : Int32) : (String × Kp) ⊕ (Int32 × Kp) := match f_X4_needSpit κ (a) with | .inl (E, κx) => .inl (E, κx) | .inr p1 => (.inr (κ (p1) 0, κ))
set_option maxRecDepth 100000 in
set_option maxHeartbeats 4000000 in
theorem m_X4_fireOf (l : Launch) (g : Gt) (κ : Kp) (sz : Nat) (a : Int32) (hlst : l.stackTraces = false) : vx_Met l yX4_fireOf (.code yX4_fireOf cX4_fireOf 2 (some .int) :: uW) { frames := 7, cells := 1, slots := 6, locals := 210 } (PRE g κ sz [.ref (g.2.2 (0)), .int (a)]) (va_Qi (fun r κ' => f_X4_fireOf κ a = .inr (r, κ')) (Wp g) (fr g sz)) (xC g sz (fun E κx => f_X4_fireOf κ a = .inl (E, κx) ∧ E ∈ [nIOE])) 1 6 (fr g sz) := by
  refine k_xenter (by decide +kernel) (Nat.le_of_ble_eq_true rfl) ?_
  intro p e s m below meth c ls hM hno hr hl hw hsz
  subst hsz
  have hl : lv_has ls 2 [(0, .ref (g.2.2 (0))), (1, .int (a))] := hl
  have hF := f_X4_fireOf.eq_1 κ a
  refine lv_aload_n hM.x hM.b dX4_fireOf_0 rfl (lv_at hl 0 rfl) ?_
  refine lv_iload_n hM.x hM.b dX4_fireOf_1 rfl (lv_at hl 1 rfl) ?_
  refine k_xe hw (k_runXV [.int (a)] [] hM hw (m_X4_needSpit l g κ _ (a) hlst) (hw.dm kd_0 (by decide)) (sh4 kd_0) rfl (k_gV u_ml_X4_60 u_im_X4_needSpit u_se_X4_needSpit u_ini_X4 u_co_X4_needSpit) (q_X4_needSpit) rfl rfl rfl ⟨Nat.le_of_ble_eq_true rfl, Nat.le_of_ble_eq_true rfl⟩ hl.1 rfl (Nat.le_of_ble_eq_true rfl) dX4_fireOf_2 ⟨Nat.le_of_ble_eq_true rfl, Nat.le_of_ble_eq_true rfl⟩) (fun E κx ce q9 H locs hx hw h1 h2 h3 => ?_) (fun rz κz H locs hp hw => ?_)
  · simp only [hx.1] at hF
    exact k_xout hM hno hw h1 h2 h3 ⟨hF, (by decide +kernel : ∀ E ∈ [nIOE], E ∈ [nIOE]) E hx.2⟩ (Nat.le_of_ble_eq_true rfl) (Nat.le_of_ble_eq_true rfl)
  · obtain ⟨p1, hrz, hp, hkz⟩ := hp
    rw [hkz] at hw
    rw [hrz]
    simp only [hp] at hF
    have hp1 := kdp_X4_needSpit hp
    refine W.eq (g2 := F0 m 5 ls [.ref (g.2.2 (p1))]) rfl ?_
    refine k_get3 0 hM hw hp1 (by decide) u_fl_X4_134 dX4_fireOf_5 ?_
    exact vx_ret (k_iret hM hr hw (Nat.le_of_ble_eq_true rfl) (Nat.le_of_ble_eq_true rfl) hF dX4_fireOf_8)
theorem q_X4_feetOf : hdV yX4_feetOf RX4 1 := ⟨rfl, by decide +kernel, by decide +kernel, by decide +kernel⟩
def f_X4_feetOf (κ : Kp) (a : Int32) : (String × Kp) ⊕ (Int32 × Kp) := match f_X4_needSpit κ (a) with | .inl (E, κx) => .inl (E, κx) | .inr p1 => (.inr (κ (p1) 1, κ))
set_option maxRecDepth 100000 in
set_option maxHeartbeats 4000000 in
theorem m_X4_feetOf (l : Launch) (g : Gt) (κ : Kp) (sz : Nat) (a : Int32) (hlst : l.stackTraces = false) : vx_Met l yX4_feetOf (.code yX4_feetOf cX4_feetOf 2 (some .int) :: uW) { frames := 7, cells := 1, slots := 6, locals := 210 } (PRE g κ sz [.ref (g.2.2 (0)), .int (a)]) (va_Qi (fun r κ' => f_X4_feetOf κ a = .inr (r, κ')) (Wp g) (fr g sz)) (xC g sz (fun E κx => f_X4_feetOf κ a = .inl (E, κx) ∧ E ∈ [nIOE])) 1 6 (fr g sz) := by
  refine k_xenter (by decide +kernel) (Nat.le_of_ble_eq_true rfl) ?_
  intro p e s m below meth c ls hM hno hr hl hw hsz
  subst hsz
  have hl : lv_has ls 2 [(0, .ref (g.2.2 (0))), (1, .int (a))] := hl
  have hF := f_X4_feetOf.eq_1 κ a
  refine lv_aload_n hM.x hM.b dX4_feetOf_0 rfl (lv_at hl 0 rfl) ?_
  refine lv_iload_n hM.x hM.b dX4_feetOf_1 rfl (lv_at hl 1 rfl) ?_
  refine k_xe hw (k_runXV [.int (a)] [] hM hw (m_X4_needSpit l g κ _ (a) hlst) (hw.dm kd_0 (by decide)) (sh4 kd_0) rfl (k_gV u_ml_X4_60 u_im_X4_needSpit u_se_X4_needSpit u_ini_X4 u_co_X4_needSpit) (q_X4_needSpit) rfl rfl rfl ⟨Nat.le_of_ble_eq_true rfl, Nat.le_of_ble_eq_true rfl⟩ hl.1 rfl (Nat.le_of_ble_eq_true rfl) dX4_feetOf_2 ⟨Nat.le_of_ble_eq_true rfl, Nat.le_of_ble_eq_true rfl⟩) (fun E κx ce q9 H locs hx hw h1 h2 h3 => ?_) (fun rz κz H locs hp hw => ?_)
  · simp only [hx.1] at hF
    exact k_xout hM hno hw h1 h2 h3 ⟨hF, (by decide +kernel : ∀ E ∈ [nIOE], E ∈ [nIOE]) E hx.2⟩ (Nat.le_of_ble_eq_true rfl) (Nat.le_of_ble_eq_true rfl)
  · obtain ⟨p1, hrz, hp, hkz⟩ := hp
    rw [hkz] at hw
    rw [hrz]
    simp only [hp] at hF
    have hp1 := kdp_X4_needSpit hp
    refine W.eq (g2 := F0 m 5 ls [.ref (g.2.2 (p1))]) rfl ?_
    refine k_get3 1 hM hw hp1 (by decide) u_fl_X4_64 dX4_feetOf_5 ?_
    exact vx_ret (k_iret hM hr hw (Nat.le_of_ble_eq_true rfl) (Nat.le_of_ble_eq_true rfl) hF dX4_feetOf_8)
theorem q_X4_glowAt : hdV yX4_glowAt RX4 1 := ⟨rfl, by decide +kernel, by decide +kernel, by decide +kernel⟩
def f_X4_glowAt (κ : Kp) (a : Int32) : (String × Kp) ⊕ (Int32 × Kp) := match f_X4_needSpit κ (a) with | .inl (E, κx) => .inl (E, κx) | .inr p1 => (.inr (f_X1_glowOf κ (1) (p1), κ))
set_option maxRecDepth 100000 in
set_option maxHeartbeats 4000000 in
theorem m_X4_glowAt (l : Launch) (g : Gt) (κ : Kp) (sz : Nat) (a : Int32) (hlst : l.stackTraces = false) : vx_Met l yX4_glowAt (.code yX4_glowAt cX4_glowAt 2 (some .int) :: uW) { frames := 7, cells := 1, slots := 6, locals := 210 } (PRE g κ sz [.ref (g.2.2 (0)), .int (a)]) (va_Qi (fun r κ' => f_X4_glowAt κ a = .inr (r, κ')) (Wp g) (fr g sz)) (xC g sz (fun E κx => f_X4_glowAt κ a = .inl (E, κx) ∧ E ∈ [nIOE])) 1 6 (fr g sz) := by
  refine k_xenter (by decide +kernel) (Nat.le_of_ble_eq_true rfl) ?_
  intro p e s m below meth c ls hM hno hr hl hw hsz
  subst hsz
  have hl : lv_has ls 2 [(0, .ref (g.2.2 (0))), (1, .int (a))] := hl
  have hF := f_X4_glowAt.eq_1 κ a
  refine lv_aload_n hM.x hM.b dX4_glowAt_0 rfl (lv_at hl 0 rfl) ?_
  refine k_get4a hM hw u_fl_X4_10 dX4_glowAt_1 ?_
  refine lv_aload_n hM.x hM.b dX4_glowAt_4 rfl (lv_at hl 0 rfl) ?_
  refine lv_iload_n hM.x hM.b dX4_glowAt_5 rfl (lv_at hl 1 rfl) ?_
  refine k_xe hw (k_runXV [.int (a)] [.ref (g.2.2 (1))] hM hw (m_X4_needSpit l g κ _ (a) hlst) (hw.dm kd_0 (by decide)) (sh4 kd_0) rfl (k_gV u_ml_X4_60 u_im_X4_needSpit u_se_X4_needSpit u_ini_X4 u_co_X4_needSpit) (q_X4_needSpit) rfl rfl rfl ⟨Nat.le_of_ble_eq_true rfl, Nat.le_of_ble_eq_true rfl⟩ hl.1 rfl (Nat.le_of_ble_eq_true rfl) dX4_glowAt_6 ⟨Nat.le_of_ble_eq_true rfl, Nat.le_of_ble_eq_true rfl⟩) (fun E κx ce q9 H locs hx hw h1 h2 h3 => ?_) (fun rz κz H locs hp hw => ?_)
  · simp only [hx.1] at hF
    exact k_xout hM hno hw h1 h2 h3 ⟨hF, (by decide +kernel : ∀ E ∈ [nIOE], E ∈ [nIOE]) E hx.2⟩ (Nat.le_of_ble_eq_true rfl) (Nat.le_of_ble_eq_true rfl)
  · obtain ⟨p1, hrz, hp, hkz⟩ := hp
    rw [hkz] at hw
    rw [hrz]
    simp only [hp] at hF
    have hp1 := kdp_X4_needSpit hp
    refine W.eq (g2 := F0 m 9 ls [.ref (g.2.2 (p1)), .ref (g.2.2 (1))]) rfl ?_
    refine k_cip hw (k_runV [.ref (g.2.2 (p1))] [] hM hw (m_X1_glowOf l g κ _ (1) (p1) (kd_1) (hp1)) (hw.dm kd_1 (by decide)) (sh1 kd_1) rfl (k_gV u_ml_X4_137 u_im_X1_glowOf u_se_X1_glowOf u_ini_X1 u_co_X1_glowOf) (q_X1_glowOf) rfl rfl rfl ⟨Nat.le_of_ble_eq_true rfl, Nat.le_of_ble_eq_true rfl⟩ hl.1 rfl (Nat.le_of_ble_eq_true rfl) dX4_glowAt_9 ⟨Nat.le_of_ble_eq_true rfl, Nat.le_of_ble_eq_true rfl⟩) (fun H locs hw => ?_)
    exact vx_ret (k_iret hM hr hw (Nat.le_of_ble_eq_true rfl) (Nat.le_of_ble_eq_true rfl) hF dX4_glowAt_12)
theorem q_X4_turnedEach : hdV yX4_turnedEach RX4 1 := ⟨rfl, by decide +kernel, by decide +kernel, by decide +kernel⟩
def f_X4_turnedEach (κ : Kp) (a : Int32) : (String × Kp) ⊕ (Int32 × Kp) := match f_X4_needSpit κ (a) with | .inl (E, κx) => .inl (E, κx) | .inr p1 => (.inr (κ (p1) 2, κ))
set_option maxRecDepth 100000 in
set_option maxHeartbeats 4000000 in
theorem m_X4_turnedEach (l : Launch) (g : Gt) (κ : Kp) (sz : Nat) (a : Int32) (hlst : l.stackTraces = false) : vx_Met l yX4_turnedEach (.code yX4_turnedEach cX4_turnedEach 2 (some .int) :: uW) { frames := 7, cells := 1, slots := 6, locals := 210 } (PRE g κ sz [.ref (g.2.2 (0)), .int (a)]) (va_Qi (fun r κ' => f_X4_turnedEach κ a = .inr (r, κ')) (Wp g) (fr g sz)) (xC g sz (fun E κx => f_X4_turnedEach κ a = .inl (E, κx) ∧ E ∈ [nIOE])) 1 6 (fr g sz) := by
  refine k_xenter (by decide +kernel) (Nat.le_of_ble_eq_true rfl) ?_
  intro p e s m below meth c ls hM hno hr hl hw hsz
  subst hsz
  have hl : lv_has ls 2 [(0, .ref (g.2.2 (0))), (1, .int (a))] := hl
  have hF := f_X4_turnedEach.eq_1 κ a
  refine lv_aload_n hM.x hM.b dX4_turnedEach_0 rfl (lv_at hl 0 rfl) ?_
  refine lv_iload_n hM.x hM.b dX4_turnedEach_1 rfl (lv_at hl 1 rfl) ?_
  refine k_xe hw (k_runXV [.int (a)] [] hM hw (m_X4_needSpit l g κ _ (a) hlst) (hw.dm kd_0 (by decide)) (sh4 kd_0) rfl (k_gV u_ml_X4_60 u_im_X4_needSpit u_se_X4_needSpit u_ini_X4 u_co_X4_needSpit) (q_X4_needSpit) rfl rfl rfl ⟨Nat.le_of_ble_eq_true rfl, Nat.le_of_ble_eq_true rfl⟩ hl.1 rfl (Nat.le_of_ble_eq_true rfl) dX4_turnedEach_2 ⟨Nat.le_of_ble_eq_true rfl, Nat.le_of_ble_eq_true rfl⟩) (fun E κx ce q9 H locs hx hw h1 h2 h3 => ?_) (fun rz κz H locs hp hw => ?_)
  · simp only [hx.1] at hF
    exact k_xout hM hno hw h1 h2 h3 ⟨hF, (by decide +kernel : ∀ E ∈ [nIOE], E ∈ [nIOE]) E hx.2⟩ (Nat.le_of_ble_eq_true rfl) (Nat.le_of_ble_eq_true rfl)
  · obtain ⟨p1, hrz, hp, hkz⟩ := hp
    rw [hkz] at hw
    rw [hrz]
    simp only [hp] at hF
    have hp1 := kdp_X4_needSpit hp
    refine W.eq (g2 := F0 m 5 ls [.ref (g.2.2 (p1))]) rfl ?_
    refine k_get3 2 hM hw hp1 (by decide) u_fl_X4_71 dX4_turnedEach_5 ?_
    exact vx_ret (k_iret hM hr hw (Nat.le_of_ble_eq_true rfl) (Nat.le_of_ble_eq_true rfl) hF dX4_turnedEach_8)
theorem q_X4_drippingsOf : hdV yX4_drippingsOf RX4 1 := ⟨rfl, by decide +kernel, by decide +kernel, by decide +kernel⟩
def f_X4_drippingsOf (κ : Kp) (a : Int32) : (String × Kp) ⊕ (Int32 × Kp) := match f_X4_needSpit κ (a) with | .inl (E, κx) => .inl (E, κx) | .inr p1 => (.inr (κ (p1) 4, κ))
set_option maxRecDepth 100000 in
set_option maxHeartbeats 4000000 in
theorem m_X4_drippingsOf (l : Launch) (g : Gt) (κ : Kp) (sz : Nat) (a : Int32) (hlst : l.stackTraces = false) : vx_Met l yX4_drippingsOf (.code yX4_drippingsOf cX4_drippingsOf 2 (some .int) :: uW) { frames := 7, cells := 1, slots := 6, locals := 210 } (PRE g κ sz [.ref (g.2.2 (0)), .int (a)]) (va_Qi (fun r κ' => f_X4_drippingsOf κ a = .inr (r, κ')) (Wp g) (fr g sz)) (xC g sz (fun E κx => f_X4_drippingsOf κ a = .inl (E, κx) ∧ E ∈ [nIOE])) 1 6 (fr g sz) := by
  refine k_xenter (by decide +kernel) (Nat.le_of_ble_eq_true rfl) ?_
  intro p e s m below meth c ls hM hno hr hl hw hsz
  subst hsz
  have hl : lv_has ls 2 [(0, .ref (g.2.2 (0))), (1, .int (a))] := hl
  have hF := f_X4_drippingsOf.eq_1 κ a
  refine lv_aload_n hM.x hM.b dX4_drippingsOf_0 rfl (lv_at hl 0 rfl) ?_
  refine lv_iload_n hM.x hM.b dX4_drippingsOf_1 rfl (lv_at hl 1 rfl) ?_
  refine k_xe hw (k_runXV [.int (a)] [] hM hw (m_X4_needSpit l g κ _ (a) hlst) (hw.dm kd_0 (by decide)) (sh4 kd_0) rfl (k_gV u_ml_X4_60 u_im_X4_needSpit u_se_X4_needSpit u_ini_X4 u_co_X4_needSpit) (q_X4_needSpit) rfl rfl rfl ⟨Nat.le_of_ble_eq_true rfl, Nat.le_of_ble_eq_true rfl⟩ hl.1 rfl (Nat.le_of_ble_eq_true rfl) dX4_drippingsOf_2 ⟨Nat.le_of_ble_eq_true rfl, Nat.le_of_ble_eq_true rfl⟩) (fun E κx ce q9 H locs hx hw h1 h2 h3 => ?_) (fun rz κz H locs hp hw => ?_)
  · simp only [hx.1] at hF
    exact k_xout hM hno hw h1 h2 h3 ⟨hF, (by decide +kernel : ∀ E ∈ [nIOE], E ∈ [nIOE]) E hx.2⟩ (Nat.le_of_ble_eq_true rfl) (Nat.le_of_ble_eq_true rfl)
  · obtain ⟨p1, hrz, hp, hkz⟩ := hp
    rw [hkz] at hw
    rw [hrz]
    simp only [hp] at hF
    have hp1 := kdp_X4_needSpit hp
    refine W.eq (g2 := F0 m 5 ls [.ref (g.2.2 (p1))]) rfl ?_
    refine k_get3 4 hM hw hp1 (by decide) u_fl_X4_102 dX4_drippingsOf_5 ?_
    exact vx_ret (k_iret hM hr hw (Nat.le_of_ble_eq_true rfl) (Nat.le_of_ble_eq_true rfl) hF dX4_drippingsOf_8)
theorem q_X4_roastOn : hdV yX4_roastOn RX4 1 := ⟨rfl, by decide +kernel, by decide +kernel, by decide +kernel⟩
def f_X4_roastOn (κ : Kp) (a : Int32) : (String × Kp) ⊕ (Int32 × Kp) := match f_X4_needSpit κ (a) with | .inl (E, κx) => .inl (E, κx) | .inr p1 => (.inr (κ (p1) 5, κ))
set_option maxRecDepth 100000 in
set_option maxHeartbeats 4000000 in
theorem m_X4_roastOn (l : Launch) (g : Gt) (κ : Kp) (sz : Nat) (a : Int32) (hlst : l.stackTraces = false) : vx_Met l yX4_roastOn (.code yX4_roastOn cX4_roastOn 2 (some .int) :: uW) { frames := 7, cells := 1, slots := 6, locals := 210 } (PRE g κ sz [.ref (g.2.2 (0)), .int (a)]) (va_Qi (fun r κ' => f_X4_roastOn κ a = .inr (r, κ')) (Wp g) (fr g sz)) (xC g sz (fun E κx => f_X4_roastOn κ a = .inl (E, κx) ∧ E ∈ [nIOE])) 1 6 (fr g sz) := by
  refine k_xenter (by decide +kernel) (Nat.le_of_ble_eq_true rfl) ?_
  intro p e s m below meth c ls hM hno hr hl hw hsz
  subst hsz
  have hl : lv_has ls 2 [(0, .ref (g.2.2 (0))), (1, .int (a))] := hl
  have hF := f_X4_roastOn.eq_1 κ a
  refine lv_aload_n hM.x hM.b dX4_roastOn_0 rfl (lv_at hl 0 rfl) ?_
  refine lv_iload_n hM.x hM.b dX4_roastOn_1 rfl (lv_at hl 1 rfl) ?_
  refine k_xe hw (k_runXV [.int (a)] [] hM hw (m_X4_needSpit l g κ _ (a) hlst) (hw.dm kd_0 (by decide)) (sh4 kd_0) rfl (k_gV u_ml_X4_60 u_im_X4_needSpit u_se_X4_needSpit u_ini_X4 u_co_X4_needSpit) (q_X4_needSpit) rfl rfl rfl ⟨Nat.le_of_ble_eq_true rfl, Nat.le_of_ble_eq_true rfl⟩ hl.1 rfl (Nat.le_of_ble_eq_true rfl) dX4_roastOn_2 ⟨Nat.le_of_ble_eq_true rfl, Nat.le_of_ble_eq_true rfl⟩) (fun E κx ce q9 H locs hx hw h1 h2 h3 => ?_) (fun rz κz H locs hp hw => ?_)
  · simp only [hx.1] at hF
    exact k_xout hM hno hw h1 h2 h3 ⟨hF, (by decide +kernel : ∀ E ∈ [nIOE], E ∈ [nIOE]) E hx.2⟩ (Nat.le_of_ble_eq_true rfl) (Nat.le_of_ble_eq_true rfl)
  · obtain ⟨p1, hrz, hp, hkz⟩ := hp
    rw [hkz] at hw
    rw [hrz]
    simp only [hp] at hF
    have hp1 := kdp_X4_needSpit hp
    refine W.eq (g2 := F0 m 5 ls [.ref (g.2.2 (p1))]) rfl ?_
    refine k_get3 5 hM hw hp1 (by decide) u_fl_X4_110 dX4_roastOn_5 ?_
    exact vx_ret (k_iret hM hr hw (Nat.le_of_ble_eq_true rfl) (Nat.le_of_ble_eq_true rfl) hF dX4_roastOn_8)
theorem q_X4_poundsOf : hdV yX4_poundsOf RX4 1 := ⟨rfl, by decide +kernel, by decide +kernel, by decide +kernel⟩
def f_X4_poundsOf (κ : Kp) (a : Int32) : (String × Kp) ⊕ (Int32 × Kp) := match f_X4_needRoast κ (a) with | .inl (E, κx) => .inl (E, κx) | .inr p1 => (.inr (κ (p1) 1, κ))
set_option maxRecDepth 100000 in
set_option maxHeartbeats 4000000 in
theorem m_X4_poundsOf (l : Launch) (g : Gt) (κ : Kp) (sz : Nat) (a : Int32) (hlst : l.stackTraces = false) : vx_Met l yX4_poundsOf (.code yX4_poundsOf cX4_poundsOf 2 (some .int) :: uW) { frames := 7, cells := 1, slots := 6, locals := 210 } (PRE g κ sz [.ref (g.2.2 (0)), .int (a)]) (va_Qi (fun r κ' => f_X4_poundsOf κ a = .inr (r, κ')) (Wp g) (fr g sz)) (xC g sz (fun E κx => f_X4_poundsOf κ a = .inl (E, κx) ∧ E ∈ [nIOE])) 1 6 (fr g sz) := by
  refine k_xenter (by decide +kernel) (Nat.le_of_ble_eq_true rfl) ?_
  intro p e s m below meth c ls hM hno hr hl hw hsz
  subst hsz
  have hl : lv_has ls 2 [(0, .ref (g.2.2 (0))), (1, .int (a))] := hl
  have hF := f_X4_poundsOf.eq_1 κ a
  refine lv_aload_n hM.x hM.b dX4_poundsOf_0 rfl (lv_at hl 0 rfl) ?_
  refine lv_iload_n hM.x hM.b dX4_poundsOf_1 rfl (lv_at hl 1 rfl) ?_
  refine k_xe hw (k_runXV [.int (a)] [] hM hw (m_X4_needRoast l g κ _ (a) hlst) (hw.dm kd_0 (by decide)) (sh4 kd_0) rfl (k_gV u_ml_X4_144 u_im_X4_needRoast u_se_X4_needRoast u_ini_X4 u_co_X4_needRoast) (q_X4_needRoast) rfl rfl rfl ⟨Nat.le_of_ble_eq_true rfl, Nat.le_of_ble_eq_true rfl⟩ hl.1 rfl (Nat.le_of_ble_eq_true rfl) dX4_poundsOf_2 ⟨Nat.le_of_ble_eq_true rfl, Nat.le_of_ble_eq_true rfl⟩) (fun E κx ce q9 H locs hx hw h1 h2 h3 => ?_) (fun rz κz H locs hp hw => ?_)
  · simp only [hx.1] at hF
    exact k_xout hM hno hw h1 h2 h3 ⟨hF, (by decide +kernel : ∀ E ∈ [nIOE], E ∈ [nIOE]) E hx.2⟩ (Nat.le_of_ble_eq_true rfl) (Nat.le_of_ble_eq_true rfl)
  · obtain ⟨p1, hrz, hp, hkz⟩ := hp
    rw [hkz] at hw
    rw [hrz]
    simp only [hp] at hF
    have hp1 := kdp_X4_needRoast hp
    refine W.eq (g2 := F0 m 5 ls [.ref (g.2.2 (p1))]) rfl ?_
    refine k_get2 1 hM hw hp1 (by decide) u_fl_X4_148 dX4_poundsOf_5 ?_
    exact vx_ret (k_iret hM hr hw (Nat.le_of_ble_eq_true rfl) (Nat.le_of_ble_eq_true rfl) hF dX4_poundsOf_8)
theorem q_X4_spitOf : hdV yX4_spitOf RX4 1 := ⟨rfl, by decide +kernel, by decide +kernel, by decide +kernel⟩
def f_X4_spitOf (κ : Kp) (a : Int32) : (String × Kp) ⊕ (Int32 × Kp) := match f_X4_needRoast κ (a) with | .inl (E, κx) => .inl (E, κx) | .inr p1 => (.inr (κ (p1) 2, κ))
set_option maxRecDepth 100000 in
set_option maxHeartbeats 4000000 in
theorem m_X4_spitOf (l : Launch) (g : Gt) (κ : Kp) (sz : Nat) (a : Int32) (hlst : l.stackTraces = false) : vx_Met l yX4_spitOf (.code yX4_spitOf cX4_spitOf 2 (some .int) :: uW) { frames := 7, cells := 1, slots := 6, locals := 210 } (PRE g κ sz [.ref (g.2.2 (0)), .int (a)]) (va_Qi (fun r κ' => f_X4_spitOf κ a = .inr (r, κ')) (Wp g) (fr g sz)) (xC g sz (fun E κx => f_X4_spitOf κ a = .inl (E, κx) ∧ E ∈ [nIOE])) 1 6 (fr g sz) := by
  refine k_xenter (by decide +kernel) (Nat.le_of_ble_eq_true rfl) ?_
  intro p e s m below meth c ls hM hno hr hl hw hsz
  subst hsz
  have hl : lv_has ls 2 [(0, .ref (g.2.2 (0))), (1, .int (a))] := hl
  have hF := f_X4_spitOf.eq_1 κ a
  refine lv_aload_n hM.x hM.b dX4_spitOf_0 rfl (lv_at hl 0 rfl) ?_
  refine lv_iload_n hM.x hM.b dX4_spitOf_1 rfl (lv_at hl 1 rfl) ?_
  refine k_xe hw (k_runXV [.int (a)] [] hM hw (m_X4_needRoast l g κ _ (a) hlst) (hw.dm kd_0 (by decide)) (sh4 kd_0) rfl (k_gV u_ml_X4_144 u_im_X4_needRoast u_se_X4_needRoast u_ini_X4 u_co_X4_needRoast) (q_X4_needRoast) rfl rfl rfl ⟨Nat.le_of_ble_eq_true rfl, Nat.le_of_ble_eq_true rfl⟩ hl.1 rfl (Nat.le_of_ble_eq_true rfl) dX4_spitOf_2 ⟨Nat.le_of_ble_eq_true rfl, Nat.le_of_ble_eq_true rfl⟩) (fun E κx ce q9 H locs hx hw h1 h2 h3 => ?_) (fun rz κz H locs hp hw => ?_)
  · simp only [hx.1] at hF
    exact k_xout hM hno hw h1 h2 h3 ⟨hF, (by decide +kernel : ∀ E ∈ [nIOE], E ∈ [nIOE]) E hx.2⟩ (Nat.le_of_ble_eq_true rfl) (Nat.le_of_ble_eq_true rfl)
  · obtain ⟨p1, hrz, hp, hkz⟩ := hp
    rw [hkz] at hw
    rw [hrz]
    simp only [hp] at hF
    have hp1 := kdp_X4_needRoast hp
    refine W.eq (g2 := F0 m 5 ls [.ref (g.2.2 (p1))]) rfl ?_
    refine k_get2 2 hM hw hp1 (by decide) u_fl_X4_113 dX4_spitOf_5 ?_
    exact vx_ret (k_iret hM hr hw (Nat.le_of_ble_eq_true rfl) (Nat.le_of_ble_eq_true rfl) hF dX4_spitOf_8)
theorem q_X4_sideToFire : hdV yX4_sideToFire RX4 1 := ⟨rfl, by decide +kernel, by decide +kernel, by decide +kernel⟩
def f_X4_sideToFire (κ : Kp) (a : Int32) : (String × Kp) ⊕ (Int32 × Kp) := match f_X4_needRoast κ (a) with | .inl (E, κx) => .inl (E, κx) | .inr p1 => (.inr (κ (p1) 3, κ))
set_option maxRecDepth 100000 in
set_option maxHeartbeats 4000000 in
theorem m_X4_sideToFire (l : Launch) (g : Gt) (κ : Kp) (sz : Nat) (a : Int32) (hlst : l.stackTraces = false) : vx_Met l yX4_sideToFire (.code yX4_sideToFire cX4_sideToFire 2 (some .int) :: uW) { frames := 7, cells := 1, slots := 6, locals := 210 } (PRE g κ sz [.ref (g.2.2 (0)), .int (a)]) (va_Qi (fun r κ' => f_X4_sideToFire κ a = .inr (r, κ')) (Wp g) (fr g sz)) (xC g sz (fun E κx => f_X4_sideToFire κ a = .inl (E, κx) ∧ E ∈ [nIOE])) 1 6 (fr g sz) := by
  refine k_xenter (by decide +kernel) (Nat.le_of_ble_eq_true rfl) ?_
  intro p e s m below meth c ls hM hno hr hl hw hsz
  subst hsz
  have hl : lv_has ls 2 [(0, .ref (g.2.2 (0))), (1, .int (a))] := hl
  have hF := f_X4_sideToFire.eq_1 κ a
  refine lv_aload_n hM.x hM.b dX4_sideToFire_0 rfl (lv_at hl 0 rfl) ?_
  refine lv_iload_n hM.x hM.b dX4_sideToFire_1 rfl (lv_at hl 1 rfl) ?_
  refine k_xe hw (k_runXV [.int (a)] [] hM hw (m_X4_needRoast l g κ _ (a) hlst) (hw.dm kd_0 (by decide)) (sh4 kd_0) rfl (k_gV u_ml_X4_144 u_im_X4_needRoast u_se_X4_needRoast u_ini_X4 u_co_X4_needRoast) (q_X4_needRoast) rfl rfl rfl ⟨Nat.le_of_ble_eq_true rfl, Nat.le_of_ble_eq_true rfl⟩ hl.1 rfl (Nat.le_of_ble_eq_true rfl) dX4_sideToFire_2 ⟨Nat.le_of_ble_eq_true rfl, Nat.le_of_ble_eq_true rfl⟩) (fun E κx ce q9 H locs hx hw h1 h2 h3 => ?_) (fun rz κz H locs hp hw => ?_)
  · simp only [hx.1] at hF
    exact k_xout hM hno hw h1 h2 h3 ⟨hF, (by decide +kernel : ∀ E ∈ [nIOE], E ∈ [nIOE]) E hx.2⟩ (Nat.le_of_ble_eq_true rfl) (Nat.le_of_ble_eq_true rfl)
  · obtain ⟨p1, hrz, hp, hkz⟩ := hp
    rw [hkz] at hw
    rw [hrz]
    simp only [hp] at hF
    have hp1 := kdp_X4_needRoast hp
    refine W.eq (g2 := F0 m 5 ls [.ref (g.2.2 (p1))]) rfl ?_
    refine k_get2 3 hM hw hp1 (by decide) u_fl_X4_99 dX4_sideToFire_5 ?_
    exact vx_ret (k_iret hM hr hw (Nat.le_of_ble_eq_true rfl) (Nat.le_of_ble_eq_true rfl) hF dX4_sideToFire_8)
theorem q_X4_fatOf : hdV yX4_fatOf RX4 1 := ⟨rfl, by decide +kernel, by decide +kernel, by decide +kernel⟩
def f_X4_fatOf (κ : Kp) (a : Int32) : (String × Kp) ⊕ (Int32 × Kp) := match f_X4_needRoast κ (a) with | .inl (E, κx) => .inl (E, κx) | .inr p1 => (.inr (κ (p1) 4, κ))
set_option maxRecDepth 100000 in
set_option maxHeartbeats 4000000 in
theorem m_X4_fatOf (l : Launch) (g : Gt) (κ : Kp) (sz : Nat) (a : Int32) (hlst : l.stackTraces = false) : vx_Met l yX4_fatOf (.code yX4_fatOf cX4_fatOf 2 (some .int) :: uW) { frames := 7, cells := 1, slots := 6, locals := 210 } (PRE g κ sz [.ref (g.2.2 (0)), .int (a)]) (va_Qi (fun r κ' => f_X4_fatOf κ a = .inr (r, κ')) (Wp g) (fr g sz)) (xC g sz (fun E κx => f_X4_fatOf κ a = .inl (E, κx) ∧ E ∈ [nIOE])) 1 6 (fr g sz) := by
  refine k_xenter (by decide +kernel) (Nat.le_of_ble_eq_true rfl) ?_
  intro p e s m below meth c ls hM hno hr hl hw hsz
  subst hsz
  have hl : lv_has ls 2 [(0, .ref (g.2.2 (0))), (1, .int (a))] := hl
  have hF := f_X4_fatOf.eq_1 κ a
  refine lv_aload_n hM.x hM.b dX4_fatOf_0 rfl (lv_at hl 0 rfl) ?_
  refine lv_iload_n hM.x hM.b dX4_fatOf_1 rfl (lv_at hl 1 rfl) ?_
  refine k_xe hw (k_runXV [.int (a)] [] hM hw (m_X4_needRoast l g κ _ (a) hlst) (hw.dm kd_0 (by decide)) (sh4 kd_0) rfl (k_gV u_ml_X4_144 u_im_X4_needRoast u_se_X4_needRoast u_ini_X4 u_co_X4_needRoast) (q_X4_needRoast) rfl rfl rfl ⟨Nat.le_of_ble_eq_true rfl, Nat.le_of_ble_eq_true rfl⟩ hl.1 rfl (Nat.le_of_ble_eq_true rfl) dX4_fatOf_2 ⟨Nat.le_of_ble_eq_true rfl, Nat.le_of_ble_eq_true rfl⟩) (fun E κx ce q9 H locs hx hw h1 h2 h3 => ?_) (fun rz κz H locs hp hw => ?_)
  · simp only [hx.1] at hF
    exact k_xout hM hno hw h1 h2 h3 ⟨hF, (by decide +kernel : ∀ E ∈ [nIOE], E ∈ [nIOE]) E hx.2⟩ (Nat.le_of_ble_eq_true rfl) (Nat.le_of_ble_eq_true rfl)
  · obtain ⟨p1, hrz, hp, hkz⟩ := hp
    rw [hkz] at hw
    rw [hrz]
    simp only [hp] at hF
    have hp1 := kdp_X4_needRoast hp
    refine W.eq (g2 := F0 m 5 ls [.ref (g.2.2 (p1))]) rfl ?_
    refine k_get2 4 hM hw hp1 (by decide) u_fl_X4_160 dX4_fatOf_5 ?_
    exact vx_ret (k_iret hM hr hw (Nat.le_of_ble_eq_true rfl) (Nat.le_of_ble_eq_true rfl) hF dX4_fatOf_8)
theorem q_X4_wetFor : hdV yX4_wetFor RX4 1 := ⟨rfl, by decide +kernel, by decide +kernel, by decide +kernel⟩
def f_X4_wetFor (κ : Kp) (a : Int32) : (String × Kp) ⊕ (Int32 × Kp) := match f_X4_needRoast κ (a) with | .inl (E, κx) => .inl (E, κx) | .inr p1 => (.inr (κ (p1) 5, κ))
set_option maxRecDepth 100000 in
set_option maxHeartbeats 4000000 in
theorem m_X4_wetFor (l : Launch) (g : Gt) (κ : Kp) (sz : Nat) (a : Int32) (hlst : l.stackTraces = false) : vx_Met l yX4_wetFor (.code yX4_wetFor cX4_wetFor 2 (some .int) :: uW) { frames := 7, cells := 1, slots := 6, locals := 210 } (PRE g κ sz [.ref (g.2.2 (0)), .int (a)]) (va_Qi (fun r κ' => f_X4_wetFor κ a = .inr (r, κ')) (Wp g) (fr g sz)) (xC g sz (fun E κx => f_X4_wetFor κ a = .inl (E, κx) ∧ E ∈ [nIOE])) 1 6 (fr g sz) := by
  refine k_xenter (by decide +kernel) (Nat.le_of_ble_eq_true rfl) ?_
  intro p e s m below meth c ls hM hno hr hl hw hsz
  subst hsz
  have hl : lv_has ls 2 [(0, .ref (g.2.2 (0))), (1, .int (a))] := hl
  have hF := f_X4_wetFor.eq_1 κ a
  refine lv_aload_n hM.x hM.b dX4_wetFor_0 rfl (lv_at hl 0 rfl) ?_
  refine lv_iload_n hM.x hM.b dX4_wetFor_1 rfl (lv_at hl 1 rfl) ?_
  refine k_xe hw (k_runXV [.int (a)] [] hM hw (m_X4_needRoast l g κ _ (a) hlst) (hw.dm kd_0 (by decide)) (sh4 kd_0) rfl (k_gV u_ml_X4_144 u_im_X4_needRoast u_se_X4_needRoast u_ini_X4 u_co_X4_needRoast) (q_X4_needRoast) rfl rfl rfl ⟨Nat.le_of_ble_eq_true rfl, Nat.le_of_ble_eq_true rfl⟩ hl.1 rfl (Nat.le_of_ble_eq_true rfl) dX4_wetFor_2 ⟨Nat.le_of_ble_eq_true rfl, Nat.le_of_ble_eq_true rfl⟩) (fun E κx ce q9 H locs hx hw h1 h2 h3 => ?_) (fun rz κz H locs hp hw => ?_)
  · simp only [hx.1] at hF
    exact k_xout hM hno hw h1 h2 h3 ⟨hF, (by decide +kernel : ∀ E ∈ [nIOE], E ∈ [nIOE]) E hx.2⟩ (Nat.le_of_ble_eq_true rfl) (Nat.le_of_ble_eq_true rfl)
  · obtain ⟨p1, hrz, hp, hkz⟩ := hp
    rw [hkz] at hw
    rw [hrz]
    simp only [hp] at hF
    have hp1 := kdp_X4_needRoast hp
    refine W.eq (g2 := F0 m 5 ls [.ref (g.2.2 (p1))]) rfl ?_
    refine k_get2 5 hM hw hp1 (by decide) u_fl_X4_107 dX4_wetFor_5 ?_
    exact vx_ret (k_iret hM hr hw (Nat.le_of_ble_eq_true rfl) (Nat.le_of_ble_eq_true rfl) hF dX4_wetFor_8)
theorem q_X4_brownOf : hdV yX4_brownOf RX4 2 := ⟨rfl, by decide +kernel, by decide +kernel, by decide +kernel⟩
def f_X4_brownOf (κ : Kp) (a : Int32) (b : Int32) : (String × Kp) ⊕ (Int32 × Kp) := match f_X4_needRoast κ (a) with | .inl (E, κx) => .inl (E, κx) | .inr p1 => (if (b) < 0 then (.inl (nIOE, κ)) else (if (b) < (4) then (.inr (κ (p1 + 1) (b).toNatClampNeg, κ)) else (.inl (nIOE, κ))))
set_option maxRecDepth 100000 in
set_option maxHeartbeats 4000000 in
theorem m_X4_brownOf (l : Launch) (g : Gt) (κ : Kp) (sz : Nat) (a : Int32) (b : Int32) (hlst : l.stackTraces = false) : vx_Met l yX4_brownOf (.code yX4_brownOf cX4_brownOf 4 (some .int) :: uW) { frames := 7, cells := 2, slots := 12, locals := 210 } (PRE g κ sz [.ref (g.2.2 (0)), .int (a), .int (b)]) (va_Qi (fun r κ' => f_X4_brownOf κ a b = .inr (r, κ')) (Wp g) (fr g sz)) (xC g sz (fun E κx => f_X4_brownOf κ a b = .inl (E, κx) ∧ E ∈ [nIOE])) 2 12 (fr g sz) := by
  refine k_xenter (by decide +kernel) (Nat.le_of_ble_eq_true rfl) ?_
  intro p e s m below meth c ls hM hno hr hl hw hsz
  subst hsz
  have hl : lv_has ls 4 [(0, .ref (g.2.2 (0))), (1, .int (a)), (2, .int (b))] := hl
  have hF := f_X4_brownOf.eq_1 κ a b
  refine lv_aload_n hM.x hM.b dX4_brownOf_0 rfl (lv_at hl 0 rfl) ?_
  refine lv_iload_n hM.x hM.b dX4_brownOf_1 rfl (lv_at hl 1 rfl) ?_
  refine k_xe hw (k_runXV [.int (a)] [] hM hw (m_X4_needRoast l g κ _ (a) hlst) (hw.dm kd_0 (by decide)) (sh4 kd_0) rfl (k_gV u_ml_X4_144 u_im_X4_needRoast u_se_X4_needRoast u_ini_X4 u_co_X4_needRoast) (q_X4_needRoast) rfl rfl rfl ⟨Nat.le_of_ble_eq_true rfl, Nat.le_of_ble_eq_true rfl⟩ hl.1 rfl (Nat.le_of_ble_eq_true rfl) dX4_brownOf_2 ⟨Nat.le_of_ble_eq_true rfl, Nat.le_of_ble_eq_true rfl⟩) (fun E κx ce q9 H locs hx hw h1 h2 h3 => ?_) (fun rz κz H locs hp hw => ?_)
  · simp only [hx.1] at hF
    exact k_xout hM hno hw h1 h2 h3 ⟨hF, (by decide +kernel : ∀ E ∈ [nIOE], E ∈ [nIOE]) E hx.2⟩ (Nat.le_of_ble_eq_true rfl) (Nat.le_of_ble_eq_true rfl)
  · obtain ⟨p1, hrz, hp, hkz⟩ := hp
    rw [hkz] at hw
    rw [hrz]
    simp only [hp] at hF
    have hp1 := kdp_X4_needRoast hp
    refine W.eq (g2 := F0 m 5 ls [.ref (g.2.2 (p1))]) rfl ?_
    refine lv_astore_n (lv' := [(3, .ref (g.2.2 (p1))), (0, .ref (g.2.2 (0))), (1, .int (a)), (2, .int (b))]) hM.x hM.b dX4_brownOf_5 rfl hl (by decide) rfl (fun ls hl => ?_)
    refine lv_iload_n hM.x hM.b dX4_brownOf_6 rfl (lv_at hl 3 rfl) ?_
    refine lv_if_lt (tgt := 19) hM.x hM.b dX4_brownOf_7 (by decide) (fun c1 => ?_) (fun c1 => ?_)
    · rw [if_pos c1] at hF
      exact k_throw (cls := nIOE) (text := "side is not 0 to 3") (is := 157) hlst hM hno hw (by decide +kernel) u_cl_X4_155 u_ini_JI (by decide +kernel) xIOE1 xIOE2 xIOE3 hl.1 dX4_brownOf_19 dX4_brownOf_22 dX4_brownOf_23 dX4_brownOf_25 dX4_brownOf_28 (Nat.le_of_ble_eq_true rfl) (Nat.le_of_ble_eq_true rfl) (Nat.le_of_ble_eq_true rfl) (Nat.le_of_ble_eq_true rfl) ⟨hF, by decide +kernel⟩ (Nat.le_of_ble_eq_true rfl) (Nat.le_of_ble_eq_true rfl)
    · rw [if_neg c1] at hF
      refine lv_iload_n hM.x hM.b dX4_brownOf_10 rfl (lv_at hl 3 rfl) ?_
      refine lv_aload_n hM.x hM.b dX4_brownOf_11 rfl (lv_at hl 0 rfl) ?_
      refine k_get2r hM hw hp1 u_fl_X4_151 dX4_brownOf_12 ?_
      refine k_alen (v := 4) hM hw (hw.dm (kd2_6 hp1) (by decide)) 0 (sh6 (kd2_6 hp1)) rfl rfl dX4_brownOf_15 ?_
      refine lv_icmp_lt (tgt := 29) hM.x hM.b dX4_brownOf_16 (by decide) (fun c2 => ?_) (fun c2 => ?_)
      · rw [if_pos c2] at hF
        refine lv_aload_n hM.x hM.b dX4_brownOf_29 rfl (lv_at hl 0 rfl) ?_
        refine k_get2r hM hw hp1 u_fl_X4_151 dX4_brownOf_30 ?_
        refine lv_iload_n hM.x hM.b dX4_brownOf_33 rfl (lv_at hl 3 rfl) ?_
        refine k_iald (n := 4) hM hw (hw.dm (kd2_6 hp1) (by decide)) (sh6 (kd2_6 hp1)) (vpin2 (M := 4) (n := 4) rfl c1 c2) dX4_brownOf_34 ?_
        exact vx_ret (k_iret hM hr hw (Nat.le_of_ble_eq_true rfl) (Nat.le_of_ble_eq_true rfl) hF dX4_brownOf_35)
      · rw [if_neg c2] at hF
        exact k_throw (cls := nIOE) (text := "side is not 0 to 3") (is := 157) hlst hM hno hw (by decide +kernel) u_cl_X4_155 u_ini_JI (by decide +kernel) xIOE1 xIOE2 xIOE3 hl.1 dX4_brownOf_19 dX4_brownOf_22 dX4_brownOf_23 dX4_brownOf_25 dX4_brownOf_28 (Nat.le_of_ble_eq_true rfl) (Nat.le_of_ble_eq_true rfl) (Nat.le_of_ble_eq_true rfl) (Nat.le_of_ble_eq_true rfl) ⟨hF, by decide +kernel⟩ (Nat.le_of_ble_eq_true rfl) (Nat.le_of_ble_eq_true rfl)
theorem q_X4_isDone : hdV yX4_isDone RX4 1 := ⟨rfl, by decide +kernel, by decide +kernel, by decide +kernel⟩
def f_X4_isDone (κ : Kp) (a : Int32) : (String × Kp) ⊕ (Int32 × Kp) := match f_X4_needRoast κ (a) with | .inl (E, κx) => .inl (E, κx) | .inr p1 => (.inr (bi (f_X2_done κ (p1)), κ))
set_option maxRecDepth 100000 in
set_option maxHeartbeats 4000000 in
theorem m_X4_isDone (l : Launch) (g : Gt) (κ : Kp) (sz : Nat) (a : Int32) (hlst : l.stackTraces = false) : vx_Met l yX4_isDone (.code yX4_isDone cX4_isDone 2 (some .boolean) :: uW) { frames := 7, cells := 1, slots := 6, locals := 210 } (PRE g κ sz [.ref (g.2.2 (0)), .int (a)]) (va_Qi (fun r κ' => f_X4_isDone κ a = .inr (r, κ')) (Wp g) (fr g sz)) (xC g sz (fun E κx => f_X4_isDone κ a = .inl (E, κx) ∧ E ∈ [nIOE])) 1 6 (fr g sz) := by
  refine k_xenter (by decide +kernel) (Nat.le_of_ble_eq_true rfl) ?_
  intro p e s m below meth c ls hM hno hr hl hw hsz
  subst hsz
  have hl : lv_has ls 2 [(0, .ref (g.2.2 (0))), (1, .int (a))] := hl
  have hF := f_X4_isDone.eq_1 κ a
  refine lv_aload_n hM.x hM.b dX4_isDone_0 rfl (lv_at hl 0 rfl) ?_
  refine lv_iload_n hM.x hM.b dX4_isDone_1 rfl (lv_at hl 1 rfl) ?_
  refine k_xe hw (k_runXV [.int (a)] [] hM hw (m_X4_needRoast l g κ _ (a) hlst) (hw.dm kd_0 (by decide)) (sh4 kd_0) rfl (k_gV u_ml_X4_144 u_im_X4_needRoast u_se_X4_needRoast u_ini_X4 u_co_X4_needRoast) (q_X4_needRoast) rfl rfl rfl ⟨Nat.le_of_ble_eq_true rfl, Nat.le_of_ble_eq_true rfl⟩ hl.1 rfl (Nat.le_of_ble_eq_true rfl) dX4_isDone_2 ⟨Nat.le_of_ble_eq_true rfl, Nat.le_of_ble_eq_true rfl⟩) (fun E κx ce q9 H locs hx hw h1 h2 h3 => ?_) (fun rz κz H locs hp hw => ?_)
  · simp only [hx.1] at hF
    exact k_xout hM hno hw h1 h2 h3 ⟨hF, (by decide +kernel : ∀ E ∈ [nIOE], E ∈ [nIOE]) E hx.2⟩ (Nat.le_of_ble_eq_true rfl) (Nat.le_of_ble_eq_true rfl)
  · obtain ⟨p1, hrz, hp, hkz⟩ := hp
    rw [hkz] at hw
    rw [hrz]
    simp only [hp] at hF
    have hp1 := kdp_X4_needRoast hp
    refine W.eq (g2 := F0 m 5 ls [.ref (g.2.2 (p1))]) rfl ?_
    refine k_cip hw (k_runV [] [] hM hw (m_X2_done l g κ _ (p1) (hp1)) (hw.dm hp1 (by decide)) (sh2 hp1) rfl (k_gV u_ml_X4_163 u_im_X2_done u_se_X2_done u_ini_X2 u_co_X2_done) (q_X2_done) rfl rfl rfl ⟨Nat.le_of_ble_eq_true rfl, Nat.le_of_ble_eq_true rfl⟩ hl.1 rfl (Nat.le_of_ble_eq_true rfl) dX4_isDone_5 ⟨Nat.le_of_ble_eq_true rfl, Nat.le_of_ble_eq_true rfl⟩) (fun H locs hw => ?_)
    exact vx_ret (k_zret hM hr hw (Nat.le_of_ble_eq_true rfl) (Nat.le_of_ble_eq_true rfl) hF dX4_isDone_8)
theorem q_X4_isBurnt : hdV yX4_isBurnt RX4 1 := ⟨rfl, by decide +kernel, by decide +kernel, by decide +kernel⟩
def f_X4_isBurnt (κ : Kp) (a : Int32) : (String × Kp) ⊕ (Int32 × Kp) := match f_X4_needRoast κ (a) with | .inl (E, κx) => .inl (E, κx) | .inr p1 => (.inr (bi (f_X2_burnt κ (p1)), κ))
set_option maxRecDepth 100000 in
set_option maxHeartbeats 4000000 in
theorem m_X4_isBurnt (l : Launch) (g : Gt) (κ : Kp) (sz : Nat) (a : Int32) (hlst : l.stackTraces = false) : vx_Met l yX4_isBurnt (.code yX4_isBurnt cX4_isBurnt 2 (some .boolean) :: uW) { frames := 7, cells := 1, slots := 6, locals := 210 } (PRE g κ sz [.ref (g.2.2 (0)), .int (a)]) (va_Qi (fun r κ' => f_X4_isBurnt κ a = .inr (r, κ')) (Wp g) (fr g sz)) (xC g sz (fun E κx => f_X4_isBurnt κ a = .inl (E, κx) ∧ E ∈ [nIOE])) 1 6 (fr g sz) := by
  refine k_xenter (by decide +kernel) (Nat.le_of_ble_eq_true rfl) ?_
  intro p e s m below meth c ls hM hno hr hl hw hsz
  subst hsz
  have hl : lv_has ls 2 [(0, .ref (g.2.2 (0))), (1, .int (a))] := hl
  have hF := f_X4_isBurnt.eq_1 κ a
  refine lv_aload_n hM.x hM.b dX4_isBurnt_0 rfl (lv_at hl 0 rfl) ?_
  refine lv_iload_n hM.x hM.b dX4_isBurnt_1 rfl (lv_at hl 1 rfl) ?_
  refine k_xe hw (k_runXV [.int (a)] [] hM hw (m_X4_needRoast l g κ _ (a) hlst) (hw.dm kd_0 (by decide)) (sh4 kd_0) rfl (k_gV u_ml_X4_144 u_im_X4_needRoast u_se_X4_needRoast u_ini_X4 u_co_X4_needRoast) (q_X4_needRoast) rfl rfl rfl ⟨Nat.le_of_ble_eq_true rfl, Nat.le_of_ble_eq_true rfl⟩ hl.1 rfl (Nat.le_of_ble_eq_true rfl) dX4_isBurnt_2 ⟨Nat.le_of_ble_eq_true rfl, Nat.le_of_ble_eq_true rfl⟩) (fun E κx ce q9 H locs hx hw h1 h2 h3 => ?_) (fun rz κz H locs hp hw => ?_)
  · simp only [hx.1] at hF
    exact k_xout hM hno hw h1 h2 h3 ⟨hF, (by decide +kernel : ∀ E ∈ [nIOE], E ∈ [nIOE]) E hx.2⟩ (Nat.le_of_ble_eq_true rfl) (Nat.le_of_ble_eq_true rfl)
  · obtain ⟨p1, hrz, hp, hkz⟩ := hp
    rw [hkz] at hw
    rw [hrz]
    simp only [hp] at hF
    have hp1 := kdp_X4_needRoast hp
    refine W.eq (g2 := F0 m 5 ls [.ref (g.2.2 (p1))]) rfl ?_
    refine k_cip hw (k_runV [] [] hM hw (m_X2_burnt l g κ _ (p1) (hp1)) (hw.dm hp1 (by decide)) (sh2 hp1) rfl (k_gV u_ml_X4_167 u_im_X2_burnt u_se_X2_burnt u_ini_X2 u_co_X2_burnt) (q_X2_burnt) rfl rfl rfl ⟨Nat.le_of_ble_eq_true rfl, Nat.le_of_ble_eq_true rfl⟩ hl.1 rfl (Nat.le_of_ble_eq_true rfl) dX4_isBurnt_5 ⟨Nat.le_of_ble_eq_true rfl, Nat.le_of_ble_eq_true rfl⟩) (fun H locs hw => ?_)
    exact vx_ret (k_zret hM hr hw (Nat.le_of_ble_eq_true rfl) (Nat.le_of_ble_eq_true rfl) hF dX4_isBurnt_8)
