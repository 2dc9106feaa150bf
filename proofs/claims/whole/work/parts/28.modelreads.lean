theorem q_X5_minute : hdV yX5_minute RX5 0 := ⟨rfl, by decide +kernel, by decide +kernel, by decide +kernel⟩
def f_X5_minute (κ : Kp) : Int32 × Kp := match f_X5_told κ (κ (96) (0)) with | (r1, κ1) => ((r1, κ1))
set_option maxRecDepth 100000 in
set_option maxHeartbeats 4000000 in
theorem m_X5_minute (l : Launch) (g : Gt) (κ : Kp) (sz : Nat)  : Met l yX5_minute (.code yX5_minute cX5_minute 1 (some .int) :: uW) { frames := 1, cells := 0, slots := 0, locals := 30 } (PRE g κ sz [.ref (g.2.2 (91))]) (va_Qi (fun r κ' => f_X5_minute κ  = (r, κ')) (Wp g) (fr g sz)) 0 0 (fr g sz) := by
  refine k_enter (by decide +kernel) (Nat.le_of_ble_eq_true rfl) ?_
  intro p e s m below meth c ls hM hr hl hw hsz
  subst hsz
  have hl : lv_has ls 1 [(0, .ref (g.2.2 (91)))] := hl
  have hF := f_X5_minute.eq_1 κ 
  refine lv_aload_n hM.x hM.b dX5_minute_0 rfl (lv_at hl 0 rfl) ?_
  refine lv_aload_n hM.x hM.b dX5_minute_1 rfl (lv_at hl 0 rfl) ?_
  refine k_get5r 4 hM hw (by decide) u_fl_X5_26 dX5_minute_2 ?_
  refine lv_iconst (v := 0) hM.x hM.b dX5_minute_5 (by decide) ?_
  refine k_ialdN (i := 0) (n := 165) hM hw (kd_lt kd_96 (by decide)) (sh13 kd_96) (by decide) (by decide) dX5_minute_6 ?_
  refine k_ci hw (k_runV [.int (κ (96) (0))] [] hM hw (m_X5_told l g κ _ (κ (96) (0))) (kd_lt kd_91 (by decide)) (sh5 kd_91) rfl (k_gV u_ml_X5_126 u_im_X5_told u_se_X5_told u_ini_X5 u_co_X5_told) (q_X5_told) rfl rfl rfl ⟨Nat.le_of_ble_eq_true rfl, Nat.le_of_ble_eq_true rfl⟩ hl.1 rfl (Nat.le_of_ble_eq_true rfl) dX5_minute_7 ⟨Nat.le_of_ble_eq_true rfl, Nat.le_of_ble_eq_true rfl⟩) (fun r1 κ1 H locs hpκ1 hw => ?_)
  simp only [hpκ1] at hF
  exact k_iret hM hr hw (Nat.le_of_ble_eq_true rfl) (Nat.le_of_ble_eq_true rfl) hF dX5_minute_10
theorem q_X5_feast : hdV yX5_feast RX5 0 := ⟨rfl, by decide +kernel, by decide +kernel, by decide +kernel⟩
def f_X5_feast (κ : Kp) : Int32 × Kp := match f_X5_told κ (κ 91 4) with | (r1, κ1) => ((r1, κ1))
set_option maxRecDepth 100000 in
set_option maxHeartbeats 4000000 in
theorem m_X5_feast (l : Launch) (g : Gt) (κ : Kp) (sz : Nat)  : Met l yX5_feast (.code yX5_feast cX5_feast 1 (some .int) :: uW) { frames := 1, cells := 0, slots := 0, locals := 30 } (PRE g κ sz [.ref (g.2.2 (91))]) (va_Qi (fun r κ' => f_X5_feast κ  = (r, κ')) (Wp g) (fr g sz)) 0 0 (fr g sz) := by
  refine k_enter (by decide +kernel) (Nat.le_of_ble_eq_true rfl) ?_
  intro p e s m below meth c ls hM hr hl hw hsz
  subst hsz
  have hl : lv_has ls 1 [(0, .ref (g.2.2 (91)))] := hl
  have hF := f_X5_feast.eq_1 κ 
  refine lv_aload_n hM.x hM.b dX5_feast_0 rfl (lv_at hl 0 rfl) ?_
  refine lv_aload_n hM.x hM.b dX5_feast_1 rfl (lv_at hl 0 rfl) ?_
  refine k_get5 4 hM hw (by decide) u_fl_X5_7 dX5_feast_2 ?_
  refine k_ci hw (k_runV [.int (κ 91 4)] [] hM hw (m_X5_told l g κ _ (κ 91 4)) (kd_lt kd_91 (by decide)) (sh5 kd_91) rfl (k_gV u_ml_X5_126 u_im_X5_told u_se_X5_told u_ini_X5 u_co_X5_told) (q_X5_told) rfl rfl rfl ⟨Nat.le_of_ble_eq_true rfl, Nat.le_of_ble_eq_true rfl⟩ hl.1 rfl (Nat.le_of_ble_eq_true rfl) dX5_feast_5 ⟨Nat.le_of_ble_eq_true rfl, Nat.le_of_ble_eq_true rfl⟩) (fun r1 κ1 H locs hpκ1 hw => ?_)
  simp only [hpκ1] at hF
  exact k_iret hM hr hw (Nat.le_of_ble_eq_true rfl) (Nat.le_of_ble_eq_true rfl) hF dX5_feast_8
theorem q_X5_fires : hdV yX5_fires RX5 0 := ⟨rfl, by decide +kernel, by decide +kernel, by decide +kernel⟩
def f_X5_fires (κ : Kp) : Int32 × Kp := match f_X5_told κ (κ 91 1) with | (r1, κ1) => ((r1, κ1))
set_option maxRecDepth 100000 in
set_option maxHeartbeats 4000000 in
theorem m_X5_fires (l : Launch) (g : Gt) (κ : Kp) (sz : Nat)  : Met l yX5_fires (.code yX5_fires cX5_fires 1 (some .int) :: uW) { frames := 1, cells := 0, slots := 0, locals := 30 } (PRE g κ sz [.ref (g.2.2 (91))]) (va_Qi (fun r κ' => f_X5_fires κ  = (r, κ')) (Wp g) (fr g sz)) 0 0 (fr g sz) := by
  refine k_enter (by decide +kernel) (Nat.le_of_ble_eq_true rfl) ?_
  intro p e s m below meth c ls hM hr hl hw hsz
  subst hsz
  have hl : lv_has ls 1 [(0, .ref (g.2.2 (91)))] := hl
  have hF := f_X5_fires.eq_1 κ 
  refine lv_aload_n hM.x hM.b dX5_fires_0 rfl (lv_at hl 0 rfl) ?_
  refine lv_aload_n hM.x hM.b dX5_fires_1 rfl (lv_at hl 0 rfl) ?_
  refine k_get5 1 hM hw (by decide) u_fl_X5_35 dX5_fires_2 ?_
  refine k_ci hw (k_runV [.int (κ 91 1)] [] hM hw (m_X5_told l g κ _ (κ 91 1)) (kd_lt kd_91 (by decide)) (sh5 kd_91) rfl (k_gV u_ml_X5_126 u_im_X5_told u_se_X5_told u_ini_X5 u_co_X5_told) (q_X5_told) rfl rfl rfl ⟨Nat.le_of_ble_eq_true rfl, Nat.le_of_ble_eq_true rfl⟩ hl.1 rfl (Nat.le_of_ble_eq_true rfl) dX5_fires_5 ⟨Nat.le_of_ble_eq_true rfl, Nat.le_of_ble_eq_true rfl⟩) (fun r1 κ1 H locs hpκ1 hw => ?_)
  simp only [hpκ1] at hF
  exact k_iret hM hr hw (Nat.le_of_ble_eq_true rfl) (Nat.le_of_ble_eq_true rfl) hF dX5_fires_8
theorem q_X5_spits : hdV yX5_spits RX5 0 := ⟨rfl, by decide +kernel, by decide +kernel, by decide +kernel⟩
def f_X5_spits (κ : Kp) : Int32 × Kp := match f_X5_told κ (κ 91 2) with | (r1, κ1) => ((r1, κ1))
set_option maxRecDepth 100000 in
set_option maxHeartbeats 4000000 in
theorem m_X5_spits (l : Launch) (g : Gt) (κ : Kp) (sz : Nat)  : Met l yX5_spits (.code yX5_spits cX5_spits 1 (some .int) :: uW) { frames := 1, cells := 0, slots := 0, locals := 30 } (PRE g κ sz [.ref (g.2.2 (91))]) (va_Qi (fun r κ' => f_X5_spits κ  = (r, κ')) (Wp g) (fr g sz)) 0 0 (fr g sz) := by
  refine k_enter (by decide +kernel) (Nat.le_of_ble_eq_true rfl) ?_
  intro p e s m below meth c ls hM hr hl hw hsz
  subst hsz
  have hl : lv_has ls 1 [(0, .ref (g.2.2 (91)))] := hl
  have hF := f_X5_spits.eq_1 κ 
  refine lv_aload_n hM.x hM.b dX5_spits_0 rfl (lv_at hl 0 rfl) ?_
  refine lv_aload_n hM.x hM.b dX5_spits_1 rfl (lv_at hl 0 rfl) ?_
  refine k_get5 2 hM hw (by decide) u_fl_X5_42 dX5_spits_2 ?_
  refine k_ci hw (k_runV [.int (κ 91 2)] [] hM hw (m_X5_told l g κ _ (κ 91 2)) (kd_lt kd_91 (by decide)) (sh5 kd_91) rfl (k_gV u_ml_X5_126 u_im_X5_told u_se_X5_told u_ini_X5 u_co_X5_told) (q_X5_told) rfl rfl rfl ⟨Nat.le_of_ble_eq_true rfl, Nat.le_of_ble_eq_true rfl⟩ hl.1 rfl (Nat.le_of_ble_eq_true rfl) dX5_spits_5 ⟨Nat.le_of_ble_eq_true rfl, Nat.le_of_ble_eq_true rfl⟩) (fun r1 κ1 H locs hpκ1 hw => ?_)
  simp only [hpκ1] at hF
  exact k_iret hM hr hw (Nat.le_of_ble_eq_true rfl) (Nat.le_of_ble_eq_true rfl) hF dX5_spits_8
theorem q_X5_roasts : hdV yX5_roasts RX5 0 := ⟨rfl, by decide +kernel, by decide +kernel, by decide +kernel⟩
def f_X5_roasts (κ : Kp) : Int32 × Kp := match f_X5_told κ (κ 91 3) with | (r1, κ1) => ((r1, κ1))
set_option maxRecDepth 100000 in
set_option maxHeartbeats 4000000 in
theorem m_X5_roasts (l : Launch) (g : Gt) (κ : Kp) (sz : Nat)  : Met l yX5_roasts (.code yX5_roasts cX5_roasts 1 (some .int) :: uW) { frames := 1, cells := 0, slots := 0, locals := 30 } (PRE g κ sz [.ref (g.2.2 (91))]) (va_Qi (fun r κ' => f_X5_roasts κ  = (r, κ')) (Wp g) (fr g sz)) 0 0 (fr g sz) := by
  refine k_enter (by decide +kernel) (Nat.le_of_ble_eq_true rfl) ?_
  intro p e s m below meth c ls hM hr hl hw hsz
  subst hsz
  have hl : lv_has ls 1 [(0, .ref (g.2.2 (91)))] := hl
  have hF := f_X5_roasts.eq_1 κ 
  refine lv_aload_n hM.x hM.b dX5_roasts_0 rfl (lv_at hl 0 rfl) ?_
  refine lv_aload_n hM.x hM.b dX5_roasts_1 rfl (lv_at hl 0 rfl) ?_
  refine k_get5 3 hM hw (by decide) u_fl_X5_45 dX5_roasts_2 ?_
  refine k_ci hw (k_runV [.int (κ 91 3)] [] hM hw (m_X5_told l g κ _ (κ 91 3)) (kd_lt kd_91 (by decide)) (sh5 kd_91) rfl (k_gV u_ml_X5_126 u_im_X5_told u_se_X5_told u_ini_X5 u_co_X5_told) (q_X5_told) rfl rfl rfl ⟨Nat.le_of_ble_eq_true rfl, Nat.le_of_ble_eq_true rfl⟩ hl.1 rfl (Nat.le_of_ble_eq_true rfl) dX5_roasts_5 ⟨Nat.le_of_ble_eq_true rfl, Nat.le_of_ble_eq_true rfl⟩) (fun r1 κ1 H locs hpκ1 hw => ?_)
  simp only [hpκ1] at hF
  exact k_iret hM hr hw (Nat.le_of_ble_eq_true rfl) (Nat.le_of_ble_eq_true rfl) hF dX5_roasts_8
theorem q_X5_fire : hdV yX5_fire RX5 2 := ⟨rfl, by decide +kernel, by decide +kernel, by decide +kernel⟩
def f_X5_fire (κ : Kp) (a : Int32) (b : Int32) : Int32 × Kp := (fun κ1 : Kp => if (bi (f_X5_isFire κ1 (a))) = 0 then (match f_X5_fail κ1 (1) with | (r1, κ2) => ((r1, κ2))) else ((f_X5_fi κ1 (a) (b), κ1))) (up2 κ (91) 0 (0))
set_option maxRecDepth 100000 in
set_option maxHeartbeats 4000000 in
theorem m_X5_fire (l : Launch) (g : Gt) (κ : Kp) (sz : Nat) (a : Int32) (b : Int32) (hb : vp_in b 2) (hMI : MI κ) : Met l yX5_fire (.code yX5_fire cX5_fire 3 (some .int) :: uW) { frames := 2, cells := 0, slots := 0, locals := 60 } (PRE g κ sz [.ref (g.2.2 (91)), .int (a), .int (b)]) (va_Qi (fun r κ' => f_X5_fire κ a b = (r, κ')) (Wp g) (fr g sz)) 0 0 (fr g sz) := by
  refine k_enter (by decide +kernel) (Nat.le_of_ble_eq_true rfl) ?_
  intro p e s m below meth c ls hM hr hl hw hsz
  subst hsz
  have hl : lv_has ls 3 [(0, .ref (g.2.2 (91))), (1, .int (a)), (2, .int (b))] := hl
  have hF := f_X5_fire.eq_1 κ a b
  refine lv_aload_n hM.x hM.b dX5_fire_0 rfl (lv_at hl 0 rfl) ?_
  refine lv_iconst (v := 0) hM.x hM.b dX5_fire_1 (by decide) ?_
  refine k_put5 0 hM hw (by decide) u_fl_X5_32 dX5_fire_2 (fun H locs hw => ?_)
  obtain ⟨κ1, eκ1⟩ : ∃ z : Kp, up2 κ (91) 0 (0) = z := ⟨_, rfl⟩
  rw [eκ1] at hw
  rw [eκ1] at hF
  try dsimp only at hF
  refine lv_aload_n hM.x hM.b dX5_fire_5 rfl (lv_at hl 0 rfl) ?_
  refine lv_iload_n hM.x hM.b dX5_fire_6 rfl (lv_at hl 1 rfl) ?_
  refine k_cip hw (k_runV [.int (a)] [] hM hw (m_X5_isFire l g κ1 _ (a)) (kd_lt kd_91 (by decide)) (sh5 kd_91) rfl (k_gV u_ml_X5_106 u_im_X5_isFire u_se_X5_isFire u_ini_X5 u_co_X5_isFire) (q_X5_isFire) rfl rfl rfl ⟨Nat.le_of_ble_eq_true rfl, Nat.le_of_ble_eq_true rfl⟩ hl.1 rfl (Nat.le_of_ble_eq_true rfl) dX5_fire_7 ⟨Nat.le_of_ble_eq_true rfl, Nat.le_of_ble_eq_true rfl⟩) (fun H locs hw => ?_)
  refine lv_if_eq (tgt := 22) hM.x hM.b dX5_fire_10 (by decide) (fun c1 => ?_) (fun c1 => ?_)
  · rw [if_pos c1] at hF
    refine lv_aload_n hM.x hM.b dX5_fire_22 rfl (lv_at hl 0 rfl) ?_
    refine lv_iconst (v := 1) hM.x hM.b dX5_fire_23 (by decide) ?_
    refine k_ci hw (k_runV [.int (1)] [] hM hw (m_X5_fail l g κ1 _ (1)) (kd_lt kd_91 (by decide)) (sh5 kd_91) rfl (k_gV u_ml_X5_103 u_im_X5_fail u_se_X5_fail u_ini_X5 u_co_X5_fail) (q_X5_fail) rfl rfl rfl ⟨Nat.le_of_ble_eq_true rfl, Nat.le_of_ble_eq_true rfl⟩ hl.1 rfl (Nat.le_of_ble_eq_true rfl) dX5_fire_24 ⟨Nat.le_of_ble_eq_true rfl, Nat.le_of_ble_eq_true rfl⟩) (fun r1 κ2 H locs hpκ2 hw => ?_)
    simp only [hpκ2] at hF
    exact k_iret hM hr hw (Nat.le_of_ble_eq_true rfl) (Nat.le_of_ble_eq_true rfl) hF dX5_fire_27
  · rw [if_neg c1] at hF
    refine lv_aload_n hM.x hM.b dX5_fire_13 rfl (lv_at hl 0 rfl) ?_
    refine lv_iload_n hM.x hM.b dX5_fire_14 rfl (lv_at hl 1 rfl) ?_
    refine lv_iload_n hM.x hM.b dX5_fire_15 rfl (lv_at hl 2 rfl) ?_
    refine k_cip hw (k_runV [.int (a), .int (b)] [] hM hw (m_X5_fi l g κ1 _ (a) (b) (isFire_in (MI_th eκ1 hMI) c1) hb) (kd_lt kd_91 (by decide)) (sh5 kd_91) rfl (k_gV u_ml_X5_54 u_im_X5_fi u_se_X5_fi u_ini_X5 u_co_X5_fi) (q_X5_fi) rfl rfl rfl ⟨Nat.le_of_ble_eq_true rfl, Nat.le_of_ble_eq_true rfl⟩ hl.1 rfl (Nat.le_of_ble_eq_true rfl) dX5_fire_16 ⟨Nat.le_of_ble_eq_true rfl, Nat.le_of_ble_eq_true rfl⟩) (fun H locs hw => ?_)
    refine lv_goto (tgt := 27) hM.x hM.b dX5_fire_19 (by decide) ?_
    exact k_iret hM hr hw (Nat.le_of_ble_eq_true rfl) (Nat.le_of_ble_eq_true rfl) hF dX5_fire_27
theorem q_X5_spit : hdV yX5_spit RX5 2 := ⟨rfl, by decide +kernel, by decide +kernel, by decide +kernel⟩
def f_X5_spit (κ : Kp) (a : Int32) (b : Int32) : Int32 × Kp := (fun κ1 : Kp => if (bi (f_X5_isSpit κ1 (a))) = 0 then (match f_X5_fail κ1 (1) with | (r1, κ2) => ((r1, κ2))) else ((f_X5_sp κ1 (a) (b), κ1))) (up2 κ (91) 0 (0))
set_option maxRecDepth 100000 in
set_option maxHeartbeats 4000000 in
theorem m_X5_spit (l : Launch) (g : Gt) (κ : Kp) (sz : Nat) (a : Int32) (b : Int32) (hb : vp_in b 5) (hMI : MI κ) : Met l yX5_spit (.code yX5_spit cX5_spit 3 (some .int) :: uW) { frames := 2, cells := 0, slots := 0, locals := 60 } (PRE g κ sz [.ref (g.2.2 (91)), .int (a), .int (b)]) (va_Qi (fun r κ' => f_X5_spit κ a b = (r, κ')) (Wp g) (fr g sz)) 0 0 (fr g sz) := by
  refine k_enter (by decide +kernel) (Nat.le_of_ble_eq_true rfl) ?_
  intro p e s m below meth c ls hM hr hl hw hsz
  subst hsz
  have hl : lv_has ls 3 [(0, .ref (g.2.2 (91))), (1, .int (a)), (2, .int (b))] := hl
  have hF := f_X5_spit.eq_1 κ a b
  refine lv_aload_n hM.x hM.b dX5_spit_0 rfl (lv_at hl 0 rfl) ?_
  refine lv_iconst (v := 0) hM.x hM.b dX5_spit_1 (by decide) ?_
  refine k_put5 0 hM hw (by decide) u_fl_X5_32 dX5_spit_2 (fun H locs hw => ?_)
  obtain ⟨κ1, eκ1⟩ : ∃ z : Kp, up2 κ (91) 0 (0) = z := ⟨_, rfl⟩
  rw [eκ1] at hw
  rw [eκ1] at hF
  try dsimp only at hF
  refine lv_aload_n hM.x hM.b dX5_spit_5 rfl (lv_at hl 0 rfl) ?_
  refine lv_iload_n hM.x hM.b dX5_spit_6 rfl (lv_at hl 1 rfl) ?_
  refine k_cip hw (k_runV [.int (a)] [] hM hw (m_X5_isSpit l g κ1 _ (a)) (kd_lt kd_91 (by decide)) (sh5 kd_91) rfl (k_gV u_ml_X5_110 u_im_X5_isSpit u_se_X5_isSpit u_ini_X5 u_co_X5_isSpit) (q_X5_isSpit) rfl rfl rfl ⟨Nat.le_of_ble_eq_true rfl, Nat.le_of_ble_eq_true rfl⟩ hl.1 rfl (Nat.le_of_ble_eq_true rfl) dX5_spit_7 ⟨Nat.le_of_ble_eq_true rfl, Nat.le_of_ble_eq_true rfl⟩) (fun H locs hw => ?_)
  refine lv_if_eq (tgt := 22) hM.x hM.b dX5_spit_10 (by decide) (fun c1 => ?_) (fun c1 => ?_)
  · rw [if_pos c1] at hF
    refine lv_aload_n hM.x hM.b dX5_spit_22 rfl (lv_at hl 0 rfl) ?_
    refine lv_iconst (v := 1) hM.x hM.b dX5_spit_23 (by decide) ?_
    refine k_ci hw (k_runV [.int (1)] [] hM hw (m_X5_fail l g κ1 _ (1)) (kd_lt kd_91 (by decide)) (sh5 kd_91) rfl (k_gV u_ml_X5_103 u_im_X5_fail u_se_X5_fail u_ini_X5 u_co_X5_fail) (q_X5_fail) rfl rfl rfl ⟨Nat.le_of_ble_eq_true rfl, Nat.le_of_ble_eq_true rfl⟩ hl.1 rfl (Nat.le_of_ble_eq_true rfl) dX5_spit_24 ⟨Nat.le_of_ble_eq_true rfl, Nat.le_of_ble_eq_true rfl⟩) (fun r1 κ2 H locs hpκ2 hw => ?_)
    simp only [hpκ2] at hF
    exact k_iret hM hr hw (Nat.le_of_ble_eq_true rfl) (Nat.le_of_ble_eq_true rfl) hF dX5_spit_27
  · rw [if_neg c1] at hF
    refine lv_aload_n hM.x hM.b dX5_spit_13 rfl (lv_at hl 0 rfl) ?_
    refine lv_iload_n hM.x hM.b dX5_spit_14 rfl (lv_at hl 1 rfl) ?_
    refine lv_iload_n hM.x hM.b dX5_spit_15 rfl (lv_at hl 2 rfl) ?_
    refine k_cip hw (k_runV [.int (a), .int (b)] [] hM hw (m_X5_sp l g κ1 _ (a) (b) (isSpit_in (MI_th eκ1 hMI) c1) hb) (kd_lt kd_91 (by decide)) (sh5 kd_91) rfl (k_gV u_ml_X5_58 u_im_X5_sp u_se_X5_sp u_ini_X5 u_co_X5_sp) (q_X5_sp) rfl rfl rfl ⟨Nat.le_of_ble_eq_true rfl, Nat.le_of_ble_eq_true rfl⟩ hl.1 rfl (Nat.le_of_ble_eq_true rfl) dX5_spit_16 ⟨Nat.le_of_ble_eq_true rfl, Nat.le_of_ble_eq_true rfl⟩) (fun H locs hw => ?_)
    refine lv_goto (tgt := 27) hM.x hM.b dX5_spit_19 (by decide) ?_
    exact k_iret hM hr hw (Nat.le_of_ble_eq_true rfl) (Nat.le_of_ble_eq_true rfl) hF dX5_spit_27
theorem q_X5_roast : hdV yX5_roast RX5 2 := ⟨rfl, by decide +kernel, by decide +kernel, by decide +kernel⟩
def f_X5_roast (κ : Kp) (a : Int32) (b : Int32) : Int32 × Kp := (fun κ1 : Kp => if (bi (f_X5_isRoast κ1 (a))) = 0 then (match f_X5_fail κ1 (1) with | (r1, κ2) => ((r1, κ2))) else ((f_X5_ro κ1 (a) (b), κ1))) (up2 κ (91) 0 (0))
set_option maxRecDepth 100000 in
set_option maxHeartbeats 4000000 in
theorem m_X5_roast (l : Launch) (g : Gt) (κ : Kp) (sz : Nat) (a : Int32) (b : Int32) (hb : vp_in b 8) (hMI : MI κ) : Met l yX5_roast (.code yX5_roast cX5_roast 3 (some .int) :: uW) { frames := 2, cells := 0, slots := 0, locals := 60 } (PRE g κ sz [.ref (g.2.2 (91)), .int (a), .int (b)]) (va_Qi (fun r κ' => f_X5_roast κ a b = (r, κ')) (Wp g) (fr g sz)) 0 0 (fr g sz) := by
  refine k_enter (by decide +kernel) (Nat.le_of_ble_eq_true rfl) ?_
  intro p e s m below meth c ls hM hr hl hw hsz
  subst hsz
  have hl : lv_has ls 3 [(0, .ref (g.2.2 (91))), (1, .int (a)), (2, .int (b))] := hl
  have hF := f_X5_roast.eq_1 κ a b
  refine lv_aload_n hM.x hM.b dX5_roast_0 rfl (lv_at hl 0 rfl) ?_
  refine lv_iconst (v := 0) hM.x hM.b dX5_roast_1 (by decide) ?_
  refine k_put5 0 hM hw (by decide) u_fl_X5_32 dX5_roast_2 (fun H locs hw => ?_)
  obtain ⟨κ1, eκ1⟩ : ∃ z : Kp, up2 κ (91) 0 (0) = z := ⟨_, rfl⟩
  rw [eκ1] at hw
  rw [eκ1] at hF
  try dsimp only at hF
  refine lv_aload_n hM.x hM.b dX5_roast_5 rfl (lv_at hl 0 rfl) ?_
  refine lv_iload_n hM.x hM.b dX5_roast_6 rfl (lv_at hl 1 rfl) ?_
  refine k_cip hw (k_runV [.int (a)] [] hM hw (m_X5_isRoast l g κ1 _ (a)) (kd_lt kd_91 (by decide)) (sh5 kd_91) rfl (k_gV u_ml_X5_135 u_im_X5_isRoast u_se_X5_isRoast u_ini_X5 u_co_X5_isRoast) (q_X5_isRoast) rfl rfl rfl ⟨Nat.le_of_ble_eq_true rfl, Nat.le_of_ble_eq_true rfl⟩ hl.1 rfl (Nat.le_of_ble_eq_true rfl) dX5_roast_7 ⟨Nat.le_of_ble_eq_true rfl, Nat.le_of_ble_eq_true rfl⟩) (fun H locs hw => ?_)
  refine lv_if_eq (tgt := 22) hM.x hM.b dX5_roast_10 (by decide) (fun c1 => ?_) (fun c1 => ?_)
  · rw [if_pos c1] at hF
    refine lv_aload_n hM.x hM.b dX5_roast_22 rfl (lv_at hl 0 rfl) ?_
    refine lv_iconst (v := 1) hM.x hM.b dX5_roast_23 (by decide) ?_
    refine k_ci hw (k_runV [.int (1)] [] hM hw (m_X5_fail l g κ1 _ (1)) (kd_lt kd_91 (by decide)) (sh5 kd_91) rfl (k_gV u_ml_X5_103 u_im_X5_fail u_se_X5_fail u_ini_X5 u_co_X5_fail) (q_X5_fail) rfl rfl rfl ⟨Nat.le_of_ble_eq_true rfl, Nat.le_of_ble_eq_true rfl⟩ hl.1 rfl (Nat.le_of_ble_eq_true rfl) dX5_roast_24 ⟨Nat.le_of_ble_eq_true rfl, Nat.le_of_ble_eq_true rfl⟩) (fun r1 κ2 H locs hpκ2 hw => ?_)
    simp only [hpκ2] at hF
    exact k_iret hM hr hw (Nat.le_of_ble_eq_true rfl) (Nat.le_of_ble_eq_true rfl) hF dX5_roast_27
  · rw [if_neg c1] at hF
    refine lv_aload_n hM.x hM.b dX5_roast_13 rfl (lv_at hl 0 rfl) ?_
    refine lv_iload_n hM.x hM.b dX5_roast_14 rfl (lv_at hl 1 rfl) ?_
    refine lv_iload_n hM.x hM.b dX5_roast_15 rfl (lv_at hl 2 rfl) ?_
    refine k_cip hw (k_runV [.int (a), .int (b)] [] hM hw (m_X5_ro l g κ1 _ (a) (b) (isRoast_in (MI_th eκ1 hMI) c1) hb) (kd_lt kd_91 (by decide)) (sh5 kd_91) rfl (k_gV u_ml_X5_61 u_im_X5_ro u_se_X5_ro u_ini_X5 u_co_X5_ro) (q_X5_ro) rfl rfl rfl ⟨Nat.le_of_ble_eq_true rfl, Nat.le_of_ble_eq_true rfl⟩ hl.1 rfl (Nat.le_of_ble_eq_true rfl) dX5_roast_16 ⟨Nat.le_of_ble_eq_true rfl, Nat.le_of_ble_eq_true rfl⟩) (fun H locs hw => ?_)
    refine lv_goto (tgt := 27) hM.x hM.b dX5_roast_19 (by decide) ?_
    exact k_iret hM hr hw (Nat.le_of_ble_eq_true rfl) (Nat.le_of_ble_eq_true rfl) hF dX5_roast_27
theorem q_X5_logsOf : hdV yX5_logsOf RX5 1 := ⟨rfl, by decide +kernel, by decide +kernel, by decide +kernel⟩
def f_X5_logsOf (κ : Kp) (a : Int32) : Int32 × Kp := match f_X5_fire κ (a) (0) with | (r1, κ1) => ((r1, κ1))
set_option maxRecDepth 100000 in
set_option maxHeartbeats 4000000 in
theorem m_X5_logsOf (l : Launch) (g : Gt) (κ : Kp) (sz : Nat) (a : Int32) (hMI : MI κ) : Met l yX5_logsOf (.code yX5_logsOf cX5_logsOf 2 (some .int) :: uW) { frames := 3, cells := 0, slots := 0, locals := 90 } (PRE g κ sz [.ref (g.2.2 (91)), .int (a)]) (va_Qi (fun r κ' => f_X5_logsOf κ a = (r, κ')) (Wp g) (fr g sz)) 0 0 (fr g sz) := by
  refine k_enter (by decide +kernel) (Nat.le_of_ble_eq_true rfl) ?_
  intro p e s m below meth c ls hM hr hl hw hsz
  subst hsz
  have hl : lv_has ls 2 [(0, .ref (g.2.2 (91))), (1, .int (a))] := hl
  have hF := f_X5_logsOf.eq_1 κ a
  refine lv_aload_n hM.x hM.b dX5_logsOf_0 rfl (lv_at hl 0 rfl) ?_
  refine lv_iload_n hM.x hM.b dX5_logsOf_1 rfl (lv_at hl 1 rfl) ?_
  refine lv_iconst (v := 0) hM.x hM.b dX5_logsOf_2 (by decide) ?_
  refine k_ci hw (k_runV [.int (a), .int (0)] [] hM hw (m_X5_fire l g κ _ (a) (0) (vin_lit (by decide) : vp_in 0 2) hMI) (kd_lt kd_91 (by decide)) (sh5 kd_91) rfl (k_gV u_ml_X5_129 u_im_X5_fire u_se_X5_fire u_ini_X5 u_co_X5_fire) (q_X5_fire) rfl rfl rfl ⟨Nat.le_of_ble_eq_true rfl, Nat.le_of_ble_eq_true rfl⟩ hl.1 rfl (Nat.le_of_ble_eq_true rfl) dX5_logsOf_3 ⟨Nat.le_of_ble_eq_true rfl, Nat.le_of_ble_eq_true rfl⟩) (fun r1 κ1 H locs hpκ1 hw => ?_)
  simp only [hpκ1] at hF
  exact k_iret hM hr hw (Nat.le_of_ble_eq_true rfl) (Nat.le_of_ble_eq_true rfl) hF dX5_logsOf_6
theorem q_X5_heatOf : hdV yX5_heatOf RX5 1 := ⟨rfl, by decide +kernel, by decide +kernel, by decide +kernel⟩
def f_X5_heatOf (κ : Kp) (a : Int32) : Int32 × Kp := match f_X5_fire κ (a) (1) with | (r1, κ1) => ((r1, κ1))
set_option maxRecDepth 100000 in
set_option maxHeartbeats 4000000 in
theorem m_X5_heatOf (l : Launch) (g : Gt) (κ : Kp) (sz : Nat) (a : Int32) (hMI : MI κ) : Met l yX5_heatOf (.code yX5_heatOf cX5_heatOf 2 (some .int) :: uW) { frames := 3, cells := 0, slots := 0, locals := 90 } (PRE g κ sz [.ref (g.2.2 (91)), .int (a)]) (va_Qi (fun r κ' => f_X5_heatOf κ a = (r, κ')) (Wp g) (fr g sz)) 0 0 (fr g sz) := by
  refine k_enter (by decide +kernel) (Nat.le_of_ble_eq_true rfl) ?_
  intro p e s m below meth c ls hM hr hl hw hsz
  subst hsz
  have hl : lv_has ls 2 [(0, .ref (g.2.2 (91))), (1, .int (a))] := hl
  have hF := f_X5_heatOf.eq_1 κ a
  refine lv_aload_n hM.x hM.b dX5_heatOf_0 rfl (lv_at hl 0 rfl) ?_
  refine lv_iload_n hM.x hM.b dX5_heatOf_1 rfl (lv_at hl 1 rfl) ?_
  refine lv_iconst (v := 1) hM.x hM.b dX5_heatOf_2 (by decide) ?_
  refine k_ci hw (k_runV [.int (a), .int (1)] [] hM hw (m_X5_fire l g κ _ (a) (1) (vin_lit (by decide) : vp_in 1 2) hMI) (kd_lt kd_91 (by decide)) (sh5 kd_91) rfl (k_gV u_ml_X5_129 u_im_X5_fire u_se_X5_fire u_ini_X5 u_co_X5_fire) (q_X5_fire) rfl rfl rfl ⟨Nat.le_of_ble_eq_true rfl, Nat.le_of_ble_eq_true rfl⟩ hl.1 rfl (Nat.le_of_ble_eq_true rfl) dX5_heatOf_3 ⟨Nat.le_of_ble_eq_true rfl, Nat.le_of_ble_eq_true rfl⟩) (fun r1 κ1 H locs hpκ1 hw => ?_)
  simp only [hpκ1] at hF
  exact k_iret hM hr hw (Nat.le_of_ble_eq_true rfl) (Nat.le_of_ble_eq_true rfl) hF dX5_heatOf_6
theorem q_X5_fireOf : hdV yX5_fireOf RX5 1 := ⟨rfl, by decide +kernel, by decide +kernel, by decide +kernel⟩
def f_X5_fireOf (κ : Kp) (a : Int32) : Int32 × Kp := (fun κ1 : Kp => if (bi (f_X5_isSpit κ1 (a))) = 0 then (match f_X5_fail κ1 (1) with | (r1, κ2) => ((r1, κ2))) else ((κ1 (92) (a).toNatClampNeg, κ1))) (up2 κ (91) 0 (0))
set_option maxRecDepth 100000 in
set_option maxHeartbeats 4000000 in
theorem m_X5_fireOf (l : Launch) (g : Gt) (κ : Kp) (sz : Nat) (a : Int32) (hMI : MI κ) : Met l yX5_fireOf (.code yX5_fireOf cX5_fireOf 2 (some .int) :: uW) { frames := 3, cells := 0, slots := 0, locals := 90 } (PRE g κ sz [.ref (g.2.2 (91)), .int (a)]) (va_Qi (fun r κ' => f_X5_fireOf κ a = (r, κ')) (Wp g) (fr g sz)) 0 0 (fr g sz) := by
  refine k_enter (by decide +kernel) (Nat.le_of_ble_eq_true rfl) ?_
  intro p e s m below meth c ls hM hr hl hw hsz
  subst hsz
  have hl : lv_has ls 2 [(0, .ref (g.2.2 (91))), (1, .int (a))] := hl
  have hF := f_X5_fireOf.eq_1 κ a
  refine lv_aload_n hM.x hM.b dX5_fireOf_0 rfl (lv_at hl 0 rfl) ?_
  refine lv_iconst (v := 0) hM.x hM.b dX5_fireOf_1 (by decide) ?_
  refine k_put5 0 hM hw (by decide) u_fl_X5_32 dX5_fireOf_2 (fun H locs hw => ?_)
  obtain ⟨κ1, eκ1⟩ : ∃ z : Kp, up2 κ (91) 0 (0) = z := ⟨_, rfl⟩
  rw [eκ1] at hw
  rw [eκ1] at hF
  try dsimp only at hF
  refine lv_aload_n hM.x hM.b dX5_fireOf_5 rfl (lv_at hl 0 rfl) ?_
  refine lv_iload_n hM.x hM.b dX5_fireOf_6 rfl (lv_at hl 1 rfl) ?_
  refine k_cip hw (k_runV [.int (a)] [] hM hw (m_X5_isSpit l g κ1 _ (a)) (kd_lt kd_91 (by decide)) (sh5 kd_91) rfl (k_gV u_ml_X5_110 u_im_X5_isSpit u_se_X5_isSpit u_ini_X5 u_co_X5_isSpit) (q_X5_isSpit) rfl rfl rfl ⟨Nat.le_of_ble_eq_true rfl, Nat.le_of_ble_eq_true rfl⟩ hl.1 rfl (Nat.le_of_ble_eq_true rfl) dX5_fireOf_7 ⟨Nat.le_of_ble_eq_true rfl, Nat.le_of_ble_eq_true rfl⟩) (fun H locs hw => ?_)
  refine lv_if_eq (tgt := 22) hM.x hM.b dX5_fireOf_10 (by decide) (fun c1 => ?_) (fun c1 => ?_)
  · rw [if_pos c1] at hF
    refine lv_aload_n hM.x hM.b dX5_fireOf_22 rfl (lv_at hl 0 rfl) ?_
    refine lv_iconst (v := 1) hM.x hM.b dX5_fireOf_23 (by decide) ?_
    refine k_ci hw (k_runV [.int (1)] [] hM hw (m_X5_fail l g κ1 _ (1)) (kd_lt kd_91 (by decide)) (sh5 kd_91) rfl (k_gV u_ml_X5_103 u_im_X5_fail u_se_X5_fail u_ini_X5 u_co_X5_fail) (q_X5_fail) rfl rfl rfl ⟨Nat.le_of_ble_eq_true rfl, Nat.le_of_ble_eq_true rfl⟩ hl.1 rfl (Nat.le_of_ble_eq_true rfl) dX5_fireOf_24 ⟨Nat.le_of_ble_eq_true rfl, Nat.le_of_ble_eq_true rfl⟩) (fun r1 κ2 H locs hpκ2 hw => ?_)
    simp only [hpκ2] at hF
    exact k_iret hM hr hw (Nat.le_of_ble_eq_true rfl) (Nat.le_of_ble_eq_true rfl) hF dX5_fireOf_27
  · rw [if_neg c1] at hF
    refine lv_aload_n hM.x hM.b dX5_fireOf_13 rfl (lv_at hl 0 rfl) ?_
    refine k_get5r 0 hM hw (by decide) u_fl_X5_13 dX5_fireOf_14 ?_
    refine lv_iload_n hM.x hM.b dX5_fireOf_17 rfl (lv_at hl 1 rfl) ?_
    refine k_iald (n := 6) hM hw (kd_lt kd_92 (by decide)) (sh10 kd_92) (isSpit_in (MI_th eκ1 hMI) c1) dX5_fireOf_18 ?_
    refine lv_goto (tgt := 27) hM.x hM.b dX5_fireOf_19 (by decide) ?_
    exact k_iret hM hr hw (Nat.le_of_ble_eq_true rfl) (Nat.le_of_ble_eq_true rfl) hF dX5_fireOf_27
theorem q_X5_feetOf : hdV yX5_feetOf RX5 1 := ⟨rfl, by decide +kernel, by decide +kernel, by decide +kernel⟩
def f_X5_feetOf (κ : Kp) (a : Int32) : Int32 × Kp := match f_X5_spit κ (a) (0) with | (r1, κ1) => ((r1, κ1))
set_option maxRecDepth 100000 in
set_option maxHeartbeats 4000000 in
theorem m_X5_feetOf (l : Launch) (g : Gt) (κ : Kp) (sz : Nat) (a : Int32) (hMI : MI κ) : Met l yX5_feetOf (.code yX5_feetOf cX5_feetOf 2 (some .int) :: uW) { frames := 3, cells := 0, slots := 0, locals := 90 } (PRE g κ sz [.ref (g.2.2 (91)), .int (a)]) (va_Qi (fun r κ' => f_X5_feetOf κ a = (r, κ')) (Wp g) (fr g sz)) 0 0 (fr g sz) := by
  refine k_enter (by decide +kernel) (Nat.le_of_ble_eq_true rfl) ?_
  intro p e s m below meth c ls hM hr hl hw hsz
  subst hsz
  have hl : lv_has ls 2 [(0, .ref (g.2.2 (91))), (1, .int (a))] := hl
  have hF := f_X5_feetOf.eq_1 κ a
  refine lv_aload_n hM.x hM.b dX5_feetOf_0 rfl (lv_at hl 0 rfl) ?_
  refine lv_iload_n hM.x hM.b dX5_feetOf_1 rfl (lv_at hl 1 rfl) ?_
  refine lv_iconst (v := 0) hM.x hM.b dX5_feetOf_2 (by decide) ?_
  refine k_ci hw (k_runV [.int (a), .int (0)] [] hM hw (m_X5_spit l g κ _ (a) (0) (vin_lit (by decide) : vp_in 0 5) hMI) (kd_lt kd_91 (by decide)) (sh5 kd_91) rfl (k_gV u_ml_X5_132 u_im_X5_spit u_se_X5_spit u_ini_X5 u_co_X5_spit) (q_X5_spit) rfl rfl rfl ⟨Nat.le_of_ble_eq_true rfl, Nat.le_of_ble_eq_true rfl⟩ hl.1 rfl (Nat.le_of_ble_eq_true rfl) dX5_feetOf_3 ⟨Nat.le_of_ble_eq_true rfl, Nat.le_of_ble_eq_true rfl⟩) (fun r1 κ1 H locs hpκ1 hw => ?_)
  simp only [hpκ1] at hF
  exact k_iret hM hr hw (Nat.le_of_ble_eq_true rfl) (Nat.le_of_ble_eq_true rfl) hF dX5_feetOf_6
theorem q_X5_glowAt : hdV yX5_glowAt RX5 1 := ⟨rfl, by decide +kernel, by decide +kernel, by decide +kernel⟩
def f_X5_glowAt (κ : Kp) (a : Int32) : Int32 × Kp := (fun κ1 : Kp => if (bi (f_X5_isSpit κ1 (a))) = 0 then (match f_X5_fail κ1 (1) with | (r1, κ2) => ((r1, κ2))) else ((f_X5_glow κ1 (a), κ1))) (up2 κ (91) 0 (0))
set_option maxRecDepth 100000 in
set_option maxHeartbeats 4000000 in
theorem m_X5_glowAt (l : Launch) (g : Gt) (κ : Kp) (sz : Nat) (a : Int32) (hMI : MI κ) : Met l yX5_glowAt (.code yX5_glowAt cX5_glowAt 2 (some .int) :: uW) { frames := 3, cells := 0, slots := 0, locals := 90 } (PRE g κ sz [.ref (g.2.2 (91)), .int (a)]) (va_Qi (fun r κ' => f_X5_glowAt κ a = (r, κ')) (Wp g) (fr g sz)) 0 0 (fr g sz) := by
  refine k_enter (by decide +kernel) (Nat.le_of_ble_eq_true rfl) ?_
  intro p e s m below meth c ls hM hr hl hw hsz
  subst hsz
  have hl : lv_has ls 2 [(0, .ref (g.2.2 (91))), (1, .int (a))] := hl
  have hF := f_X5_glowAt.eq_1 κ a
  refine lv_aload_n hM.x hM.b dX5_glowAt_0 rfl (lv_at hl 0 rfl) ?_
  refine lv_iconst (v := 0) hM.x hM.b dX5_glowAt_1 (by decide) ?_
  refine k_put5 0 hM hw (by decide) u_fl_X5_32 dX5_glowAt_2 (fun H locs hw => ?_)
  obtain ⟨κ1, eκ1⟩ : ∃ z : Kp, up2 κ (91) 0 (0) = z := ⟨_, rfl⟩
  rw [eκ1] at hw
  rw [eκ1] at hF
  try dsimp only at hF
  refine lv_aload_n hM.x hM.b dX5_glowAt_5 rfl (lv_at hl 0 rfl) ?_
  refine lv_iload_n hM.x hM.b dX5_glowAt_6 rfl (lv_at hl 1 rfl) ?_
  refine k_cip hw (k_runV [.int (a)] [] hM hw (m_X5_isSpit l g κ1 _ (a)) (kd_lt kd_91 (by decide)) (sh5 kd_91) rfl (k_gV u_ml_X5_110 u_im_X5_isSpit u_se_X5_isSpit u_ini_X5 u_co_X5_isSpit) (q_X5_isSpit) rfl rfl rfl ⟨Nat.le_of_ble_eq_true rfl, Nat.le_of_ble_eq_true rfl⟩ hl.1 rfl (Nat.le_of_ble_eq_true rfl) dX5_glowAt_7 ⟨Nat.le_of_ble_eq_true rfl, Nat.le_of_ble_eq_true rfl⟩) (fun H locs hw => ?_)
  refine lv_if_eq (tgt := 21) hM.x hM.b dX5_glowAt_10 (by decide) (fun c1 => ?_) (fun c1 => ?_)
  · rw [if_pos c1] at hF
    refine lv_aload_n hM.x hM.b dX5_glowAt_21 rfl (lv_at hl 0 rfl) ?_
    refine lv_iconst (v := 1) hM.x hM.b dX5_glowAt_22 (by decide) ?_
    refine k_ci hw (k_runV [.int (1)] [] hM hw (m_X5_fail l g κ1 _ (1)) (kd_lt kd_91 (by decide)) (sh5 kd_91) rfl (k_gV u_ml_X5_103 u_im_X5_fail u_se_X5_fail u_ini_X5 u_co_X5_fail) (q_X5_fail) rfl rfl rfl ⟨Nat.le_of_ble_eq_true rfl, Nat.le_of_ble_eq_true rfl⟩ hl.1 rfl (Nat.le_of_ble_eq_true rfl) dX5_glowAt_23 ⟨Nat.le_of_ble_eq_true rfl, Nat.le_of_ble_eq_true rfl⟩) (fun r1 κ2 H locs hpκ2 hw => ?_)
    simp only [hpκ2] at hF
    exact k_iret hM hr hw (Nat.le_of_ble_eq_true rfl) (Nat.le_of_ble_eq_true rfl) hF dX5_glowAt_26
  · rw [if_neg c1] at hF
    refine lv_aload_n hM.x hM.b dX5_glowAt_13 rfl (lv_at hl 0 rfl) ?_
    refine lv_iload_n hM.x hM.b dX5_glowAt_14 rfl (lv_at hl 1 rfl) ?_
    refine k_cip hw (k_runV [.int (a)] [] hM hw (m_X5_glow l g κ1 _ (a) (isSpit_in (MI_th eκ1 hMI) c1) (MI_th eκ1 hMI) (isSpit_lt (MI_th eκ1 hMI) c1)) (kd_lt kd_91 (by decide)) (sh5 kd_91) rfl (k_gV u_ml_X5_77 u_im_X5_glow u_se_X5_glow u_ini_X5 u_co_X5_glow) (q_X5_glow) rfl rfl rfl ⟨Nat.le_of_ble_eq_true rfl, Nat.le_of_ble_eq_true rfl⟩ hl.1 rfl (Nat.le_of_ble_eq_true rfl) dX5_glowAt_15 ⟨Nat.le_of_ble_eq_true rfl, Nat.le_of_ble_eq_true rfl⟩) (fun H locs hw => ?_)
    refine lv_goto (tgt := 26) hM.x hM.b dX5_glowAt_18 (by decide) ?_
    exact k_iret hM hr hw (Nat.le_of_ble_eq_true rfl) (Nat.le_of_ble_eq_true rfl) hF dX5_glowAt_26
theorem q_X5_turnedEach : hdV yX5_turnedEach RX5 1 := ⟨rfl, by decide +kernel, by decide +kernel, by decide +kernel⟩
def f_X5_turnedEach (κ : Kp) (a : Int32) : Int32 × Kp := match f_X5_spit κ (a) (4) with | (r1, κ1) => ((r1, κ1))
set_option maxRecDepth 100000 in
set_option maxHeartbeats 4000000 in
theorem m_X5_turnedEach (l : Launch) (g : Gt) (κ : Kp) (sz : Nat) (a : Int32) (hMI : MI κ) : Met l yX5_turnedEach (.code yX5_turnedEach cX5_turnedEach 2 (some .int) :: uW) { frames := 3, cells := 0, slots := 0, locals := 90 } (PRE g κ sz [.ref (g.2.2 (91)), .int (a)]) (va_Qi (fun r κ' => f_X5_turnedEach κ a = (r, κ')) (Wp g) (fr g sz)) 0 0 (fr g sz) := by
  refine k_enter (by decide +kernel) (Nat.le_of_ble_eq_true rfl) ?_
  intro p e s m below meth c ls hM hr hl hw hsz
  subst hsz
  have hl : lv_has ls 2 [(0, .ref (g.2.2 (91))), (1, .int (a))] := hl
  have hF := f_X5_turnedEach.eq_1 κ a
  refine lv_aload_n hM.x hM.b dX5_turnedEach_0 rfl (lv_at hl 0 rfl) ?_
  refine lv_iload_n hM.x hM.b dX5_turnedEach_1 rfl (lv_at hl 1 rfl) ?_
  refine lv_iconst (v := 4) hM.x hM.b dX5_turnedEach_2 (by decide) ?_
  refine k_ci hw (k_runV [.int (a), .int (4)] [] hM hw (m_X5_spit l g κ _ (a) (4) (vin_lit (by decide) : vp_in 4 5) hMI) (kd_lt kd_91 (by decide)) (sh5 kd_91) rfl (k_gV u_ml_X5_132 u_im_X5_spit u_se_X5_spit u_ini_X5 u_co_X5_spit) (q_X5_spit) rfl rfl rfl ⟨Nat.le_of_ble_eq_true rfl, Nat.le_of_ble_eq_true rfl⟩ hl.1 rfl (Nat.le_of_ble_eq_true rfl) dX5_turnedEach_3 ⟨Nat.le_of_ble_eq_true rfl, Nat.le_of_ble_eq_true rfl⟩) (fun r1 κ1 H locs hpκ1 hw => ?_)
  simp only [hpκ1] at hF
  exact k_iret hM hr hw (Nat.le_of_ble_eq_true rfl) (Nat.le_of_ble_eq_true rfl) hF dX5_turnedEach_6
theorem q_X5_drippingsOf : hdV yX5_drippingsOf RX5 1 := ⟨rfl, by decide +kernel, by decide +kernel, by decide +kernel⟩
def f_X5_drippingsOf (κ : Kp) (a : Int32) : Int32 × Kp := match f_X5_spit κ (a) (1) with | (r1, κ1) => ((r1, κ1))
set_option maxRecDepth 100000 in
set_option maxHeartbeats 4000000 in
theorem m_X5_drippingsOf (l : Launch) (g : Gt) (κ : Kp) (sz : Nat) (a : Int32) (hMI : MI κ) : Met l yX5_drippingsOf (.code yX5_drippingsOf cX5_drippingsOf 2 (some .int) :: uW) { frames := 3, cells := 0, slots := 0, locals := 90 } (PRE g κ sz [.ref (g.2.2 (91)), .int (a)]) (va_Qi (fun r κ' => f_X5_drippingsOf κ a = (r, κ')) (Wp g) (fr g sz)) 0 0 (fr g sz) := by
  refine k_enter (by decide +kernel) (Nat.le_of_ble_eq_true rfl) ?_
  intro p e s m below meth c ls hM hr hl hw hsz
  subst hsz
  have hl : lv_has ls 2 [(0, .ref (g.2.2 (91))), (1, .int (a))] := hl
  have hF := f_X5_drippingsOf.eq_1 κ a
  refine lv_aload_n hM.x hM.b dX5_drippingsOf_0 rfl (lv_at hl 0 rfl) ?_
  refine lv_iload_n hM.x hM.b dX5_drippingsOf_1 rfl (lv_at hl 1 rfl) ?_
  refine lv_iconst (v := 1) hM.x hM.b dX5_drippingsOf_2 (by decide) ?_
  refine k_ci hw (k_runV [.int (a), .int (1)] [] hM hw (m_X5_spit l g κ _ (a) (1) (vin_lit (by decide) : vp_in 1 5) hMI) (kd_lt kd_91 (by decide)) (sh5 kd_91) rfl (k_gV u_ml_X5_132 u_im_X5_spit u_se_X5_spit u_ini_X5 u_co_X5_spit) (q_X5_spit) rfl rfl rfl ⟨Nat.le_of_ble_eq_true rfl, Nat.le_of_ble_eq_true rfl⟩ hl.1 rfl (Nat.le_of_ble_eq_true rfl) dX5_drippingsOf_3 ⟨Nat.le_of_ble_eq_true rfl, Nat.le_of_ble_eq_true rfl⟩) (fun r1 κ1 H locs hpκ1 hw => ?_)
  simp only [hpκ1] at hF
  exact k_iret hM hr hw (Nat.le_of_ble_eq_true rfl) (Nat.le_of_ble_eq_true rfl) hF dX5_drippingsOf_6
theorem q_X5_roastOn : hdV yX5_roastOn RX5 1 := ⟨rfl, by decide +kernel, by decide +kernel, by decide +kernel⟩
def f_X5_roastOn (κ : Kp) (a : Int32) : Int32 × Kp := (fun κ1 : Kp => if (bi (f_X5_isSpit κ1 (a))) = 0 then (match f_X5_fail κ1 (1) with | (r1, κ2) => ((r1, κ2))) else ((((f_X5_sp κ1 (a) (2)) - (1)), κ1))) (up2 κ (91) 0 (0))
set_option maxRecDepth 100000 in
set_option maxHeartbeats 4000000 in
theorem m_X5_roastOn (l : Launch) (g : Gt) (κ : Kp) (sz : Nat) (a : Int32) (hMI : MI κ) : Met l yX5_roastOn (.code yX5_roastOn cX5_roastOn 2 (some .int) :: uW) { frames := 3, cells := 0, slots := 0, locals := 90 } (PRE g κ sz [.ref (g.2.2 (91)), .int (a)]) (va_Qi (fun r κ' => f_X5_roastOn κ a = (r, κ')) (Wp g) (fr g sz)) 0 0 (fr g sz) := by
  refine k_enter (by decide +kernel) (Nat.le_of_ble_eq_true rfl) ?_
  intro p e s m below meth c ls hM hr hl hw hsz
  subst hsz
  have hl : lv_has ls 2 [(0, .ref (g.2.2 (91))), (1, .int (a))] := hl
  have hF := f_X5_roastOn.eq_1 κ a
  refine lv_aload_n hM.x hM.b dX5_roastOn_0 rfl (lv_at hl 0 rfl) ?_
  refine lv_iconst (v := 0) hM.x hM.b dX5_roastOn_1 (by decide) ?_
  refine k_put5 0 hM hw (by decide) u_fl_X5_32 dX5_roastOn_2 (fun H locs hw => ?_)
  obtain ⟨κ1, eκ1⟩ : ∃ z : Kp, up2 κ (91) 0 (0) = z := ⟨_, rfl⟩
  rw [eκ1] at hw
  rw [eκ1] at hF
  try dsimp only at hF
  refine lv_aload_n hM.x hM.b dX5_roastOn_5 rfl (lv_at hl 0 rfl) ?_
  refine lv_iload_n hM.x hM.b dX5_roastOn_6 rfl (lv_at hl 1 rfl) ?_
  refine k_cip hw (k_runV [.int (a)] [] hM hw (m_X5_isSpit l g κ1 _ (a)) (kd_lt kd_91 (by decide)) (sh5 kd_91) rfl (k_gV u_ml_X5_110 u_im_X5_isSpit u_se_X5_isSpit u_ini_X5 u_co_X5_isSpit) (q_X5_isSpit) rfl rfl rfl ⟨Nat.le_of_ble_eq_true rfl, Nat.le_of_ble_eq_true rfl⟩ hl.1 rfl (Nat.le_of_ble_eq_true rfl) dX5_roastOn_7 ⟨Nat.le_of_ble_eq_true rfl, Nat.le_of_ble_eq_true rfl⟩) (fun H locs hw => ?_)
  refine lv_if_eq (tgt := 24) hM.x hM.b dX5_roastOn_10 (by decide) (fun c1 => ?_) (fun c1 => ?_)
  · rw [if_pos c1] at hF
    refine lv_aload_n hM.x hM.b dX5_roastOn_24 rfl (lv_at hl 0 rfl) ?_
    refine lv_iconst (v := 1) hM.x hM.b dX5_roastOn_25 (by decide) ?_
    refine k_ci hw (k_runV [.int (1)] [] hM hw (m_X5_fail l g κ1 _ (1)) (kd_lt kd_91 (by decide)) (sh5 kd_91) rfl (k_gV u_ml_X5_103 u_im_X5_fail u_se_X5_fail u_ini_X5 u_co_X5_fail) (q_X5_fail) rfl rfl rfl ⟨Nat.le_of_ble_eq_true rfl, Nat.le_of_ble_eq_true rfl⟩ hl.1 rfl (Nat.le_of_ble_eq_true rfl) dX5_roastOn_26 ⟨Nat.le_of_ble_eq_true rfl, Nat.le_of_ble_eq_true rfl⟩) (fun r1 κ2 H locs hpκ2 hw => ?_)
    simp only [hpκ2] at hF
    exact k_iret hM hr hw (Nat.le_of_ble_eq_true rfl) (Nat.le_of_ble_eq_true rfl) hF dX5_roastOn_29
  · rw [if_neg c1] at hF
    refine lv_aload_n hM.x hM.b dX5_roastOn_13 rfl (lv_at hl 0 rfl) ?_
    refine lv_iload_n hM.x hM.b dX5_roastOn_14 rfl (lv_at hl 1 rfl) ?_
    refine lv_iconst (v := 2) hM.x hM.b dX5_roastOn_15 (by decide) ?_
    refine k_cip hw (k_runV [.int (a), .int (2)] [] hM hw (m_X5_sp l g κ1 _ (a) (2) (isSpit_in (MI_th eκ1 hMI) c1) (vin_lit (by decide) : vp_in 2 5)) (kd_lt kd_91 (by decide)) (sh5 kd_91) rfl (k_gV u_ml_X5_58 u_im_X5_sp u_se_X5_sp u_ini_X5 u_co_X5_sp) (q_X5_sp) rfl rfl rfl ⟨Nat.le_of_ble_eq_true rfl, Nat.le_of_ble_eq_true rfl⟩ hl.1 rfl (Nat.le_of_ble_eq_true rfl) dX5_roastOn_16 ⟨Nat.le_of_ble_eq_true rfl, Nat.le_of_ble_eq_true rfl⟩) (fun H locs hw => ?_)
    refine lv_iconst (v := 1) hM.x hM.b dX5_roastOn_19 (by decide) ?_
    refine lv_isub hM.x hM.b dX5_roastOn_20 ?_
    refine lv_goto (tgt := 29) hM.x hM.b dX5_roastOn_21 (by decide) ?_
    exact k_iret hM hr hw (Nat.le_of_ble_eq_true rfl) (Nat.le_of_ble_eq_true rfl) hF dX5_roastOn_29
theorem q_X5_poundsOf : hdV yX5_poundsOf RX5 1 := ⟨rfl, by decide +kernel, by decide +kernel, by decide +kernel⟩
def f_X5_poundsOf (κ : Kp) (a : Int32) : Int32 × Kp := (fun κ1 : Kp => if (bi (f_X5_isRoast κ1 (a))) = 0 then (match f_X5_fail κ1 (1) with | (r1, κ2) => ((r1, κ2))) else ((κ1 (93) (a).toNatClampNeg, κ1))) (up2 κ (91) 0 (0))
set_option maxRecDepth 100000 in
set_option maxHeartbeats 4000000 in
theorem m_X5_poundsOf (l : Launch) (g : Gt) (κ : Kp) (sz : Nat) (a : Int32) (hMI : MI κ) : Met l yX5_poundsOf (.code yX5_poundsOf cX5_poundsOf 2 (some .int) :: uW) { frames := 3, cells := 0, slots := 0, locals := 90 } (PRE g κ sz [.ref (g.2.2 (91)), .int (a)]) (va_Qi (fun r κ' => f_X5_poundsOf κ a = (r, κ')) (Wp g) (fr g sz)) 0 0 (fr g sz) := by
  refine k_enter (by decide +kernel) (Nat.le_of_ble_eq_true rfl) ?_
  intro p e s m below meth c ls hM hr hl hw hsz
  subst hsz
  have hl : lv_has ls 2 [(0, .ref (g.2.2 (91))), (1, .int (a))] := hl
  have hF := f_X5_poundsOf.eq_1 κ a
  refine lv_aload_n hM.x hM.b dX5_poundsOf_0 rfl (lv_at hl 0 rfl) ?_
  refine lv_iconst (v := 0) hM.x hM.b dX5_poundsOf_1 (by decide) ?_
  refine k_put5 0 hM hw (by decide) u_fl_X5_32 dX5_poundsOf_2 (fun H locs hw => ?_)
  obtain ⟨κ1, eκ1⟩ : ∃ z : Kp, up2 κ (91) 0 (0) = z := ⟨_, rfl⟩
  rw [eκ1] at hw
  rw [eκ1] at hF
  try dsimp only at hF
  refine lv_aload_n hM.x hM.b dX5_poundsOf_5 rfl (lv_at hl 0 rfl) ?_
  refine lv_iload_n hM.x hM.b dX5_poundsOf_6 rfl (lv_at hl 1 rfl) ?_
  refine k_cip hw (k_runV [.int (a)] [] hM hw (m_X5_isRoast l g κ1 _ (a)) (kd_lt kd_91 (by decide)) (sh5 kd_91) rfl (k_gV u_ml_X5_135 u_im_X5_isRoast u_se_X5_isRoast u_ini_X5 u_co_X5_isRoast) (q_X5_isRoast) rfl rfl rfl ⟨Nat.le_of_ble_eq_true rfl, Nat.le_of_ble_eq_true rfl⟩ hl.1 rfl (Nat.le_of_ble_eq_true rfl) dX5_poundsOf_7 ⟨Nat.le_of_ble_eq_true rfl, Nat.le_of_ble_eq_true rfl⟩) (fun H locs hw => ?_)
  refine lv_if_eq (tgt := 22) hM.x hM.b dX5_poundsOf_10 (by decide) (fun c1 => ?_) (fun c1 => ?_)
  · rw [if_pos c1] at hF
    refine lv_aload_n hM.x hM.b dX5_poundsOf_22 rfl (lv_at hl 0 rfl) ?_
    refine lv_iconst (v := 1) hM.x hM.b dX5_poundsOf_23 (by decide) ?_
    refine k_ci hw (k_runV [.int (1)] [] hM hw (m_X5_fail l g κ1 _ (1)) (kd_lt kd_91 (by decide)) (sh5 kd_91) rfl (k_gV u_ml_X5_103 u_im_X5_fail u_se_X5_fail u_ini_X5 u_co_X5_fail) (q_X5_fail) rfl rfl rfl ⟨Nat.le_of_ble_eq_true rfl, Nat.le_of_ble_eq_true rfl⟩ hl.1 rfl (Nat.le_of_ble_eq_true rfl) dX5_poundsOf_24 ⟨Nat.le_of_ble_eq_true rfl, Nat.le_of_ble_eq_true rfl⟩) (fun r1 κ2 H locs hpκ2 hw => ?_)
    simp only [hpκ2] at hF
    exact k_iret hM hr hw (Nat.le_of_ble_eq_true rfl) (Nat.le_of_ble_eq_true rfl) hF dX5_poundsOf_27
  · rw [if_neg c1] at hF
    refine lv_aload_n hM.x hM.b dX5_poundsOf_13 rfl (lv_at hl 0 rfl) ?_
    refine k_get5r 1 hM hw (by decide) u_fl_X5_17 dX5_poundsOf_14 ?_
    refine lv_iload_n hM.x hM.b dX5_poundsOf_17 rfl (lv_at hl 1 rfl) ?_
    refine k_iald (n := 16) hM hw (kd_lt kd_93 (by decide)) (sh11 kd_93) (isRoast_in (MI_th eκ1 hMI) c1) dX5_poundsOf_18 ?_
    refine lv_goto (tgt := 27) hM.x hM.b dX5_poundsOf_19 (by decide) ?_
    exact k_iret hM hr hw (Nat.le_of_ble_eq_true rfl) (Nat.le_of_ble_eq_true rfl) hF dX5_poundsOf_27
theorem q_X5_spitOf : hdV yX5_spitOf RX5 1 := ⟨rfl, by decide +kernel, by decide +kernel, by decide +kernel⟩
def f_X5_spitOf (κ : Kp) (a : Int32) : Int32 × Kp := (fun κ1 : Kp => if (bi (f_X5_isRoast κ1 (a))) = 0 then (match f_X5_fail κ1 (1) with | (r1, κ2) => ((r1, κ2))) else ((((f_X5_ro κ1 (a) (0)) - (1)), κ1))) (up2 κ (91) 0 (0))
set_option maxRecDepth 100000 in
set_option maxHeartbeats 4000000 in
theorem m_X5_spitOf (l : Launch) (g : Gt) (κ : Kp) (sz : Nat) (a : Int32) (hMI : MI κ) : Met l yX5_spitOf (.code yX5_spitOf cX5_spitOf 2 (some .int) :: uW) { frames := 3, cells := 0, slots := 0, locals := 90 } (PRE g κ sz [.ref (g.2.2 (91)), .int (a)]) (va_Qi (fun r κ' => f_X5_spitOf κ a = (r, κ')) (Wp g) (fr g sz)) 0 0 (fr g sz) := by
  refine k_enter (by decide +kernel) (Nat.le_of_ble_eq_true rfl) ?_
  intro p e s m below meth c ls hM hr hl hw hsz
  subst hsz
  have hl : lv_has ls 2 [(0, .ref (g.2.2 (91))), (1, .int (a))] := hl
  have hF := f_X5_spitOf.eq_1 κ a
  refine lv_aload_n hM.x hM.b dX5_spitOf_0 rfl (lv_at hl 0 rfl) ?_
  refine lv_iconst (v := 0) hM.x hM.b dX5_spitOf_1 (by decide) ?_
  refine k_put5 0 hM hw (by decide) u_fl_X5_32 dX5_spitOf_2 (fun H locs hw => ?_)
  obtain ⟨κ1, eκ1⟩ : ∃ z : Kp, up2 κ (91) 0 (0) = z := ⟨_, rfl⟩
  rw [eκ1] at hw
  rw [eκ1] at hF
  try dsimp only at hF
  refine lv_aload_n hM.x hM.b dX5_spitOf_5 rfl (lv_at hl 0 rfl) ?_
  refine lv_iload_n hM.x hM.b dX5_spitOf_6 rfl (lv_at hl 1 rfl) ?_
  refine k_cip hw (k_runV [.int (a)] [] hM hw (m_X5_isRoast l g κ1 _ (a)) (kd_lt kd_91 (by decide)) (sh5 kd_91) rfl (k_gV u_ml_X5_135 u_im_X5_isRoast u_se_X5_isRoast u_ini_X5 u_co_X5_isRoast) (q_X5_isRoast) rfl rfl rfl ⟨Nat.le_of_ble_eq_true rfl, Nat.le_of_ble_eq_true rfl⟩ hl.1 rfl (Nat.le_of_ble_eq_true rfl) dX5_spitOf_7 ⟨Nat.le_of_ble_eq_true rfl, Nat.le_of_ble_eq_true rfl⟩) (fun H locs hw => ?_)
  refine lv_if_eq (tgt := 24) hM.x hM.b dX5_spitOf_10 (by decide) (fun c1 => ?_) (fun c1 => ?_)
  · rw [if_pos c1] at hF
    refine lv_aload_n hM.x hM.b dX5_spitOf_24 rfl (lv_at hl 0 rfl) ?_
    refine lv_iconst (v := 1) hM.x hM.b dX5_spitOf_25 (by decide) ?_
    refine k_ci hw (k_runV [.int (1)] [] hM hw (m_X5_fail l g κ1 _ (1)) (kd_lt kd_91 (by decide)) (sh5 kd_91) rfl (k_gV u_ml_X5_103 u_im_X5_fail u_se_X5_fail u_ini_X5 u_co_X5_fail) (q_X5_fail) rfl rfl rfl ⟨Nat.le_of_ble_eq_true rfl, Nat.le_of_ble_eq_true rfl⟩ hl.1 rfl (Nat.le_of_ble_eq_true rfl) dX5_spitOf_26 ⟨Nat.le_of_ble_eq_true rfl, Nat.le_of_ble_eq_true rfl⟩) (fun r1 κ2 H locs hpκ2 hw => ?_)
    simp only [hpκ2] at hF
    exact k_iret hM hr hw (Nat.le_of_ble_eq_true rfl) (Nat.le_of_ble_eq_true rfl) hF dX5_spitOf_29
  · rw [if_neg c1] at hF
    refine lv_aload_n hM.x hM.b dX5_spitOf_13 rfl (lv_at hl 0 rfl) ?_
    refine lv_iload_n hM.x hM.b dX5_spitOf_14 rfl (lv_at hl 1 rfl) ?_
    refine lv_iconst (v := 0) hM.x hM.b dX5_spitOf_15 (by decide) ?_
    refine k_cip hw (k_runV [.int (a), .int (0)] [] hM hw (m_X5_ro l g κ1 _ (a) (0) (isRoast_in (MI_th eκ1 hMI) c1) (vin_lit (by decide) : vp_in 0 8)) (kd_lt kd_91 (by decide)) (sh5 kd_91) rfl (k_gV u_ml_X5_61 u_im_X5_ro u_se_X5_ro u_ini_X5 u_co_X5_ro) (q_X5_ro) rfl rfl rfl ⟨Nat.le_of_ble_eq_true rfl, Nat.le_of_ble_eq_true rfl⟩ hl.1 rfl (Nat.le_of_ble_eq_true rfl) dX5_spitOf_16 ⟨Nat.le_of_ble_eq_true rfl, Nat.le_of_ble_eq_true rfl⟩) (fun H locs hw => ?_)
    refine lv_iconst (v := 1) hM.x hM.b dX5_spitOf_19 (by decide) ?_
    refine lv_isub hM.x hM.b dX5_spitOf_20 ?_
    refine lv_goto (tgt := 29) hM.x hM.b dX5_spitOf_21 (by decide) ?_
    exact k_iret hM hr hw (Nat.le_of_ble_eq_true rfl) (Nat.le_of_ble_eq_true rfl) hF dX5_spitOf_29
theorem q_X5_sideToFire : hdV yX5_sideToFire RX5 1 := ⟨rfl, by decide +kernel, by decide +kernel, by decide +kernel⟩
def f_X5_sideToFire (κ : Kp) (a : Int32) : Int32 × Kp := match f_X5_roast κ (a) (1) with | (r1, κ1) => ((r1, κ1))
set_option maxRecDepth 100000 in
set_option maxHeartbeats 4000000 in
theorem m_X5_sideToFire (l : Launch) (g : Gt) (κ : Kp) (sz : Nat) (a : Int32) (hMI : MI κ) : Met l yX5_sideToFire (.code yX5_sideToFire cX5_sideToFire 2 (some .int) :: uW) { frames := 3, cells := 0, slots := 0, locals := 90 } (PRE g κ sz [.ref (g.2.2 (91)), .int (a)]) (va_Qi (fun r κ' => f_X5_sideToFire κ a = (r, κ')) (Wp g) (fr g sz)) 0 0 (fr g sz) := by
  refine k_enter (by decide +kernel) (Nat.le_of_ble_eq_true rfl) ?_
  intro p e s m below meth c ls hM hr hl hw hsz
  subst hsz
  have hl : lv_has ls 2 [(0, .ref (g.2.2 (91))), (1, .int (a))] := hl
  have hF := f_X5_sideToFire.eq_1 κ a
  refine lv_aload_n hM.x hM.b dX5_sideToFire_0 rfl (lv_at hl 0 rfl) ?_
  refine lv_iload_n hM.x hM.b dX5_sideToFire_1 rfl (lv_at hl 1 rfl) ?_
  refine lv_iconst (v := 1) hM.x hM.b dX5_sideToFire_2 (by decide) ?_
  refine k_ci hw (k_runV [.int (a), .int (1)] [] hM hw (m_X5_roast l g κ _ (a) (1) (vin_lit (by decide) : vp_in 1 8) hMI) (kd_lt kd_91 (by decide)) (sh5 kd_91) rfl (k_gV u_ml_X5_138 u_im_X5_roast u_se_X5_roast u_ini_X5 u_co_X5_roast) (q_X5_roast) rfl rfl rfl ⟨Nat.le_of_ble_eq_true rfl, Nat.le_of_ble_eq_true rfl⟩ hl.1 rfl (Nat.le_of_ble_eq_true rfl) dX5_sideToFire_3 ⟨Nat.le_of_ble_eq_true rfl, Nat.le_of_ble_eq_true rfl⟩) (fun r1 κ1 H locs hpκ1 hw => ?_)
  simp only [hpκ1] at hF
  exact k_iret hM hr hw (Nat.le_of_ble_eq_true rfl) (Nat.le_of_ble_eq_true rfl) hF dX5_sideToFire_6
theorem q_X5_fatOf : hdV yX5_fatOf RX5 1 := ⟨rfl, by decide +kernel, by decide +kernel, by decide +kernel⟩
def f_X5_fatOf (κ : Kp) (a : Int32) : Int32 × Kp := match f_X5_roast κ (a) (2) with | (r1, κ1) => ((r1, κ1))
set_option maxRecDepth 100000 in
set_option maxHeartbeats 4000000 in
theorem m_X5_fatOf (l : Launch) (g : Gt) (κ : Kp) (sz : Nat) (a : Int32) (hMI : MI κ) : Met l yX5_fatOf (.code yX5_fatOf cX5_fatOf 2 (some .int) :: uW) { frames := 3, cells := 0, slots := 0, locals := 90 } (PRE g κ sz [.ref (g.2.2 (91)), .int (a)]) (va_Qi (fun r κ' => f_X5_fatOf κ a = (r, κ')) (Wp g) (fr g sz)) 0 0 (fr g sz) := by
  refine k_enter (by decide +kernel) (Nat.le_of_ble_eq_true rfl) ?_
  intro p e s m below meth c ls hM hr hl hw hsz
  subst hsz
  have hl : lv_has ls 2 [(0, .ref (g.2.2 (91))), (1, .int (a))] := hl
  have hF := f_X5_fatOf.eq_1 κ a
  refine lv_aload_n hM.x hM.b dX5_fatOf_0 rfl (lv_at hl 0 rfl) ?_
  refine lv_iload_n hM.x hM.b dX5_fatOf_1 rfl (lv_at hl 1 rfl) ?_
  refine lv_iconst (v := 2) hM.x hM.b dX5_fatOf_2 (by decide) ?_
  refine k_ci hw (k_runV [.int (a), .int (2)] [] hM hw (m_X5_roast l g κ _ (a) (2) (vin_lit (by decide) : vp_in 2 8) hMI) (kd_lt kd_91 (by decide)) (sh5 kd_91) rfl (k_gV u_ml_X5_138 u_im_X5_roast u_se_X5_roast u_ini_X5 u_co_X5_roast) (q_X5_roast) rfl rfl rfl ⟨Nat.le_of_ble_eq_true rfl, Nat.le_of_ble_eq_true rfl⟩ hl.1 rfl (Nat.le_of_ble_eq_true rfl) dX5_fatOf_3 ⟨Nat.le_of_ble_eq_true rfl, Nat.le_of_ble_eq_true rfl⟩) (fun r1 κ1 H locs hpκ1 hw => ?_)
  simp only [hpκ1] at hF
  exact k_iret hM hr hw (Nat.le_of_ble_eq_true rfl) (Nat.le_of_ble_eq_true rfl) hF dX5_fatOf_6
theorem q_X5_wetFor : hdV yX5_wetFor RX5 1 := ⟨rfl, by decide +kernel, by decide +kernel, by decide +kernel⟩
def f_X5_wetFor (κ : Kp) (a : Int32) : Int32 × Kp := match f_X5_roast κ (a) (3) with | (r1, κ1) => ((r1, κ1))
set_option maxRecDepth 100000 in
set_option maxHeartbeats 4000000 in
theorem m_X5_wetFor (l : Launch) (g : Gt) (κ : Kp) (sz : Nat) (a : Int32) (hMI : MI κ) : Met l yX5_wetFor (.code yX5_wetFor cX5_wetFor 2 (some .int) :: uW) { frames := 3, cells := 0, slots := 0, locals := 90 } (PRE g κ sz [.ref (g.2.2 (91)), .int (a)]) (va_Qi (fun r κ' => f_X5_wetFor κ a = (r, κ')) (Wp g) (fr g sz)) 0 0 (fr g sz) := by
  refine k_enter (by decide +kernel) (Nat.le_of_ble_eq_true rfl) ?_
  intro p e s m below meth c ls hM hr hl hw hsz
  subst hsz
  have hl : lv_has ls 2 [(0, .ref (g.2.2 (91))), (1, .int (a))] := hl
  have hF := f_X5_wetFor.eq_1 κ a
  refine lv_aload_n hM.x hM.b dX5_wetFor_0 rfl (lv_at hl 0 rfl) ?_
  refine lv_iload_n hM.x hM.b dX5_wetFor_1 rfl (lv_at hl 1 rfl) ?_
  refine lv_iconst (v := 3) hM.x hM.b dX5_wetFor_2 (by decide) ?_
  refine k_ci hw (k_runV [.int (a), .int (3)] [] hM hw (m_X5_roast l g κ _ (a) (3) (vin_lit (by decide) : vp_in 3 8) hMI) (kd_lt kd_91 (by decide)) (sh5 kd_91) rfl (k_gV u_ml_X5_138 u_im_X5_roast u_se_X5_roast u_ini_X5 u_co_X5_roast) (q_X5_roast) rfl rfl rfl ⟨Nat.le_of_ble_eq_true rfl, Nat.le_of_ble_eq_true rfl⟩ hl.1 rfl (Nat.le_of_ble_eq_true rfl) dX5_wetFor_3 ⟨Nat.le_of_ble_eq_true rfl, Nat.le_of_ble_eq_true rfl⟩) (fun r1 κ1 H locs hpκ1 hw => ?_)
  simp only [hpκ1] at hF
  exact k_iret hM hr hw (Nat.le_of_ble_eq_true rfl) (Nat.le_of_ble_eq_true rfl) hF dX5_wetFor_6
theorem q_X5_brownOf : hdV yX5_brownOf RX5 2 := ⟨rfl, by decide +kernel, by decide +kernel, by decide +kernel⟩
def f_X5_brownOf (κ : Kp) (a : Int32) (b : Int32) : Int32 × Kp := (fun κ1 : Kp => if (bi (f_X5_isRoast κ1 (a))) = 0 then (match f_X5_fail κ1 (1) with | (r1, κ2) => ((r1, κ2))) else (if (bi (f_X5_isIn (b) (0) (3))) = 0 then (match f_X5_fail κ1 (1) with | (r2, κ3) => ((r2, κ3))) else ((f_X5_ro κ1 (a) (((4) + (b))), κ1)))) (up2 κ (91) 0 (0))
set_option maxRecDepth 100000 in
set_option maxHeartbeats 4000000 in
theorem m_X5_brownOf (l : Launch) (g : Gt) (κ : Kp) (sz : Nat) (a : Int32) (b : Int32) (hMI : MI κ) : Met l yX5_brownOf (.code yX5_brownOf cX5_brownOf 3 (some .int) :: uW) { frames := 3, cells := 0, slots := 0, locals := 90 } (PRE g κ sz [.ref (g.2.2 (91)), .int (a), .int (b)]) (va_Qi (fun r κ' => f_X5_brownOf κ a b = (r, κ')) (Wp g) (fr g sz)) 0 0 (fr g sz) := by
  refine k_enter (by decide +kernel) (Nat.le_of_ble_eq_true rfl) ?_
  intro p e s m below meth c ls hM hr hl hw hsz
  subst hsz
  have hl : lv_has ls 3 [(0, .ref (g.2.2 (91))), (1, .int (a)), (2, .int (b))] := hl
  have hF := f_X5_brownOf.eq_1 κ a b
  refine lv_aload_n hM.x hM.b dX5_brownOf_0 rfl (lv_at hl 0 rfl) ?_
  refine lv_iconst (v := 0) hM.x hM.b dX5_brownOf_1 (by decide) ?_
  refine k_put5 0 hM hw (by decide) u_fl_X5_32 dX5_brownOf_2 (fun H locs hw => ?_)
  obtain ⟨κ1, eκ1⟩ : ∃ z : Kp, up2 κ (91) 0 (0) = z := ⟨_, rfl⟩
  rw [eκ1] at hw
  rw [eκ1] at hF
  try dsimp only at hF
  refine lv_aload_n hM.x hM.b dX5_brownOf_5 rfl (lv_at hl 0 rfl) ?_
  refine lv_iload_n hM.x hM.b dX5_brownOf_6 rfl (lv_at hl 1 rfl) ?_
  refine k_cip hw (k_runV [.int (a)] [] hM hw (m_X5_isRoast l g κ1 _ (a)) (kd_lt kd_91 (by decide)) (sh5 kd_91) rfl (k_gV u_ml_X5_135 u_im_X5_isRoast u_se_X5_isRoast u_ini_X5 u_co_X5_isRoast) (q_X5_isRoast) rfl rfl rfl ⟨Nat.le_of_ble_eq_true rfl, Nat.le_of_ble_eq_true rfl⟩ hl.1 rfl (Nat.le_of_ble_eq_true rfl) dX5_brownOf_7 ⟨Nat.le_of_ble_eq_true rfl, Nat.le_of_ble_eq_true rfl⟩) (fun H locs hw => ?_)
  refine lv_if_eq (tgt := 33) hM.x hM.b dX5_brownOf_10 (by decide) (fun c1 => ?_) (fun c1 => ?_)
  · rw [if_pos c1] at hF
    refine lv_aload_n hM.x hM.b dX5_brownOf_33 rfl (lv_at hl 0 rfl) ?_
    refine lv_iconst (v := 1) hM.x hM.b dX5_brownOf_34 (by decide) ?_
    refine k_ci hw (k_runV [.int (1)] [] hM hw (m_X5_fail l g κ1 _ (1)) (kd_lt kd_91 (by decide)) (sh5 kd_91) rfl (k_gV u_ml_X5_103 u_im_X5_fail u_se_X5_fail u_ini_X5 u_co_X5_fail) (q_X5_fail) rfl rfl rfl ⟨Nat.le_of_ble_eq_true rfl, Nat.le_of_ble_eq_true rfl⟩ hl.1 rfl (Nat.le_of_ble_eq_true rfl) dX5_brownOf_35 ⟨Nat.le_of_ble_eq_true rfl, Nat.le_of_ble_eq_true rfl⟩) (fun r1 κ2 H locs hpκ2 hw => ?_)
    simp only [hpκ2] at hF
    exact k_iret hM hr hw (Nat.le_of_ble_eq_true rfl) (Nat.le_of_ble_eq_true rfl) hF dX5_brownOf_38
  · rw [if_neg c1] at hF
    refine lv_iload_n hM.x hM.b dX5_brownOf_13 rfl (lv_at hl 2 rfl) ?_
    refine lv_iconst (v := 0) hM.x hM.b dX5_brownOf_14 (by decide) ?_
    refine lv_iconst (v := 3) hM.x hM.b dX5_brownOf_15 (by decide) ?_
    refine k_cip hw (k_runS [.int (b), .int (0), .int (3)] [] hM hw (m_X5_isIn l g κ1 _ (b) (0) (3)) (k_gS u_ml_X5_38 u_st_X5_isIn u_ini_X5 u_co_X5_isIn) (q_X5_isIn) rfl rfl rfl ⟨Nat.le_of_ble_eq_true rfl, Nat.le_of_ble_eq_true rfl⟩ hl.1 rfl (Nat.le_of_ble_eq_true rfl) dX5_brownOf_16 ⟨Nat.le_of_ble_eq_true rfl, Nat.le_of_ble_eq_true rfl⟩) (fun H locs hw => ?_)
    refine lv_if_eq (tgt := 33) hM.x hM.b dX5_brownOf_19 (by decide) (fun c2 => ?_) (fun c2 => ?_)
    · rw [if_pos c2] at hF
      refine lv_aload_n hM.x hM.b dX5_brownOf_33 rfl (lv_at hl 0 rfl) ?_
      refine lv_iconst (v := 1) hM.x hM.b dX5_brownOf_34 (by decide) ?_
      refine k_ci hw (k_runV [.int (1)] [] hM hw (m_X5_fail l g κ1 _ (1)) (kd_lt kd_91 (by decide)) (sh5 kd_91) rfl (k_gV u_ml_X5_103 u_im_X5_fail u_se_X5_fail u_ini_X5 u_co_X5_fail) (q_X5_fail) rfl rfl rfl ⟨Nat.le_of_ble_eq_true rfl, Nat.le_of_ble_eq_true rfl⟩ hl.1 rfl (Nat.le_of_ble_eq_true rfl) dX5_brownOf_35 ⟨Nat.le_of_ble_eq_true rfl, Nat.le_of_ble_eq_true rfl⟩) (fun r2 κ3 H locs hpκ3 hw => ?_)
      simp only [hpκ3] at hF
      exact k_iret hM hr hw (Nat.le_of_ble_eq_true rfl) (Nat.le_of_ble_eq_true rfl) hF dX5_brownOf_38
    · rw [if_neg c2] at hF
      refine lv_aload_n hM.x hM.b dX5_brownOf_22 rfl (lv_at hl 0 rfl) ?_
      refine lv_iload_n hM.x hM.b dX5_brownOf_23 rfl (lv_at hl 1 rfl) ?_
      refine lv_iconst (v := 4) hM.x hM.b dX5_brownOf_24 (by decide) ?_
      refine lv_iload_n hM.x hM.b dX5_brownOf_25 rfl (lv_at hl 2 rfl) ?_
      refine lv_iadd hM.x hM.b dX5_brownOf_26 ?_
      refine k_cip hw (k_runV [.int (a), .int (((4) + (b)))] [] hM hw (m_X5_ro l g κ1 _ (a) (((4) + (b))) (isRoast_in (MI_th eκ1 hMI) c1) (in_add4 (isIn_in4 c2))) (kd_lt kd_91 (by decide)) (sh5 kd_91) rfl (k_gV u_ml_X5_61 u_im_X5_ro u_se_X5_ro u_ini_X5 u_co_X5_ro) (q_X5_ro) rfl rfl rfl ⟨Nat.le_of_ble_eq_true rfl, Nat.le_of_ble_eq_true rfl⟩ hl.1 rfl (Nat.le_of_ble_eq_true rfl) dX5_brownOf_27 ⟨Nat.le_of_ble_eq_true rfl, Nat.le_of_ble_eq_true rfl⟩) (fun H locs hw => ?_)
      refine lv_goto (tgt := 38) hM.x hM.b dX5_brownOf_30 (by decide) ?_
      exact k_iret hM hr hw (Nat.le_of_ble_eq_true rfl) (Nat.le_of_ble_eq_true rfl) hF dX5_brownOf_38
theorem q_X5_isDone : hdV yX5_isDone RX5 1 := ⟨rfl, by decide +kernel, by decide +kernel, by decide +kernel⟩
def f_X5_isDone (κ : Kp) (a : Int32) : Int32 × Kp := if (bi (f_X5_isRoast κ (a))) = 0 then ((fun κ1 : Kp => (bi false, κ1)) (up2 κ (91) 0 (1))) else ((fun κ2 : Kp => if (bi (f_X5_done κ2 (a))) = 0 then ((bi false, κ2)) else ((bi true, κ2))) (up2 κ (91) 0 (0)))
set_option maxRecDepth 100000 in
set_option maxHeartbeats 4000000 in
theorem m_X5_isDone (l : Launch) (g : Gt) (κ : Kp) (sz : Nat) (a : Int32) (hMI : MI κ) : Met l yX5_isDone (.code yX5_isDone cX5_isDone 2 (some .boolean) :: uW) { frames := 3, cells := 0, slots := 0, locals := 90 } (PRE g κ sz [.ref (g.2.2 (91)), .int (a)]) (va_Qi (fun r κ' => f_X5_isDone κ a = (r, κ')) (Wp g) (fr g sz)) 0 0 (fr g sz) := by
  refine k_enter (by decide +kernel) (Nat.le_of_ble_eq_true rfl) ?_
  intro p e s m below meth c ls hM hr hl hw hsz
  subst hsz
  have hl : lv_has ls 2 [(0, .ref (g.2.2 (91))), (1, .int (a))] := hl
  have hF := f_X5_isDone.eq_1 κ a
  refine lv_aload_n hM.x hM.b dX5_isDone_0 rfl (lv_at hl 0 rfl) ?_
  refine lv_aload_n hM.x hM.b dX5_isDone_1 rfl (lv_at hl 0 rfl) ?_
  refine lv_iload_n hM.x hM.b dX5_isDone_2 rfl (lv_at hl 1 rfl) ?_
  refine k_cip hw (k_runV [.int (a)] [.ref (g.2.2 (91))] hM hw (m_X5_isRoast l g κ _ (a)) (kd_lt kd_91 (by decide)) (sh5 kd_91) rfl (k_gV u_ml_X5_135 u_im_X5_isRoast u_se_X5_isRoast u_ini_X5 u_co_X5_isRoast) (q_X5_isRoast) rfl rfl rfl ⟨Nat.le_of_ble_eq_true rfl, Nat.le_of_ble_eq_true rfl⟩ hl.1 rfl (Nat.le_of_ble_eq_true rfl) dX5_isDone_3 ⟨Nat.le_of_ble_eq_true rfl, Nat.le_of_ble_eq_true rfl⟩) (fun H locs hw => ?_)
  refine lv_if_eq (tgt := 13) hM.x hM.b dX5_isDone_6 (by decide) (fun c1 => ?_) (fun c1 => ?_)
  · rw [if_pos c1] at hF
    refine lv_iconst (v := 1) hM.x hM.b dX5_isDone_13 (by decide) ?_
    refine k_put5 0 hM hw (by decide) u_fl_X5_32 dX5_isDone_14 (fun H locs hw => ?_)
    obtain ⟨κ1, eκ1⟩ : ∃ z : Kp, up2 κ (91) 0 (1) = z := ⟨_, rfl⟩
    rw [eκ1] at hw
    rw [eκ1] at hF
    try dsimp only at hF
    refine lv_aload_n hM.x hM.b dX5_isDone_17 rfl (lv_at hl 0 rfl) ?_
    refine k_get5v 0 (v := 1) hM hw (by decide) u_fl_X5_32 (by rw [← eκ1]; exact up2_self _ _ _ _) dX5_isDone_18 ?_
    refine lv_if_ne (tgt := 36) hM.x hM.b dX5_isDone_21 (by decide) (fun _ => ?_) (fun cz => absurd cz (by decide))
    refine lv_iconst (v := 0) hM.x hM.b dX5_isDone_36 (by decide) ?_
    exact k_zret (b := false) hM hr hw (Nat.le_of_ble_eq_true rfl) (Nat.le_of_ble_eq_true rfl) hF dX5_isDone_37
  · rw [if_neg c1] at hF
    refine lv_iconst (v := 0) hM.x hM.b dX5_isDone_9 (by decide) ?_
    refine lv_goto (tgt := 14) hM.x hM.b dX5_isDone_10 (by decide) ?_
    refine k_put5 0 hM hw (by decide) u_fl_X5_32 dX5_isDone_14 (fun H locs hw => ?_)
    obtain ⟨κ2, eκ2⟩ : ∃ z : Kp, up2 κ (91) 0 (0) = z := ⟨_, rfl⟩
    rw [eκ2] at hw
    rw [eκ2] at hF
    try dsimp only at hF
    refine lv_aload_n hM.x hM.b dX5_isDone_17 rfl (lv_at hl 0 rfl) ?_
    refine k_get5v 0 (v := 0) hM hw (by decide) u_fl_X5_32 (by rw [← eκ2]; exact up2_self _ _ _ _) dX5_isDone_18 ?_
    refine lv_if_ne (tgt := 36) hM.x hM.b dX5_isDone_21 (by decide) (fun cz => absurd cz (by decide)) (fun _ => ?_)
    refine lv_aload_n hM.x hM.b dX5_isDone_24 rfl (lv_at hl 0 rfl) ?_
    refine lv_iload_n hM.x hM.b dX5_isDone_25 rfl (lv_at hl 1 rfl) ?_
    refine k_cip hw (k_runV [.int (a)] [] hM hw (m_X5_done l g κ2 _ (a) (isRoast_in hMI c1)) (kd_lt kd_91 (by decide)) (sh5 kd_91) rfl (k_gV u_ml_X5_141 u_im_X5_done u_se_X5_done u_ini_X5 u_co_X5_done) (q_X5_done) rfl rfl rfl ⟨Nat.le_of_ble_eq_true rfl, Nat.le_of_ble_eq_true rfl⟩ hl.1 rfl (Nat.le_of_ble_eq_true rfl) dX5_isDone_26 ⟨Nat.le_of_ble_eq_true rfl, Nat.le_of_ble_eq_true rfl⟩) (fun H locs hw => ?_)
    refine lv_if_eq (tgt := 36) hM.x hM.b dX5_isDone_29 (by decide) (fun c2 => ?_) (fun c2 => ?_)
    · rw [if_pos c2] at hF
      refine lv_iconst (v := 0) hM.x hM.b dX5_isDone_36 (by decide) ?_
      exact k_zret (b := false) hM hr hw (Nat.le_of_ble_eq_true rfl) (Nat.le_of_ble_eq_true rfl) hF dX5_isDone_37
    · rw [if_neg c2] at hF
      refine lv_iconst (v := 1) hM.x hM.b dX5_isDone_32 (by decide) ?_
      refine lv_goto (tgt := 37) hM.x hM.b dX5_isDone_33 (by decide) ?_
      exact k_zret (b := true) hM hr hw (Nat.le_of_ble_eq_true rfl) (Nat.le_of_ble_eq_true rfl) hF dX5_isDone_37
theorem q_X5_isBurnt : hdV yX5_isBurnt RX5 1 := ⟨rfl, by decide +kernel, by decide +kernel, by decide +kernel⟩
def f_X5_isBurnt (κ : Kp) (a : Int32) : Int32 × Kp := if (bi (f_X5_isRoast κ (a))) = 0 then ((fun κ1 : Kp => (bi false, κ1)) (up2 κ (91) 0 (1))) else ((fun κ2 : Kp => if (bi (f_X5_burnt κ2 (a))) = 0 then ((bi false, κ2)) else ((bi true, κ2))) (up2 κ (91) 0 (0)))
set_option maxRecDepth 100000 in
set_option maxHeartbeats 4000000 in
theorem m_X5_isBurnt (l : Launch) (g : Gt) (κ : Kp) (sz : Nat) (a : Int32) (hMI : MI κ) : Met l yX5_isBurnt (.code yX5_isBurnt cX5_isBurnt 2 (some .boolean) :: uW) { frames := 3, cells := 0, slots := 0, locals := 90 } (PRE g κ sz [.ref (g.2.2 (91)), .int (a)]) (va_Qi (fun r κ' => f_X5_isBurnt κ a = (r, κ')) (Wp g) (fr g sz)) 0 0 (fr g sz) := by
  refine k_enter (by decide +kernel) (Nat.le_of_ble_eq_true rfl) ?_
  intro p e s m below meth c ls hM hr hl hw hsz
  subst hsz
  have hl : lv_has ls 2 [(0, .ref (g.2.2 (91))), (1, .int (a))] := hl
  have hF := f_X5_isBurnt.eq_1 κ a
  refine lv_aload_n hM.x hM.b dX5_isBurnt_0 rfl (lv_at hl 0 rfl) ?_
  refine lv_aload_n hM.x hM.b dX5_isBurnt_1 rfl (lv_at hl 0 rfl) ?_
  refine lv_iload_n hM.x hM.b dX5_isBurnt_2 rfl (lv_at hl 1 rfl) ?_
  refine k_cip hw (k_runV [.int (a)] [.ref (g.2.2 (91))] hM hw (m_X5_isRoast l g κ _ (a)) (kd_lt kd_91 (by decide)) (sh5 kd_91) rfl (k_gV u_ml_X5_135 u_im_X5_isRoast u_se_X5_isRoast u_ini_X5 u_co_X5_isRoast) (q_X5_isRoast) rfl rfl rfl ⟨Nat.le_of_ble_eq_true rfl, Nat.le_of_ble_eq_true rfl⟩ hl.1 rfl (Nat.le_of_ble_eq_true rfl) dX5_isBurnt_3 ⟨Nat.le_of_ble_eq_true rfl, Nat.le_of_ble_eq_true rfl⟩) (fun H locs hw => ?_)
  refine lv_if_eq (tgt := 13) hM.x hM.b dX5_isBurnt_6 (by decide) (fun c1 => ?_) (fun c1 => ?_)
  · rw [if_pos c1] at hF
    refine lv_iconst (v := 1) hM.x hM.b dX5_isBurnt_13 (by decide) ?_
    refine k_put5 0 hM hw (by decide) u_fl_X5_32 dX5_isBurnt_14 (fun H locs hw => ?_)
    obtain ⟨κ1, eκ1⟩ : ∃ z : Kp, up2 κ (91) 0 (1) = z := ⟨_, rfl⟩
    rw [eκ1] at hw
    rw [eκ1] at hF
    try dsimp only at hF
    refine lv_aload_n hM.x hM.b dX5_isBurnt_17 rfl (lv_at hl 0 rfl) ?_
    refine k_get5v 0 (v := 1) hM hw (by decide) u_fl_X5_32 (by rw [← eκ1]; exact up2_self _ _ _ _) dX5_isBurnt_18 ?_
    refine lv_if_ne (tgt := 36) hM.x hM.b dX5_isBurnt_21 (by decide) (fun _ => ?_) (fun cz => absurd cz (by decide))
    refine lv_iconst (v := 0) hM.x hM.b dX5_isBurnt_36 (by decide) ?_
    exact k_zret (b := false) hM hr hw (Nat.le_of_ble_eq_true rfl) (Nat.le_of_ble_eq_true rfl) hF dX5_isBurnt_37
  · rw [if_neg c1] at hF
    refine lv_iconst (v := 0) hM.x hM.b dX5_isBurnt_9 (by decide) ?_
    refine lv_goto (tgt := 14) hM.x hM.b dX5_isBurnt_10 (by decide) ?_
    refine k_put5 0 hM hw (by decide) u_fl_X5_32 dX5_isBurnt_14 (fun H locs hw => ?_)
    obtain ⟨κ2, eκ2⟩ : ∃ z : Kp, up2 κ (91) 0 (0) = z := ⟨_, rfl⟩
    rw [eκ2] at hw
    rw [eκ2] at hF
    try dsimp only at hF
    refine lv_aload_n hM.x hM.b dX5_isBurnt_17 rfl (lv_at hl 0 rfl) ?_
    refine k_get5v 0 (v := 0) hM hw (by decide) u_fl_X5_32 (by rw [← eκ2]; exact up2_self _ _ _ _) dX5_isBurnt_18 ?_
    refine lv_if_ne (tgt := 36) hM.x hM.b dX5_isBurnt_21 (by decide) (fun cz => absurd cz (by decide)) (fun _ => ?_)
    refine lv_aload_n hM.x hM.b dX5_isBurnt_24 rfl (lv_at hl 0 rfl) ?_
    refine lv_iload_n hM.x hM.b dX5_isBurnt_25 rfl (lv_at hl 1 rfl) ?_
    refine k_cip hw (k_runV [.int (a)] [] hM hw (m_X5_burnt l g κ2 _ (a) (isRoast_in hMI c1)) (kd_lt kd_91 (by decide)) (sh5 kd_91) rfl (k_gV u_ml_X5_144 u_im_X5_burnt u_se_X5_burnt u_ini_X5 u_co_X5_burnt) (q_X5_burnt) rfl rfl rfl ⟨Nat.le_of_ble_eq_true rfl, Nat.le_of_ble_eq_true rfl⟩ hl.1 rfl (Nat.le_of_ble_eq_true rfl) dX5_isBurnt_26 ⟨Nat.le_of_ble_eq_true rfl, Nat.le_of_ble_eq_true rfl⟩) (fun H locs hw => ?_)
    refine lv_if_eq (tgt := 36) hM.x hM.b dX5_isBurnt_29 (by decide) (fun c2 => ?_) (fun c2 => ?_)
    · rw [if_pos c2] at hF
      refine lv_iconst (v := 0) hM.x hM.b dX5_isBurnt_36 (by decide) ?_
      exact k_zret (b := false) hM hr hw (Nat.le_of_ble_eq_true rfl) (Nat.le_of_ble_eq_true rfl) hF dX5_isBurnt_37
    · rw [if_neg c2] at hF
      refine lv_iconst (v := 1) hM.x hM.b dX5_isBurnt_32 (by decide) ?_
      refine lv_goto (tgt := 37) hM.x hM.b dX5_isBurnt_33 (by decide) ?_
      exact k_zret (b := true) hM hr hw (Nat.le_of_ble_eq_true rfl) (Nat.le_of_ble_eq_true rfl) hF dX5_isBurnt_37
