theorem q_X0_burn : hdV yX0_burn RX0 1 := ⟨rfl, by decide +kernel, by decide +kernel, by decide +kernel⟩
def f_X0_burn (κ : Kp) (k : Nat) (a : Int32) : Kp := if (κ (k) 0) ≤ 0 then ((fun κ1 : Kp => (fun κ2 : Kp => κ2) (up2 κ1 (k) 2 (0))) (up2 κ (k) 1 ((if (0) < ((if (((κ (k) 1) + (((κ (k) 2) + ((-1)))))) < (9) then (((κ (k) 1) + (((κ (k) 2) + ((-1)))))) else (9))) then ((if (((κ (k) 1) + (((κ (k) 2) + ((-1)))))) < (9) then (((κ (k) 1) + (((κ (k) 2) + ((-1)))))) else (9))) else (0))))) else (if (((a) - (a) / (5) * (5))) = 0 then ((fun κ5 : Kp => (fun κ6 : Kp => (fun κ7 : Kp => κ7) (up2 κ6 (k) 2 (0))) (up2 κ5 (k) 1 ((if (0) < ((if (((κ5 (k) 1) + (((κ (k) 2) + (1))))) < (9) then (((κ5 (k) 1) + (((κ (k) 2) + (1))))) else (9))) then ((if (((κ5 (k) 1) + (((κ (k) 2) + (1))))) < (9) then (((κ5 (k) 1) + (((κ (k) 2) + (1))))) else (9))) else (0))))) (up2 κ (k) 0 (((κ (k) 0) - (1))))) else ((fun κ3 : Kp => (fun κ4 : Kp => κ4) (up2 κ3 (k) 2 (0))) (up2 κ (k) 1 ((if (0) < ((if (((κ (k) 1) + (((κ (k) 2) + (1))))) < (9) then (((κ (k) 1) + (((κ (k) 2) + (1))))) else (9))) then ((if (((κ (k) 1) + (((κ (k) 2) + (1))))) < (9) then (((κ (k) 1) + (((κ (k) 2) + (1))))) else (9))) else (0))))))
set_option maxRecDepth 100000 in
set_option maxHeartbeats 4000000 in
theorem m_X0_burn (l : Launch) (g : Gt) (κ : Kp) (sz : Nat) (k : Nat) (a : Int32) (hk : kd k = 0) : Met l yX0_burn (.code yX0_burn cX0_burn 3 none :: uW) { frames := 1, cells := 0, slots := 0, locals := 30 } (PRE g κ sz [.ref (g.2.2 (k)), .int (a)]) (va_Qv (fun κ' => κ' = f_X0_burn κ k a) (Wp g) (fr g sz)) 0 0 (fr g sz) := by
  refine k_enter (by decide +kernel) (Nat.le_of_ble_eq_true rfl) ?_
  intro p e s m below meth c ls hM hr hl hw hsz
  subst hsz
  have hl : lv_has ls 3 [(0, .ref (g.2.2 (k))), (1, .int (a))] := hl
  have hF := f_X0_burn.eq_1 κ k a
  refine lv_aload_n hM.x hM.b dX0_burn_0 rfl (lv_at hl 0 rfl) ?_
  refine k_get0 2 hM hw hk (by decide) u_fl_X0_18 dX0_burn_1 ?_
  refine lv_aload_n hM.x hM.b dX0_burn_4 rfl (lv_at hl 0 rfl) ?_
  refine k_get0 0 hM hw hk (by decide) u_fl_X0_9 dX0_burn_5 ?_
  refine lv_if_le (tgt := 15) hM.x hM.b dX0_burn_8 (by decide) (fun c1 => ?_) (fun c1 => ?_)
  · rw [if_pos c1] at hF
    refine lv_iconst (v := -1) hM.x hM.b dX0_burn_15 (by decide) ?_
    refine lv_iadd hM.x hM.b dX0_burn_16 ?_
    refine lv_istore_n (lv' := [(2, .int (((κ (k) 2) + ((-1))))), (0, .ref (g.2.2 (k))), (1, .int (a))]) hM.x hM.b dX0_burn_17 rfl hl (by decide) rfl (fun ls hl => ?_)
    refine lv_aload_n hM.x hM.b dX0_burn_18 rfl (lv_at hl 1 rfl) ?_
    refine k_get0 0 hM hw hk (by decide) u_fl_X0_9 dX0_burn_19 ?_
    refine lv_if_le (tgt := 41) hM.x hM.b dX0_burn_22 (by decide) (fun _ => ?_) (fun cz => absurd c1 cz)
    refine lv_aload_n hM.x hM.b dX0_burn_41 rfl (lv_at hl 1 rfl) ?_
    refine lv_iconst (v := 0) hM.x hM.b dX0_burn_42 (by decide) ?_
    refine lv_bipush (v := 9) hM.x hM.b dX0_burn_43 (by decide) ?_
    refine lv_aload_n hM.x hM.b dX0_burn_45 rfl (lv_at hl 1 rfl) ?_
    refine k_get0 1 hM hw hk (by decide) u_fl_X0_15 dX0_burn_46 ?_
    refine lv_iload_n hM.x hM.b dX0_burn_49 rfl (lv_at hl 0 rfl) ?_
    refine lv_iadd hM.x hM.b dX0_burn_50 ?_
    refine va_mmin hM.x hM.b (hM.ml.trans hl.1.symm) hM.ow (hM.ts _ u_ml_X0_21) (hM.ts _ u_st_JM_min) (hM.ts _ u_ini_JM) (hM.ts _ u_co_JM_min) (Nat.le_of_ble_eq_true rfl) (Nat.le_of_ble_eq_true rfl) (Nat.le_of_ble_eq_true rfl) (Nat.le_of_ble_eq_true rfl) dX0_burn_51 ?_
    refine va_mmax hM.x hM.b (hM.ml.trans hl.1.symm) hM.ow (hM.ts _ u_ml_X0_27) (hM.ts _ u_st_JM_max) (hM.ts _ u_ini_JM) (hM.ts _ u_co_JM_max) (Nat.le_of_ble_eq_true rfl) (Nat.le_of_ble_eq_true rfl) (Nat.le_of_ble_eq_true rfl) (Nat.le_of_ble_eq_true rfl) dX0_burn_54 ?_
    refine k_put0 1 hM hw hk (by decide) u_fl_X0_15 dX0_burn_57 (fun H locs hw => ?_)
    obtain ⟨κ1, eκ1⟩ : ∃ z : Kp, up2 κ (k) 1 ((if (0) < ((if (((κ (k) 1) + (((κ (k) 2) + ((-1)))))) < (9) then (((κ (k) 1) + (((κ (k) 2) + ((-1)))))) else (9))) then ((if (((κ (k) 1) + (((κ (k) 2) + ((-1)))))) < (9) then (((κ (k) 1) + (((κ (k) 2) + ((-1)))))) else (9))) else (0))) = z := ⟨_, rfl⟩
    rw [eκ1] at hw
    rw [eκ1] at hF
    try dsimp only at hF
    refine lv_aload_n hM.x hM.b dX0_burn_60 rfl (lv_at hl 1 rfl) ?_
    refine lv_iconst (v := 0) hM.x hM.b dX0_burn_61 (by decide) ?_
    refine k_put0 2 hM hw hk (by decide) u_fl_X0_18 dX0_burn_62 (fun H locs hw => ?_)
    obtain ⟨κ2, eκ2⟩ : ∃ z : Kp, up2 κ1 (k) 2 (0) = z := ⟨_, rfl⟩
    rw [eκ2] at hw
    rw [eκ2] at hF
    try dsimp only at hF
    exact k_vret hM hr hw (Nat.le_of_ble_eq_true rfl) (Nat.le_of_ble_eq_true rfl) hF.symm dX0_burn_65
  · rw [if_neg c1] at hF
    refine lv_iconst (v := 1) hM.x hM.b dX0_burn_11 (by decide) ?_
    refine lv_goto (tgt := 16) hM.x hM.b dX0_burn_12 (by decide) ?_
    refine lv_iadd hM.x hM.b dX0_burn_16 ?_
    refine lv_istore_n (lv' := [(2, .int (((κ (k) 2) + (1)))), (0, .ref (g.2.2 (k))), (1, .int (a))]) hM.x hM.b dX0_burn_17 rfl hl (by decide) rfl (fun ls hl => ?_)
    refine lv_aload_n hM.x hM.b dX0_burn_18 rfl (lv_at hl 1 rfl) ?_
    refine k_get0 0 hM hw hk (by decide) u_fl_X0_9 dX0_burn_19 ?_
    refine lv_if_le (tgt := 41) hM.x hM.b dX0_burn_22 (by decide) (fun cz => absurd cz c1) (fun _ => ?_)
    refine lv_iload_n hM.x hM.b dX0_burn_25 rfl (lv_at hl 2 rfl) ?_
    refine lv_iconst (v := 5) hM.x hM.b dX0_burn_26 (by decide) ?_
    refine lv_irem hM.x hM.b dX0_burn_27 (by decide) ?_
    refine lv_if_ne (tgt := 41) hM.x hM.b dX0_burn_28 (by decide) (fun c2 => ?_) (fun c2 => ?_)
    · rw [if_neg c2] at hF
      refine lv_aload_n hM.x hM.b dX0_burn_41 rfl (lv_at hl 1 rfl) ?_
      refine lv_iconst (v := 0) hM.x hM.b dX0_burn_42 (by decide) ?_
      refine lv_bipush (v := 9) hM.x hM.b dX0_burn_43 (by decide) ?_
      refine lv_aload_n hM.x hM.b dX0_burn_45 rfl (lv_at hl 1 rfl) ?_
      refine k_get0 1 hM hw hk (by decide) u_fl_X0_15 dX0_burn_46 ?_
      refine lv_iload_n hM.x hM.b dX0_burn_49 rfl (lv_at hl 0 rfl) ?_
      refine lv_iadd hM.x hM.b dX0_burn_50 ?_
      refine va_mmin hM.x hM.b (hM.ml.trans hl.1.symm) hM.ow (hM.ts _ u_ml_X0_21) (hM.ts _ u_st_JM_min) (hM.ts _ u_ini_JM) (hM.ts _ u_co_JM_min) (Nat.le_of_ble_eq_true rfl) (Nat.le_of_ble_eq_true rfl) (Nat.le_of_ble_eq_true rfl) (Nat.le_of_ble_eq_true rfl) dX0_burn_51 ?_
      refine va_mmax hM.x hM.b (hM.ml.trans hl.1.symm) hM.ow (hM.ts _ u_ml_X0_27) (hM.ts _ u_st_JM_max) (hM.ts _ u_ini_JM) (hM.ts _ u_co_JM_max) (Nat.le_of_ble_eq_true rfl) (Nat.le_of_ble_eq_true rfl) (Nat.le_of_ble_eq_true rfl) (Nat.le_of_ble_eq_true rfl) dX0_burn_54 ?_
      refine k_put0 1 hM hw hk (by decide) u_fl_X0_15 dX0_burn_57 (fun H locs hw => ?_)
      obtain ⟨κ3, eκ3⟩ : ∃ z : Kp, up2 κ (k) 1 ((if (0) < ((if (((κ (k) 1) + (((κ (k) 2) + (1))))) < (9) then (((κ (k) 1) + (((κ (k) 2) + (1))))) else (9))) then ((if (((κ (k) 1) + (((κ (k) 2) + (1))))) < (9) then (((κ (k) 1) + (((κ (k) 2) + (1))))) else (9))) else (0))) = z := ⟨_, rfl⟩
      rw [eκ3] at hw
      rw [eκ3] at hF
      try dsimp only at hF
      refine lv_aload_n hM.x hM.b dX0_burn_60 rfl (lv_at hl 1 rfl) ?_
      refine lv_iconst (v := 0) hM.x hM.b dX0_burn_61 (by decide) ?_
      refine k_put0 2 hM hw hk (by decide) u_fl_X0_18 dX0_burn_62 (fun H locs hw => ?_)
      obtain ⟨κ4, eκ4⟩ : ∃ z : Kp, up2 κ3 (k) 2 (0) = z := ⟨_, rfl⟩
      rw [eκ4] at hw
      rw [eκ4] at hF
      try dsimp only at hF
      exact k_vret hM hr hw (Nat.le_of_ble_eq_true rfl) (Nat.le_of_ble_eq_true rfl) hF.symm dX0_burn_65
    · rw [if_pos c2] at hF
      refine lv_aload_n hM.x hM.b dX0_burn_31 rfl (lv_at hl 1 rfl) ?_
      refine lv_dup hM.x hM.b dX0_burn_32 rfl ?_
      refine k_get0 0 hM hw hk (by decide) u_fl_X0_9 dX0_burn_33 ?_
      refine lv_iconst (v := 1) hM.x hM.b dX0_burn_36 (by decide) ?_
      refine lv_isub hM.x hM.b dX0_burn_37 ?_
      refine k_put0 0 hM hw hk (by decide) u_fl_X0_9 dX0_burn_38 (fun H locs hw => ?_)
      obtain ⟨κ5, eκ5⟩ : ∃ z : Kp, up2 κ (k) 0 (((κ (k) 0) - (1))) = z := ⟨_, rfl⟩
      rw [eκ5] at hw
      rw [eκ5] at hF
      try dsimp only at hF
      refine lv_aload_n hM.x hM.b dX0_burn_41 rfl (lv_at hl 1 rfl) ?_
      refine lv_iconst (v := 0) hM.x hM.b dX0_burn_42 (by decide) ?_
      refine lv_bipush (v := 9) hM.x hM.b dX0_burn_43 (by decide) ?_
      refine lv_aload_n hM.x hM.b dX0_burn_45 rfl (lv_at hl 1 rfl) ?_
      refine k_get0 1 hM hw hk (by decide) u_fl_X0_15 dX0_burn_46 ?_
      refine lv_iload_n hM.x hM.b dX0_burn_49 rfl (lv_at hl 0 rfl) ?_
      refine lv_iadd hM.x hM.b dX0_burn_50 ?_
      refine va_mmin hM.x hM.b (hM.ml.trans hl.1.symm) hM.ow (hM.ts _ u_ml_X0_21) (hM.ts _ u_st_JM_min) (hM.ts _ u_ini_JM) (hM.ts _ u_co_JM_min) (Nat.le_of_ble_eq_true rfl) (Nat.le_of_ble_eq_true rfl) (Nat.le_of_ble_eq_true rfl) (Nat.le_of_ble_eq_true rfl) dX0_burn_51 ?_
      refine va_mmax hM.x hM.b (hM.ml.trans hl.1.symm) hM.ow (hM.ts _ u_ml_X0_27) (hM.ts _ u_st_JM_max) (hM.ts _ u_ini_JM) (hM.ts _ u_co_JM_max) (Nat.le_of_ble_eq_true rfl) (Nat.le_of_ble_eq_true rfl) (Nat.le_of_ble_eq_true rfl) (Nat.le_of_ble_eq_true rfl) dX0_burn_54 ?_
      refine k_put0 1 hM hw hk (by decide) u_fl_X0_15 dX0_burn_57 (fun H locs hw => ?_)
      obtain ⟨κ6, eκ6⟩ : ∃ z : Kp, up2 κ5 (k) 1 ((if (0) < ((if (((κ5 (k) 1) + (((κ (k) 2) + (1))))) < (9) then (((κ5 (k) 1) + (((κ (k) 2) + (1))))) else (9))) then ((if (((κ5 (k) 1) + (((κ (k) 2) + (1))))) < (9) then (((κ5 (k) 1) + (((κ (k) 2) + (1))))) else (9))) else (0))) = z := ⟨_, rfl⟩
      rw [eκ6] at hw
      rw [eκ6] at hF
      try dsimp only at hF
      refine lv_aload_n hM.x hM.b dX0_burn_60 rfl (lv_at hl 1 rfl) ?_
      refine lv_iconst (v := 0) hM.x hM.b dX0_burn_61 (by decide) ?_
      refine k_put0 2 hM hw hk (by decide) u_fl_X0_18 dX0_burn_62 (fun H locs hw => ?_)
      obtain ⟨κ7, eκ7⟩ : ∃ z : Kp, up2 κ6 (k) 2 (0) = z := ⟨_, rfl⟩
      rw [eκ7] at hw
      rw [eκ7] at hF
      try dsimp only at hF
      exact k_vret hM hr hw (Nat.le_of_ble_eq_true rfl) (Nat.le_of_ble_eq_true rfl) hF.symm dX0_burn_65
theorem q_X3_countAnew : hdV yX3_countAnew RX3 1 := ⟨rfl, by decide +kernel, by decide +kernel, by decide +kernel⟩
def f_X3_countAnew (κ : Kp) (k : Nat) (a : Int32) : Kp := (fun κ1 : Kp => (fun κ2 : Kp => κ2) (up2 κ1 (k) 3 (0))) (up2 κ (k) 2 (a))
set_option maxRecDepth 100000 in
set_option maxHeartbeats 4000000 in
theorem m_X3_countAnew (l : Launch) (g : Gt) (κ : Kp) (sz : Nat) (k : Nat) (a : Int32) (hk : kd k = 3) : Met l yX3_countAnew (.code yX3_countAnew cX3_countAnew 2 none :: uW) { frames := 0, cells := 0, slots := 0, locals := 0 } (PRE g κ sz [.ref (g.2.2 (k)), .int (a)]) (va_Qv (fun κ' => κ' = f_X3_countAnew κ k a) (Wp g) (fr g sz)) 0 0 (fr g sz) := by
  refine k_enter (by decide +kernel) (Nat.le_of_ble_eq_true rfl) ?_
  intro p e s m below meth c ls hM hr hl hw hsz
  subst hsz
  have hl : lv_has ls 2 [(0, .ref (g.2.2 (k))), (1, .int (a))] := hl
  have hF := f_X3_countAnew.eq_1 κ k a
  refine lv_aload_n hM.x hM.b dX3_countAnew_0 rfl (lv_at hl 0 rfl) ?_
  refine lv_iload_n hM.x hM.b dX3_countAnew_1 rfl (lv_at hl 1 rfl) ?_
  refine k_put3 2 hM hw hk (by decide) u_fl_X3_21 dX3_countAnew_2 (fun H locs hw => ?_)
  obtain ⟨κ1, eκ1⟩ : ∃ z : Kp, up2 κ (k) 2 (a) = z := ⟨_, rfl⟩
  rw [eκ1] at hw
  rw [eκ1] at hF
  try dsimp only at hF
  refine lv_aload_n hM.x hM.b dX3_countAnew_5 rfl (lv_at hl 0 rfl) ?_
  refine lv_iconst (v := 0) hM.x hM.b dX3_countAnew_6 (by decide) ?_
  refine k_put3 3 hM hw hk (by decide) u_fl_X3_24 dX3_countAnew_7 (fun H locs hw => ?_)
  obtain ⟨κ2, eκ2⟩ : ∃ z : Kp, up2 κ1 (k) 3 (0) = z := ⟨_, rfl⟩
  rw [eκ2] at hw
  rw [eκ2] at hF
  try dsimp only at hF
  exact k_vret hM hr hw (Nat.le_of_ble_eq_true rfl) (Nat.le_of_ble_eq_true rfl) hF.symm dX3_countAnew_10
theorem q_X3_countsToTurn : hdV yX3_countsToTurn RX3 0 := ⟨rfl, by decide +kernel, by decide +kernel, by decide +kernel⟩
def f_X3_countsToTurn (κ : Kp) (k : Nat) : Int32 × Kp := (fun κ1 : Kp => if (κ1 (k) 2) ≤ 0 then ((bi false, κ1)) else (if (((κ1 (k) 3) - (κ1 (k) 3) / (κ1 (k) 2) * (κ1 (k) 2))) = 0 then ((bi true, κ1)) else ((bi false, κ1)))) (up2 κ (k) 3 (((κ (k) 3) + (1))))
set_option maxRecDepth 100000 in
set_option maxHeartbeats 4000000 in
theorem m_X3_countsToTurn (l : Launch) (g : Gt) (κ : Kp) (sz : Nat) (k : Nat) (hk : kd k = 3) : Met l yX3_countsToTurn (.code yX3_countsToTurn cX3_countsToTurn 1 (some .boolean) :: uW) { frames := 0, cells := 0, slots := 0, locals := 0 } (PRE g κ sz [.ref (g.2.2 (k))]) (va_Qi (fun r κ' => f_X3_countsToTurn κ k = (r, κ')) (Wp g) (fr g sz)) 0 0 (fr g sz) := by
  refine k_enter (by decide +kernel) (Nat.le_of_ble_eq_true rfl) ?_
  intro p e s m below meth c ls hM hr hl hw hsz
  subst hsz
  have hl : lv_has ls 1 [(0, .ref (g.2.2 (k)))] := hl
  have hF := f_X3_countsToTurn.eq_1 κ k
  refine lv_aload_n hM.x hM.b dX3_countsToTurn_0 rfl (lv_at hl 0 rfl) ?_
  refine lv_dup hM.x hM.b dX3_countsToTurn_1 rfl ?_
  refine k_get3 3 hM hw hk (by decide) u_fl_X3_24 dX3_countsToTurn_2 ?_
  refine lv_iconst (v := 1) hM.x hM.b dX3_countsToTurn_5 (by decide) ?_
  refine lv_iadd hM.x hM.b dX3_countsToTurn_6 ?_
  refine k_put3 3 hM hw hk (by decide) u_fl_X3_24 dX3_countsToTurn_7 (fun H locs hw => ?_)
  obtain ⟨κ1, eκ1⟩ : ∃ z : Kp, up2 κ (k) 3 (((κ (k) 3) + (1))) = z := ⟨_, rfl⟩
  rw [eκ1] at hw
  rw [eκ1] at hF
  try dsimp only at hF
  refine lv_aload_n hM.x hM.b dX3_countsToTurn_10 rfl (lv_at hl 0 rfl) ?_
  refine k_get3 2 hM hw hk (by decide) u_fl_X3_21 dX3_countsToTurn_11 ?_
  refine lv_if_le (tgt := 33) hM.x hM.b dX3_countsToTurn_14 (by decide) (fun c1 => ?_) (fun c1 => ?_)
  · rw [if_pos c1] at hF
    refine lv_iconst (v := 0) hM.x hM.b dX3_countsToTurn_33 (by decide) ?_
    exact k_zret (b := false) hM hr hw (Nat.le_of_ble_eq_true rfl) (Nat.le_of_ble_eq_true rfl) hF dX3_countsToTurn_34
  · rw [if_neg c1] at hF
    refine lv_aload_n hM.x hM.b dX3_countsToTurn_17 rfl (lv_at hl 0 rfl) ?_
    refine k_get3 3 hM hw hk (by decide) u_fl_X3_24 dX3_countsToTurn_18 ?_
    refine lv_aload_n hM.x hM.b dX3_countsToTurn_21 rfl (lv_at hl 0 rfl) ?_
    refine k_get3 2 hM hw hk (by decide) u_fl_X3_21 dX3_countsToTurn_22 ?_
    refine lv_irem hM.x hM.b dX3_countsToTurn_25 (nz_pos1 c1) ?_
    refine lv_if_ne (tgt := 33) hM.x hM.b dX3_countsToTurn_26 (by decide) (fun c2 => ?_) (fun c2 => ?_)
    · rw [if_neg c2] at hF
      refine lv_iconst (v := 0) hM.x hM.b dX3_countsToTurn_33 (by decide) ?_
      exact k_zret (b := false) hM hr hw (Nat.le_of_ble_eq_true rfl) (Nat.le_of_ble_eq_true rfl) hF dX3_countsToTurn_34
    · rw [if_pos c2] at hF
      refine lv_iconst (v := 1) hM.x hM.b dX3_countsToTurn_29 (by decide) ?_
      refine lv_goto (tgt := 34) hM.x hM.b dX3_countsToTurn_30 (by decide) ?_
      exact k_zret (b := true) hM hr hw (Nat.le_of_ble_eq_true rfl) (Nat.le_of_ble_eq_true rfl) hF dX3_countsToTurn_34
theorem q_X3_takesDripping : hdV yX3_takesDripping RX3 0 := ⟨rfl, by decide +kernel, by decide +kernel, by decide +kernel⟩
def f_X3_takesDripping (κ : Kp) (k : Nat) : Int32 × Kp := if (κ (k) 4) < (20) then ((fun κ1 : Kp => (bi true, κ1)) (up2 κ (k) 4 (((κ (k) 4) + (1))))) else ((bi false, κ))
set_option maxRecDepth 100000 in
set_option maxHeartbeats 4000000 in
theorem m_X3_takesDripping (l : Launch) (g : Gt) (κ : Kp) (sz : Nat) (k : Nat) (hk : kd k = 3) : Met l yX3_takesDripping (.code yX3_takesDripping cX3_takesDripping 1 (some .boolean) :: uW) { frames := 0, cells := 0, slots := 0, locals := 0 } (PRE g κ sz [.ref (g.2.2 (k))]) (va_Qi (fun r κ' => f_X3_takesDripping κ k = (r, κ')) (Wp g) (fr g sz)) 0 0 (fr g sz) := by
  refine k_enter (by decide +kernel) (Nat.le_of_ble_eq_true rfl) ?_
  intro p e s m below meth c ls hM hr hl hw hsz
  subst hsz
  have hl : lv_has ls 1 [(0, .ref (g.2.2 (k)))] := hl
  have hF := f_X3_takesDripping.eq_1 κ k
  refine lv_aload_n hM.x hM.b dX3_takesDripping_0 rfl (lv_at hl 0 rfl) ?_
  refine k_get3 4 hM hw hk (by decide) u_fl_X3_27 dX3_takesDripping_1 ?_
  refine lv_bipush (v := 20) hM.x hM.b dX3_takesDripping_4 (by decide) ?_
  refine lv_icmp_lt (tgt := 11) hM.x hM.b dX3_takesDripping_6 (by decide) (fun c1 => ?_) (fun c1 => ?_)
  · rw [if_pos c1] at hF
    refine lv_aload_n hM.x hM.b dX3_takesDripping_11 rfl (lv_at hl 0 rfl) ?_
    refine lv_dup hM.x hM.b dX3_takesDripping_12 rfl ?_
    refine k_get3 4 hM hw hk (by decide) u_fl_X3_27 dX3_takesDripping_13 ?_
    refine lv_iconst (v := 1) hM.x hM.b dX3_takesDripping_16 (by decide) ?_
    refine lv_iadd hM.x hM.b dX3_takesDripping_17 ?_
    refine k_put3 4 hM hw hk (by decide) u_fl_X3_27 dX3_takesDripping_18 (fun H locs hw => ?_)
    obtain ⟨κ1, eκ1⟩ : ∃ z : Kp, up2 κ (k) 4 (((κ (k) 4) + (1))) = z := ⟨_, rfl⟩
    rw [eκ1] at hw
    rw [eκ1] at hF
    try dsimp only at hF
    refine lv_iconst (v := 1) hM.x hM.b dX3_takesDripping_21 (by decide) ?_
    exact k_zret (b := true) hM hr hw (Nat.le_of_ble_eq_true rfl) (Nat.le_of_ble_eq_true rfl) hF dX3_takesDripping_22
  · rw [if_neg c1] at hF
    refine lv_iconst (v := 0) hM.x hM.b dX3_takesDripping_9 (by decide) ?_
    exact k_zret (b := false) hM hr hw (Nat.le_of_ble_eq_true rfl) (Nat.le_of_ble_eq_true rfl) hF dX3_takesDripping_10
theorem q_X2_nextSide : hdV yX2_nextSide RX2 1 := ⟨rfl, by decide +kernel, by decide +kernel, by decide +kernel⟩
def f_X2_nextSide (a : Int32) : Int32 := if (a) < (3) then (((a) + (1))) else (0)
set_option maxRecDepth 100000 in
set_option maxHeartbeats 4000000 in
theorem m_X2_nextSide (l : Launch) (g : Gt) (κ : Kp) (sz : Nat) (a : Int32) : Met l yX2_nextSide (.code yX2_nextSide cX2_nextSide 1 (some .int) :: uW) { frames := 0, cells := 0, slots := 0, locals := 0 } (PRE g κ sz [.int (a)]) (va_Qi (fun r κ' => r = f_X2_nextSide a ∧ κ' = κ) (Wp g) (fr g sz)) 0 0 (fr g sz) := by
  refine k_enter (by decide +kernel) (Nat.le_of_ble_eq_true rfl) ?_
  intro p e s m below meth c ls hM hr hl hw hsz
  subst hsz
  have hl : lv_has ls 1 [(0, .int (a))] := hl
  have hF := f_X2_nextSide.eq_1 a
  refine lv_iload_n hM.x hM.b dX2_nextSide_0 rfl (lv_at hl 0 rfl) ?_
  refine lv_iconst (v := 3) hM.x hM.b dX2_nextSide_1 (by decide) ?_
  refine lv_icmp_lt (tgt := 9) hM.x hM.b dX2_nextSide_2 (by decide) (fun c1 => ?_) (fun c1 => ?_)
  · rw [if_pos c1] at hF
    refine lv_iload_n hM.x hM.b dX2_nextSide_9 rfl (lv_at hl 0 rfl) ?_
    refine lv_iconst (v := 1) hM.x hM.b dX2_nextSide_10 (by decide) ?_
    refine lv_iadd hM.x hM.b dX2_nextSide_11 ?_
    exact k_iret hM hr hw (Nat.le_of_ble_eq_true rfl) (Nat.le_of_ble_eq_true rfl) ⟨hF.symm, rfl⟩ dX2_nextSide_12
  · rw [if_neg c1] at hF
    refine lv_iconst (v := 0) hM.x hM.b dX2_nextSide_5 (by decide) ?_
    refine lv_goto (tgt := 12) hM.x hM.b dX2_nextSide_6 (by decide) ?_
    exact k_iret hM hr hw (Nat.le_of_ble_eq_true rfl) (Nat.le_of_ble_eq_true rfl) ⟨hF.symm, rfl⟩ dX2_nextSide_12
theorem q_X2_sideBefore : hdV yX2_sideBefore RX2 1 := ⟨rfl, by decide +kernel, by decide +kernel, by decide +kernel⟩
def f_X2_sideBefore (a : Int32) : Int32 := if 0 < (a) then (((a) - (1))) else (3)
set_option maxRecDepth 100000 in
set_option maxHeartbeats 4000000 in
theorem m_X2_sideBefore (l : Launch) (g : Gt) (κ : Kp) (sz : Nat) (a : Int32) : Met l yX2_sideBefore (.code yX2_sideBefore cX2_sideBefore 1 (some .int) :: uW) { frames := 0, cells := 0, slots := 0, locals := 0 } (PRE g κ sz [.int (a)]) (va_Qi (fun r κ' => r = f_X2_sideBefore a ∧ κ' = κ) (Wp g) (fr g sz)) 0 0 (fr g sz) := by
  refine k_enter (by decide +kernel) (Nat.le_of_ble_eq_true rfl) ?_
  intro p e s m below meth c ls hM hr hl hw hsz
  subst hsz
  have hl : lv_has ls 1 [(0, .int (a))] := hl
  have hF := f_X2_sideBefore.eq_1 a
  refine lv_iload_n hM.x hM.b dX2_sideBefore_0 rfl (lv_at hl 0 rfl) ?_
  refine lv_if_gt (tgt := 8) hM.x hM.b dX2_sideBefore_1 (by decide) (fun c1 => ?_) (fun c1 => ?_)
  · rw [if_pos c1] at hF
    refine lv_iload_n hM.x hM.b dX2_sideBefore_8 rfl (lv_at hl 0 rfl) ?_
    refine lv_iconst (v := 1) hM.x hM.b dX2_sideBefore_9 (by decide) ?_
    refine lv_isub hM.x hM.b dX2_sideBefore_10 ?_
    exact k_iret hM hr hw (Nat.le_of_ble_eq_true rfl) (Nat.le_of_ble_eq_true rfl) ⟨hF.symm, rfl⟩ dX2_sideBefore_11
  · rw [if_neg c1] at hF
    refine lv_iconst (v := 3) hM.x hM.b dX2_sideBefore_4 (by decide) ?_
    refine lv_goto (tgt := 11) hM.x hM.b dX2_sideBefore_5 (by decide) ?_
    exact k_iret hM hr hw (Nat.le_of_ble_eq_true rfl) (Nat.le_of_ble_eq_true rfl) ⟨hF.symm, rfl⟩ dX2_sideBefore_11
theorem q_X2_getBrowner : hdV yX2_getBrowner RX2 2 := ⟨rfl, by decide +kernel, by decide +kernel, by decide +kernel⟩
def f_X2_getBrowner (κ : Kp) (k : Nat) (a : Int32) (b : Int32) : Kp := if (a) < 0 then (κ) else (if (4) ≤ (a) then (κ) else (if (((κ (k + 1) (a).toNatClampNeg) + (b))) ≤ (99) then ((fun κ1 : Kp => κ1) (up2 κ (k + 1) ((a).toNatClampNeg) (((κ (k + 1) (a).toNatClampNeg) + (b))))) else ((fun κ2 : Kp => κ2) (up2 κ (k + 1) ((a).toNatClampNeg) (99)))))
set_option maxRecDepth 100000 in
set_option maxHeartbeats 4000000 in
theorem m_X2_getBrowner (l : Launch) (g : Gt) (κ : Kp) (sz : Nat) (k : Nat) (a : Int32) (b : Int32) (hk : kd k = 2) : Met l yX2_getBrowner (.code yX2_getBrowner cX2_getBrowner 4 none :: uW) { frames := 0, cells := 0, slots := 0, locals := 0 } (PRE g κ sz [.ref (g.2.2 (k)), .int (a), .int (b)]) (va_Qv (fun κ' => κ' = f_X2_getBrowner κ k a b) (Wp g) (fr g sz)) 0 0 (fr g sz) := by
  refine k_enter (by decide +kernel) (Nat.le_of_ble_eq_true rfl) ?_
  intro p e s m below meth c ls hM hr hl hw hsz
  subst hsz
  have hl : lv_has ls 4 [(0, .ref (g.2.2 (k))), (1, .int (a)), (2, .int (b))] := hl
  have hF := f_X2_getBrowner.eq_1 κ k a b
  refine lv_iload_n hM.x hM.b dX2_getBrowner_0 rfl (lv_at hl 1 rfl) ?_
  refine lv_if_lt (tgt := 40) hM.x hM.b dX2_getBrowner_1 (by decide) (fun c1 => ?_) (fun c1 => ?_)
  · rw [if_pos c1] at hF
    exact k_vret hM hr hw (Nat.le_of_ble_eq_true rfl) (Nat.le_of_ble_eq_true rfl) hF.symm dX2_getBrowner_40
  · rw [if_neg c1] at hF
    refine lv_iload_n hM.x hM.b dX2_getBrowner_4 rfl (lv_at hl 1 rfl) ?_
    refine lv_aload_n hM.x hM.b dX2_getBrowner_5 rfl (lv_at hl 0 rfl) ?_
    refine k_get2r hM hw hk u_fl_X2_9 dX2_getBrowner_6 ?_
    refine k_alen (v := 4) hM hw (hw.dm (kd2_6 hk) (by decide)) 0 (sh6 (kd2_6 hk)) rfl rfl dX2_getBrowner_9 ?_
    refine lv_icmp_ge (tgt := 40) hM.x hM.b dX2_getBrowner_10 (by decide) (fun c2 => ?_) (fun c2 => ?_)
    · rw [if_pos c2] at hF
      exact k_vret hM hr hw (Nat.le_of_ble_eq_true rfl) (Nat.le_of_ble_eq_true rfl) hF.symm dX2_getBrowner_40
    · rw [if_neg c2] at hF
      refine lv_aload_n hM.x hM.b dX2_getBrowner_13 rfl (lv_at hl 0 rfl) ?_
      refine k_get2r hM hw hk u_fl_X2_9 dX2_getBrowner_14 ?_
      refine lv_iload_n hM.x hM.b dX2_getBrowner_17 rfl (lv_at hl 1 rfl) ?_
      refine k_iald (n := 4) hM hw (hw.dm (kd2_6 hk) (by decide)) (sh6 (kd2_6 hk)) (vpin1 (M := 4) (n := 4) rfl c1 c2) dX2_getBrowner_18 ?_
      refine lv_iload_n hM.x hM.b dX2_getBrowner_19 rfl (lv_at hl 2 rfl) ?_
      refine lv_iadd hM.x hM.b dX2_getBrowner_20 ?_
      refine lv_istore_n (lv' := [(3, .int (((κ (k + 1) (a).toNatClampNeg) + (b)))), (0, .ref (g.2.2 (k))), (1, .int (a)), (2, .int (b))]) hM.x hM.b dX2_getBrowner_21 rfl hl (by decide) rfl (fun ls hl => ?_)
      refine lv_aload_n hM.x hM.b dX2_getBrowner_22 rfl (lv_at hl 1 rfl) ?_
      refine k_get2r hM hw hk u_fl_X2_9 dX2_getBrowner_23 ?_
      refine lv_iload_n hM.x hM.b dX2_getBrowner_26 rfl (lv_at hl 2 rfl) ?_
      refine lv_iload_n hM.x hM.b dX2_getBrowner_27 rfl (lv_at hl 0 rfl) ?_
      refine lv_bipush (v := 99) hM.x hM.b dX2_getBrowner_28 (by decide) ?_
      refine lv_icmp_le (tgt := 38) hM.x hM.b dX2_getBrowner_30 (by decide) (fun c3 => ?_) (fun c3 => ?_)
      · rw [if_pos c3] at hF
        refine lv_iload_n hM.x hM.b dX2_getBrowner_38 rfl (lv_at hl 0 rfl) ?_
        refine k_iast (n := 4) hM hw (hw.dm (kd2_6 hk) (by decide)) (fun r => sh6 (kd2_6 hk)) (vpin1 (M := 4) (n := 4) rfl c1 c2) dX2_getBrowner_39 (fun H locs hw => ?_)
        obtain ⟨κ1, eκ1⟩ : ∃ z : Kp, up2 κ (k + 1) ((a).toNatClampNeg) (((κ (k + 1) (a).toNatClampNeg) + (b))) = z := ⟨_, rfl⟩
        rw [eκ1] at hw
        rw [eκ1] at hF
        try dsimp only at hF
        exact k_vret hM hr hw (Nat.le_of_ble_eq_true rfl) (Nat.le_of_ble_eq_true rfl) hF.symm dX2_getBrowner_40
      · rw [if_neg c3] at hF
        refine lv_bipush (v := 99) hM.x hM.b dX2_getBrowner_33 (by decide) ?_
        refine lv_goto (tgt := 39) hM.x hM.b dX2_getBrowner_35 (by decide) ?_
        refine k_iast (n := 4) hM hw (hw.dm (kd2_6 hk) (by decide)) (fun r => sh6 (kd2_6 hk)) (vpin1 (M := 4) (n := 4) rfl c1 c2) dX2_getBrowner_39 (fun H locs hw => ?_)
        obtain ⟨κ2, eκ2⟩ : ∃ z : Kp, up2 κ (k + 1) ((a).toNatClampNeg) (99) = z := ⟨_, rfl⟩
        rw [eκ2] at hw
        rw [eκ2] at hF
        try dsimp only at hF
        exact k_vret hM hr hw (Nat.le_of_ble_eq_true rfl) (Nat.le_of_ble_eq_true rfl) hF.symm dX2_getBrowner_40
theorem q_X2_getGlow : hdV yX2_getGlow RX2 1 := ⟨rfl, by decide +kernel, by decide +kernel, by decide +kernel⟩
def f_X2_getGlow (κ : Kp) (k : Nat) (a : Int32) : Int32 × Kp := if (κ (k) 5) ≤ 0 then ((fun κ1 : Kp => (fun κ2 : Kp => (fun κ3 : Kp => (a, κ3)) (f_X2_getBrowner κ2 (k) (f_X2_sideBefore (κ2 (k) 3)) (((a) / (3))))) (f_X2_getBrowner κ1 (k) (f_X2_nextSide (κ1 (k) 3)) (((a) / (3))))) (f_X2_getBrowner κ (k) (κ (k) 3) (a))) else ((fun κ4 : Kp => (fun κ5 : Kp => (fun κ6 : Kp => (fun κ7 : Kp => ((if (0) < (((a) - (1))) then (((a) - (1))) else (0)), κ7)) (f_X2_getBrowner κ6 (k) (f_X2_sideBefore (κ6 (k) 3)) ((((if (0) < (((a) - (1))) then (((a) - (1))) else (0))) / (3))))) (f_X2_getBrowner κ5 (k) (f_X2_nextSide (κ5 (k) 3)) ((((if (0) < (((a) - (1))) then (((a) - (1))) else (0))) / (3))))) (f_X2_getBrowner κ4 (k) (κ4 (k) 3) ((if (0) < (((a) - (1))) then (((a) - (1))) else (0))))) (up2 κ (k) 5 (((κ (k) 5) - (1)))))
set_option maxRecDepth 100000 in
set_option maxHeartbeats 4000000 in
theorem m_X2_getGlow (l : Launch) (g : Gt) (κ : Kp) (sz : Nat) (k : Nat) (a : Int32) (hk : kd k = 2) : Met l yX2_getGlow (.code yX2_getGlow cX2_getGlow 3 (some .int) :: uW) { frames := 1, cells := 0, slots := 0, locals := 30 } (PRE g κ sz [.ref (g.2.2 (k)), .int (a)]) (va_Qi (fun r κ' => f_X2_getGlow κ k a = (r, κ')) (Wp g) (fr g sz)) 0 0 (fr g sz) := by
  refine k_enter (by decide +kernel) (Nat.le_of_ble_eq_true rfl) ?_
  intro p e s m below meth c ls hM hr hl hw hsz
  subst hsz
  have hl : lv_has ls 3 [(0, .ref (g.2.2 (k))), (1, .int (a))] := hl
  have hF := f_X2_getGlow.eq_1 κ k a
  refine lv_iload_n hM.x hM.b dX2_getGlow_0 rfl (lv_at hl 1 rfl) ?_
  refine lv_istore_n (lv' := [(2, .int (a)), (0, .ref (g.2.2 (k))), (1, .int (a))]) hM.x hM.b dX2_getGlow_1 rfl hl (by decide) rfl (fun ls hl => ?_)
  refine lv_aload_n hM.x hM.b dX2_getGlow_2 rfl (lv_at hl 1 rfl) ?_
  refine k_get2 5 hM hw hk (by decide) u_fl_X2_28 dX2_getGlow_3 ?_
  refine lv_if_le (tgt := 27) hM.x hM.b dX2_getGlow_6 (by decide) (fun c1 => ?_) (fun c1 => ?_)
  · rw [if_pos c1] at hF
    refine lv_aload_n hM.x hM.b dX2_getGlow_27 rfl (lv_at hl 1 rfl) ?_
    refine lv_aload_n hM.x hM.b dX2_getGlow_28 rfl (lv_at hl 1 rfl) ?_
    refine k_get2 3 hM hw hk (by decide) u_fl_X2_22 dX2_getGlow_29 ?_
    refine lv_iload_n hM.x hM.b dX2_getGlow_32 rfl (lv_at hl 0 rfl) ?_
    refine k_cvp hw (k_runV [.int (κ (k) 3), .int (a)] [] hM hw (m_X2_getBrowner l g κ _ (k) (κ (k) 3) (a) (hk)) (hw.dm hk (by decide)) (sh2 hk) rfl (k_gV u_ml_X2_37 u_im_X2_getBrowner u_se_X2_getBrowner u_ini_X2 u_co_X2_getBrowner) (q_X2_getBrowner) rfl rfl rfl ⟨Nat.le_of_ble_eq_true rfl, Nat.le_of_ble_eq_true rfl⟩ hl.1 rfl (Nat.le_of_ble_eq_true rfl) dX2_getGlow_33 ⟨Nat.le_of_ble_eq_true rfl, Nat.le_of_ble_eq_true rfl⟩) (fun κ1 H locs eκ1 hw => ?_)
    rw [eκ1] at hF
    try dsimp only at hF
    refine lv_aload_n hM.x hM.b dX2_getGlow_36 rfl (lv_at hl 1 rfl) ?_
    refine lv_aload_n hM.x hM.b dX2_getGlow_37 rfl (lv_at hl 1 rfl) ?_
    refine k_get2 3 hM hw hk (by decide) u_fl_X2_22 dX2_getGlow_38 ?_
    refine k_cip hw (k_runS [.int (κ1 (k) 3)] [.ref (g.2.2 (k))] hM hw (m_X2_nextSide l g κ1 _ (κ1 (k) 3)) (k_gS u_ml_X2_41 u_st_X2_nextSide u_ini_X2 u_co_X2_nextSide) (q_X2_nextSide) rfl rfl rfl ⟨Nat.le_of_ble_eq_true rfl, Nat.le_of_ble_eq_true rfl⟩ hl.1 rfl (Nat.le_of_ble_eq_true rfl) dX2_getGlow_41 ⟨Nat.le_of_ble_eq_true rfl, Nat.le_of_ble_eq_true rfl⟩) (fun H locs hw => ?_)
    refine lv_iload_n hM.x hM.b dX2_getGlow_44 rfl (lv_at hl 0 rfl) ?_
    refine lv_iconst (v := 3) hM.x hM.b dX2_getGlow_45 (by decide) ?_
    refine lv_idiv hM.x hM.b dX2_getGlow_46 (by decide) ?_
    refine k_cvp hw (k_runV [.int (f_X2_nextSide (κ1 (k) 3)), .int (((a) / (3)))] [] hM hw (m_X2_getBrowner l g κ1 _ (k) (f_X2_nextSide (κ1 (k) 3)) (((a) / (3))) (hk)) (hw.dm hk (by decide)) (sh2 hk) rfl (k_gV u_ml_X2_37 u_im_X2_getBrowner u_se_X2_getBrowner u_ini_X2 u_co_X2_getBrowner) (q_X2_getBrowner) rfl rfl rfl ⟨Nat.le_of_ble_eq_true rfl, Nat.le_of_ble_eq_true rfl⟩ hl.1 rfl (Nat.le_of_ble_eq_true rfl) dX2_getGlow_47 ⟨Nat.le_of_ble_eq_true rfl, Nat.le_of_ble_eq_true rfl⟩) (fun κ2 H locs eκ2 hw => ?_)
    rw [eκ2] at hF
    try dsimp only at hF
    refine lv_aload_n hM.x hM.b dX2_getGlow_50 rfl (lv_at hl 1 rfl) ?_
    refine lv_aload_n hM.x hM.b dX2_getGlow_51 rfl (lv_at hl 1 rfl) ?_
    refine k_get2 3 hM hw hk (by decide) u_fl_X2_22 dX2_getGlow_52 ?_
    refine k_cip hw (k_runS [.int (κ2 (k) 3)] [.ref (g.2.2 (k))] hM hw (m_X2_sideBefore l g κ2 _ (κ2 (k) 3)) (k_gS u_ml_X2_45 u_st_X2_sideBefore u_ini_X2 u_co_X2_sideBefore) (q_X2_sideBefore) rfl rfl rfl ⟨Nat.le_of_ble_eq_true rfl, Nat.le_of_ble_eq_true rfl⟩ hl.1 rfl (Nat.le_of_ble_eq_true rfl) dX2_getGlow_55 ⟨Nat.le_of_ble_eq_true rfl, Nat.le_of_ble_eq_true rfl⟩) (fun H locs hw => ?_)
    refine lv_iload_n hM.x hM.b dX2_getGlow_58 rfl (lv_at hl 0 rfl) ?_
    refine lv_iconst (v := 3) hM.x hM.b dX2_getGlow_59 (by decide) ?_
    refine lv_idiv hM.x hM.b dX2_getGlow_60 (by decide) ?_
    refine k_cvp hw (k_runV [.int (f_X2_sideBefore (κ2 (k) 3)), .int (((a) / (3)))] [] hM hw (m_X2_getBrowner l g κ2 _ (k) (f_X2_sideBefore (κ2 (k) 3)) (((a) / (3))) (hk)) (hw.dm hk (by decide)) (sh2 hk) rfl (k_gV u_ml_X2_37 u_im_X2_getBrowner u_se_X2_getBrowner u_ini_X2 u_co_X2_getBrowner) (q_X2_getBrowner) rfl rfl rfl ⟨Nat.le_of_ble_eq_true rfl, Nat.le_of_ble_eq_true rfl⟩ hl.1 rfl (Nat.le_of_ble_eq_true rfl) dX2_getGlow_61 ⟨Nat.le_of_ble_eq_true rfl, Nat.le_of_ble_eq_true rfl⟩) (fun κ3 H locs eκ3 hw => ?_)
    rw [eκ3] at hF
    try dsimp only at hF
    refine lv_iload_n hM.x hM.b dX2_getGlow_64 rfl (lv_at hl 0 rfl) ?_
    exact k_iret hM hr hw (Nat.le_of_ble_eq_true rfl) (Nat.le_of_ble_eq_true rfl) hF dX2_getGlow_65
  · rw [if_neg c1] at hF
    refine lv_iconst (v := 0) hM.x hM.b dX2_getGlow_9 (by decide) ?_
    refine lv_iload_n hM.x hM.b dX2_getGlow_10 rfl (lv_at hl 2 rfl) ?_
    refine lv_iconst (v := 1) hM.x hM.b dX2_getGlow_11 (by decide) ?_
    refine lv_isub hM.x hM.b dX2_getGlow_12 ?_
    refine va_mmax hM.x hM.b (hM.ml.trans hl.1.symm) hM.ow (hM.ts _ u_ml_X2_31) (hM.ts _ u_st_JM_max) (hM.ts _ u_ini_JM) (hM.ts _ u_co_JM_max) (Nat.le_of_ble_eq_true rfl) (Nat.le_of_ble_eq_true rfl) (Nat.le_of_ble_eq_true rfl) (Nat.le_of_ble_eq_true rfl) dX2_getGlow_13 ?_
    refine lv_istore_n (lv' := [(2, .int ((if (0) < (((a) - (1))) then (((a) - (1))) else (0)))), (0, .ref (g.2.2 (k))), (1, .int (a))]) hM.x hM.b dX2_getGlow_16 rfl hl (by decide) rfl (fun ls hl => ?_)
    refine lv_aload_n hM.x hM.b dX2_getGlow_17 rfl (lv_at hl 1 rfl) ?_
    refine lv_dup hM.x hM.b dX2_getGlow_18 rfl ?_
    refine k_get2 5 hM hw hk (by decide) u_fl_X2_28 dX2_getGlow_19 ?_
    refine lv_iconst (v := 1) hM.x hM.b dX2_getGlow_22 (by decide) ?_
    refine lv_isub hM.x hM.b dX2_getGlow_23 ?_
    refine k_put2 5 hM hw hk (by decide) u_fl_X2_28 dX2_getGlow_24 (fun H locs hw => ?_)
    obtain ⟨κ4, eκ4⟩ : ∃ z : Kp, up2 κ (k) 5 (((κ (k) 5) - (1))) = z := ⟨_, rfl⟩
    rw [eκ4] at hw
    rw [eκ4] at hF
    try dsimp only at hF
    refine lv_aload_n hM.x hM.b dX2_getGlow_27 rfl (lv_at hl 1 rfl) ?_
    refine lv_aload_n hM.x hM.b dX2_getGlow_28 rfl (lv_at hl 1 rfl) ?_
    refine k_get2 3 hM hw hk (by decide) u_fl_X2_22 dX2_getGlow_29 ?_
    refine lv_iload_n hM.x hM.b dX2_getGlow_32 rfl (lv_at hl 0 rfl) ?_
    refine k_cvp hw (k_runV [.int (κ4 (k) 3), .int ((if (0) < (((a) - (1))) then (((a) - (1))) else (0)))] [] hM hw (m_X2_getBrowner l g κ4 _ (k) (κ4 (k) 3) ((if (0) < (((a) - (1))) then (((a) - (1))) else (0))) (hk)) (hw.dm hk (by decide)) (sh2 hk) rfl (k_gV u_ml_X2_37 u_im_X2_getBrowner u_se_X2_getBrowner u_ini_X2 u_co_X2_getBrowner) (q_X2_getBrowner) rfl rfl rfl ⟨Nat.le_of_ble_eq_true rfl, Nat.le_of_ble_eq_true rfl⟩ hl.1 rfl (Nat.le_of_ble_eq_true rfl) dX2_getGlow_33 ⟨Nat.le_of_ble_eq_true rfl, Nat.le_of_ble_eq_true rfl⟩) (fun κ5 H locs eκ5 hw => ?_)
    rw [eκ5] at hF
    try dsimp only at hF
    refine lv_aload_n hM.x hM.b dX2_getGlow_36 rfl (lv_at hl 1 rfl) ?_
    refine lv_aload_n hM.x hM.b dX2_getGlow_37 rfl (lv_at hl 1 rfl) ?_
    refine k_get2 3 hM hw hk (by decide) u_fl_X2_22 dX2_getGlow_38 ?_
    refine k_cip hw (k_runS [.int (κ5 (k) 3)] [.ref (g.2.2 (k))] hM hw (m_X2_nextSide l g κ5 _ (κ5 (k) 3)) (k_gS u_ml_X2_41 u_st_X2_nextSide u_ini_X2 u_co_X2_nextSide) (q_X2_nextSide) rfl rfl rfl ⟨Nat.le_of_ble_eq_true rfl, Nat.le_of_ble_eq_true rfl⟩ hl.1 rfl (Nat.le_of_ble_eq_true rfl) dX2_getGlow_41 ⟨Nat.le_of_ble_eq_true rfl, Nat.le_of_ble_eq_true rfl⟩) (fun H locs hw => ?_)
    refine lv_iload_n hM.x hM.b dX2_getGlow_44 rfl (lv_at hl 0 rfl) ?_
    refine lv_iconst (v := 3) hM.x hM.b dX2_getGlow_45 (by decide) ?_
    refine lv_idiv hM.x hM.b dX2_getGlow_46 (by decide) ?_
    refine k_cvp hw (k_runV [.int (f_X2_nextSide (κ5 (k) 3)), .int ((((if (0) < (((a) - (1))) then (((a) - (1))) else (0))) / (3)))] [] hM hw (m_X2_getBrowner l g κ5 _ (k) (f_X2_nextSide (κ5 (k) 3)) ((((if (0) < (((a) - (1))) then (((a) - (1))) else (0))) / (3))) (hk)) (hw.dm hk (by decide)) (sh2 hk) rfl (k_gV u_ml_X2_37 u_im_X2_getBrowner u_se_X2_getBrowner u_ini_X2 u_co_X2_getBrowner) (q_X2_getBrowner) rfl rfl rfl ⟨Nat.le_of_ble_eq_true rfl, Nat.le_of_ble_eq_true rfl⟩ hl.1 rfl (Nat.le_of_ble_eq_true rfl) dX2_getGlow_47 ⟨Nat.le_of_ble_eq_true rfl, Nat.le_of_ble_eq_true rfl⟩) (fun κ6 H locs eκ6 hw => ?_)
    rw [eκ6] at hF
    try dsimp only at hF
    refine lv_aload_n hM.x hM.b dX2_getGlow_50 rfl (lv_at hl 1 rfl) ?_
    refine lv_aload_n hM.x hM.b dX2_getGlow_51 rfl (lv_at hl 1 rfl) ?_
    refine k_get2 3 hM hw hk (by decide) u_fl_X2_22 dX2_getGlow_52 ?_
    refine k_cip hw (k_runS [.int (κ6 (k) 3)] [.ref (g.2.2 (k))] hM hw (m_X2_sideBefore l g κ6 _ (κ6 (k) 3)) (k_gS u_ml_X2_45 u_st_X2_sideBefore u_ini_X2 u_co_X2_sideBefore) (q_X2_sideBefore) rfl rfl rfl ⟨Nat.le_of_ble_eq_true rfl, Nat.le_of_ble_eq_true rfl⟩ hl.1 rfl (Nat.le_of_ble_eq_true rfl) dX2_getGlow_55 ⟨Nat.le_of_ble_eq_true rfl, Nat.le_of_ble_eq_true rfl⟩) (fun H locs hw => ?_)
    refine lv_iload_n hM.x hM.b dX2_getGlow_58 rfl (lv_at hl 0 rfl) ?_
    refine lv_iconst (v := 3) hM.x hM.b dX2_getGlow_59 (by decide) ?_
    refine lv_idiv hM.x hM.b dX2_getGlow_60 (by decide) ?_
    refine k_cvp hw (k_runV [.int (f_X2_sideBefore (κ6 (k) 3)), .int ((((if (0) < (((a) - (1))) then (((a) - (1))) else (0))) / (3)))] [] hM hw (m_X2_getBrowner l g κ6 _ (k) (f_X2_sideBefore (κ6 (k) 3)) ((((if (0) < (((a) - (1))) then (((a) - (1))) else (0))) / (3))) (hk)) (hw.dm hk (by decide)) (sh2 hk) rfl (k_gV u_ml_X2_37 u_im_X2_getBrowner u_se_X2_getBrowner u_ini_X2 u_co_X2_getBrowner) (q_X2_getBrowner) rfl rfl rfl ⟨Nat.le_of_ble_eq_true rfl, Nat.le_of_ble_eq_true rfl⟩ hl.1 rfl (Nat.le_of_ble_eq_true rfl) dX2_getGlow_61 ⟨Nat.le_of_ble_eq_true rfl, Nat.le_of_ble_eq_true rfl⟩) (fun κ7 H locs eκ7 hw => ?_)
    rw [eκ7] at hF
    try dsimp only at hF
    refine lv_iload_n hM.x hM.b dX2_getGlow_64 rfl (lv_at hl 0 rfl) ?_
    exact k_iret hM hr hw (Nat.le_of_ble_eq_true rfl) (Nat.le_of_ble_eq_true rfl) hF dX2_getGlow_65
theorem q_X2_drips : hdV yX2_drips RX2 1 := ⟨rfl, by decide +kernel, by decide +kernel, by decide +kernel⟩
def f_X2_drips (κ : Kp) (k : Nat) (a : Int32) : Int32 × Kp := if (a) < (2) then ((bi false, κ)) else (if 0 < (κ (k) 4) then ((fun κ1 : Kp => (bi true, κ1)) (up2 κ (k) 4 (((κ (k) 4) - (1))))) else ((bi false, κ)))
set_option maxRecDepth 100000 in
set_option maxHeartbeats 4000000 in
theorem m_X2_drips (l : Launch) (g : Gt) (κ : Kp) (sz : Nat) (k : Nat) (a : Int32) (hk : kd k = 2) : Met l yX2_drips (.code yX2_drips cX2_drips 2 (some .boolean) :: uW) { frames := 0, cells := 0, slots := 0, locals := 0 } (PRE g κ sz [.ref (g.2.2 (k)), .int (a)]) (va_Qi (fun r κ' => f_X2_drips κ k a = (r, κ')) (Wp g) (fr g sz)) 0 0 (fr g sz) := by
  refine k_enter (by decide +kernel) (Nat.le_of_ble_eq_true rfl) ?_
  intro p e s m below meth c ls hM hr hl hw hsz
  subst hsz
  have hl : lv_has ls 2 [(0, .ref (g.2.2 (k))), (1, .int (a))] := hl
  have hF := f_X2_drips.eq_1 κ k a
  refine lv_iload_n hM.x hM.b dX2_drips_0 rfl (lv_at hl 1 rfl) ?_
  refine lv_iconst (v := 2) hM.x hM.b dX2_drips_1 (by decide) ?_
  refine lv_icmp_lt (tgt := 12) hM.x hM.b dX2_drips_2 (by decide) (fun c1 => ?_) (fun c1 => ?_)
  · rw [if_pos c1] at hF
    refine lv_iconst (v := 0) hM.x hM.b dX2_drips_12 (by decide) ?_
    exact k_zret (b := false) hM hr hw (Nat.le_of_ble_eq_true rfl) (Nat.le_of_ble_eq_true rfl) hF dX2_drips_13
  · rw [if_neg c1] at hF
    refine lv_aload_n hM.x hM.b dX2_drips_5 rfl (lv_at hl 0 rfl) ?_
    refine k_get2 4 hM hw hk (by decide) u_fl_X2_25 dX2_drips_6 ?_
    refine lv_if_gt (tgt := 14) hM.x hM.b dX2_drips_9 (by decide) (fun c2 => ?_) (fun c2 => ?_)
    · rw [if_pos c2] at hF
      refine lv_aload_n hM.x hM.b dX2_drips_14 rfl (lv_at hl 0 rfl) ?_
      refine lv_dup hM.x hM.b dX2_drips_15 rfl ?_
      refine k_get2 4 hM hw hk (by decide) u_fl_X2_25 dX2_drips_16 ?_
      refine lv_iconst (v := 1) hM.x hM.b dX2_drips_19 (by decide) ?_
      refine lv_isub hM.x hM.b dX2_drips_20 ?_
      refine k_put2 4 hM hw hk (by decide) u_fl_X2_25 dX2_drips_21 (fun H locs hw => ?_)
      obtain ⟨κ1, eκ1⟩ : ∃ z : Kp, up2 κ (k) 4 (((κ (k) 4) - (1))) = z := ⟨_, rfl⟩
      rw [eκ1] at hw
      rw [eκ1] at hF
      try dsimp only at hF
      refine lv_iconst (v := 1) hM.x hM.b dX2_drips_24 (by decide) ?_
      exact k_zret (b := true) hM hr hw (Nat.le_of_ble_eq_true rfl) (Nat.le_of_ble_eq_true rfl) hF dX2_drips_25
    · rw [if_neg c2] at hF
      refine lv_iconst (v := 0) hM.x hM.b dX2_drips_12 (by decide) ?_
      exact k_zret (b := false) hM hr hw (Nat.le_of_ble_eq_true rfl) (Nat.le_of_ble_eq_true rfl) hF dX2_drips_13
theorem q_X2_turn : hdV yX2_turn RX2 0 := ⟨rfl, by decide +kernel, by decide +kernel, by decide +kernel⟩
def f_X2_turn (κ : Kp) (k : Nat) : Kp := (fun κ1 : Kp => κ1) (up2 κ (k) 3 (f_X2_nextSide (κ (k) 3)))
set_option maxRecDepth 100000 in
set_option maxHeartbeats 4000000 in
theorem m_X2_turn (l : Launch) (g : Gt) (κ : Kp) (sz : Nat) (k : Nat) (hk : kd k = 2) : Met l yX2_turn (.code yX2_turn cX2_turn 1 none :: uW) { frames := 1, cells := 0, slots := 0, locals := 30 } (PRE g κ sz [.ref (g.2.2 (k))]) (va_Qv (fun κ' => κ' = f_X2_turn κ k) (Wp g) (fr g sz)) 0 0 (fr g sz) := by
  refine k_enter (by decide +kernel) (Nat.le_of_ble_eq_true rfl) ?_
  intro p e s m below meth c ls hM hr hl hw hsz
  subst hsz
  have hl : lv_has ls 1 [(0, .ref (g.2.2 (k)))] := hl
  have hF := f_X2_turn.eq_1 κ k
  refine lv_aload_n hM.x hM.b dX2_turn_0 rfl (lv_at hl 0 rfl) ?_
  refine lv_aload_n hM.x hM.b dX2_turn_1 rfl (lv_at hl 0 rfl) ?_
  refine k_get2 3 hM hw hk (by decide) u_fl_X2_22 dX2_turn_2 ?_
  refine k_cip hw (k_runS [.int (κ (k) 3)] [.ref (g.2.2 (k))] hM hw (m_X2_nextSide l g κ _ (κ (k) 3)) (k_gS u_ml_X2_41 u_st_X2_nextSide u_ini_X2 u_co_X2_nextSide) (q_X2_nextSide) rfl rfl rfl ⟨Nat.le_of_ble_eq_true rfl, Nat.le_of_ble_eq_true rfl⟩ hl.1 rfl (Nat.le_of_ble_eq_true rfl) dX2_turn_5 ⟨Nat.le_of_ble_eq_true rfl, Nat.le_of_ble_eq_true rfl⟩) (fun H locs hw => ?_)
  refine k_put2 3 hM hw hk (by decide) u_fl_X2_22 dX2_turn_8 (fun H locs hw => ?_)
  obtain ⟨κ1, eκ1⟩ : ∃ z : Kp, up2 κ (k) 3 (f_X2_nextSide (κ (k) 3)) = z := ⟨_, rfl⟩
  rw [eκ1] at hw
  rw [eκ1] at hF
  try dsimp only at hF
  exact k_vret hM hr hw (Nat.le_of_ble_eq_true rfl) (Nat.le_of_ble_eq_true rfl) hF.symm dX2_turn_11
