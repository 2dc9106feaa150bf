theorem q_X4_needFire : hdV yX4_needFire RX4 1 := ⟨rfl, by decide +kernel, by decide +kernel, by decide +kernel⟩
def f_X4_needFire (κ : Kp) (a : Int32) : (String × Kp) ⊕ Nat := match f_X1_fireAt κ (1) (a) with | none => (.inl (nIOE, κ)) | some p1 => (.inr (p1))
set_option maxRecDepth 100000 in
set_option maxHeartbeats 4000000 in
theorem m_X4_needFire (l : Launch) (g : Gt) (κ : Kp) (sz : Nat) (a : Int32) (hlst : l.stackTraces = false) : vx_Met l yX4_needFire (.code yX4_needFire cX4_needFire 3 (some (.object "KitchenSpits$Fire")) :: uW) { frames := 6, cells := 1, slots := 6, locals := 180 } (PRE g κ sz [.ref (g.2.2 (0)), .int (a)]) (va_Qe g.2.2 (fun r κ' => ∃ p, r = some p ∧ f_X4_needFire κ a = .inr p ∧ κ' = κ) (Wp g) (fr g sz)) (xC g sz (fun E κx => f_X4_needFire κ a = .inl (E, κx) ∧ E ∈ [nIOE])) 1 6 (fr g sz) := by
  refine k_xenter (by decide +kernel) (Nat.le_of_ble_eq_true rfl) ?_
  intro p e s m below meth c ls hM hno hr hl hw hsz
  subst hsz
  have hl : lv_has ls 3 [(0, .ref (g.2.2 (0))), (1, .int (a))] := hl
  have hF := f_X4_needFire.eq_1 κ a
  refine lv_aload_n hM.x hM.b dX4_needFire_0 rfl (lv_at hl 0 rfl) ?_
  refine k_get4a hM hw u_fl_X4_10 dX4_needFire_1 ?_
  refine lv_iload_n hM.x hM.b dX4_needFire_4 rfl (lv_at hl 1 rfl) ?_
  refine k_cepO hw (k_runV [.int (a)] [] hM hw (m_X1_fireAt l g κ _ (1) (a) (kd_1)) (hw.dm kd_1 (by decide)) (sh1 kd_1) rfl (k_gV u_ml_X4_210 u_im_X1_fireAt u_se_X1_fireAt u_ini_X1 u_co_X1_fireAt) (q_X1_fireAt) rfl rfl rfl ⟨Nat.le_of_ble_eq_true rfl, Nat.le_of_ble_eq_true rfl⟩ hl.1 rfl (Nat.le_of_ble_eq_true rfl) dX4_needFire_5 ⟨Nat.le_of_ble_eq_true rfl, Nat.le_of_ble_eq_true rfl⟩) (fun H locs ho hw => ?_) (fun p1 H locs ho hw => ?_)
  · simp only [ho] at hF
    refine lv_astore_nN (lv' := [(2, .null), (0, .ref (g.2.2 (0))), (1, .int (a))]) hM.x hM.b dX4_needFire_8 rfl hl (by decide) rfl (fun ls hl => ?_)
    refine lv_aload_nN hM.x hM.b dX4_needFire_9 rfl (lv_at hl 0 rfl) ?_
    refine lv_ifnonnullN hM.x hM.b dX4_needFire_10 ?_
    exact k_throw (cls := nIOE) (text := "there is no such fire") (is := 213) hlst hM hno hw (by decide +kernel) u_cl_X4_155 u_ini_JI (by decide +kernel) xIOE1 xIOE2 xIOE3 hl.1 dX4_needFire_13 dX4_needFire_16 dX4_needFire_17 dX4_needFire_19 dX4_needFire_22 (Nat.le_of_ble_eq_true rfl) (Nat.le_of_ble_eq_true rfl) (Nat.le_of_ble_eq_true rfl) (Nat.le_of_ble_eq_true rfl) ⟨hF, by decide +kernel⟩ (Nat.le_of_ble_eq_true rfl) (Nat.le_of_ble_eq_true rfl)
  · simp only [ho] at hF
    have hop1 := ho
    refine lv_astore_n (lv' := [(2, .ref (g.2.2 (p1))), (0, .ref (g.2.2 (0))), (1, .int (a))]) hM.x hM.b dX4_needFire_8 rfl hl (by decide) rfl (fun ls hl => ?_)
    refine lv_aload_n hM.x hM.b dX4_needFire_9 rfl (lv_at hl 0 rfl) ?_
    refine lv_ifnonnull (tgt := 23) hM.x hM.b dX4_needFire_10 (by decide) ?_
    refine lv_aload_n hM.x hM.b dX4_needFire_23 rfl (lv_at hl 0 rfl) ?_
    exact vx_ret (k_eret (v := some (p1)) hM hr hw (Nat.le_of_ble_eq_true rfl) (Nat.le_of_ble_eq_true rfl) ⟨_, rfl, hF, rfl⟩ dX4_needFire_24)
theorem sm_X4_needFire {κ : Kp} {a : Int32} {p : Nat} (h : f_X4_needFire κ a = .inr p) : f_X1_fireAt κ 1 a = some p := by
  unfold f_X4_needFire at h
  cases h1 : f_X1_fireAt κ 1 a with
  | none => simp only [h1] at h; cases h
  | some p1 => simp only [h1] at h; cases h; rfl
theorem kdp_X4_needFire {κ : Kp} {a : Int32} {p : Nat} (h : f_X4_needFire κ a = .inr p) : kd p = 0 := kdp_X1_fireAt kd_1 (sm_X4_needFire h)
theorem q_X4_needSpit : hdV yX4_needSpit RX4 1 := ⟨rfl, by decide +kernel, by decide +kernel, by decide +kernel⟩
def f_X4_needSpit (κ : Kp) (a : Int32) : (String × Kp) ⊕ Nat := match f_X1_spitAt κ (1) (a) with | none => (.inl (nIOE, κ)) | some p1 => (.inr (p1))
set_option maxRecDepth 100000 in
set_option maxHeartbeats 4000000 in
theorem m_X4_needSpit (l : Launch) (g : Gt) (κ : Kp) (sz : Nat) (a : Int32) (hlst : l.stackTraces = false) : vx_Met l yX4_needSpit (.code yX4_needSpit cX4_needSpit 3 (some (.object "KitchenSpits$Spit")) :: uW) { frames := 6, cells := 1, slots := 6, locals := 180 } (PRE g κ sz [.ref (g.2.2 (0)), .int (a)]) (va_Qe g.2.2 (fun r κ' => ∃ p, r = some p ∧ f_X4_needSpit κ a = .inr p ∧ κ' = κ) (Wp g) (fr g sz)) (xC g sz (fun E κx => f_X4_needSpit κ a = .inl (E, κx) ∧ E ∈ [nIOE])) 1 6 (fr g sz) := by
  refine k_xenter (by decide +kernel) (Nat.le_of_ble_eq_true rfl) ?_
  intro p e s m below meth c ls hM hno hr hl hw hsz
  subst hsz
  have hl : lv_has ls 3 [(0, .ref (g.2.2 (0))), (1, .int (a))] := hl
  have hF := f_X4_needSpit.eq_1 κ a
  refine lv_aload_n hM.x hM.b dX4_needSpit_0 rfl (lv_at hl 0 rfl) ?_
  refine k_get4a hM hw u_fl_X4_10 dX4_needSpit_1 ?_
  refine lv_iload_n hM.x hM.b dX4_needSpit_4 rfl (lv_at hl 1 rfl) ?_
  refine k_cepO hw (k_runV [.int (a)] [] hM hw (m_X1_spitAt l g κ _ (1) (a) (kd_1)) (hw.dm kd_1 (by decide)) (sh1 kd_1) rfl (k_gV u_ml_X4_215 u_im_X1_spitAt u_se_X1_spitAt u_ini_X1 u_co_X1_spitAt) (q_X1_spitAt) rfl rfl rfl ⟨Nat.le_of_ble_eq_true rfl, Nat.le_of_ble_eq_true rfl⟩ hl.1 rfl (Nat.le_of_ble_eq_true rfl) dX4_needSpit_5 ⟨Nat.le_of_ble_eq_true rfl, Nat.le_of_ble_eq_true rfl⟩) (fun H locs ho hw => ?_) (fun p1 H locs ho hw => ?_)
  · simp only [ho] at hF
    refine lv_astore_nN (lv' := [(2, .null), (0, .ref (g.2.2 (0))), (1, .int (a))]) hM.x hM.b dX4_needSpit_8 rfl hl (by decide) rfl (fun ls hl => ?_)
    refine lv_aload_nN hM.x hM.b dX4_needSpit_9 rfl (lv_at hl 0 rfl) ?_
    refine lv_ifnonnullN hM.x hM.b dX4_needSpit_10 ?_
    exact k_throw (cls := nIOE) (text := "there is no such spit") (is := 218) hlst hM hno hw (by decide +kernel) u_cl_X4_155 u_ini_JI (by decide +kernel) xIOE1 xIOE2 xIOE3 hl.1 dX4_needSpit_13 dX4_needSpit_16 dX4_needSpit_17 dX4_needSpit_19 dX4_needSpit_22 (Nat.le_of_ble_eq_true rfl) (Nat.le_of_ble_eq_true rfl) (Nat.le_of_ble_eq_true rfl) (Nat.le_of_ble_eq_true rfl) ⟨hF, by decide +kernel⟩ (Nat.le_of_ble_eq_true rfl) (Nat.le_of_ble_eq_true rfl)
  · simp only [ho] at hF
    have hop1 := ho
    refine lv_astore_n (lv' := [(2, .ref (g.2.2 (p1))), (0, .ref (g.2.2 (0))), (1, .int (a))]) hM.x hM.b dX4_needSpit_8 rfl hl (by decide) rfl (fun ls hl => ?_)
    refine lv_aload_n hM.x hM.b dX4_needSpit_9 rfl (lv_at hl 0 rfl) ?_
    refine lv_ifnonnull (tgt := 23) hM.x hM.b dX4_needSpit_10 (by decide) ?_
    refine lv_aload_n hM.x hM.b dX4_needSpit_23 rfl (lv_at hl 0 rfl) ?_
    exact vx_ret (k_eret (v := some (p1)) hM hr hw (Nat.le_of_ble_eq_true rfl) (Nat.le_of_ble_eq_true rfl) ⟨_, rfl, hF, rfl⟩ dX4_needSpit_24)
theorem sm_X4_needSpit {κ : Kp} {a : Int32} {p : Nat} (h : f_X4_needSpit κ a = .inr p) : f_X1_spitAt κ 1 a = some p := by
  unfold f_X4_needSpit at h
  cases h1 : f_X1_spitAt κ 1 a with
  | none => simp only [h1] at h; cases h
  | some p1 => simp only [h1] at h; cases h; rfl
theorem kdp_X4_needSpit {κ : Kp} {a : Int32} {p : Nat} (h : f_X4_needSpit κ a = .inr p) : kd p = 3 := kdp_X1_spitAt kd_1 (sm_X4_needSpit h)
theorem q_X4_needRoast : hdV yX4_needRoast RX4 1 := ⟨rfl, by decide +kernel, by decide +kernel, by decide +kernel⟩
def f_X4_needRoast (κ : Kp) (a : Int32) : (String × Kp) ⊕ Nat := match f_X1_roastAt κ (1) (a) with | none => (.inl (nIOE, κ)) | some p1 => (.inr (p1))
set_option maxRecDepth 100000 in
set_option maxHeartbeats 4000000 in
theorem m_X4_needRoast (l : Launch) (g : Gt) (κ : Kp) (sz : Nat) (a : Int32) (hlst : l.stackTraces = false) : vx_Met l yX4_needRoast (.code yX4_needRoast cX4_needRoast 3 (some (.object "KitchenSpits$Roast")) :: uW) { frames := 6, cells := 1, slots := 6, locals := 180 } (PRE g κ sz [.ref (g.2.2 (0)), .int (a)]) (va_Qe g.2.2 (fun r κ' => ∃ p, r = some p ∧ f_X4_needRoast κ a = .inr p ∧ κ' = κ) (Wp g) (fr g sz)) (xC g sz (fun E κx => f_X4_needRoast κ a = .inl (E, κx) ∧ E ∈ [nIOE])) 1 6 (fr g sz) := by
  refine k_xenter (by decide +kernel) (Nat.le_of_ble_eq_true rfl) ?_
  intro p e s m below meth c ls hM hno hr hl hw hsz
  subst hsz
  have hl : lv_has ls 3 [(0, .ref (g.2.2 (0))), (1, .int (a))] := hl
  have hF := f_X4_needRoast.eq_1 κ a
  refine lv_aload_n hM.x hM.b dX4_needRoast_0 rfl (lv_at hl 0 rfl) ?_
  refine k_get4a hM hw u_fl_X4_10 dX4_needRoast_1 ?_
  refine lv_iload_n hM.x hM.b dX4_needRoast_4 rfl (lv_at hl 1 rfl) ?_
  refine k_cepO hw (k_runV [.int (a)] [] hM hw (m_X1_roastAt l g κ _ (1) (a) (kd_1)) (hw.dm kd_1 (by decide)) (sh1 kd_1) rfl (k_gV u_ml_X4_220 u_im_X1_roastAt u_se_X1_roastAt u_ini_X1 u_co_X1_roastAt) (q_X1_roastAt) rfl rfl rfl ⟨Nat.le_of_ble_eq_true rfl, Nat.le_of_ble_eq_true rfl⟩ hl.1 rfl (Nat.le_of_ble_eq_true rfl) dX4_needRoast_5 ⟨Nat.le_of_ble_eq_true rfl, Nat.le_of_ble_eq_true rfl⟩) (fun H locs ho hw => ?_) (fun p1 H locs ho hw => ?_)
  · simp only [ho] at hF
    refine lv_astore_nN (lv' := [(2, .null), (0, .ref (g.2.2 (0))), (1, .int (a))]) hM.x hM.b dX4_needRoast_8 rfl hl (by decide) rfl (fun ls hl => ?_)
    refine lv_aload_nN hM.x hM.b dX4_needRoast_9 rfl (lv_at hl 0 rfl) ?_
    refine lv_ifnonnullN hM.x hM.b dX4_needRoast_10 ?_
    exact k_throw (cls := nIOE) (text := "there is no such roast") (is := 223) hlst hM hno hw (by decide +kernel) u_cl_X4_155 u_ini_JI (by decide +kernel) xIOE1 xIOE2 xIOE3 hl.1 dX4_needRoast_13 dX4_needRoast_16 dX4_needRoast_17 dX4_needRoast_19 dX4_needRoast_22 (Nat.le_of_ble_eq_true rfl) (Nat.le_of_ble_eq_true rfl) (Nat.le_of_ble_eq_true rfl) (Nat.le_of_ble_eq_true rfl) ⟨hF, by decide +kernel⟩ (Nat.le_of_ble_eq_true rfl) (Nat.le_of_ble_eq_true rfl)
  · simp only [ho] at hF
    have hop1 := ho
    refine lv_astore_n (lv' := [(2, .ref (g.2.2 (p1))), (0, .ref (g.2.2 (0))), (1, .int (a))]) hM.x hM.b dX4_needRoast_8 rfl hl (by decide) rfl (fun ls hl => ?_)
    refine lv_aload_n hM.x hM.b dX4_needRoast_9 rfl (lv_at hl 0 rfl) ?_
    refine lv_ifnonnull (tgt := 23) hM.x hM.b dX4_needRoast_10 (by decide) ?_
    refine lv_aload_n hM.x hM.b dX4_needRoast_23 rfl (lv_at hl 0 rfl) ?_
    exact vx_ret (k_eret (v := some (p1)) hM hr hw (Nat.le_of_ble_eq_true rfl) (Nat.le_of_ble_eq_true rfl) ⟨_, rfl, hF, rfl⟩ dX4_needRoast_24)
theorem sm_X4_needRoast {κ : Kp} {a : Int32} {p : Nat} (h : f_X4_needRoast κ a = .inr p) : f_X1_roastAt κ 1 a = some p := by
  unfold f_X4_needRoast at h
  cases h1 : f_X1_roastAt κ 1 a with
  | none => simp only [h1] at h; cases h
  | some p1 => simp only [h1] at h; cases h; rfl
theorem kdp_X4_needRoast {κ : Kp} {a : Int32} {p : Nat} (h : f_X4_needRoast κ a = .inr p) : kd p = 2 := kdp_X1_roastAt kd_1 (sm_X4_needRoast h)
theorem q_X4_needRoastOf : hdV yX4_needRoastOf RX4 1 := ⟨rfl, by decide +kernel, by decide +kernel, by decide +kernel⟩
def f_X4_needRoastOf (κ : Kp) (q : Nat) : (String × Kp) ⊕ Nat := match f_X1_roastAt κ (1) (κ (q) 5) with | none => (.inl (nISE, κ)) | some p1 => (.inr (p1))
set_option maxRecDepth 100000 in
set_option maxHeartbeats 4000000 in
theorem m_X4_needRoastOf (l : Launch) (g : Gt) (κ : Kp) (sz : Nat) (q : Nat) (hq : kd q = 3) (hlst : l.stackTraces = false) : vx_Met l yX4_needRoastOf (.code yX4_needRoastOf cX4_needRoastOf 3 (some (.object "KitchenSpits$Roast")) :: uW) { frames := 6, cells := 1, slots := 6, locals := 180 } (PRE g κ sz [.ref (g.2.2 (0)), .ref (g.2.2 (q))]) (va_Qe g.2.2 (fun r κ' => ∃ p, r = some p ∧ f_X4_needRoastOf κ q = .inr p ∧ κ' = κ) (Wp g) (fr g sz)) (xC g sz (fun E κx => f_X4_needRoastOf κ q = .inl (E, κx) ∧ E ∈ [nISE])) 1 6 (fr g sz) := by
  refine k_xenter (by decide +kernel) (Nat.le_of_ble_eq_true rfl) ?_
  intro p e s m below meth c ls hM hno hr hl hw hsz
  subst hsz
  have hl : lv_has ls 3 [(0, .ref (g.2.2 (0))), (1, .ref (g.2.2 (q)))] := hl
  have hF := f_X4_needRoastOf.eq_1 κ q
  refine lv_aload_n hM.x hM.b dX4_needRoastOf_0 rfl (lv_at hl 0 rfl) ?_
  refine k_get4a hM hw u_fl_X4_10 dX4_needRoastOf_1 ?_
  refine lv_aload_n hM.x hM.b dX4_needRoastOf_4 rfl (lv_at hl 1 rfl) ?_
  refine k_get3 5 hM hw hq (by decide) u_fl_X4_110 dX4_needRoastOf_5 ?_
  refine k_cepO hw (k_runV [.int (κ (q) 5)] [] hM hw (m_X1_roastAt l g κ _ (1) (κ (q) 5) (kd_1)) (hw.dm kd_1 (by decide)) (sh1 kd_1) rfl (k_gV u_ml_X4_220 u_im_X1_roastAt u_se_X1_roastAt u_ini_X1 u_co_X1_roastAt) (q_X1_roastAt) rfl rfl rfl ⟨Nat.le_of_ble_eq_true rfl, Nat.le_of_ble_eq_true rfl⟩ hl.1 rfl (Nat.le_of_ble_eq_true rfl) dX4_needRoastOf_8 ⟨Nat.le_of_ble_eq_true rfl, Nat.le_of_ble_eq_true rfl⟩) (fun H locs ho hw => ?_) (fun p1 H locs ho hw => ?_)
  · simp only [ho] at hF
    refine lv_astore_nN (lv' := [(2, .null), (0, .ref (g.2.2 (0))), (1, .ref (g.2.2 (q)))]) hM.x hM.b dX4_needRoastOf_11 rfl hl (by decide) rfl (fun ls hl => ?_)
    refine lv_aload_nN hM.x hM.b dX4_needRoastOf_12 rfl (lv_at hl 0 rfl) ?_
    refine lv_ifnonnullN hM.x hM.b dX4_needRoastOf_13 ?_
    exact k_throw (cls := nISE) (text := "the spit has no roast") (is := 225) hlst hM hno hw (by decide +kernel) u_cl_X4_23 u_ini_JS (by decide +kernel) xISE1 xISE2 xISE3 hl.1 dX4_needRoastOf_16 dX4_needRoastOf_19 dX4_needRoastOf_20 dX4_needRoastOf_22 dX4_needRoastOf_25 (Nat.le_of_ble_eq_true rfl) (Nat.le_of_ble_eq_true rfl) (Nat.le_of_ble_eq_true rfl) (Nat.le_of_ble_eq_true rfl) ⟨hF, by decide +kernel⟩ (Nat.le_of_ble_eq_true rfl) (Nat.le_of_ble_eq_true rfl)
  · simp only [ho] at hF
    have hop1 := ho
    refine lv_astore_n (lv' := [(2, .ref (g.2.2 (p1))), (0, .ref (g.2.2 (0))), (1, .ref (g.2.2 (q)))]) hM.x hM.b dX4_needRoastOf_11 rfl hl (by decide) rfl (fun ls hl => ?_)
    refine lv_aload_n hM.x hM.b dX4_needRoastOf_12 rfl (lv_at hl 0 rfl) ?_
    refine lv_ifnonnull (tgt := 26) hM.x hM.b dX4_needRoastOf_13 (by decide) ?_
    refine lv_aload_n hM.x hM.b dX4_needRoastOf_26 rfl (lv_at hl 0 rfl) ?_
    exact vx_ret (k_eret (v := some (p1)) hM hr hw (Nat.le_of_ble_eq_true rfl) (Nat.le_of_ble_eq_true rfl) ⟨_, rfl, hF, rfl⟩ dX4_needRoastOf_27)
theorem sm_X4_needRoastOf {κ : Kp} {q : Nat} {p : Nat} (h : f_X4_needRoastOf κ q = .inr p) : f_X1_roastAt κ 1 (κ q 5) = some p := by
  unfold f_X4_needRoastOf at h
  cases h1 : f_X1_roastAt κ 1 (κ q 5) with
  | none => simp only [h1] at h; cases h
  | some p1 => simp only [h1] at h; cases h; rfl
theorem kdp_X4_needRoastOf {κ : Kp} {q : Nat} {p : Nat} (h : f_X4_needRoastOf κ q = .inr p) : kd p = 2 := kdp_X1_roastAt kd_1 (sm_X4_needRoastOf h)
theorem q_X4_needFeet : hdV yX4_needFeet RX4 1 := ⟨rfl, by decide +kernel, by decide +kernel, by decide +kernel⟩
def f_X4_needFeet (κ : Kp) (a : Int32) : (String × Kp) ⊕ Unit := if (a) < (1) then (.inl (nIAE, κ)) else (if (a) ≤ (3) then (.inr ()) else (.inl (nIAE, κ)))
set_option maxRecDepth 100000 in
set_option maxHeartbeats 4000000 in
theorem m_X4_needFeet (l : Launch) (g : Gt) (κ : Kp) (sz : Nat) (a : Int32) (hlst : l.stackTraces = false) : vx_Met l yX4_needFeet (.code yX4_needFeet cX4_needFeet 1 none :: uW) { frames := 6, cells := 1, slots := 6, locals := 180 } (PRE g κ sz [.int (a)]) (va_Qv (fun κ' => f_X4_needFeet κ a = .inr () ∧ κ' = κ) (Wp g) (fr g sz)) (xC g sz (fun E κx => f_X4_needFeet κ a = .inl (E, κx) ∧ E ∈ [nIAE])) 1 6 (fr g sz) := by
  refine k_xenter (by decide +kernel) (Nat.le_of_ble_eq_true rfl) ?_
  intro p e s m below meth c ls hM hno hr hl hw hsz
  subst hsz
  have hl : lv_has ls 1 [(0, .int (a))] := hl
  have hF := f_X4_needFeet.eq_1 κ a
  refine lv_iload_n hM.x hM.b dX4_needFeet_0 rfl (lv_at hl 0 rfl) ?_
  refine lv_iconst (v := 1) hM.x hM.b dX4_needFeet_1 (by decide) ?_
  refine lv_icmp_lt (tgt := 10) hM.x hM.b dX4_needFeet_2 (by decide) (fun c1 => ?_) (fun c1 => ?_)
  · rw [if_pos c1] at hF
    exact k_throw (cls := nIAE) (text := "feet is not 1 to 3") (is := 227) hlst hM hno hw (by decide +kernel) u_cl_X4_34 u_ini_JA (by decide +kernel) xIAE1 xIAE2 xIAE3 hl.1 dX4_needFeet_10 dX4_needFeet_13 dX4_needFeet_14 dX4_needFeet_16 dX4_needFeet_19 (Nat.le_of_ble_eq_true rfl) (Nat.le_of_ble_eq_true rfl) (Nat.le_of_ble_eq_true rfl) (Nat.le_of_ble_eq_true rfl) ⟨hF, by decide +kernel⟩ (Nat.le_of_ble_eq_true rfl) (Nat.le_of_ble_eq_true rfl)
  · rw [if_neg c1] at hF
    refine lv_iload_n hM.x hM.b dX4_needFeet_5 rfl (lv_at hl 0 rfl) ?_
    refine lv_iconst (v := 3) hM.x hM.b dX4_needFeet_6 (by decide) ?_
    refine lv_icmp_le (tgt := 20) hM.x hM.b dX4_needFeet_7 (by decide) (fun c2 => ?_) (fun c2 => ?_)
    · rw [if_pos c2] at hF
      exact vx_ret (k_vret hM hr hw (Nat.le_of_ble_eq_true rfl) (Nat.le_of_ble_eq_true rfl) ⟨hF, rfl⟩ dX4_needFeet_20)
    · rw [if_neg c2] at hF
      exact k_throw (cls := nIAE) (text := "feet is not 1 to 3") (is := 227) hlst hM hno hw (by decide +kernel) u_cl_X4_34 u_ini_JA (by decide +kernel) xIAE1 xIAE2 xIAE3 hl.1 dX4_needFeet_10 dX4_needFeet_13 dX4_needFeet_14 dX4_needFeet_16 dX4_needFeet_19 (Nat.le_of_ble_eq_true rfl) (Nat.le_of_ble_eq_true rfl) (Nat.le_of_ble_eq_true rfl) (Nat.le_of_ble_eq_true rfl) ⟨hF, by decide +kernel⟩ (Nat.le_of_ble_eq_true rfl) (Nat.le_of_ble_eq_true rfl)
theorem q_X4_needPounds : hdV yX4_needPounds RX4 1 := ⟨rfl, by decide +kernel, by decide +kernel, by decide +kernel⟩
def f_X4_needPounds (κ : Kp) (a : Int32) : (String × Kp) ⊕ Unit := if (a) < (1) then (.inl (nIAE, κ)) else (if (a) ≤ (12) then (.inr ()) else (.inl (nIAE, κ)))
set_option maxRecDepth 100000 in
set_option maxHeartbeats 4000000 in
theorem m_X4_needPounds (l : Launch) (g : Gt) (κ : Kp) (sz : Nat) (a : Int32) (hlst : l.stackTraces = false) : vx_Met l yX4_needPounds (.code yX4_needPounds cX4_needPounds 1 none :: uW) { frames := 6, cells := 1, slots := 6, locals := 180 } (PRE g κ sz [.int (a)]) (va_Qv (fun κ' => f_X4_needPounds κ a = .inr () ∧ κ' = κ) (Wp g) (fr g sz)) (xC g sz (fun E κx => f_X4_needPounds κ a = .inl (E, κx) ∧ E ∈ [nIAE])) 1 6 (fr g sz) := by
  refine k_xenter (by decide +kernel) (Nat.le_of_ble_eq_true rfl) ?_
  intro p e s m below meth c ls hM hno hr hl hw hsz
  subst hsz
  have hl : lv_has ls 1 [(0, .int (a))] := hl
  have hF := f_X4_needPounds.eq_1 κ a
  refine lv_iload_n hM.x hM.b dX4_needPounds_0 rfl (lv_at hl 0 rfl) ?_
  refine lv_iconst (v := 1) hM.x hM.b dX4_needPounds_1 (by decide) ?_
  refine lv_icmp_lt (tgt := 11) hM.x hM.b dX4_needPounds_2 (by decide) (fun c1 => ?_) (fun c1 => ?_)
  · rw [if_pos c1] at hF
    exact k_throw (cls := nIAE) (text := "pounds is not 1 to 12") (is := 229) hlst hM hno hw (by decide +kernel) u_cl_X4_34 u_ini_JA (by decide +kernel) xIAE1 xIAE2 xIAE3 hl.1 dX4_needPounds_11 dX4_needPounds_14 dX4_needPounds_15 dX4_needPounds_17 dX4_needPounds_20 (Nat.le_of_ble_eq_true rfl) (Nat.le_of_ble_eq_true rfl) (Nat.le_of_ble_eq_true rfl) (Nat.le_of_ble_eq_true rfl) ⟨hF, by decide +kernel⟩ (Nat.le_of_ble_eq_true rfl) (Nat.le_of_ble_eq_true rfl)
  · rw [if_neg c1] at hF
    refine lv_iload_n hM.x hM.b dX4_needPounds_5 rfl (lv_at hl 0 rfl) ?_
    refine lv_bipush (v := 12) hM.x hM.b dX4_needPounds_6 (by decide) ?_
    refine lv_icmp_le (tgt := 21) hM.x hM.b dX4_needPounds_8 (by decide) (fun c2 => ?_) (fun c2 => ?_)
    · rw [if_pos c2] at hF
      exact vx_ret (k_vret hM hr hw (Nat.le_of_ble_eq_true rfl) (Nat.le_of_ble_eq_true rfl) ⟨hF, rfl⟩ dX4_needPounds_21)
    · rw [if_neg c2] at hF
      exact k_throw (cls := nIAE) (text := "pounds is not 1 to 12") (is := 229) hlst hM hno hw (by decide +kernel) u_cl_X4_34 u_ini_JA (by decide +kernel) xIAE1 xIAE2 xIAE3 hl.1 dX4_needPounds_11 dX4_needPounds_14 dX4_needPounds_15 dX4_needPounds_17 dX4_needPounds_20 (Nat.le_of_ble_eq_true rfl) (Nat.le_of_ble_eq_true rfl) (Nat.le_of_ble_eq_true rfl) (Nat.le_of_ble_eq_true rfl) ⟨hF, by decide +kernel⟩ (Nat.le_of_ble_eq_true rfl) (Nat.le_of_ble_eq_true rfl)
