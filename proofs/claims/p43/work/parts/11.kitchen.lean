theorem q_X1_fireAt : hdV yX1_fireAt RX1 1 := ⟨rfl, by decide +kernel, by decide +kernel, by decide +kernel⟩
def f_X1_fireAt (κ : Kp) (k : Nat) (a : Int32) : Option Nat := if (a) < 0 then (none) else (if (κ (k) 3) ≤ (a) then (none) else (if (3) ≤ (a) then (none) else (some (k + 4 + (a).toNatClampNeg))))
set_option maxRecDepth 100000 in
set_option maxHeartbeats 4000000 in
theorem m_X1_fireAt (l : Launch) (g : Gt) (κ : Kp) (sz : Nat) (k : Nat) (a : Int32) (hk : kd k = 1) : Met l yX1_fireAt (.code yX1_fireAt cX1_fireAt 2 (some (.object "KitchenSpits$Fire")) :: uW) { frames := 0, cells := 0, slots := 0, locals := 0 } (PRE g κ sz [.ref (g.2.2 (k)), .int (a)]) (va_Qe g.2.2 (fun r κ' => r = f_X1_fireAt κ k a ∧ κ' = κ) (Wp g) (fr g sz)) 0 0 (fr g sz) := by
  refine k_enter (by decide +kernel) (Nat.le_of_ble_eq_true rfl) ?_
  intro p e s m below meth c ls hM hr hl hw hsz
  subst hsz
  have hl : lv_has ls 2 [(0, .ref (g.2.2 (k))), (1, .int (a))] := hl
  have hF := f_X1_fireAt.eq_1 κ k a
  refine lv_iload_n hM.x hM.b dX1_fireAt_0 rfl (lv_at hl 1 rfl) ?_
  refine lv_if_lt (tgt := 30) hM.x hM.b dX1_fireAt_1 (by decide) (fun c1 => ?_) (fun c1 => ?_)
  · rw [if_pos c1] at hF
    refine lv_null hM.x hM.b dX1_fireAt_30 ?_
    exact k_eret (v := none) hM hr hw (Nat.le_of_ble_eq_true rfl) (Nat.le_of_ble_eq_true rfl) ⟨hF.symm, rfl⟩ dX1_fireAt_31
  · rw [if_neg c1] at hF
    refine lv_iload_n hM.x hM.b dX1_fireAt_4 rfl (lv_at hl 1 rfl) ?_
    refine lv_aload_n hM.x hM.b dX1_fireAt_5 rfl (lv_at hl 0 rfl) ?_
    refine k_get1 3 hM hw hk (by decide) u_fl_X1_46 dX1_fireAt_6 ?_
    refine lv_icmp_ge (tgt := 30) hM.x hM.b dX1_fireAt_9 (by decide) (fun c2 => ?_) (fun c2 => ?_)
    · rw [if_pos c2] at hF
      refine lv_null hM.x hM.b dX1_fireAt_30 ?_
      exact k_eret (v := none) hM hr hw (Nat.le_of_ble_eq_true rfl) (Nat.le_of_ble_eq_true rfl) ⟨hF.symm, rfl⟩ dX1_fireAt_31
    · rw [if_neg c2] at hF
      refine lv_iload_n hM.x hM.b dX1_fireAt_12 rfl (lv_at hl 1 rfl) ?_
      refine lv_aload_n hM.x hM.b dX1_fireAt_13 rfl (lv_at hl 0 rfl) ?_
      refine k_get1r 0 hM hw hk (by decide) u_fl_X1_11 dX1_fireAt_14 ?_
      refine k_alen (v := 3) hM hw (hw.dm (kd1_7 hk) (by decide)) 2 (sh7 (kd1_7 hk)) rfl rfl dX1_fireAt_17 ?_
      refine lv_icmp_ge (tgt := 30) hM.x hM.b dX1_fireAt_18 (by decide) (fun c3 => ?_) (fun c3 => ?_)
      · rw [if_pos c3] at hF
        refine lv_null hM.x hM.b dX1_fireAt_30 ?_
        exact k_eret (v := none) hM hr hw (Nat.le_of_ble_eq_true rfl) (Nat.le_of_ble_eq_true rfl) ⟨hF.symm, rfl⟩ dX1_fireAt_31
      · rw [if_neg c3] at hF
        refine lv_aload_n hM.x hM.b dX1_fireAt_21 rfl (lv_at hl 0 rfl) ?_
        refine k_get1r 0 hM hw hk (by decide) u_fl_X1_11 dX1_fireAt_22 ?_
        refine lv_iload_n hM.x hM.b dX1_fireAt_25 rfl (lv_at hl 1 rfl) ?_
        refine k_ald7 hM hw hk (vpin1 (M := 3) (n := 3) rfl c1 c3) dX1_fireAt_26 ?_
        refine lv_goto (tgt := 31) hM.x hM.b dX1_fireAt_27 (by decide) ?_
        exact k_eret (v := some (k + 4 + (a).toNatClampNeg)) hM hr hw (Nat.le_of_ble_eq_true rfl) (Nat.le_of_ble_eq_true rfl) ⟨hF.symm, rfl⟩ dX1_fireAt_31
theorem sm_X1_fireAt {κ : Kp} {k : Nat} {a : Int32} {p : Nat} (h : f_X1_fireAt κ k a = some p) : ¬ a < 0 ∧ ¬ κ k 3 ≤ a ∧ a.toNatClampNeg < 3 ∧ p = k + 4 + a.toNatClampNeg := by
  unfold f_X1_fireAt at h
  by_cases h1 : a < 0
  · rw [if_pos h1] at h; cases h
  · rw [if_neg h1] at h
    by_cases h2 : κ k 3 ≤ a
    · rw [if_pos h2] at h; cases h
    · rw [if_neg h2] at h
      by_cases h3 : (3 : Int32) ≤ a
      · rw [if_pos h3] at h; cases h
      · rw [if_neg h3] at h
        cases h
        exact ⟨h1, h2, vpin_lt (vpin1 (M := 3) (n := 3) rfl h1 h3), rfl⟩
theorem kdp_X1_fireAt {κ : Kp} {k : Nat} {a : Int32} {p : Nat} (hk : kd k = 1) (h : f_X1_fireAt κ k a = some p) : kd p = 0 := by
  obtain ⟨-, -, h3, rfl⟩ := sm_X1_fireAt h
  exact kd1_0 hk h3
theorem q_X1_spitAt : hdV yX1_spitAt RX1 1 := ⟨rfl, by decide +kernel, by decide +kernel, by decide +kernel⟩
def f_X1_spitAt (κ : Kp) (k : Nat) (a : Int32) : Option Nat := if (a) < 0 then (none) else (if (κ (k) 4) ≤ (a) then (none) else (if (6) ≤ (a) then (none) else (some (k + 7 + (a).toNatClampNeg))))
set_option maxRecDepth 100000 in
set_option maxHeartbeats 4000000 in
theorem m_X1_spitAt (l : Launch) (g : Gt) (κ : Kp) (sz : Nat) (k : Nat) (a : Int32) (hk : kd k = 1) : Met l yX1_spitAt (.code yX1_spitAt cX1_spitAt 2 (some (.object "KitchenSpits$Spit")) :: uW) { frames := 0, cells := 0, slots := 0, locals := 0 } (PRE g κ sz [.ref (g.2.2 (k)), .int (a)]) (va_Qe g.2.2 (fun r κ' => r = f_X1_spitAt κ k a ∧ κ' = κ) (Wp g) (fr g sz)) 0 0 (fr g sz) := by
  refine k_enter (by decide +kernel) (Nat.le_of_ble_eq_true rfl) ?_
  intro p e s m below meth c ls hM hr hl hw hsz
  subst hsz
  have hl : lv_has ls 2 [(0, .ref (g.2.2 (k))), (1, .int (a))] := hl
  have hF := f_X1_spitAt.eq_1 κ k a
  refine lv_iload_n hM.x hM.b dX1_spitAt_0 rfl (lv_at hl 1 rfl) ?_
  refine lv_if_lt (tgt := 30) hM.x hM.b dX1_spitAt_1 (by decide) (fun c1 => ?_) (fun c1 => ?_)
  · rw [if_pos c1] at hF
    refine lv_null hM.x hM.b dX1_spitAt_30 ?_
    exact k_eret (v := none) hM hr hw (Nat.le_of_ble_eq_true rfl) (Nat.le_of_ble_eq_true rfl) ⟨hF.symm, rfl⟩ dX1_spitAt_31
  · rw [if_neg c1] at hF
    refine lv_iload_n hM.x hM.b dX1_spitAt_4 rfl (lv_at hl 1 rfl) ?_
    refine lv_aload_n hM.x hM.b dX1_spitAt_5 rfl (lv_at hl 0 rfl) ?_
    refine k_get1 4 hM hw hk (by decide) u_fl_X1_49 dX1_spitAt_6 ?_
    refine lv_icmp_ge (tgt := 30) hM.x hM.b dX1_spitAt_9 (by decide) (fun c2 => ?_) (fun c2 => ?_)
    · rw [if_pos c2] at hF
      refine lv_null hM.x hM.b dX1_spitAt_30 ?_
      exact k_eret (v := none) hM hr hw (Nat.le_of_ble_eq_true rfl) (Nat.le_of_ble_eq_true rfl) ⟨hF.symm, rfl⟩ dX1_spitAt_31
    · rw [if_neg c2] at hF
      refine lv_iload_n hM.x hM.b dX1_spitAt_12 rfl (lv_at hl 1 rfl) ?_
      refine lv_aload_n hM.x hM.b dX1_spitAt_13 rfl (lv_at hl 0 rfl) ?_
      refine k_get1r 1 hM hw hk (by decide) u_fl_X1_19 dX1_spitAt_14 ?_
      refine k_alen (v := 6) hM hw (hw.dm (kd1_8 hk) (by decide)) 3 (sh8 (kd1_8 hk)) rfl rfl dX1_spitAt_17 ?_
      refine lv_icmp_ge (tgt := 30) hM.x hM.b dX1_spitAt_18 (by decide) (fun c3 => ?_) (fun c3 => ?_)
      · rw [if_pos c3] at hF
        refine lv_null hM.x hM.b dX1_spitAt_30 ?_
        exact k_eret (v := none) hM hr hw (Nat.le_of_ble_eq_true rfl) (Nat.le_of_ble_eq_true rfl) ⟨hF.symm, rfl⟩ dX1_spitAt_31
      · rw [if_neg c3] at hF
        refine lv_aload_n hM.x hM.b dX1_spitAt_21 rfl (lv_at hl 0 rfl) ?_
        refine k_get1r 1 hM hw hk (by decide) u_fl_X1_19 dX1_spitAt_22 ?_
        refine lv_iload_n hM.x hM.b dX1_spitAt_25 rfl (lv_at hl 1 rfl) ?_
        refine k_ald8 hM hw hk (vpin1 (M := 6) (n := 6) rfl c1 c3) dX1_spitAt_26 ?_
        refine lv_goto (tgt := 31) hM.x hM.b dX1_spitAt_27 (by decide) ?_
        exact k_eret (v := some (k + 7 + (a).toNatClampNeg)) hM hr hw (Nat.le_of_ble_eq_true rfl) (Nat.le_of_ble_eq_true rfl) ⟨hF.symm, rfl⟩ dX1_spitAt_31
theorem sm_X1_spitAt {κ : Kp} {k : Nat} {a : Int32} {p : Nat} (h : f_X1_spitAt κ k a = some p) : ¬ a < 0 ∧ ¬ κ k 4 ≤ a ∧ a.toNatClampNeg < 6 ∧ p = k + 7 + a.toNatClampNeg := by
  unfold f_X1_spitAt at h
  by_cases h1 : a < 0
  · rw [if_pos h1] at h; cases h
  · rw [if_neg h1] at h
    by_cases h2 : κ k 4 ≤ a
    · rw [if_pos h2] at h; cases h
    · rw [if_neg h2] at h
      by_cases h3 : (6 : Int32) ≤ a
      · rw [if_pos h3] at h; cases h
      · rw [if_neg h3] at h
        cases h
        exact ⟨h1, h2, vpin_lt (vpin1 (M := 6) (n := 6) rfl h1 h3), rfl⟩
theorem kdp_X1_spitAt {κ : Kp} {k : Nat} {a : Int32} {p : Nat} (hk : kd k = 1) (h : f_X1_spitAt κ k a = some p) : kd p = 3 := by
  obtain ⟨-, -, h3, rfl⟩ := sm_X1_spitAt h
  exact kd1_3 hk h3
theorem q_X1_roastAt : hdV yX1_roastAt RX1 1 := ⟨rfl, by decide +kernel, by decide +kernel, by decide +kernel⟩
def f_X1_roastAt (κ : Kp) (k : Nat) (a : Int32) : Option Nat := if (a) < 0 then (none) else (if (κ (k) 5) ≤ (a) then (none) else (if (16) ≤ (a) then (none) else (some (k + 13 + 2 * (a).toNatClampNeg))))
set_option maxRecDepth 100000 in
set_option maxHeartbeats 4000000 in
theorem m_X1_roastAt (l : Launch) (g : Gt) (κ : Kp) (sz : Nat) (k : Nat) (a : Int32) (hk : kd k = 1) : Met l yX1_roastAt (.code yX1_roastAt cX1_roastAt 2 (some (.object "KitchenSpits$Roast")) :: uW) { frames := 0, cells := 0, slots := 0, locals := 0 } (PRE g κ sz [.ref (g.2.2 (k)), .int (a)]) (va_Qe g.2.2 (fun r κ' => r = f_X1_roastAt κ k a ∧ κ' = κ) (Wp g) (fr g sz)) 0 0 (fr g sz) := by
  refine k_enter (by decide +kernel) (Nat.le_of_ble_eq_true rfl) ?_
  intro p e s m below meth c ls hM hr hl hw hsz
  subst hsz
  have hl : lv_has ls 2 [(0, .ref (g.2.2 (k))), (1, .int (a))] := hl
  have hF := f_X1_roastAt.eq_1 κ k a
  refine lv_iload_n hM.x hM.b dX1_roastAt_0 rfl (lv_at hl 1 rfl) ?_
  refine lv_if_lt (tgt := 30) hM.x hM.b dX1_roastAt_1 (by decide) (fun c1 => ?_) (fun c1 => ?_)
  · rw [if_pos c1] at hF
    refine lv_null hM.x hM.b dX1_roastAt_30 ?_
    exact k_eret (v := none) hM hr hw (Nat.le_of_ble_eq_true rfl) (Nat.le_of_ble_eq_true rfl) ⟨hF.symm, rfl⟩ dX1_roastAt_31
  · rw [if_neg c1] at hF
    refine lv_iload_n hM.x hM.b dX1_roastAt_4 rfl (lv_at hl 1 rfl) ?_
    refine lv_aload_n hM.x hM.b dX1_roastAt_5 rfl (lv_at hl 0 rfl) ?_
    refine k_get1 5 hM hw hk (by decide) u_fl_X1_52 dX1_roastAt_6 ?_
    refine lv_icmp_ge (tgt := 30) hM.x hM.b dX1_roastAt_9 (by decide) (fun c2 => ?_) (fun c2 => ?_)
    · rw [if_pos c2] at hF
      refine lv_null hM.x hM.b dX1_roastAt_30 ?_
      exact k_eret (v := none) hM hr hw (Nat.le_of_ble_eq_true rfl) (Nat.le_of_ble_eq_true rfl) ⟨hF.symm, rfl⟩ dX1_roastAt_31
    · rw [if_neg c2] at hF
      refine lv_iload_n hM.x hM.b dX1_roastAt_12 rfl (lv_at hl 1 rfl) ?_
      refine lv_aload_n hM.x hM.b dX1_roastAt_13 rfl (lv_at hl 0 rfl) ?_
      refine k_get1r 2 hM hw hk (by decide) u_fl_X1_25 dX1_roastAt_14 ?_
      refine k_alen (v := 16) hM hw (hw.dm (kd1_9 hk) (by decide)) 4 (sh9 (kd1_9 hk)) rfl rfl dX1_roastAt_17 ?_
      refine lv_icmp_ge (tgt := 30) hM.x hM.b dX1_roastAt_18 (by decide) (fun c3 => ?_) (fun c3 => ?_)
      · rw [if_pos c3] at hF
        refine lv_null hM.x hM.b dX1_roastAt_30 ?_
        exact k_eret (v := none) hM hr hw (Nat.le_of_ble_eq_true rfl) (Nat.le_of_ble_eq_true rfl) ⟨hF.symm, rfl⟩ dX1_roastAt_31
      · rw [if_neg c3] at hF
        refine lv_aload_n hM.x hM.b dX1_roastAt_21 rfl (lv_at hl 0 rfl) ?_
        refine k_get1r 2 hM hw hk (by decide) u_fl_X1_25 dX1_roastAt_22 ?_
        refine lv_iload_n hM.x hM.b dX1_roastAt_25 rfl (lv_at hl 1 rfl) ?_
        refine k_ald9 hM hw hk (vpin1 (M := 16) (n := 16) rfl c1 c3) dX1_roastAt_26 ?_
        refine lv_goto (tgt := 31) hM.x hM.b dX1_roastAt_27 (by decide) ?_
        exact k_eret (v := some (k + 13 + 2 * (a).toNatClampNeg)) hM hr hw (Nat.le_of_ble_eq_true rfl) (Nat.le_of_ble_eq_true rfl) ⟨hF.symm, rfl⟩ dX1_roastAt_31
theorem sm_X1_roastAt {κ : Kp} {k : Nat} {a : Int32} {p : Nat} (h : f_X1_roastAt κ k a = some p) : ¬ a < 0 ∧ ¬ κ k 5 ≤ a ∧ a.toNatClampNeg < 16 ∧ p = k + 13 + 2 * a.toNatClampNeg := by
  unfold f_X1_roastAt at h
  by_cases h1 : a < 0
  · rw [if_pos h1] at h; cases h
  · rw [if_neg h1] at h
    by_cases h2 : κ k 5 ≤ a
    · rw [if_pos h2] at h; cases h
    · rw [if_neg h2] at h
      by_cases h3 : (16 : Int32) ≤ a
      · rw [if_pos h3] at h; cases h
      · rw [if_neg h3] at h
        cases h
        exact ⟨h1, h2, vpin_lt (vpin1 (M := 16) (n := 16) rfl h1 h3), rfl⟩
theorem kdp_X1_roastAt {κ : Kp} {k : Nat} {a : Int32} {p : Nat} (hk : kd k = 1) (h : f_X1_roastAt κ k a = some p) : kd p = 2 := by
  obtain ⟨-, -, h3, rfl⟩ := sm_X1_roastAt h
  exact kd1_2 hk h3
theorem q_X1_placeFire : hdV yX1_placeFire RX1 0 := ⟨rfl, by decide +kernel, by decide +kernel, by decide +kernel⟩
def f_X1_placeFire (κ : Kp) (k : Nat) : Int32 × Kp := if (κ (k) 3) < (3) then ((fun κ1 : Kp => (((κ1 (k) 3) - (1)), κ1)) (up2 κ (k) 3 (((κ (k) 3) + (1))))) else (((-1), κ))
set_option maxRecDepth 100000 in
set_option maxHeartbeats 4000000 in
theorem m_X1_placeFire (l : Launch) (g : Gt) (κ : Kp) (sz : Nat) (k : Nat) (hk : kd k = 1) : Met l yX1_placeFire (.code yX1_placeFire cX1_placeFire 1 (some .int) :: uW) { frames := 0, cells := 0, slots := 0, locals := 0 } (PRE g κ sz [.ref (g.2.2 (k))]) (va_Qi (fun r κ' => f_X1_placeFire κ k = (r, κ')) (Wp g) (fr g sz)) 0 0 (fr g sz) := by
  refine k_enter (by decide +kernel) (Nat.le_of_ble_eq_true rfl) ?_
  intro p e s m below meth c ls hM hr hl hw hsz
  subst hsz
  have hl : lv_has ls 1 [(0, .ref (g.2.2 (k)))] := hl
  have hF := f_X1_placeFire.eq_1 κ k
  refine lv_aload_n hM.x hM.b dX1_placeFire_0 rfl (lv_at hl 0 rfl) ?_
  refine k_get1 3 hM hw hk (by decide) u_fl_X1_46 dX1_placeFire_1 ?_
  refine lv_aload_n hM.x hM.b dX1_placeFire_4 rfl (lv_at hl 0 rfl) ?_
  refine k_get1r 0 hM hw hk (by decide) u_fl_X1_11 dX1_placeFire_5 ?_
  refine k_alen (v := 3) hM hw (hw.dm (kd1_7 hk) (by decide)) 2 (sh7 (kd1_7 hk)) rfl rfl dX1_placeFire_8 ?_
  refine lv_icmp_lt (tgt := 14) hM.x hM.b dX1_placeFire_9 (by decide) (fun c1 => ?_) (fun c1 => ?_)
  · rw [if_pos c1] at hF
    refine lv_aload_n hM.x hM.b dX1_placeFire_14 rfl (lv_at hl 0 rfl) ?_
    refine lv_dup hM.x hM.b dX1_placeFire_15 rfl ?_
    refine k_get1 3 hM hw hk (by decide) u_fl_X1_46 dX1_placeFire_16 ?_
    refine lv_iconst (v := 1) hM.x hM.b dX1_placeFire_19 (by decide) ?_
    refine lv_iadd hM.x hM.b dX1_placeFire_20 ?_
    refine k_put1 3 hM hw hk (by decide) u_fl_X1_46 dX1_placeFire_21 (fun H locs hw => ?_)
    obtain ⟨κ1, eκ1⟩ : ∃ z : Kp, up2 κ (k) 3 (((κ (k) 3) + (1))) = z := ⟨_, rfl⟩
    rw [eκ1] at hw
    rw [eκ1] at hF
    try dsimp only at hF
    refine lv_aload_n hM.x hM.b dX1_placeFire_24 rfl (lv_at hl 0 rfl) ?_
    refine k_get1 3 hM hw hk (by decide) u_fl_X1_46 dX1_placeFire_25 ?_
    refine lv_iconst (v := 1) hM.x hM.b dX1_placeFire_28 (by decide) ?_
    refine lv_isub hM.x hM.b dX1_placeFire_29 ?_
    exact k_iret hM hr hw (Nat.le_of_ble_eq_true rfl) (Nat.le_of_ble_eq_true rfl) hF dX1_placeFire_30
  · rw [if_neg c1] at hF
    refine lv_iconst (v := -1) hM.x hM.b dX1_placeFire_12 (by decide) ?_
    exact k_iret hM hr hw (Nat.le_of_ble_eq_true rfl) (Nat.le_of_ble_eq_true rfl) hF dX1_placeFire_13
theorem q_X1_placeSpit : hdV yX1_placeSpit RX1 2 := ⟨rfl, by decide +kernel, by decide +kernel, by decide +kernel⟩
def f_X1_placeSpit (κ : Kp) (k : Nat) (a : Int32) (b : Int32) : Int32 × Kp := if (κ (k) 4) < 0 then (((-1), κ)) else (if (κ (k) 4) < (6) then ((fun κ1 : Kp => (fun κ2 : Kp => (fun κ3 : Kp => (((κ3 (k) 4) - (1)), κ3)) (up2 κ2 (k) 4 (((κ2 (k) 4) + (1))))) (up2 κ1 (k + 7 + (κ (k) 4).toNatClampNeg) 1 (b))) (up2 κ (k + 7 + (κ (k) 4).toNatClampNeg) 0 (a))) else (((-1), κ)))
set_option maxRecDepth 100000 in
set_option maxHeartbeats 4000000 in
theorem m_X1_placeSpit (l : Launch) (g : Gt) (κ : Kp) (sz : Nat) (k : Nat) (a : Int32) (b : Int32) (hk : kd k = 1) : Met l yX1_placeSpit (.code yX1_placeSpit cX1_placeSpit 4 (some .int) :: uW) { frames := 0, cells := 0, slots := 0, locals := 0 } (PRE g κ sz [.ref (g.2.2 (k)), .int (a), .int (b)]) (va_Qi (fun r κ' => f_X1_placeSpit κ k a b = (r, κ')) (Wp g) (fr g sz)) 0 0 (fr g sz) := by
  refine k_enter (by decide +kernel) (Nat.le_of_ble_eq_true rfl) ?_
  intro p e s m below meth c ls hM hr hl hw hsz
  subst hsz
  have hl : lv_has ls 4 [(0, .ref (g.2.2 (k))), (1, .int (a)), (2, .int (b))] := hl
  have hF := f_X1_placeSpit.eq_1 κ k a b
  refine lv_aload_n hM.x hM.b dX1_placeSpit_0 rfl (lv_at hl 0 rfl) ?_
  refine k_get1 4 hM hw hk (by decide) u_fl_X1_49 dX1_placeSpit_1 ?_
  refine lv_if_lt (tgt := 19) hM.x hM.b dX1_placeSpit_4 (by decide) (fun c1 => ?_) (fun c1 => ?_)
  · rw [if_pos c1] at hF
    refine lv_iconst (v := -1) hM.x hM.b dX1_placeSpit_19 (by decide) ?_
    exact k_iret hM hr hw (Nat.le_of_ble_eq_true rfl) (Nat.le_of_ble_eq_true rfl) hF dX1_placeSpit_20
  · rw [if_neg c1] at hF
    refine lv_aload_n hM.x hM.b dX1_placeSpit_7 rfl (lv_at hl 0 rfl) ?_
    refine k_get1 4 hM hw hk (by decide) u_fl_X1_49 dX1_placeSpit_8 ?_
    refine lv_aload_n hM.x hM.b dX1_placeSpit_11 rfl (lv_at hl 0 rfl) ?_
    refine k_get1r 1 hM hw hk (by decide) u_fl_X1_19 dX1_placeSpit_12 ?_
    refine k_alen (v := 6) hM hw (hw.dm (kd1_8 hk) (by decide)) 3 (sh8 (kd1_8 hk)) rfl rfl dX1_placeSpit_15 ?_
    refine lv_icmp_lt (tgt := 21) hM.x hM.b dX1_placeSpit_16 (by decide) (fun c2 => ?_) (fun c2 => ?_)
    · rw [if_pos c2] at hF
      refine lv_aload_n hM.x hM.b dX1_placeSpit_21 rfl (lv_at hl 0 rfl) ?_
      refine k_get1r 1 hM hw hk (by decide) u_fl_X1_19 dX1_placeSpit_22 ?_
      refine lv_aload_n hM.x hM.b dX1_placeSpit_25 rfl (lv_at hl 0 rfl) ?_
      refine k_get1 4 hM hw hk (by decide) u_fl_X1_49 dX1_placeSpit_26 ?_
      refine k_ald8 hM hw hk (vpin2 (M := 6) (n := 6) rfl c1 c2) dX1_placeSpit_29 ?_
      refine lv_astore_n (lv' := [(3, .ref (g.2.2 (k + 7 + (κ (k) 4).toNatClampNeg))), (0, .ref (g.2.2 (k))), (1, .int (a)), (2, .int (b))]) hM.x hM.b dX1_placeSpit_30 rfl hl (by decide) rfl (fun ls hl => ?_)
      refine lv_aload_n hM.x hM.b dX1_placeSpit_31 rfl (lv_at hl 0 rfl) ?_
      refine lv_iload_n hM.x hM.b dX1_placeSpit_32 rfl (lv_at hl 2 rfl) ?_
      refine k_put3 0 hM hw (kd1_3 hk (vpin_lt (vpin2 (M := 6) (n := 6) rfl c1 c2))) (by decide) u_fl_X1_58 dX1_placeSpit_33 (fun H locs hw => ?_)
      obtain ⟨κ1, eκ1⟩ : ∃ z : Kp, up2 κ (k + 7 + (κ (k) 4).toNatClampNeg) 0 (a) = z := ⟨_, rfl⟩
      rw [eκ1] at hw
      rw [eκ1] at hF
      try dsimp only at hF
      refine lv_aload_n hM.x hM.b dX1_placeSpit_36 rfl (lv_at hl 0 rfl) ?_
      refine lv_iload_n hM.x hM.b dX1_placeSpit_37 rfl (lv_at hl 3 rfl) ?_
      refine k_put3 1 hM hw (kd1_3 hk (vpin_lt (vpin2 (M := 6) (n := 6) rfl c1 c2))) (by decide) u_fl_X1_61 dX1_placeSpit_38 (fun H locs hw => ?_)
      obtain ⟨κ2, eκ2⟩ : ∃ z : Kp, up2 κ1 (k + 7 + (κ (k) 4).toNatClampNeg) 1 (b) = z := ⟨_, rfl⟩
      rw [eκ2] at hw
      rw [eκ2] at hF
      try dsimp only at hF
      refine lv_aload_n hM.x hM.b dX1_placeSpit_41 rfl (lv_at hl 1 rfl) ?_
      refine lv_dup hM.x hM.b dX1_placeSpit_42 rfl ?_
      refine k_get1 4 hM hw hk (by decide) u_fl_X1_49 dX1_placeSpit_43 ?_
      refine lv_iconst (v := 1) hM.x hM.b dX1_placeSpit_46 (by decide) ?_
      refine lv_iadd hM.x hM.b dX1_placeSpit_47 ?_
      refine k_put1 4 hM hw hk (by decide) u_fl_X1_49 dX1_placeSpit_48 (fun H locs hw => ?_)
      obtain ⟨κ3, eκ3⟩ : ∃ z : Kp, up2 κ2 (k) 4 (((κ2 (k) 4) + (1))) = z := ⟨_, rfl⟩
      rw [eκ3] at hw
      rw [eκ3] at hF
      try dsimp only at hF
      refine lv_aload_n hM.x hM.b dX1_placeSpit_51 rfl (lv_at hl 1 rfl) ?_
      refine k_get1 4 hM hw hk (by decide) u_fl_X1_49 dX1_placeSpit_52 ?_
      refine lv_iconst (v := 1) hM.x hM.b dX1_placeSpit_55 (by decide) ?_
      refine lv_isub hM.x hM.b dX1_placeSpit_56 ?_
      exact k_iret hM hr hw (Nat.le_of_ble_eq_true rfl) (Nat.le_of_ble_eq_true rfl) hF dX1_placeSpit_57
    · rw [if_neg c2] at hF
      refine lv_iconst (v := -1) hM.x hM.b dX1_placeSpit_19 (by decide) ?_
      exact k_iret hM hr hw (Nat.le_of_ble_eq_true rfl) (Nat.le_of_ble_eq_true rfl) hF dX1_placeSpit_20
theorem q_X1_placeRoast : hdV yX1_placeRoast RX1 2 := ⟨rfl, by decide +kernel, by decide +kernel, by decide +kernel⟩
def f_X1_placeRoast (κ : Kp) (k : Nat) (a : Int32) (b : Int32) : Int32 × Kp := match f_X1_spitAt κ (k) (a) with | none => (((-1), κ)) | some p1 => (if (κ (p1) 5) = ((-1)) then (if (κ (k) 5) < 0 then (((-1), κ)) else (if (κ (k) 5) < (16) then ((fun κ1 : Kp => (fun κ2 : Kp => (fun κ3 : Kp => (fun κ4 : Kp => (fun κ5 : Kp => (fun κ6 : Kp => (κ6 (p1) 5, κ6)) (up2 κ5 (k) 5 (((κ5 (k) 5) + (1))))) (up2 κ4 (p1) 3 (0))) (up2 κ3 (p1) 5 (κ3 (k) 5))) (up2 κ2 (k + 13 + 2 * (κ (k) 5).toNatClampNeg) 2 (a))) (up2 κ1 (k + 13 + 2 * (κ (k) 5).toNatClampNeg) 4 (((3) * (b))))) (up2 κ (k + 13 + 2 * (κ (k) 5).toNatClampNeg) 1 (b))) else (((-1), κ)))) else (((-1), κ)))
set_option maxRecDepth 100000 in
set_option maxHeartbeats 4000000 in
theorem m_X1_placeRoast (l : Launch) (g : Gt) (κ : Kp) (sz : Nat) (k : Nat) (a : Int32) (b : Int32) (hk : kd k = 1) : Met l yX1_placeRoast (.code yX1_placeRoast cX1_placeRoast 5 (some .int) :: uW) { frames := 1, cells := 0, slots := 0, locals := 30 } (PRE g κ sz [.ref (g.2.2 (k)), .int (a), .int (b)]) (va_Qi (fun r κ' => f_X1_placeRoast κ k a b = (r, κ')) (Wp g) (fr g sz)) 0 0 (fr g sz) := by
  refine k_enter (by decide +kernel) (Nat.le_of_ble_eq_true rfl) ?_
  intro p e s m below meth c ls hM hr hl hw hsz
  subst hsz
  have hl : lv_has ls 5 [(0, .ref (g.2.2 (k))), (1, .int (a)), (2, .int (b))] := hl
  have hF := f_X1_placeRoast.eq_1 κ k a b
  refine lv_aload_n hM.x hM.b dX1_placeRoast_0 rfl (lv_at hl 0 rfl) ?_
  refine lv_iload_n hM.x hM.b dX1_placeRoast_1 rfl (lv_at hl 1 rfl) ?_
  refine k_cepO hw (k_runV [.int (a)] [] hM hw (m_X1_spitAt l g κ _ (k) (a) (hk)) (hw.dm hk (by decide)) (sh1 hk) rfl (k_gV u_ml_X1_64 u_im_X1_spitAt u_se_X1_spitAt u_ini_X1 u_co_X1_spitAt) (q_X1_spitAt) rfl rfl rfl ⟨Nat.le_of_ble_eq_true rfl, Nat.le_of_ble_eq_true rfl⟩ hl.1 rfl (Nat.le_of_ble_eq_true rfl) dX1_placeRoast_2 ⟨Nat.le_of_ble_eq_true rfl, Nat.le_of_ble_eq_true rfl⟩) (fun H locs ho hw => ?_) (fun p1 H locs ho hw => ?_)
  · simp only [ho] at hF
    refine lv_astore_nN (lv' := [(3, .null), (0, .ref (g.2.2 (k))), (1, .int (a)), (2, .int (b))]) hM.x hM.b dX1_placeRoast_5 rfl hl (by decide) rfl (fun ls hl => ?_)
    refine lv_aload_nN hM.x hM.b dX1_placeRoast_6 rfl (lv_at hl 0 rfl) ?_
    refine lv_ifnullN (tgt := 37) hM.x hM.b dX1_placeRoast_7 (by decide) ?_
    refine lv_iconst (v := -1) hM.x hM.b dX1_placeRoast_37 (by decide) ?_
    exact k_iret hM hr hw (Nat.le_of_ble_eq_true rfl) (Nat.le_of_ble_eq_true rfl) hF dX1_placeRoast_38
  · simp only [ho] at hF
    have hop1 := ho
    refine lv_astore_n (lv' := [(3, .ref (g.2.2 (p1))), (0, .ref (g.2.2 (k))), (1, .int (a)), (2, .int (b))]) hM.x hM.b dX1_placeRoast_5 rfl hl (by decide) rfl (fun ls hl => ?_)
    refine lv_aload_n hM.x hM.b dX1_placeRoast_6 rfl (lv_at hl 0 rfl) ?_
    refine lv_ifnull hM.x hM.b dX1_placeRoast_7 ?_
    refine lv_aload_n hM.x hM.b dX1_placeRoast_10 rfl (lv_at hl 0 rfl) ?_
    refine k_get3 5 hM hw (kdp_X1_spitAt hk hop1) (by decide) u_fl_X1_68 dX1_placeRoast_11 ?_
    refine lv_iconst (v := -1) hM.x hM.b dX1_placeRoast_14 (by decide) ?_
    refine lv_icmp_ne (tgt := 37) hM.x hM.b dX1_placeRoast_15 (by decide) (fun c1 => ?_) (fun c1 => ?_)
    · rw [if_neg c1] at hF
      refine lv_iconst (v := -1) hM.x hM.b dX1_placeRoast_37 (by decide) ?_
      exact k_iret hM hr hw (Nat.le_of_ble_eq_true rfl) (Nat.le_of_ble_eq_true rfl) hF dX1_placeRoast_38
    · rw [if_pos c1] at hF
      refine lv_aload_n hM.x hM.b dX1_placeRoast_18 rfl (lv_at hl 1 rfl) ?_
      refine k_get1 5 hM hw hk (by decide) u_fl_X1_52 dX1_placeRoast_19 ?_
      refine lv_if_lt (tgt := 37) hM.x hM.b dX1_placeRoast_22 (by decide) (fun c2 => ?_) (fun c2 => ?_)
      · rw [if_pos c2] at hF
        refine lv_iconst (v := -1) hM.x hM.b dX1_placeRoast_37 (by decide) ?_
        exact k_iret hM hr hw (Nat.le_of_ble_eq_true rfl) (Nat.le_of_ble_eq_true rfl) hF dX1_placeRoast_38
      · rw [if_neg c2] at hF
        refine lv_aload_n hM.x hM.b dX1_placeRoast_25 rfl (lv_at hl 1 rfl) ?_
        refine k_get1 5 hM hw hk (by decide) u_fl_X1_52 dX1_placeRoast_26 ?_
        refine lv_aload_n hM.x hM.b dX1_placeRoast_29 rfl (lv_at hl 1 rfl) ?_
        refine k_get1r 2 hM hw hk (by decide) u_fl_X1_25 dX1_placeRoast_30 ?_
        refine k_alen (v := 16) hM hw (hw.dm (kd1_9 hk) (by decide)) 4 (sh9 (kd1_9 hk)) rfl rfl dX1_placeRoast_33 ?_
        refine lv_icmp_lt (tgt := 39) hM.x hM.b dX1_placeRoast_34 (by decide) (fun c3 => ?_) (fun c3 => ?_)
        · rw [if_pos c3] at hF
          refine lv_aload_n hM.x hM.b dX1_placeRoast_39 rfl (lv_at hl 1 rfl) ?_
          refine k_get1r 2 hM hw hk (by decide) u_fl_X1_25 dX1_placeRoast_40 ?_
          refine lv_aload_n hM.x hM.b dX1_placeRoast_43 rfl (lv_at hl 1 rfl) ?_
          refine k_get1 5 hM hw hk (by decide) u_fl_X1_52 dX1_placeRoast_44 ?_
          refine k_ald9 hM hw hk (vpin2 (M := 16) (n := 16) rfl c2 c3) dX1_placeRoast_47 ?_
          refine lv_astore (lv' := [(4, .ref (g.2.2 (k + 13 + 2 * (κ (k) 5).toNatClampNeg))), (3, .ref (g.2.2 (p1))), (0, .ref (g.2.2 (k))), (1, .int (a)), (2, .int (b))]) hM.x hM.b dX1_placeRoast_48 hl (by decide) rfl (fun ls hl => ?_)
          refine lv_aload hM.x hM.b dX1_placeRoast_50 (lv_at hl 0 rfl) ?_
          refine lv_iload_n hM.x hM.b dX1_placeRoast_52 rfl (lv_at hl 4 rfl) ?_
          refine k_put2 1 hM hw (kd1_2 hk (vpin_lt (vpin2 (M := 16) (n := 16) rfl c2 c3))) (by decide) u_fl_X1_71 dX1_placeRoast_53 (fun H locs hw => ?_)
          obtain ⟨κ1, eκ1⟩ : ∃ z : Kp, up2 κ (k + 13 + 2 * (κ (k) 5).toNatClampNeg) 1 (b) = z := ⟨_, rfl⟩
          rw [eκ1] at hw
          rw [eκ1] at hF
          try dsimp only at hF
          refine lv_aload hM.x hM.b dX1_placeRoast_56 (lv_at hl 0 rfl) ?_
          refine lv_iconst (v := 3) hM.x hM.b dX1_placeRoast_58 (by decide) ?_
          refine lv_iload_n hM.x hM.b dX1_placeRoast_59 rfl (lv_at hl 4 rfl) ?_
          refine lv_imul hM.x hM.b dX1_placeRoast_60 ?_
          refine k_put2 4 hM hw (kd1_2 hk (vpin_lt (vpin2 (M := 16) (n := 16) rfl c2 c3))) (by decide) u_fl_X1_74 dX1_placeRoast_61 (fun H locs hw => ?_)
          obtain ⟨κ2, eκ2⟩ : ∃ z : Kp, up2 κ1 (k + 13 + 2 * (κ (k) 5).toNatClampNeg) 4 (((3) * (b))) = z := ⟨_, rfl⟩
          rw [eκ2] at hw
          rw [eκ2] at hF
          try dsimp only at hF
          refine lv_aload hM.x hM.b dX1_placeRoast_64 (lv_at hl 0 rfl) ?_
          refine lv_iload_n hM.x hM.b dX1_placeRoast_66 rfl (lv_at hl 3 rfl) ?_
          refine k_put2 2 hM hw (kd1_2 hk (vpin_lt (vpin2 (M := 16) (n := 16) rfl c2 c3))) (by decide) u_fl_X1_77 dX1_placeRoast_67 (fun H locs hw => ?_)
          obtain ⟨κ3, eκ3⟩ : ∃ z : Kp, up2 κ2 (k + 13 + 2 * (κ (k) 5).toNatClampNeg) 2 (a) = z := ⟨_, rfl⟩
          rw [eκ3] at hw
          rw [eκ3] at hF
          try dsimp only at hF
          refine lv_aload_n hM.x hM.b dX1_placeRoast_70 rfl (lv_at hl 1 rfl) ?_
          refine lv_aload_n hM.x hM.b dX1_placeRoast_71 rfl (lv_at hl 2 rfl) ?_
          refine k_get1 5 hM hw hk (by decide) u_fl_X1_52 dX1_placeRoast_72 ?_
          refine k_put3 5 hM hw (kdp_X1_spitAt hk hop1) (by decide) u_fl_X1_68 dX1_placeRoast_75 (fun H locs hw => ?_)
          obtain ⟨κ4, eκ4⟩ : ∃ z : Kp, up2 κ3 (p1) 5 (κ3 (k) 5) = z := ⟨_, rfl⟩
          rw [eκ4] at hw
          rw [eκ4] at hF
          try dsimp only at hF
          refine lv_aload_n hM.x hM.b dX1_placeRoast_78 rfl (lv_at hl 1 rfl) ?_
          refine lv_iconst (v := 0) hM.x hM.b dX1_placeRoast_79 (by decide) ?_
          refine k_put3 3 hM hw (kdp_X1_spitAt hk hop1) (by decide) u_fl_X1_80 dX1_placeRoast_80 (fun H locs hw => ?_)
          obtain ⟨κ5, eκ5⟩ : ∃ z : Kp, up2 κ4 (p1) 3 (0) = z := ⟨_, rfl⟩
          rw [eκ5] at hw
          rw [eκ5] at hF
          try dsimp only at hF
          refine lv_aload_n hM.x hM.b dX1_placeRoast_83 rfl (lv_at hl 2 rfl) ?_
          refine lv_dup hM.x hM.b dX1_placeRoast_84 rfl ?_
          refine k_get1 5 hM hw hk (by decide) u_fl_X1_52 dX1_placeRoast_85 ?_
          refine lv_iconst (v := 1) hM.x hM.b dX1_placeRoast_88 (by decide) ?_
          refine lv_iadd hM.x hM.b dX1_placeRoast_89 ?_
          refine k_put1 5 hM hw hk (by decide) u_fl_X1_52 dX1_placeRoast_90 (fun H locs hw => ?_)
          obtain ⟨κ6, eκ6⟩ : ∃ z : Kp, up2 κ5 (k) 5 (((κ5 (k) 5) + (1))) = z := ⟨_, rfl⟩
          rw [eκ6] at hw
          rw [eκ6] at hF
          try dsimp only at hF
          refine lv_aload_n hM.x hM.b dX1_placeRoast_93 rfl (lv_at hl 1 rfl) ?_
          refine k_get3 5 hM hw (kdp_X1_spitAt hk hop1) (by decide) u_fl_X1_68 dX1_placeRoast_94 ?_
          exact k_iret hM hr hw (Nat.le_of_ble_eq_true rfl) (Nat.le_of_ble_eq_true rfl) hF dX1_placeRoast_97
        · rw [if_neg c3] at hF
          refine lv_iconst (v := -1) hM.x hM.b dX1_placeRoast_37 (by decide) ?_
          exact k_iret hM hr hw (Nat.le_of_ble_eq_true rfl) (Nat.le_of_ble_eq_true rfl) hF dX1_placeRoast_38
theorem q_X1_glowOf : hdV yX1_glowOf RX1 1 := ⟨rfl, by decide +kernel, by decide +kernel, by decide +kernel⟩
def f_X1_glowOf (κ : Kp) (k : Nat) (q : Nat) : Int32 := match f_X1_fireAt κ (k) (κ (q) 0) with | none => (0) | some p1 => (if 0 < (κ (q) 1) then (((κ (p1) 1) / (κ (q) 1))) else (0))
set_option maxRecDepth 100000 in
set_option maxHeartbeats 4000000 in
theorem m_X1_glowOf (l : Launch) (g : Gt) (κ : Kp) (sz : Nat) (k : Nat) (q : Nat) (hk : kd k = 1) (hq : kd q = 3) : Met l yX1_glowOf (.code yX1_glowOf cX1_glowOf 3 (some .int) :: uW) { frames := 1, cells := 0, slots := 0, locals := 30 } (PRE g κ sz [.ref (g.2.2 (k)), .ref (g.2.2 (q))]) (va_Qi (fun r κ' => r = f_X1_glowOf κ k q ∧ κ' = κ) (Wp g) (fr g sz)) 0 0 (fr g sz) := by
  refine k_enter (by decide +kernel) (Nat.le_of_ble_eq_true rfl) ?_
  intro p e s m below meth c ls hM hr hl hw hsz
  subst hsz
  have hl : lv_has ls 3 [(0, .ref (g.2.2 (k))), (1, .ref (g.2.2 (q)))] := hl
  have hF := f_X1_glowOf.eq_1 κ k q
  refine lv_aload_n hM.x hM.b dX1_glowOf_0 rfl (lv_at hl 0 rfl) ?_
  refine lv_aload_n hM.x hM.b dX1_glowOf_1 rfl (lv_at hl 1 rfl) ?_
  refine k_get3 0 hM hw hq (by decide) u_fl_X1_58 dX1_glowOf_2 ?_
  refine k_cepO hw (k_runV [.int (κ (q) 0)] [] hM hw (m_X1_fireAt l g κ _ (k) (κ (q) 0) (hk)) (hw.dm hk (by decide)) (sh1 hk) rfl (k_gV u_ml_X1_83 u_im_X1_fireAt u_se_X1_fireAt u_ini_X1 u_co_X1_fireAt) (q_X1_fireAt) rfl rfl rfl ⟨Nat.le_of_ble_eq_true rfl, Nat.le_of_ble_eq_true rfl⟩ hl.1 rfl (Nat.le_of_ble_eq_true rfl) dX1_glowOf_5 ⟨Nat.le_of_ble_eq_true rfl, Nat.le_of_ble_eq_true rfl⟩) (fun H locs ho hw => ?_) (fun p1 H locs ho hw => ?_)
  · simp only [ho] at hF
    refine lv_astore_nN (lv' := [(2, .null), (0, .ref (g.2.2 (k))), (1, .ref (g.2.2 (q)))]) hM.x hM.b dX1_glowOf_8 rfl hl (by decide) rfl (fun ls hl => ?_)
    refine lv_aload_nN hM.x hM.b dX1_glowOf_9 rfl (lv_at hl 0 rfl) ?_
    refine lv_ifnullN (tgt := 20) hM.x hM.b dX1_glowOf_10 (by decide) ?_
    refine lv_iconst (v := 0) hM.x hM.b dX1_glowOf_20 (by decide) ?_
    refine lv_goto (tgt := 33) hM.x hM.b dX1_glowOf_21 (by decide) ?_
    exact k_iret hM hr hw (Nat.le_of_ble_eq_true rfl) (Nat.le_of_ble_eq_true rfl) ⟨hF.symm, rfl⟩ dX1_glowOf_33
  · simp only [ho] at hF
    have hop1 := ho
    refine lv_astore_n (lv' := [(2, .ref (g.2.2 (p1))), (0, .ref (g.2.2 (k))), (1, .ref (g.2.2 (q)))]) hM.x hM.b dX1_glowOf_8 rfl hl (by decide) rfl (fun ls hl => ?_)
    refine lv_aload_n hM.x hM.b dX1_glowOf_9 rfl (lv_at hl 0 rfl) ?_
    refine lv_ifnull hM.x hM.b dX1_glowOf_10 ?_
    refine lv_aload_n hM.x hM.b dX1_glowOf_13 rfl (lv_at hl 2 rfl) ?_
    refine k_get3 1 hM hw hq (by decide) u_fl_X1_61 dX1_glowOf_14 ?_
    refine lv_if_gt (tgt := 24) hM.x hM.b dX1_glowOf_17 (by decide) (fun c1 => ?_) (fun c1 => ?_)
    · rw [if_pos c1] at hF
      refine lv_aload_n hM.x hM.b dX1_glowOf_24 rfl (lv_at hl 0 rfl) ?_
      refine k_get0 1 hM hw (kdp_X1_fireAt hk hop1) (by decide) u_fl_X1_87 dX1_glowOf_25 ?_
      refine lv_aload_n hM.x hM.b dX1_glowOf_28 rfl (lv_at hl 2 rfl) ?_
      refine k_get3 1 hM hw hq (by decide) u_fl_X1_61 dX1_glowOf_29 ?_
      refine lv_idiv hM.x hM.b dX1_glowOf_32 (nz_pos2 c1) ?_
      exact k_iret hM hr hw (Nat.le_of_ble_eq_true rfl) (Nat.le_of_ble_eq_true rfl) ⟨hF.symm, rfl⟩ dX1_glowOf_33
    · rw [if_neg c1] at hF
      refine lv_iconst (v := 0) hM.x hM.b dX1_glowOf_20 (by decide) ?_
      refine lv_goto (tgt := 33) hM.x hM.b dX1_glowOf_21 (by decide) ?_
      exact k_iret hM hr hw (Nat.le_of_ble_eq_true rfl) (Nat.le_of_ble_eq_true rfl) ⟨hF.symm, rfl⟩ dX1_glowOf_33
theorem q_X1_roastForAMinute : hdV yX1_roastForAMinute RX1 1 := ⟨rfl, by decide +kernel, by decide +kernel, by decide +kernel⟩
def f_X1_roastForAMinute (κ : Kp) (k : Nat) (q : Nat) : Int32 × Kp := match f_X1_roastAt κ (k) (κ (q) 5) with | none => (match f_X1_fireAt κ (k) (κ (q) 0) with | none => ((bi false, κ)) | some p2 => ((bi false, κ))) | some p1 => (match f_X1_fireAt κ (k) (κ (q) 0) with | none => ((bi false, κ)) | some p3 => (match f_X2_getGlow κ (p1) (f_X1_glowOf κ (k) (q)) with | (r1, κ1) => (match f_X2_drips κ1 (p1) (r1) with | (r2, κ2) => (if (r2) = 0 then (match f_X3_countsToTurn κ2 (q) with | (r3, κ3) => (if (r3) = 0 then ((bi false, κ3)) else ((fun κ4 : Kp => (bi false, κ4)) (f_X2_turn κ3 (p1))))) else (match f_X3_takesDripping κ2 (q) with | (r4, κ5) => (if (r4) = 0 then ((fun κ8 : Kp => match f_X3_countsToTurn κ8 (q) with | (r6, κ9) => (if (r6) = 0 then ((bi true, κ9)) else ((fun κ10 : Kp => (bi true, κ10)) (f_X2_turn κ9 (p1))))) (up2 κ5 (p3) 2 (((κ5 (p3) 2) + (1))))) else (match f_X3_countsToTurn κ5 (q) with | (r5, κ6) => (if (r5) = 0 then ((bi false, κ6)) else ((fun κ7 : Kp => (bi false, κ7)) (f_X2_turn κ6 (p1)))))))))))
set_option maxRecDepth 100000 in
set_option maxHeartbeats 4000000 in
theorem m_X1_roastForAMinute (l : Launch) (g : Gt) (κ : Kp) (sz : Nat) (k : Nat) (q : Nat) (hk : kd k = 1) (hq : kd q = 3) : Met l yX1_roastForAMinute (.code yX1_roastForAMinute cX1_roastForAMinute 6 (some .boolean) :: uW) { frames := 2, cells := 0, slots := 0, locals := 60 } (PRE g κ sz [.ref (g.2.2 (k)), .ref (g.2.2 (q))]) (va_Qi (fun r κ' => f_X1_roastForAMinute κ k q = (r, κ')) (Wp g) (fr g sz)) 0 0 (fr g sz) := by
  refine k_enter (by decide +kernel) (Nat.le_of_ble_eq_true rfl) ?_
  intro p e s m below meth c ls hM hr hl hw hsz
  subst hsz
  have hl : lv_has ls 6 [(0, .ref (g.2.2 (k))), (1, .ref (g.2.2 (q)))] := hl
  have hF := f_X1_roastForAMinute.eq_1 κ k q
  refine lv_aload_n hM.x hM.b dX1_roastForAMinute_0 rfl (lv_at hl 0 rfl) ?_
  refine lv_aload_n hM.x hM.b dX1_roastForAMinute_1 rfl (lv_at hl 1 rfl) ?_
  refine k_get3 5 hM hw hq (by decide) u_fl_X1_68 dX1_roastForAMinute_2 ?_
  refine k_cepO hw (k_runV [.int (κ (q) 5)] [] hM hw (m_X1_roastAt l g κ _ (k) (κ (q) 5) (hk)) (hw.dm hk (by decide)) (sh1 hk) rfl (k_gV u_ml_X1_102 u_im_X1_roastAt u_se_X1_roastAt u_ini_X1 u_co_X1_roastAt) (q_X1_roastAt) rfl rfl rfl ⟨Nat.le_of_ble_eq_true rfl, Nat.le_of_ble_eq_true rfl⟩ hl.1 rfl (Nat.le_of_ble_eq_true rfl) dX1_roastForAMinute_5 ⟨Nat.le_of_ble_eq_true rfl, Nat.le_of_ble_eq_true rfl⟩) (fun H locs ho hw => ?_) (fun p1 H locs ho hw => ?_)
  · simp only [ho] at hF
    refine lv_astore_nN (lv' := [(2, .null), (0, .ref (g.2.2 (k))), (1, .ref (g.2.2 (q)))]) hM.x hM.b dX1_roastForAMinute_8 rfl hl (by decide) rfl (fun ls hl => ?_)
    refine lv_aload_n hM.x hM.b dX1_roastForAMinute_9 rfl (lv_at hl 1 rfl) ?_
    refine lv_aload_n hM.x hM.b dX1_roastForAMinute_10 rfl (lv_at hl 2 rfl) ?_
    refine k_get3 0 hM hw hq (by decide) u_fl_X1_58 dX1_roastForAMinute_11 ?_
    refine k_cepO hw (k_runV [.int (κ (q) 0)] [] hM hw (m_X1_fireAt l g κ _ (k) (κ (q) 0) (hk)) (hw.dm hk (by decide)) (sh1 hk) rfl (k_gV u_ml_X1_83 u_im_X1_fireAt u_se_X1_fireAt u_ini_X1 u_co_X1_fireAt) (q_X1_fireAt) rfl rfl rfl ⟨Nat.le_of_ble_eq_true rfl, Nat.le_of_ble_eq_true rfl⟩ hl.1 rfl (Nat.le_of_ble_eq_true rfl) dX1_roastForAMinute_14 ⟨Nat.le_of_ble_eq_true rfl, Nat.le_of_ble_eq_true rfl⟩) (fun H locs ho hw => ?_) (fun p2 H locs ho hw => ?_)
    · simp only [ho] at hF
      refine lv_astore_nN (lv' := [(3, .null), (2, .null), (0, .ref (g.2.2 (k))), (1, .ref (g.2.2 (q)))]) hM.x hM.b dX1_roastForAMinute_17 rfl hl (by decide) rfl (fun ls hl => ?_)
      refine lv_aload_nN hM.x hM.b dX1_roastForAMinute_18 rfl (lv_at hl 1 rfl) ?_
      refine lv_ifnullN (tgt := 26) hM.x hM.b dX1_roastForAMinute_19 (by decide) ?_
      refine lv_iconst (v := 0) hM.x hM.b dX1_roastForAMinute_26 (by decide) ?_
      exact k_zret (b := false) hM hr hw (Nat.le_of_ble_eq_true rfl) (Nat.le_of_ble_eq_true rfl) hF dX1_roastForAMinute_27
    · simp only [ho] at hF
      have hop2 := ho
      refine lv_astore_n (lv' := [(3, .ref (g.2.2 (p2))), (2, .null), (0, .ref (g.2.2 (k))), (1, .ref (g.2.2 (q)))]) hM.x hM.b dX1_roastForAMinute_17 rfl hl (by decide) rfl (fun ls hl => ?_)
      refine lv_aload_nN hM.x hM.b dX1_roastForAMinute_18 rfl (lv_at hl 1 rfl) ?_
      refine lv_ifnullN (tgt := 26) hM.x hM.b dX1_roastForAMinute_19 (by decide) ?_
      refine lv_iconst (v := 0) hM.x hM.b dX1_roastForAMinute_26 (by decide) ?_
      exact k_zret (b := false) hM hr hw (Nat.le_of_ble_eq_true rfl) (Nat.le_of_ble_eq_true rfl) hF dX1_roastForAMinute_27
  · simp only [ho] at hF
    have hop1 := ho
    refine lv_astore_n (lv' := [(2, .ref (g.2.2 (p1))), (0, .ref (g.2.2 (k))), (1, .ref (g.2.2 (q)))]) hM.x hM.b dX1_roastForAMinute_8 rfl hl (by decide) rfl (fun ls hl => ?_)
    refine lv_aload_n hM.x hM.b dX1_roastForAMinute_9 rfl (lv_at hl 1 rfl) ?_
    refine lv_aload_n hM.x hM.b dX1_roastForAMinute_10 rfl (lv_at hl 2 rfl) ?_
    refine k_get3 0 hM hw hq (by decide) u_fl_X1_58 dX1_roastForAMinute_11 ?_
    refine k_cepO hw (k_runV [.int (κ (q) 0)] [] hM hw (m_X1_fireAt l g κ _ (k) (κ (q) 0) (hk)) (hw.dm hk (by decide)) (sh1 hk) rfl (k_gV u_ml_X1_83 u_im_X1_fireAt u_se_X1_fireAt u_ini_X1 u_co_X1_fireAt) (q_X1_fireAt) rfl rfl rfl ⟨Nat.le_of_ble_eq_true rfl, Nat.le_of_ble_eq_true rfl⟩ hl.1 rfl (Nat.le_of_ble_eq_true rfl) dX1_roastForAMinute_14 ⟨Nat.le_of_ble_eq_true rfl, Nat.le_of_ble_eq_true rfl⟩) (fun H locs ho hw => ?_) (fun p3 H locs ho hw => ?_)
    · simp only [ho] at hF
      refine lv_astore_nN (lv' := [(3, .null), (2, .ref (g.2.2 (p1))), (0, .ref (g.2.2 (k))), (1, .ref (g.2.2 (q)))]) hM.x hM.b dX1_roastForAMinute_17 rfl hl (by decide) rfl (fun ls hl => ?_)
      refine lv_aload_n hM.x hM.b dX1_roastForAMinute_18 rfl (lv_at hl 1 rfl) ?_
      refine lv_ifnull hM.x hM.b dX1_roastForAMinute_19 ?_
      refine lv_aload_nN hM.x hM.b dX1_roastForAMinute_22 rfl (lv_at hl 0 rfl) ?_
      refine lv_ifnonnullN hM.x hM.b dX1_roastForAMinute_23 ?_
      refine lv_iconst (v := 0) hM.x hM.b dX1_roastForAMinute_26 (by decide) ?_
      exact k_zret (b := false) hM hr hw (Nat.le_of_ble_eq_true rfl) (Nat.le_of_ble_eq_true rfl) hF dX1_roastForAMinute_27
    · simp only [ho] at hF
      have hop3 := ho
      refine lv_astore_n (lv' := [(3, .ref (g.2.2 (p3))), (2, .ref (g.2.2 (p1))), (0, .ref (g.2.2 (k))), (1, .ref (g.2.2 (q)))]) hM.x hM.b dX1_roastForAMinute_17 rfl hl (by decide) rfl (fun ls hl => ?_)
      refine lv_aload_n hM.x hM.b dX1_roastForAMinute_18 rfl (lv_at hl 1 rfl) ?_
      refine lv_ifnull hM.x hM.b dX1_roastForAMinute_19 ?_
      refine lv_aload_n hM.x hM.b dX1_roastForAMinute_22 rfl (lv_at hl 0 rfl) ?_
      refine lv_ifnonnull (tgt := 28) hM.x hM.b dX1_roastForAMinute_23 (by decide) ?_
      refine lv_aload_n hM.x hM.b dX1_roastForAMinute_28 rfl (lv_at hl 1 rfl) ?_
      refine lv_aload_n hM.x hM.b dX1_roastForAMinute_29 rfl (lv_at hl 2 rfl) ?_
      refine lv_aload_n hM.x hM.b dX1_roastForAMinute_30 rfl (lv_at hl 3 rfl) ?_
      refine k_cip hw (k_runV [.ref (g.2.2 (q))] [.ref (g.2.2 (p1))] hM hw (m_X1_glowOf l g κ _ (k) (q) (hk) (hq)) (hw.dm hk (by decide)) (sh1 hk) rfl (k_gV u_ml_X1_106 u_im_X1_glowOf u_se_X1_glowOf u_ini_X1 u_co_X1_glowOf) (q_X1_glowOf) rfl rfl rfl ⟨Nat.le_of_ble_eq_true rfl, Nat.le_of_ble_eq_true rfl⟩ hl.1 rfl (Nat.le_of_ble_eq_true rfl) dX1_roastForAMinute_31 ⟨Nat.le_of_ble_eq_true rfl, Nat.le_of_ble_eq_true rfl⟩) (fun H locs hw => ?_)
      refine k_ci hw (k_runV [.int (f_X1_glowOf κ (k) (q))] [] hM hw (m_X2_getGlow l g κ _ (p1) (f_X1_glowOf κ (k) (q)) ((kdp_X1_roastAt hk hop1))) (hw.dm (kdp_X1_roastAt hk hop1) (by decide)) (sh2 (kdp_X1_roastAt hk hop1)) rfl (k_gV u_ml_X1_110 u_im_X2_getGlow u_se_X2_getGlow u_ini_X2 u_co_X2_getGlow) (q_X2_getGlow) rfl rfl rfl ⟨Nat.le_of_ble_eq_true rfl, Nat.le_of_ble_eq_true rfl⟩ hl.1 rfl (Nat.le_of_ble_eq_true rfl) dX1_roastForAMinute_34 ⟨Nat.le_of_ble_eq_true rfl, Nat.le_of_ble_eq_true rfl⟩) (fun r1 κ1 H locs hpκ1 hw => ?_)
      simp only [hpκ1] at hF
      refine lv_istore (lv' := [(4, .int (r1)), (3, .ref (g.2.2 (p3))), (2, .ref (g.2.2 (p1))), (0, .ref (g.2.2 (k))), (1, .ref (g.2.2 (q)))]) hM.x hM.b dX1_roastForAMinute_37 hl (by decide) rfl (fun ls hl => ?_)
      refine lv_aload_n hM.x hM.b dX1_roastForAMinute_39 rfl (lv_at hl 2 rfl) ?_
      refine lv_iload hM.x hM.b dX1_roastForAMinute_40 (lv_at hl 0 rfl) ?_
      refine k_ci hw (k_runV [.int (r1)] [] hM hw (m_X2_drips l g κ1 _ (p1) (r1) ((kdp_X1_roastAt hk hop1))) (hw.dm (kdp_X1_roastAt hk hop1) (by decide)) (sh2 (kdp_X1_roastAt hk hop1)) rfl (k_gV u_ml_X1_114 u_im_X2_drips u_se_X2_drips u_ini_X2 u_co_X2_drips) (q_X2_drips) rfl rfl rfl ⟨Nat.le_of_ble_eq_true rfl, Nat.le_of_ble_eq_true rfl⟩ hl.1 rfl (Nat.le_of_ble_eq_true rfl) dX1_roastForAMinute_42 ⟨Nat.le_of_ble_eq_true rfl, Nat.le_of_ble_eq_true rfl⟩) (fun r2 κ2 H locs hpκ2 hw => ?_)
      simp only [hpκ2] at hF
      refine lv_if_eq (tgt := 59) hM.x hM.b dX1_roastForAMinute_45 (by decide) (fun c1 => ?_) (fun c1 => ?_)
      · rw [if_pos c1] at hF
        refine lv_iconst (v := 0) hM.x hM.b dX1_roastForAMinute_59 (by decide) ?_
        refine lv_istore (lv' := [(5, .int (0)), (4, .int (r1)), (3, .ref (g.2.2 (p3))), (2, .ref (g.2.2 (p1))), (0, .ref (g.2.2 (k))), (1, .ref (g.2.2 (q)))]) hM.x hM.b dX1_roastForAMinute_60 hl (by decide) rfl (fun ls hl => ?_)
        refine lv_iload hM.x hM.b dX1_roastForAMinute_62 (lv_at hl 0 rfl) ?_
        refine lv_if_eq (tgt := 77) hM.x hM.b dX1_roastForAMinute_64 (by decide) (fun _ => ?_) (fun cz => absurd cz (by decide))
        refine lv_aload_n hM.x hM.b dX1_roastForAMinute_77 rfl (lv_at hl 5 rfl) ?_
        refine k_ci hw (k_runV [] [] hM hw (m_X3_countsToTurn l g κ2 _ (q) (hq)) (hw.dm hq (by decide)) (sh3 hq) rfl (k_gV u_ml_X1_125 u_im_X3_countsToTurn u_se_X3_countsToTurn u_ini_X3 u_co_X3_countsToTurn) (q_X3_countsToTurn) rfl rfl rfl ⟨Nat.le_of_ble_eq_true rfl, Nat.le_of_ble_eq_true rfl⟩ hl.1 rfl (Nat.le_of_ble_eq_true rfl) dX1_roastForAMinute_78 ⟨Nat.le_of_ble_eq_true rfl, Nat.le_of_ble_eq_true rfl⟩) (fun r3 κ3 H locs hpκ3 hw => ?_)
        simp only [hpκ3] at hF
        refine lv_if_eq (tgt := 88) hM.x hM.b dX1_roastForAMinute_81 (by decide) (fun c2 => ?_) (fun c2 => ?_)
        · rw [if_pos c2] at hF
          refine lv_iload hM.x hM.b dX1_roastForAMinute_88 (lv_at hl 0 rfl) ?_
          exact k_zret (b := false) hM hr hw (Nat.le_of_ble_eq_true rfl) (Nat.le_of_ble_eq_true rfl) hF dX1_roastForAMinute_90
        · rw [if_neg c2] at hF
          refine lv_aload_n hM.x hM.b dX1_roastForAMinute_84 rfl (lv_at hl 3 rfl) ?_
          refine k_cvp hw (k_runV [] [] hM hw (m_X2_turn l g κ3 _ (p1) ((kdp_X1_roastAt hk hop1))) (hw.dm (kdp_X1_roastAt hk hop1) (by decide)) (sh2 (kdp_X1_roastAt hk hop1)) rfl (k_gV u_ml_X1_128 u_im_X2_turn u_se_X2_turn u_ini_X2 u_co_X2_turn) (q_X2_turn) rfl rfl rfl ⟨Nat.le_of_ble_eq_true rfl, Nat.le_of_ble_eq_true rfl⟩ hl.1 rfl (Nat.le_of_ble_eq_true rfl) dX1_roastForAMinute_85 ⟨Nat.le_of_ble_eq_true rfl, Nat.le_of_ble_eq_true rfl⟩) (fun κ4 H locs eκ4 hw => ?_)
          rw [eκ4] at hF
          try dsimp only at hF
          refine lv_iload hM.x hM.b dX1_roastForAMinute_88 (lv_at hl 0 rfl) ?_
          exact k_zret (b := false) hM hr hw (Nat.le_of_ble_eq_true rfl) (Nat.le_of_ble_eq_true rfl) hF dX1_roastForAMinute_90
      · rw [if_neg c1] at hF
        refine lv_aload_n hM.x hM.b dX1_roastForAMinute_48 rfl (lv_at hl 4 rfl) ?_
        refine k_ci hw (k_runV [] [] hM hw (m_X3_takesDripping l g κ2 _ (q) (hq)) (hw.dm hq (by decide)) (sh3 hq) rfl (k_gV u_ml_X1_118 u_im_X3_takesDripping u_se_X3_takesDripping u_ini_X3 u_co_X3_takesDripping) (q_X3_takesDripping) rfl rfl rfl ⟨Nat.le_of_ble_eq_true rfl, Nat.le_of_ble_eq_true rfl⟩ hl.1 rfl (Nat.le_of_ble_eq_true rfl) dX1_roastForAMinute_49 ⟨Nat.le_of_ble_eq_true rfl, Nat.le_of_ble_eq_true rfl⟩) (fun r4 κ5 H locs hpκ5 hw => ?_)
        simp only [hpκ5] at hF
        refine lv_if_ne (tgt := 59) hM.x hM.b dX1_roastForAMinute_52 (by decide) (fun c3 => ?_) (fun c3 => ?_)
        · rw [if_neg c3] at hF
          refine lv_iconst (v := 0) hM.x hM.b dX1_roastForAMinute_59 (by decide) ?_
          refine lv_istore (lv' := [(5, .int (0)), (4, .int (r1)), (3, .ref (g.2.2 (p3))), (2, .ref (g.2.2 (p1))), (0, .ref (g.2.2 (k))), (1, .ref (g.2.2 (q)))]) hM.x hM.b dX1_roastForAMinute_60 hl (by decide) rfl (fun ls hl => ?_)
          refine lv_iload hM.x hM.b dX1_roastForAMinute_62 (lv_at hl 0 rfl) ?_
          refine lv_if_eq (tgt := 77) hM.x hM.b dX1_roastForAMinute_64 (by decide) (fun _ => ?_) (fun cz => absurd cz (by decide))
          refine lv_aload_n hM.x hM.b dX1_roastForAMinute_77 rfl (lv_at hl 5 rfl) ?_
          refine k_ci hw (k_runV [] [] hM hw (m_X3_countsToTurn l g κ5 _ (q) (hq)) (hw.dm hq (by decide)) (sh3 hq) rfl (k_gV u_ml_X1_125 u_im_X3_countsToTurn u_se_X3_countsToTurn u_ini_X3 u_co_X3_countsToTurn) (q_X3_countsToTurn) rfl rfl rfl ⟨Nat.le_of_ble_eq_true rfl, Nat.le_of_ble_eq_true rfl⟩ hl.1 rfl (Nat.le_of_ble_eq_true rfl) dX1_roastForAMinute_78 ⟨Nat.le_of_ble_eq_true rfl, Nat.le_of_ble_eq_true rfl⟩) (fun r5 κ6 H locs hpκ6 hw => ?_)
          simp only [hpκ6] at hF
          refine lv_if_eq (tgt := 88) hM.x hM.b dX1_roastForAMinute_81 (by decide) (fun c4 => ?_) (fun c4 => ?_)
          · rw [if_pos c4] at hF
            refine lv_iload hM.x hM.b dX1_roastForAMinute_88 (lv_at hl 0 rfl) ?_
            exact k_zret (b := false) hM hr hw (Nat.le_of_ble_eq_true rfl) (Nat.le_of_ble_eq_true rfl) hF dX1_roastForAMinute_90
          · rw [if_neg c4] at hF
            refine lv_aload_n hM.x hM.b dX1_roastForAMinute_84 rfl (lv_at hl 3 rfl) ?_
            refine k_cvp hw (k_runV [] [] hM hw (m_X2_turn l g κ6 _ (p1) ((kdp_X1_roastAt hk hop1))) (hw.dm (kdp_X1_roastAt hk hop1) (by decide)) (sh2 (kdp_X1_roastAt hk hop1)) rfl (k_gV u_ml_X1_128 u_im_X2_turn u_se_X2_turn u_ini_X2 u_co_X2_turn) (q_X2_turn) rfl rfl rfl ⟨Nat.le_of_ble_eq_true rfl, Nat.le_of_ble_eq_true rfl⟩ hl.1 rfl (Nat.le_of_ble_eq_true rfl) dX1_roastForAMinute_85 ⟨Nat.le_of_ble_eq_true rfl, Nat.le_of_ble_eq_true rfl⟩) (fun κ7 H locs eκ7 hw => ?_)
            rw [eκ7] at hF
            try dsimp only at hF
            refine lv_iload hM.x hM.b dX1_roastForAMinute_88 (lv_at hl 0 rfl) ?_
            exact k_zret (b := false) hM hr hw (Nat.le_of_ble_eq_true rfl) (Nat.le_of_ble_eq_true rfl) hF dX1_roastForAMinute_90
        · rw [if_pos c3] at hF
          refine lv_iconst (v := 1) hM.x hM.b dX1_roastForAMinute_55 (by decide) ?_
          refine lv_goto (tgt := 60) hM.x hM.b dX1_roastForAMinute_56 (by decide) ?_
          refine lv_istore (lv' := [(5, .int (1)), (4, .int (r1)), (3, .ref (g.2.2 (p3))), (2, .ref (g.2.2 (p1))), (0, .ref (g.2.2 (k))), (1, .ref (g.2.2 (q)))]) hM.x hM.b dX1_roastForAMinute_60 hl (by decide) rfl (fun ls hl => ?_)
          refine lv_iload hM.x hM.b dX1_roastForAMinute_62 (lv_at hl 0 rfl) ?_
          refine lv_if_eq (tgt := 77) hM.x hM.b dX1_roastForAMinute_64 (by decide) (fun cz => absurd cz (by decide)) (fun _ => ?_)
          refine lv_aload_n hM.x hM.b dX1_roastForAMinute_67 rfl (lv_at hl 2 rfl) ?_
          refine lv_dup hM.x hM.b dX1_roastForAMinute_68 rfl ?_
          refine k_get0 2 hM hw (kdp_X1_fireAt hk hop3) (by decide) u_fl_X1_122 dX1_roastForAMinute_69 ?_
          refine lv_iconst (v := 1) hM.x hM.b dX1_roastForAMinute_72 (by decide) ?_
          refine lv_iadd hM.x hM.b dX1_roastForAMinute_73 ?_
          refine k_put0 2 hM hw (kdp_X1_fireAt hk hop3) (by decide) u_fl_X1_122 dX1_roastForAMinute_74 (fun H locs hw => ?_)
          obtain ⟨κ8, eκ8⟩ : ∃ z : Kp, up2 κ5 (p3) 2 (((κ5 (p3) 2) + (1))) = z := ⟨_, rfl⟩
          rw [eκ8] at hw
          rw [eκ8] at hF
          try dsimp only at hF
          refine lv_aload_n hM.x hM.b dX1_roastForAMinute_77 rfl (lv_at hl 5 rfl) ?_
          refine k_ci hw (k_runV [] [] hM hw (m_X3_countsToTurn l g κ8 _ (q) (hq)) (hw.dm hq (by decide)) (sh3 hq) rfl (k_gV u_ml_X1_125 u_im_X3_countsToTurn u_se_X3_countsToTurn u_ini_X3 u_co_X3_countsToTurn) (q_X3_countsToTurn) rfl rfl rfl ⟨Nat.le_of_ble_eq_true rfl, Nat.le_of_ble_eq_true rfl⟩ hl.1 rfl (Nat.le_of_ble_eq_true rfl) dX1_roastForAMinute_78 ⟨Nat.le_of_ble_eq_true rfl, Nat.le_of_ble_eq_true rfl⟩) (fun r6 κ9 H locs hpκ9 hw => ?_)
          simp only [hpκ9] at hF
          refine lv_if_eq (tgt := 88) hM.x hM.b dX1_roastForAMinute_81 (by decide) (fun c5 => ?_) (fun c5 => ?_)
          · rw [if_pos c5] at hF
            refine lv_iload hM.x hM.b dX1_roastForAMinute_88 (lv_at hl 0 rfl) ?_
            exact k_zret (b := true) hM hr hw (Nat.le_of_ble_eq_true rfl) (Nat.le_of_ble_eq_true rfl) hF dX1_roastForAMinute_90
          · rw [if_neg c5] at hF
            refine lv_aload_n hM.x hM.b dX1_roastForAMinute_84 rfl (lv_at hl 3 rfl) ?_
            refine k_cvp hw (k_runV [] [] hM hw (m_X2_turn l g κ9 _ (p1) ((kdp_X1_roastAt hk hop1))) (hw.dm (kdp_X1_roastAt hk hop1) (by decide)) (sh2 (kdp_X1_roastAt hk hop1)) rfl (k_gV u_ml_X1_128 u_im_X2_turn u_se_X2_turn u_ini_X2 u_co_X2_turn) (q_X2_turn) rfl rfl rfl ⟨Nat.le_of_ble_eq_true rfl, Nat.le_of_ble_eq_true rfl⟩ hl.1 rfl (Nat.le_of_ble_eq_true rfl) dX1_roastForAMinute_85 ⟨Nat.le_of_ble_eq_true rfl, Nat.le_of_ble_eq_true rfl⟩) (fun κ10 H locs eκ10 hw => ?_)
            rw [eκ10] at hF
            try dsimp only at hF
            refine lv_iload hM.x hM.b dX1_roastForAMinute_88 (lv_at hl 0 rfl) ?_
            exact k_zret (b := true) hM hr hw (Nat.le_of_ble_eq_true rfl) (Nat.le_of_ble_eq_true rfl) hF dX1_roastForAMinute_90
