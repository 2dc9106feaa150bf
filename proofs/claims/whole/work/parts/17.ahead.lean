theorem q_X4_aheadUntilDone : hdV yX4_aheadUntilDone RX4 1 := ⟨rfl, by decide +kernel, by decide +kernel, by decide +kernel⟩
def lp_X4_aheadUntilDone (a : Int32) (pw : Nat) : Nat → Nat → Kp → (Nat × Kp) ⊕ Kp
  | 0, j, κ => .inr κ
  | n + 1, j, κ => if (bi (f_X2_burnt κ (pw))) = 0 then (if (bi (f_X2_done κ (pw))) = 0 then (match f_X1_goMinute κ (46) with | (r1, κ1) => (lp_X4_aheadUntilDone (a) (pw) n (j + 1) κ1)) else (.inl (j, κ))) else (.inr κ)
set_option maxRecDepth 100000 in
set_option maxHeartbeats 4000000 in
theorem ml_X4_aheadUntilDone {p : Program} {e : Env} {s : State} {m : MethodId} {below : List Frame} {meth : Method} {c : Code} {Q : State → Prop} (l : Launch) (g : Gt) (a : Int32) (pw : Nat) (hpw : kd pw = 2) (hM : Mc g p s m ([.ref (g.2.2 (0)), .int (a)] : List Value).toArray meth c cX4_aheadUntilDone 4 yX4_aheadUntilDone.cls) : ∀ (n j : Nat), j + n = 200 → ∀ (κ : Kp), ∀ (H : Heap) (locs : List Loc) (ls : Array Slot), lv_has ls 4 [(3, .int (nI (j))), (2, .ref (g.2.2 (pw))), (0, .ref (g.2.2 (0))), (1, .int (a))] → Ws g s κ H locs → (∀ (u : Nat) (κz : Kp) (H : Heap) (locs : List Loc) (ls : Array Slot), lp_X4_aheadUntilDone a pw n j κ = .inl (u, κz) → lv_has ls 4 [(3, .int (nI (u))), (0, .ref (g.2.2 (0)))] → Ws g s κz H locs → W p l e { frames := 4, cells := 0, slots := 0, locals := 120 } s m ([.ref (g.2.2 (0)), .int (a)] : List Value).toArray below meth c H locs 0 0 Q (F0 m 38 ls [])) → (∀ (κz : Kp) (H : Heap) (locs : List Loc) (ls : Array Slot), lp_X4_aheadUntilDone a pw n j κ = .inr κz → lv_has ls 4 [(2, .ref (g.2.2 (pw))), (0, .ref (g.2.2 (0)))] → Ws g s κz H locs → W p l e { frames := 4, cells := 0, slots := 0, locals := 120 } s m ([.ref (g.2.2 (0)), .int (a)] : List Value).toArray below meth c H locs 0 0 Q (F0 m 54 ls [])) → W p l e { frames := 4, cells := 0, slots := 0, locals := 120 } s m ([.ref (g.2.2 (0)), .int (a)] : List Value).toArray below meth c H locs 0 0 Q (F0 m 17 ls []) := by
  intro n
  induction n with
  | zero =>
    intro j hj κ H locs ls hl hw hx38 hx54
    have hF := Eq.refl (lp_X4_aheadUntilDone a pw 0 j κ)
    conv at hF => rhs; rw [lp_X4_aheadUntilDone]
    refine lv_iload_n hM.x hM.b dX4_aheadUntilDone_17 rfl (lv_at hl 0 rfl) ?_
    refine lv_sipush (v := nI 200) hM.x hM.b dX4_aheadUntilDone_18 (by decide) ?_
    refine lv_icmp_ge (tgt := 54) hM.x hM.b dX4_aheadUntilDone_21 (by decide) (fun _ => ?_) (fun cz => absurd (nI_le (by omega) (by omega) : nI 200 ≤ nI j) cz)
    exact hx54 κ H locs ls hF (lv_sub hl [1, 2] rfl) hw
  | succ n ih =>
    intro j hj κ H locs ls hl hw hx38 hx54
    have hF := Eq.refl (lp_X4_aheadUntilDone a pw (n + 1) j κ)
    conv at hF => rhs; rw [lp_X4_aheadUntilDone]
    refine lv_iload_n hM.x hM.b dX4_aheadUntilDone_17 rfl (lv_at hl 0 rfl) ?_
    refine lv_sipush (v := nI 200) hM.x hM.b dX4_aheadUntilDone_18 (by decide) ?_
    refine lv_icmp_ge (tgt := 54) hM.x hM.b dX4_aheadUntilDone_21 (by decide) (fun cz => absurd cz (nI_ge (by omega) (by decide) : ¬ nI 200 ≤ nI j)) (fun _ => ?_)
    refine lv_aload_n hM.x hM.b dX4_aheadUntilDone_24 rfl (lv_at hl 1 rfl) ?_
    refine k_cip hw (k_runV [] [] hM hw (m_X2_burnt l g κ _ (pw) (hpw)) (kd_lt hpw (by decide)) (sh2 hpw) rfl (k_gV u_ml_X4_167 u_im_X2_burnt u_se_X2_burnt u_ini_X2 u_co_X2_burnt) (q_X2_burnt) rfl rfl rfl ⟨Nat.le_of_ble_eq_true rfl, Nat.le_of_ble_eq_true rfl⟩ hl.1 rfl (Nat.le_of_ble_eq_true rfl) dX4_aheadUntilDone_25 ⟨Nat.le_of_ble_eq_true rfl, Nat.le_of_ble_eq_true rfl⟩) (fun H locs hw => ?_)
    refine lv_if_ne (tgt := 54) hM.x hM.b dX4_aheadUntilDone_28 (by decide) (fun c1 => ?_) (fun c1 => ?_)
    · rw [if_neg c1] at hF
      exact hx54 κ H locs ls hF (lv_sub hl [1, 2] rfl) hw
    · rw [if_pos c1] at hF
      refine lv_aload_n hM.x hM.b dX4_aheadUntilDone_31 rfl (lv_at hl 1 rfl) ?_
      refine k_cip hw (k_runV [] [] hM hw (m_X2_done l g κ _ (pw) (hpw)) (kd_lt hpw (by decide)) (sh2 hpw) rfl (k_gV u_ml_X4_163 u_im_X2_done u_se_X2_done u_ini_X2 u_co_X2_done) (q_X2_done) rfl rfl rfl ⟨Nat.le_of_ble_eq_true rfl, Nat.le_of_ble_eq_true rfl⟩ hl.1 rfl (Nat.le_of_ble_eq_true rfl) dX4_aheadUntilDone_32 ⟨Nat.le_of_ble_eq_true rfl, Nat.le_of_ble_eq_true rfl⟩) (fun H locs hw => ?_)
      refine lv_if_eq (tgt := 40) hM.x hM.b dX4_aheadUntilDone_35 (by decide) (fun c2 => ?_) (fun c2 => ?_)
      · rw [if_pos c2] at hF
        refine lv_aload_n hM.x hM.b dX4_aheadUntilDone_40 rfl (lv_at hl 2 rfl) ?_
        refine k_get4b hM hw u_fl_X4_16 dX4_aheadUntilDone_41 ?_
        refine k_ci hw (k_runV [] [] hM hw (m_X1_goMinute l g κ _ (46) (kd_46)) (kd_lt kd_46 (by decide)) (sh1 kd_46) rfl (k_gV u_ml_X4_231 u_im_X1_goMinute u_se_X1_goMinute u_ini_X1 u_co_X1_goMinute) (q_X1_goMinute) rfl rfl rfl ⟨Nat.le_of_ble_eq_true rfl, Nat.le_of_ble_eq_true rfl⟩ hl.1 rfl (Nat.le_of_ble_eq_true rfl) dX4_aheadUntilDone_44 ⟨Nat.le_of_ble_eq_true rfl, Nat.le_of_ble_eq_true rfl⟩) (fun r1 κ1 H locs hpκ1 hw => ?_)
        simp only [hpκ1] at hF
        refine lv_pop hM.x hM.b dX4_aheadUntilDone_47 rfl ?_
        refine lv_iinc (v := nI (j + 1)) (lv' := [(3, .int (nI (j + 1))), (2, .ref (g.2.2 (pw))), (0, .ref (g.2.2 (0))), (1, .int (a))]) hM.x hM.b dX4_aheadUntilDone_48 hl (k := 0) rfl (nI_1 (j)) (by decide) rfl (fun ls hl => ?_)
        refine lv_goto (tgt := 17) hM.x hM.b dX4_aheadUntilDone_51 (by decide) ?_
        exact ih (j + 1) (by omega) κ1 H locs ls (lv_sub hl [0, 1, 2, 3] rfl) hw (fun u κz H locs ls he hl hw => hx38 u κz H locs ls (hF.trans he) hl hw) (fun κz H locs ls he hl hw => hx54 κz H locs ls (hF.trans he) hl hw)
      · rw [if_neg c2] at hF
        exact hx38 (j) κ H locs ls hF (lv_sub hl [0, 2] rfl) hw
def f_X4_aheadUntilDone (κ : Kp) (a : Int32) : Int32 × Kp := match f_X1_roastAt κ (46) (a) with | none => (((-1), κ)) | some p1 => (match lp_X4_aheadUntilDone a p1 200 0 κ with | .inl (uz1, κ1) => ((nI (uz1), κ1)) | .inr κ2 => (if (bi (f_X2_done κ2 (p1))) = 0 then (((-1), κ2)) else ((200, κ2))))
set_option maxRecDepth 100000 in
set_option maxHeartbeats 4000000 in
theorem m_X4_aheadUntilDone (l : Launch) (g : Gt) (κ : Kp) (sz : Nat) (a : Int32) : Met l yX4_aheadUntilDone (.code yX4_aheadUntilDone cX4_aheadUntilDone 4 (some .int) :: uW) { frames := 4, cells := 0, slots := 0, locals := 120 } (PRE g κ sz [.ref (g.2.2 (0)), .int (a)]) (va_Qi (fun r κ' => f_X4_aheadUntilDone κ a = (r, κ')) (Wp g) (fr g sz)) 0 0 (fr g sz) := by
  refine k_enter (by decide +kernel) (Nat.le_of_ble_eq_true rfl) ?_
  intro p e s m below meth c ls hM hr hl hw hsz
  subst hsz
  have hl : lv_has ls 4 [(0, .ref (g.2.2 (0))), (1, .int (a))] := hl
  have hF := f_X4_aheadUntilDone.eq_1 κ a
  refine lv_aload_n hM.x hM.b dX4_aheadUntilDone_0 rfl (lv_at hl 0 rfl) ?_
  refine k_get4b hM hw u_fl_X4_16 dX4_aheadUntilDone_1 ?_
  refine lv_iload_n hM.x hM.b dX4_aheadUntilDone_4 rfl (lv_at hl 1 rfl) ?_
  refine k_cepO hw (k_runV [.int (a)] [] hM hw (m_X1_roastAt l g κ _ (46) (a) (kd_46)) (kd_lt kd_46 (by decide)) (sh1 kd_46) rfl (k_gV u_ml_X4_220 u_im_X1_roastAt u_se_X1_roastAt u_ini_X1 u_co_X1_roastAt) (q_X1_roastAt) rfl rfl rfl ⟨Nat.le_of_ble_eq_true rfl, Nat.le_of_ble_eq_true rfl⟩ hl.1 rfl (Nat.le_of_ble_eq_true rfl) dX4_aheadUntilDone_5 ⟨Nat.le_of_ble_eq_true rfl, Nat.le_of_ble_eq_true rfl⟩) (fun H locs ho hw => ?_) (fun p1 H locs ho hw => ?_)
  · simp only [ho] at hF
    refine lv_astore_nN (lv' := [(2, .null), (0, .ref (g.2.2 (0))), (1, .int (a))]) hM.x hM.b dX4_aheadUntilDone_8 rfl hl (by decide) rfl (fun ls hl => ?_)
    refine lv_aload_nN hM.x hM.b dX4_aheadUntilDone_9 rfl (lv_at hl 0 rfl) ?_
    refine lv_ifnonnullN hM.x hM.b dX4_aheadUntilDone_10 ?_
    refine lv_iconst (v := -1) hM.x hM.b dX4_aheadUntilDone_13 (by decide) ?_
    exact k_iret hM hr hw (Nat.le_of_ble_eq_true rfl) (Nat.le_of_ble_eq_true rfl) hF dX4_aheadUntilDone_14
  · simp only [ho] at hF
    have hop1 := ho
    refine lv_astore_n (lv' := [(2, .ref (g.2.2 (p1))), (0, .ref (g.2.2 (0))), (1, .int (a))]) hM.x hM.b dX4_aheadUntilDone_8 rfl hl (by decide) rfl (fun ls hl => ?_)
    refine lv_aload_n hM.x hM.b dX4_aheadUntilDone_9 rfl (lv_at hl 0 rfl) ?_
    refine lv_ifnonnull (tgt := 15) hM.x hM.b dX4_aheadUntilDone_10 (by decide) ?_
    refine lv_iconst (v := nI 0) hM.x hM.b dX4_aheadUntilDone_15 (by decide) ?_
    refine lv_istore_n (lv' := [(3, .int (nI (0))), (2, .ref (g.2.2 (p1))), (0, .ref (g.2.2 (0))), (1, .int (a))]) hM.x hM.b dX4_aheadUntilDone_16 rfl hl (by decide) rfl (fun ls hl => ?_)
    refine ml_X4_aheadUntilDone l g a p1 (kdp_X1_roastAt kd_46 hop1) hM (200) (0) (by omega) κ _ _ _ (lv_sub hl [0, 1, 2, 3] rfl) hw (fun uz1 κ1 H locs ls he hl hw => ?_) (fun κ2 H locs ls he hl hw => ?_)
    · rw [he] at hF; try dsimp only at hF
      refine lv_iload_n hM.x hM.b dX4_aheadUntilDone_38 rfl (lv_at hl 0 rfl) ?_
      exact k_iret hM hr hw (Nat.le_of_ble_eq_true rfl) (Nat.le_of_ble_eq_true rfl) hF dX4_aheadUntilDone_39
    · rw [he] at hF; try dsimp only at hF
      refine lv_aload_n hM.x hM.b dX4_aheadUntilDone_54 rfl (lv_at hl 0 rfl) ?_
      refine k_cip hw (k_runV [] [] hM hw (m_X2_done l g κ2 _ (p1) ((kdp_X1_roastAt kd_46 hop1))) (kd_lt (kdp_X1_roastAt kd_46 hop1) (by decide)) (sh2 (kdp_X1_roastAt kd_46 hop1)) rfl (k_gV u_ml_X4_163 u_im_X2_done u_se_X2_done u_ini_X2 u_co_X2_done) (q_X2_done) rfl rfl rfl ⟨Nat.le_of_ble_eq_true rfl, Nat.le_of_ble_eq_true rfl⟩ hl.1 rfl (Nat.le_of_ble_eq_true rfl) dX4_aheadUntilDone_55 ⟨Nat.le_of_ble_eq_true rfl, Nat.le_of_ble_eq_true rfl⟩) (fun H locs hw => ?_)
      refine lv_if_eq (tgt := 67) hM.x hM.b dX4_aheadUntilDone_58 (by decide) (fun c1 => ?_) (fun c1 => ?_)
      · rw [if_pos c1] at hF
        refine lv_iconst (v := -1) hM.x hM.b dX4_aheadUntilDone_67 (by decide) ?_
        exact k_iret hM hr hw (Nat.le_of_ble_eq_true rfl) (Nat.le_of_ble_eq_true rfl) hF dX4_aheadUntilDone_68
      · rw [if_neg c1] at hF
        refine lv_sipush (v := 200) hM.x hM.b dX4_aheadUntilDone_61 (by decide) ?_
        refine lv_goto (tgt := 68) hM.x hM.b dX4_aheadUntilDone_64 (by decide) ?_
        exact k_iret hM hr hw (Nat.le_of_ble_eq_true rfl) (Nat.le_of_ble_eq_true rfl) hF dX4_aheadUntilDone_68
theorem q_X4_aheadUntilBurnt : hdV yX4_aheadUntilBurnt RX4 1 := ⟨rfl, by decide +kernel, by decide +kernel, by decide +kernel⟩
def lp_X4_aheadUntilBurnt (a : Int32) (pw : Nat) : Nat → Nat → Kp → (Nat × Kp) ⊕ Kp
  | 0, j, κ => .inr κ
  | n + 1, j, κ => if (bi (f_X2_burnt κ (pw))) = 0 then (match f_X1_goMinute κ (46) with | (r1, κ1) => (lp_X4_aheadUntilBurnt (a) (pw) n (j + 1) κ1)) else (.inl (j, κ))
set_option maxRecDepth 100000 in
set_option maxHeartbeats 4000000 in
theorem ml_X4_aheadUntilBurnt {p : Program} {e : Env} {s : State} {m : MethodId} {below : List Frame} {meth : Method} {c : Code} {Q : State → Prop} (l : Launch) (g : Gt) (a : Int32) (pw : Nat) (hpw : kd pw = 2) (hM : Mc g p s m ([.ref (g.2.2 (0)), .int (a)] : List Value).toArray meth c cX4_aheadUntilBurnt 4 yX4_aheadUntilBurnt.cls) : ∀ (n j : Nat), j + n = 200 → ∀ (κ : Kp), ∀ (H : Heap) (locs : List Loc) (ls : Array Slot), lv_has ls 4 [(3, .int (nI (j))), (2, .ref (g.2.2 (pw))), (0, .ref (g.2.2 (0))), (1, .int (a))] → Ws g s κ H locs → (∀ (u : Nat) (κz : Kp) (H : Heap) (locs : List Loc) (ls : Array Slot), lp_X4_aheadUntilBurnt a pw n j κ = .inl (u, κz) → lv_has ls 4 [(3, .int (nI (u))), (0, .ref (g.2.2 (0)))] → Ws g s κz H locs → W p l e { frames := 4, cells := 0, slots := 0, locals := 120 } s m ([.ref (g.2.2 (0)), .int (a)] : List Value).toArray below meth c H locs 0 0 Q (F0 m 31 ls [])) → (∀ (κz : Kp) (H : Heap) (locs : List Loc) (ls : Array Slot), lp_X4_aheadUntilBurnt a pw n j κ = .inr κz → lv_has ls 4 [(2, .ref (g.2.2 (pw))), (0, .ref (g.2.2 (0)))] → Ws g s κz H locs → W p l e { frames := 4, cells := 0, slots := 0, locals := 120 } s m ([.ref (g.2.2 (0)), .int (a)] : List Value).toArray below meth c H locs 0 0 Q (F0 m 47 ls [])) → W p l e { frames := 4, cells := 0, slots := 0, locals := 120 } s m ([.ref (g.2.2 (0)), .int (a)] : List Value).toArray below meth c H locs 0 0 Q (F0 m 17 ls []) := by
  intro n
  induction n with
  | zero =>
    intro j hj κ H locs ls hl hw hx31 hx47
    have hF := Eq.refl (lp_X4_aheadUntilBurnt a pw 0 j κ)
    conv at hF => rhs; rw [lp_X4_aheadUntilBurnt]
    refine lv_iload_n hM.x hM.b dX4_aheadUntilBurnt_17 rfl (lv_at hl 0 rfl) ?_
    refine lv_sipush (v := nI 200) hM.x hM.b dX4_aheadUntilBurnt_18 (by decide) ?_
    refine lv_icmp_ge (tgt := 47) hM.x hM.b dX4_aheadUntilBurnt_21 (by decide) (fun _ => ?_) (fun cz => absurd (nI_le (by omega) (by omega) : nI 200 ≤ nI j) cz)
    exact hx47 κ H locs ls hF (lv_sub hl [1, 2] rfl) hw
  | succ n ih =>
    intro j hj κ H locs ls hl hw hx31 hx47
    have hF := Eq.refl (lp_X4_aheadUntilBurnt a pw (n + 1) j κ)
    conv at hF => rhs; rw [lp_X4_aheadUntilBurnt]
    refine lv_iload_n hM.x hM.b dX4_aheadUntilBurnt_17 rfl (lv_at hl 0 rfl) ?_
    refine lv_sipush (v := nI 200) hM.x hM.b dX4_aheadUntilBurnt_18 (by decide) ?_
    refine lv_icmp_ge (tgt := 47) hM.x hM.b dX4_aheadUntilBurnt_21 (by decide) (fun cz => absurd cz (nI_ge (by omega) (by decide) : ¬ nI 200 ≤ nI j)) (fun _ => ?_)
    refine lv_aload_n hM.x hM.b dX4_aheadUntilBurnt_24 rfl (lv_at hl 1 rfl) ?_
    refine k_cip hw (k_runV [] [] hM hw (m_X2_burnt l g κ _ (pw) (hpw)) (kd_lt hpw (by decide)) (sh2 hpw) rfl (k_gV u_ml_X4_167 u_im_X2_burnt u_se_X2_burnt u_ini_X2 u_co_X2_burnt) (q_X2_burnt) rfl rfl rfl ⟨Nat.le_of_ble_eq_true rfl, Nat.le_of_ble_eq_true rfl⟩ hl.1 rfl (Nat.le_of_ble_eq_true rfl) dX4_aheadUntilBurnt_25 ⟨Nat.le_of_ble_eq_true rfl, Nat.le_of_ble_eq_true rfl⟩) (fun H locs hw => ?_)
    refine lv_if_eq (tgt := 33) hM.x hM.b dX4_aheadUntilBurnt_28 (by decide) (fun c1 => ?_) (fun c1 => ?_)
    · rw [if_pos c1] at hF
      refine lv_aload_n hM.x hM.b dX4_aheadUntilBurnt_33 rfl (lv_at hl 2 rfl) ?_
      refine k_get4b hM hw u_fl_X4_16 dX4_aheadUntilBurnt_34 ?_
      refine k_ci hw (k_runV [] [] hM hw (m_X1_goMinute l g κ _ (46) (kd_46)) (kd_lt kd_46 (by decide)) (sh1 kd_46) rfl (k_gV u_ml_X4_231 u_im_X1_goMinute u_se_X1_goMinute u_ini_X1 u_co_X1_goMinute) (q_X1_goMinute) rfl rfl rfl ⟨Nat.le_of_ble_eq_true rfl, Nat.le_of_ble_eq_true rfl⟩ hl.1 rfl (Nat.le_of_ble_eq_true rfl) dX4_aheadUntilBurnt_37 ⟨Nat.le_of_ble_eq_true rfl, Nat.le_of_ble_eq_true rfl⟩) (fun r1 κ1 H locs hpκ1 hw => ?_)
      simp only [hpκ1] at hF
      refine lv_pop hM.x hM.b dX4_aheadUntilBurnt_40 rfl ?_
      refine lv_iinc (v := nI (j + 1)) (lv' := [(3, .int (nI (j + 1))), (2, .ref (g.2.2 (pw))), (0, .ref (g.2.2 (0))), (1, .int (a))]) hM.x hM.b dX4_aheadUntilBurnt_41 hl (k := 0) rfl (nI_1 (j)) (by decide) rfl (fun ls hl => ?_)
      refine lv_goto (tgt := 17) hM.x hM.b dX4_aheadUntilBurnt_44 (by decide) ?_
      exact ih (j + 1) (by omega) κ1 H locs ls (lv_sub hl [0, 1, 2, 3] rfl) hw (fun u κz H locs ls he hl hw => hx31 u κz H locs ls (hF.trans he) hl hw) (fun κz H locs ls he hl hw => hx47 κz H locs ls (hF.trans he) hl hw)
    · rw [if_neg c1] at hF
      exact hx31 (j) κ H locs ls hF (lv_sub hl [0, 2] rfl) hw
def f_X4_aheadUntilBurnt (κ : Kp) (a : Int32) : Int32 × Kp := match f_X1_roastAt κ (46) (a) with | none => (((-1), κ)) | some p1 => (match lp_X4_aheadUntilBurnt a p1 200 0 κ with | .inl (uz1, κ1) => ((nI (uz1), κ1)) | .inr κ2 => (if (bi (f_X2_burnt κ2 (p1))) = 0 then (((-1), κ2)) else ((200, κ2))))
set_option maxRecDepth 100000 in
set_option maxHeartbeats 4000000 in
theorem m_X4_aheadUntilBurnt (l : Launch) (g : Gt) (κ : Kp) (sz : Nat) (a : Int32) : Met l yX4_aheadUntilBurnt (.code yX4_aheadUntilBurnt cX4_aheadUntilBurnt 4 (some .int) :: uW) { frames := 4, cells := 0, slots := 0, locals := 120 } (PRE g κ sz [.ref (g.2.2 (0)), .int (a)]) (va_Qi (fun r κ' => f_X4_aheadUntilBurnt κ a = (r, κ')) (Wp g) (fr g sz)) 0 0 (fr g sz) := by
  refine k_enter (by decide +kernel) (Nat.le_of_ble_eq_true rfl) ?_
  intro p e s m below meth c ls hM hr hl hw hsz
  subst hsz
  have hl : lv_has ls 4 [(0, .ref (g.2.2 (0))), (1, .int (a))] := hl
  have hF := f_X4_aheadUntilBurnt.eq_1 κ a
  refine lv_aload_n hM.x hM.b dX4_aheadUntilBurnt_0 rfl (lv_at hl 0 rfl) ?_
  refine k_get4b hM hw u_fl_X4_16 dX4_aheadUntilBurnt_1 ?_
  refine lv_iload_n hM.x hM.b dX4_aheadUntilBurnt_4 rfl (lv_at hl 1 rfl) ?_
  refine k_cepO hw (k_runV [.int (a)] [] hM hw (m_X1_roastAt l g κ _ (46) (a) (kd_46)) (kd_lt kd_46 (by decide)) (sh1 kd_46) rfl (k_gV u_ml_X4_220 u_im_X1_roastAt u_se_X1_roastAt u_ini_X1 u_co_X1_roastAt) (q_X1_roastAt) rfl rfl rfl ⟨Nat.le_of_ble_eq_true rfl, Nat.le_of_ble_eq_true rfl⟩ hl.1 rfl (Nat.le_of_ble_eq_true rfl) dX4_aheadUntilBurnt_5 ⟨Nat.le_of_ble_eq_true rfl, Nat.le_of_ble_eq_true rfl⟩) (fun H locs ho hw => ?_) (fun p1 H locs ho hw => ?_)
  · simp only [ho] at hF
    refine lv_astore_nN (lv' := [(2, .null), (0, .ref (g.2.2 (0))), (1, .int (a))]) hM.x hM.b dX4_aheadUntilBurnt_8 rfl hl (by decide) rfl (fun ls hl => ?_)
    refine lv_aload_nN hM.x hM.b dX4_aheadUntilBurnt_9 rfl (lv_at hl 0 rfl) ?_
    refine lv_ifnonnullN hM.x hM.b dX4_aheadUntilBurnt_10 ?_
    refine lv_iconst (v := -1) hM.x hM.b dX4_aheadUntilBurnt_13 (by decide) ?_
    exact k_iret hM hr hw (Nat.le_of_ble_eq_true rfl) (Nat.le_of_ble_eq_true rfl) hF dX4_aheadUntilBurnt_14
  · simp only [ho] at hF
    have hop1 := ho
    refine lv_astore_n (lv' := [(2, .ref (g.2.2 (p1))), (0, .ref (g.2.2 (0))), (1, .int (a))]) hM.x hM.b dX4_aheadUntilBurnt_8 rfl hl (by decide) rfl (fun ls hl => ?_)
    refine lv_aload_n hM.x hM.b dX4_aheadUntilBurnt_9 rfl (lv_at hl 0 rfl) ?_
    refine lv_ifnonnull (tgt := 15) hM.x hM.b dX4_aheadUntilBurnt_10 (by decide) ?_
    refine lv_iconst (v := nI 0) hM.x hM.b dX4_aheadUntilBurnt_15 (by decide) ?_
    refine lv_istore_n (lv' := [(3, .int (nI (0))), (2, .ref (g.2.2 (p1))), (0, .ref (g.2.2 (0))), (1, .int (a))]) hM.x hM.b dX4_aheadUntilBurnt_16 rfl hl (by decide) rfl (fun ls hl => ?_)
    refine ml_X4_aheadUntilBurnt l g a p1 (kdp_X1_roastAt kd_46 hop1) hM (200) (0) (by omega) κ _ _ _ (lv_sub hl [0, 1, 2, 3] rfl) hw (fun uz1 κ1 H locs ls he hl hw => ?_) (fun κ2 H locs ls he hl hw => ?_)
    · rw [he] at hF; try dsimp only at hF
      refine lv_iload_n hM.x hM.b dX4_aheadUntilBurnt_31 rfl (lv_at hl 0 rfl) ?_
      exact k_iret hM hr hw (Nat.le_of_ble_eq_true rfl) (Nat.le_of_ble_eq_true rfl) hF dX4_aheadUntilBurnt_32
    · rw [he] at hF; try dsimp only at hF
      refine lv_aload_n hM.x hM.b dX4_aheadUntilBurnt_47 rfl (lv_at hl 0 rfl) ?_
      refine k_cip hw (k_runV [] [] hM hw (m_X2_burnt l g κ2 _ (p1) ((kdp_X1_roastAt kd_46 hop1))) (kd_lt (kdp_X1_roastAt kd_46 hop1) (by decide)) (sh2 (kdp_X1_roastAt kd_46 hop1)) rfl (k_gV u_ml_X4_167 u_im_X2_burnt u_se_X2_burnt u_ini_X2 u_co_X2_burnt) (q_X2_burnt) rfl rfl rfl ⟨Nat.le_of_ble_eq_true rfl, Nat.le_of_ble_eq_true rfl⟩ hl.1 rfl (Nat.le_of_ble_eq_true rfl) dX4_aheadUntilBurnt_48 ⟨Nat.le_of_ble_eq_true rfl, Nat.le_of_ble_eq_true rfl⟩) (fun H locs hw => ?_)
      refine lv_if_eq (tgt := 60) hM.x hM.b dX4_aheadUntilBurnt_51 (by decide) (fun c1 => ?_) (fun c1 => ?_)
      · rw [if_pos c1] at hF
        refine lv_iconst (v := -1) hM.x hM.b dX4_aheadUntilBurnt_60 (by decide) ?_
        exact k_iret hM hr hw (Nat.le_of_ble_eq_true rfl) (Nat.le_of_ble_eq_true rfl) hF dX4_aheadUntilBurnt_61
      · rw [if_neg c1] at hF
        refine lv_sipush (v := 200) hM.x hM.b dX4_aheadUntilBurnt_54 (by decide) ?_
        refine lv_goto (tgt := 61) hM.x hM.b dX4_aheadUntilBurnt_57 (by decide) ?_
        exact k_iret hM hr hw (Nat.le_of_ble_eq_true rfl) (Nat.le_of_ble_eq_true rfl) hF dX4_aheadUntilBurnt_61
