theorem q_X5_minuteOn : hdV yX5_minuteOn RX5 0 := ⟨rfl, by decide +kernel, by decide +kernel, by decide +kernel⟩
def lp_X5_minuteOn_4  : Nat → Nat → Kp → Kp
  | 0, j, κ => κ
  | n + 1, j, κ => if (κ 91 1) ≤ (nI (j)) then (κ) else ((fun κ1 : Kp => lp_X5_minuteOn_4  n (j + 1) κ1) (up2 κ (95) (j) (0)))
set_option maxRecDepth 100000 in
set_option maxHeartbeats 4000000 in
theorem ml_X5_minuteOn_4 {p : Program} {e : Env} {s : State} {m : MethodId} {below : List Frame} {meth : Method} {c : Code} {Q : State → Prop} (l : Launch) (g : Gt)   (v1 : Int32) (hM : Mc g p s m ([.ref (g.2.2 (91))] : List Value).toArray meth c cX5_minuteOn 4 yX5_minuteOn.cls) : ∀ (n j : Nat), j + n = 3 → ∀ (κ : Kp), MI κ → ∀ (H : Heap) (locs : List Loc) (ls : Array Slot), lv_has ls 4 [(2, .int (nI (j))), (0, .ref (g.2.2 (91))), (1, .int (v1))] → Ws g s κ H locs → (∀ (κz : Kp) (H : Heap) (locs : List Loc) (ls : Array Slot), lp_X5_minuteOn_4  n j κ = κz → lv_has ls 4 [(0, .ref (g.2.2 (91))), (1, .int (v1))] → MI κz → Ws g s κz H locs → W p l e { frames := 3, cells := 0, slots := 0, locals := 90 } s m ([.ref (g.2.2 (91))] : List Value).toArray below meth c H locs 0 0 Q (F0 m 25 ls [])) → W p l e { frames := 3, cells := 0, slots := 0, locals := 90 } s m ([.ref (g.2.2 (91))] : List Value).toArray below meth c H locs 0 0 Q (F0 m 4 ls []) := by
  intro n
  induction n with
  | zero =>
    intro j hj κ hinv H locs ls hl hw hx25
    have hF := Eq.refl (lp_X5_minuteOn_4  0 j κ)
    conv at hF => rhs; rw [lp_X5_minuteOn_4]
    refine lv_iload_n hM.x hM.b dX5_minuteOn_4 rfl (lv_at hl 0 rfl) ?_
    refine lv_aload_n hM.x hM.b dX5_minuteOn_5 rfl (lv_at hl 1 rfl) ?_
    refine k_get5 1 hM hw (by decide) u_fl_X5_35 dX5_minuteOn_6 ?_
    refine lv_icmp_ge (tgt := 25) hM.x hM.b dX5_minuteOn_9 (by decide) (fun _ => ?_) (fun cz => absurd (MI_fe hinv hj) cz)
    exact hx25 κ H locs ls hF (lv_sub hl [1, 2] rfl) (hinv) hw
  | succ n ih =>
    intro j hj κ hinv H locs ls hl hw hx25
    have hF := Eq.refl (lp_X5_minuteOn_4  (n + 1) j κ)
    conv at hF => rhs; rw [lp_X5_minuteOn_4]
    refine lv_iload_n hM.x hM.b dX5_minuteOn_4 rfl (lv_at hl 0 rfl) ?_
    refine lv_aload_n hM.x hM.b dX5_minuteOn_5 rfl (lv_at hl 1 rfl) ?_
    refine k_get5 1 hM hw (by decide) u_fl_X5_35 dX5_minuteOn_6 ?_
    refine lv_icmp_ge (tgt := 25) hM.x hM.b dX5_minuteOn_9 (by decide) (fun c1 => ?_) (fun c1 => ?_)
    · rw [if_pos c1] at hF
      exact hx25 κ H locs ls hF (lv_sub hl [1, 2] rfl) (hinv) hw
    · rw [if_neg c1] at hF
      refine lv_aload_n hM.x hM.b dX5_minuteOn_12 rfl (lv_at hl 1 rfl) ?_
      refine k_get5r 3 hM hw (by decide) u_fl_X5_23 dX5_minuteOn_13 ?_
      refine lv_iload_n hM.x hM.b dX5_minuteOn_16 rfl (lv_at hl 0 rfl) ?_
      refine lv_iconst (v := 0) hM.x hM.b dX5_minuteOn_17 (by decide) ?_
      refine k_iastN (i := j) (n := 3) hM hw (kd_lt kd_95 (by decide)) (fun r => sh12 kd_95) (by omega) (by decide) dX5_minuteOn_18 (fun H locs hw => ?_)
      obtain ⟨κ1, eκ1⟩ : ∃ z : Kp, up2 κ (95) (j) (0) = z := ⟨_, rfl⟩
      rw [eκ1] at hw
      rw [eκ1] at hF
      try dsimp only at hF
      refine lv_iinc (v := nI (j + 1)) (lv' := [(2, .int (nI (j + 1))), (0, .ref (g.2.2 (91))), (1, .int (v1))]) hM.x hM.b dX5_minuteOn_19 hl (k := 0) rfl (nI_1 (j)) (by decide) rfl (fun ls hl => ?_)
      refine lv_goto (tgt := 4) hM.x hM.b dX5_minuteOn_22 (by decide) ?_
      exact ih (j + 1) (by omega) κ1 ((MI_eq eκ1 (MI_95 hinv))) H locs ls (lv_sub hl [0, 1, 2] rfl) hw (fun κz H locs ls he hl hiz hw => hx25 κz H locs ls (hF.trans he) hl hiz hw)
def lp_X5_minuteOn_27  : Nat → Nat → Kp → Kp
  | 0, j, κ => κ
  | n + 1, j, κ => if (κ 91 2) ≤ (nI (j)) then (κ) else (if 0 ≤ (((f_X5_sp κ (nI (j)) (2)) - (1))) then ((fun κ1 : Kp => (fun κ2 : Kp => (fun κ3 : Kp => if (f_X5_sp κ3 (nI (j)) (4)) ≤ 0 then (lp_X5_minuteOn_27  n (j + 1) κ3) else (if (((f_X5_sp κ3 (nI (j)) (3)) - (f_X5_sp κ3 (nI (j)) (3)) / (f_X5_sp κ3 (nI (j)) (4)) * (f_X5_sp κ3 (nI (j)) (4)))) = 0 then ((fun κ4 : Kp => lp_X5_minuteOn_27  n (j + 1) κ4) (f_X5_turn κ3 (((f_X5_sp κ (nI (j)) (2)) - (1))))) else (lp_X5_minuteOn_27  n (j + 1) κ3))) (f_X5_letSpit κ2 (nI (j)) (3) (((f_X5_sp κ2 (nI (j)) (3)) + (1))))) (f_X5_drip κ1 (((f_X5_sp κ (nI (j)) (2)) - (1))) (nI (j)))) (f_X5_roasted κ (((f_X5_sp κ (nI (j)) (2)) - (1))) (nI (j)))) else (lp_X5_minuteOn_27  n (j + 1) κ))
set_option maxRecDepth 100000 in
set_option maxHeartbeats 4000000 in
theorem ml_X5_minuteOn_27 {p : Program} {e : Env} {s : State} {m : MethodId} {below : List Frame} {meth : Method} {c : Code} {Q : State → Prop} (l : Launch) (g : Gt)   (v1 : Int32) (hM : Mc g p s m ([.ref (g.2.2 (91))] : List Value).toArray meth c cX5_minuteOn 4 yX5_minuteOn.cls) : ∀ (n j : Nat), j + n = 6 → ∀ (κ : Kp), MI κ → ∀ (H : Heap) (locs : List Loc) (ls : Array Slot), lv_has ls 4 [(2, .int (nI (j))), (0, .ref (g.2.2 (91))), (1, .int (v1))] → Ws g s κ H locs → (∀ (κz : Kp) (H : Heap) (locs : List Loc) (ls : Array Slot), lp_X5_minuteOn_27  n j κ = κz → lv_has ls 4 [(0, .ref (g.2.2 (91))), (1, .int (v1))] → MI κz → Ws g s κz H locs → W p l e { frames := 3, cells := 0, slots := 0, locals := 90 } s m ([.ref (g.2.2 (91))] : List Value).toArray below meth c H locs 0 0 Q (F0 m 113 ls [])) → W p l e { frames := 3, cells := 0, slots := 0, locals := 90 } s m ([.ref (g.2.2 (91))] : List Value).toArray below meth c H locs 0 0 Q (F0 m 27 ls []) := by
  intro n
  induction n with
  | zero =>
    intro j hj κ hinv H locs ls hl hw hx113
    have hF := Eq.refl (lp_X5_minuteOn_27  0 j κ)
    conv at hF => rhs; rw [lp_X5_minuteOn_27]
    refine lv_iload_n hM.x hM.b dX5_minuteOn_27 rfl (lv_at hl 0 rfl) ?_
    refine lv_aload_n hM.x hM.b dX5_minuteOn_28 rfl (lv_at hl 1 rfl) ?_
    refine k_get5 2 hM hw (by decide) u_fl_X5_42 dX5_minuteOn_29 ?_
    refine lv_icmp_ge (tgt := 113) hM.x hM.b dX5_minuteOn_32 (by decide) (fun _ => ?_) (fun cz => absurd (MI_se hinv hj) cz)
    exact hx113 κ H locs ls hF (lv_sub hl [1, 2] rfl) (hinv) hw
  | succ n ih =>
    intro j hj κ hinv H locs ls hl hw hx113
    have hF := Eq.refl (lp_X5_minuteOn_27  (n + 1) j κ)
    conv at hF => rhs; rw [lp_X5_minuteOn_27]
    refine lv_iload_n hM.x hM.b dX5_minuteOn_27 rfl (lv_at hl 0 rfl) ?_
    refine lv_aload_n hM.x hM.b dX5_minuteOn_28 rfl (lv_at hl 1 rfl) ?_
    refine k_get5 2 hM hw (by decide) u_fl_X5_42 dX5_minuteOn_29 ?_
    refine lv_icmp_ge (tgt := 113) hM.x hM.b dX5_minuteOn_32 (by decide) (fun c1 => ?_) (fun c1 => ?_)
    · rw [if_pos c1] at hF
      exact hx113 κ H locs ls hF (lv_sub hl [1, 2] rfl) (hinv) hw
    · rw [if_neg c1] at hF
      refine lv_aload_n hM.x hM.b dX5_minuteOn_35 rfl (lv_at hl 1 rfl) ?_
      refine lv_iload_n hM.x hM.b dX5_minuteOn_36 rfl (lv_at hl 0 rfl) ?_
      refine lv_iconst (v := 2) hM.x hM.b dX5_minuteOn_37 (by decide) ?_
      refine k_cip hw (k_runV [.int (nI (j)), .int (2)] [] hM hw (m_X5_sp l g κ _ (nI (j)) (2) (vp_in_nI (n := j) (N := 6) (by omega) (by decide)) (vin_lit (by decide) : vp_in 2 5)) (kd_lt kd_91 (by decide)) (sh5 kd_91) rfl (k_gV u_ml_X5_58 u_im_X5_sp u_se_X5_sp u_ini_X5 u_co_X5_sp) (q_X5_sp) rfl rfl rfl ⟨Nat.le_of_ble_eq_true rfl, Nat.le_of_ble_eq_true rfl⟩ hl.1 rfl (Nat.le_of_ble_eq_true rfl) dX5_minuteOn_38 ⟨Nat.le_of_ble_eq_true rfl, Nat.le_of_ble_eq_true rfl⟩) (fun H locs hw => ?_)
      refine lv_iconst (v := 1) hM.x hM.b dX5_minuteOn_41 (by decide) ?_
      refine lv_isub hM.x hM.b dX5_minuteOn_42 ?_
      refine lv_istore_n (lv' := [(3, .int (((f_X5_sp κ (nI (j)) (2)) - (1)))), (2, .int (nI (j))), (0, .ref (g.2.2 (91))), (1, .int (v1))]) hM.x hM.b dX5_minuteOn_43 rfl hl (by decide) rfl (fun ls hl => ?_)
      refine lv_iload_n hM.x hM.b dX5_minuteOn_44 rfl (lv_at hl 0 rfl) ?_
      refine lv_if_ge (tgt := 51) hM.x hM.b dX5_minuteOn_45 (by decide) (fun c2 => ?_) (fun c2 => ?_)
      · rw [if_pos c2] at hF
        refine lv_aload_n hM.x hM.b dX5_minuteOn_51 rfl (lv_at hl 2 rfl) ?_
        refine lv_iload_n hM.x hM.b dX5_minuteOn_52 rfl (lv_at hl 0 rfl) ?_
        refine lv_iload_n hM.x hM.b dX5_minuteOn_53 rfl (lv_at hl 1 rfl) ?_
        refine k_cvp hw (k_runV [.int (((f_X5_sp κ (nI (j)) (2)) - (1))), .int (nI (j))] [] hM hw (m_X5_roasted l g κ _ (((f_X5_sp κ (nI (j)) (2)) - (1))) (nI (j)) (in_pred2 (MI_holds hinv (vp_in_nI (n := j) (N := 6) (by omega) (by decide))) (by decide) c2) (vp_in_nI (n := j) (N := 6) (by omega) (by decide)) hinv c1) (kd_lt kd_91 (by decide)) (sh5 kd_91) rfl (k_gV u_ml_X5_89 u_im_X5_roasted u_se_X5_roasted u_ini_X5 u_co_X5_roasted) (q_X5_roasted) rfl rfl rfl ⟨Nat.le_of_ble_eq_true rfl, Nat.le_of_ble_eq_true rfl⟩ hl.1 rfl (Nat.le_of_ble_eq_true rfl) dX5_minuteOn_54 ⟨Nat.le_of_ble_eq_true rfl, Nat.le_of_ble_eq_true rfl⟩) (fun κ1 H locs eκ1 hw => ?_)
        rw [eκ1] at hF
        try dsimp only at hF
        refine lv_aload_n hM.x hM.b dX5_minuteOn_57 rfl (lv_at hl 2 rfl) ?_
        refine lv_iload_n hM.x hM.b dX5_minuteOn_58 rfl (lv_at hl 0 rfl) ?_
        refine lv_iload_n hM.x hM.b dX5_minuteOn_59 rfl (lv_at hl 1 rfl) ?_
        refine k_cvp hw (k_runV [.int (((f_X5_sp κ (nI (j)) (2)) - (1))), .int (nI (j))] [] hM hw (m_X5_drip l g κ1 _ (((f_X5_sp κ (nI (j)) (2)) - (1))) (nI (j)) (in_pred2 (MI_holds hinv (vp_in_nI (n := j) (N := 6) (by omega) (by decide))) (by decide) c2) (vp_in_nI (n := j) (N := 6) (by omega) (by decide)) (MI_eq eκ1 (MI_roasted hinv (in_pred2 (MI_holds hinv (vp_in_nI (n := j) (N := 6) (by omega) (by decide))) (by decide) c2) (vp_in_nI (n := j) (N := 6) (by omega) (by decide))))) (kd_lt kd_91 (by decide)) (sh5 kd_91) rfl (k_gV u_ml_X5_93 u_im_X5_drip u_se_X5_drip u_ini_X5 u_co_X5_drip) (q_X5_drip) rfl rfl rfl ⟨Nat.le_of_ble_eq_true rfl, Nat.le_of_ble_eq_true rfl⟩ hl.1 rfl (Nat.le_of_ble_eq_true rfl) dX5_minuteOn_60 ⟨Nat.le_of_ble_eq_true rfl, Nat.le_of_ble_eq_true rfl⟩) (fun κ2 H locs eκ2 hw => ?_)
        rw [eκ2] at hF
        try dsimp only at hF
        refine lv_aload_n hM.x hM.b dX5_minuteOn_63 rfl (lv_at hl 2 rfl) ?_
        refine lv_iload_n hM.x hM.b dX5_minuteOn_64 rfl (lv_at hl 1 rfl) ?_
        refine lv_iconst (v := 3) hM.x hM.b dX5_minuteOn_65 (by decide) ?_
        refine lv_aload_n hM.x hM.b dX5_minuteOn_66 rfl (lv_at hl 2 rfl) ?_
        refine lv_iload_n hM.x hM.b dX5_minuteOn_67 rfl (lv_at hl 1 rfl) ?_
        refine lv_iconst (v := 3) hM.x hM.b dX5_minuteOn_68 (by decide) ?_
        refine k_cip hw (k_runV [.int (nI (j)), .int (3)] [.int (3), .int (nI (j)), .ref (g.2.2 (91))] hM hw (m_X5_sp l g κ2 _ (nI (j)) (3) (vp_in_nI (n := j) (N := 6) (by omega) (by decide)) (vin_lit (by decide) : vp_in 3 5)) (kd_lt kd_91 (by decide)) (sh5 kd_91) rfl (k_gV u_ml_X5_58 u_im_X5_sp u_se_X5_sp u_ini_X5 u_co_X5_sp) (q_X5_sp) rfl rfl rfl ⟨Nat.le_of_ble_eq_true rfl, Nat.le_of_ble_eq_true rfl⟩ hl.1 rfl (Nat.le_of_ble_eq_true rfl) dX5_minuteOn_69 ⟨Nat.le_of_ble_eq_true rfl, Nat.le_of_ble_eq_true rfl⟩) (fun H locs hw => ?_)
        refine lv_iconst (v := 1) hM.x hM.b dX5_minuteOn_72 (by decide) ?_
        refine lv_iadd hM.x hM.b dX5_minuteOn_73 ?_
        refine k_cvp hw (k_runV [.int (nI (j)), .int (3), .int (((f_X5_sp κ2 (nI (j)) (3)) + (1)))] [] hM hw (m_X5_letSpit l g κ2 _ (nI (j)) (3) (((f_X5_sp κ2 (nI (j)) (3)) + (1))) (vp_in_nI (n := j) (N := 6) (by omega) (by decide)) (vin_lit (by decide) : vp_in 3 5)) (kd_lt kd_91 (by decide)) (sh5 kd_91) rfl (k_gV u_ml_X5_86 u_im_X5_letSpit u_se_X5_letSpit u_ini_X5 u_co_X5_letSpit) (q_X5_letSpit) rfl rfl rfl ⟨Nat.le_of_ble_eq_true rfl, Nat.le_of_ble_eq_true rfl⟩ hl.1 rfl (Nat.le_of_ble_eq_true rfl) dX5_minuteOn_74 ⟨Nat.le_of_ble_eq_true rfl, Nat.le_of_ble_eq_true rfl⟩) (fun κ3 H locs eκ3 hw => ?_)
        rw [eκ3] at hF
        try dsimp only at hF
        refine lv_aload_n hM.x hM.b dX5_minuteOn_77 rfl (lv_at hl 2 rfl) ?_
        refine lv_iload_n hM.x hM.b dX5_minuteOn_78 rfl (lv_at hl 1 rfl) ?_
        refine lv_iconst (v := 4) hM.x hM.b dX5_minuteOn_79 (by decide) ?_
        refine k_cip hw (k_runV [.int (nI (j)), .int (4)] [] hM hw (m_X5_sp l g κ3 _ (nI (j)) (4) (vp_in_nI (n := j) (N := 6) (by omega) (by decide)) (vin_lit (by decide) : vp_in 4 5)) (kd_lt kd_91 (by decide)) (sh5 kd_91) rfl (k_gV u_ml_X5_58 u_im_X5_sp u_se_X5_sp u_ini_X5 u_co_X5_sp) (q_X5_sp) rfl rfl rfl ⟨Nat.le_of_ble_eq_true rfl, Nat.le_of_ble_eq_true rfl⟩ hl.1 rfl (Nat.le_of_ble_eq_true rfl) dX5_minuteOn_80 ⟨Nat.le_of_ble_eq_true rfl, Nat.le_of_ble_eq_true rfl⟩) (fun H locs hw => ?_)
        refine lv_if_le (tgt := 107) hM.x hM.b dX5_minuteOn_83 (by decide) (fun c3 => ?_) (fun c3 => ?_)
        · rw [if_pos c3] at hF
          refine lv_iinc (v := nI (j + 1)) (lv' := [(2, .int (nI (j + 1))), (3, .int (((f_X5_sp κ (nI (j)) (2)) - (1)))), (0, .ref (g.2.2 (91))), (1, .int (v1))]) hM.x hM.b dX5_minuteOn_107 hl (k := 1) rfl (nI_1 (j)) (by decide) rfl (fun ls hl => ?_)
          refine lv_goto (tgt := 27) hM.x hM.b dX5_minuteOn_110 (by decide) ?_
          exact ih (j + 1) (by omega) κ3 ((MI_eq eκ3 (MI_letSpit (MI_eq eκ2 (MI_drip (MI_eq eκ1 (MI_roasted hinv (in_pred2 (MI_holds hinv (vp_in_nI (n := j) (N := 6) (by omega) (by decide))) (by decide) c2) (vp_in_nI (n := j) (N := 6) (by omega) (by decide)))) (in_pred2 (MI_holds hinv (vp_in_nI (n := j) (N := 6) (by omega) (by decide))) (by decide) c2) (vp_in_nI (n := j) (N := 6) (by omega) (by decide)))) (vp_in_nI (n := j) (N := 6) (by omega) (by decide)) (vin_lit (by decide) : vp_in 3 5) (fun q => absurd q (by decide)) (fun q => absurd q (by decide))))) H locs ls (lv_sub hl [0, 2, 3] rfl) hw (fun κz H locs ls he hl hiz hw => hx113 κz H locs ls (hF.trans he) hl hiz hw)
        · rw [if_neg c3] at hF
          refine lv_aload_n hM.x hM.b dX5_minuteOn_86 rfl (lv_at hl 2 rfl) ?_
          refine lv_iload_n hM.x hM.b dX5_minuteOn_87 rfl (lv_at hl 1 rfl) ?_
          refine lv_iconst (v := 3) hM.x hM.b dX5_minuteOn_88 (by decide) ?_
          refine k_cip hw (k_runV [.int (nI (j)), .int (3)] [] hM hw (m_X5_sp l g κ3 _ (nI (j)) (3) (vp_in_nI (n := j) (N := 6) (by omega) (by decide)) (vin_lit (by decide) : vp_in 3 5)) (kd_lt kd_91 (by decide)) (sh5 kd_91) rfl (k_gV u_ml_X5_58 u_im_X5_sp u_se_X5_sp u_ini_X5 u_co_X5_sp) (q_X5_sp) rfl rfl rfl ⟨Nat.le_of_ble_eq_true rfl, Nat.le_of_ble_eq_true rfl⟩ hl.1 rfl (Nat.le_of_ble_eq_true rfl) dX5_minuteOn_89 ⟨Nat.le_of_ble_eq_true rfl, Nat.le_of_ble_eq_true rfl⟩) (fun H locs hw => ?_)
          refine lv_aload_n hM.x hM.b dX5_minuteOn_92 rfl (lv_at hl 2 rfl) ?_
          refine lv_iload_n hM.x hM.b dX5_minuteOn_93 rfl (lv_at hl 1 rfl) ?_
          refine lv_iconst (v := 4) hM.x hM.b dX5_minuteOn_94 (by decide) ?_
          refine k_cip hw (k_runV [.int (nI (j)), .int (4)] [.int (f_X5_sp κ3 (nI (j)) (3))] hM hw (m_X5_sp l g κ3 _ (nI (j)) (4) (vp_in_nI (n := j) (N := 6) (by omega) (by decide)) (vin_lit (by decide) : vp_in 4 5)) (kd_lt kd_91 (by decide)) (sh5 kd_91) rfl (k_gV u_ml_X5_58 u_im_X5_sp u_se_X5_sp u_ini_X5 u_co_X5_sp) (q_X5_sp) rfl rfl rfl ⟨Nat.le_of_ble_eq_true rfl, Nat.le_of_ble_eq_true rfl⟩ hl.1 rfl (Nat.le_of_ble_eq_true rfl) dX5_minuteOn_95 ⟨Nat.le_of_ble_eq_true rfl, Nat.le_of_ble_eq_true rfl⟩) (fun H locs hw => ?_)
          refine lv_irem hM.x hM.b dX5_minuteOn_98 (nz_pos1 c3) ?_
          refine lv_if_ne (tgt := 107) hM.x hM.b dX5_minuteOn_99 (by decide) (fun c4 => ?_) (fun c4 => ?_)
          · rw [if_neg c4] at hF
            refine lv_iinc (v := nI (j + 1)) (lv' := [(2, .int (nI (j + 1))), (3, .int (((f_X5_sp κ (nI (j)) (2)) - (1)))), (0, .ref (g.2.2 (91))), (1, .int (v1))]) hM.x hM.b dX5_minuteOn_107 hl (k := 1) rfl (nI_1 (j)) (by decide) rfl (fun ls hl => ?_)
            refine lv_goto (tgt := 27) hM.x hM.b dX5_minuteOn_110 (by decide) ?_
            exact ih (j + 1) (by omega) κ3 ((MI_eq eκ3 (MI_letSpit (MI_eq eκ2 (MI_drip (MI_eq eκ1 (MI_roasted hinv (in_pred2 (MI_holds hinv (vp_in_nI (n := j) (N := 6) (by omega) (by decide))) (by decide) c2) (vp_in_nI (n := j) (N := 6) (by omega) (by decide)))) (in_pred2 (MI_holds hinv (vp_in_nI (n := j) (N := 6) (by omega) (by decide))) (by decide) c2) (vp_in_nI (n := j) (N := 6) (by omega) (by decide)))) (vp_in_nI (n := j) (N := 6) (by omega) (by decide)) (vin_lit (by decide) : vp_in 3 5) (fun q => absurd q (by decide)) (fun q => absurd q (by decide))))) H locs ls (lv_sub hl [0, 2, 3] rfl) hw (fun κz H locs ls he hl hiz hw => hx113 κz H locs ls (hF.trans he) hl hiz hw)
          · rw [if_pos c4] at hF
            refine lv_aload_n hM.x hM.b dX5_minuteOn_102 rfl (lv_at hl 2 rfl) ?_
            refine lv_iload_n hM.x hM.b dX5_minuteOn_103 rfl (lv_at hl 0 rfl) ?_
            refine k_cvp hw (k_runV [.int (((f_X5_sp κ (nI (j)) (2)) - (1)))] [] hM hw (m_X5_turn l g κ3 _ (((f_X5_sp κ (nI (j)) (2)) - (1))) (in_pred2 (MI_holds hinv (vp_in_nI (n := j) (N := 6) (by omega) (by decide))) (by decide) c2)) (kd_lt kd_91 (by decide)) (sh5 kd_91) rfl (k_gV u_ml_X5_96 u_im_X5_turn u_se_X5_turn u_ini_X5 u_co_X5_turn) (q_X5_turn) rfl rfl rfl ⟨Nat.le_of_ble_eq_true rfl, Nat.le_of_ble_eq_true rfl⟩ hl.1 rfl (Nat.le_of_ble_eq_true rfl) dX5_minuteOn_104 ⟨Nat.le_of_ble_eq_true rfl, Nat.le_of_ble_eq_true rfl⟩) (fun κ4 H locs eκ4 hw => ?_)
            rw [eκ4] at hF
            try dsimp only at hF
            refine lv_iinc (v := nI (j + 1)) (lv' := [(2, .int (nI (j + 1))), (3, .int (((f_X5_sp κ (nI (j)) (2)) - (1)))), (0, .ref (g.2.2 (91))), (1, .int (v1))]) hM.x hM.b dX5_minuteOn_107 hl (k := 1) rfl (nI_1 (j)) (by decide) rfl (fun ls hl => ?_)
            refine lv_goto (tgt := 27) hM.x hM.b dX5_minuteOn_110 (by decide) ?_
            exact ih (j + 1) (by omega) κ4 ((MI_eq eκ4 (MI_turn (MI_eq eκ3 (MI_letSpit (MI_eq eκ2 (MI_drip (MI_eq eκ1 (MI_roasted hinv (in_pred2 (MI_holds hinv (vp_in_nI (n := j) (N := 6) (by omega) (by decide))) (by decide) c2) (vp_in_nI (n := j) (N := 6) (by omega) (by decide)))) (in_pred2 (MI_holds hinv (vp_in_nI (n := j) (N := 6) (by omega) (by decide))) (by decide) c2) (vp_in_nI (n := j) (N := 6) (by omega) (by decide)))) (vp_in_nI (n := j) (N := 6) (by omega) (by decide)) (vin_lit (by decide) : vp_in 3 5) (fun q => absurd q (by decide)) (fun q => absurd q (by decide)))) (in_pred2 (MI_holds hinv (vp_in_nI (n := j) (N := 6) (by omega) (by decide))) (by decide) c2)))) H locs ls (lv_sub hl [0, 2, 3] rfl) hw (fun κz H locs ls he hl hiz hw => hx113 κz H locs ls (hF.trans he) hl hiz hw)
      · rw [if_neg c2] at hF
        refine lv_goto (tgt := 107) hM.x hM.b dX5_minuteOn_48 (by decide) ?_
        refine lv_iinc (v := nI (j + 1)) (lv' := [(2, .int (nI (j + 1))), (3, .int (((f_X5_sp κ (nI (j)) (2)) - (1)))), (0, .ref (g.2.2 (91))), (1, .int (v1))]) hM.x hM.b dX5_minuteOn_107 hl (k := 1) rfl (nI_1 (j)) (by decide) rfl (fun ls hl => ?_)
        refine lv_goto (tgt := 27) hM.x hM.b dX5_minuteOn_110 (by decide) ?_
        exact ih (j + 1) (by omega) κ (hinv) H locs ls (lv_sub hl [0, 2, 3] rfl) hw (fun κz H locs ls he hl hiz hw => hx113 κz H locs ls (hF.trans he) hl hiz hw)
def lp_X5_minuteOn_115  : Nat → Nat → Int32 → Kp → Int32 × Kp
  | 0, j, v1, κ => (v1, κ)
  | n + 1, j, v1, κ => if (κ 91 1) ≤ (nI (j)) then ((v1, κ)) else (if (f_X5_fi κ (nI (j)) (0)) ≤ 0 then ((fun κ1 : Kp => lp_X5_minuteOn_115  n (j + 1) (((v1) + (κ1 (95) (j)))) κ1) (f_X5_letFire κ (nI (j)) (1) ((if (0) < ((if (((((f_X5_fi κ (nI (j)) (1)) + ((-1)))) + (κ (95) (j)))) < (9) then (((((f_X5_fi κ (nI (j)) (1)) + ((-1)))) + (κ (95) (j)))) else (9))) then ((if (((((f_X5_fi κ (nI (j)) (1)) + ((-1)))) + (κ (95) (j)))) < (9) then (((((f_X5_fi κ (nI (j)) (1)) + ((-1)))) + (κ (95) (j)))) else (9))) else (0))))) else (if (((κ (96) (0)) - (κ (96) (0)) / (5) * (5))) = 0 then ((fun κ3 : Kp => (fun κ4 : Kp => lp_X5_minuteOn_115  n (j + 1) (((v1) + (κ4 (95) (j)))) κ4) (f_X5_letFire κ3 (nI (j)) (1) ((if (0) < ((if (((((f_X5_fi κ3 (nI (j)) (1)) + (1))) + (κ3 (95) (j)))) < (9) then (((((f_X5_fi κ3 (nI (j)) (1)) + (1))) + (κ3 (95) (j)))) else (9))) then ((if (((((f_X5_fi κ3 (nI (j)) (1)) + (1))) + (κ3 (95) (j)))) < (9) then (((((f_X5_fi κ3 (nI (j)) (1)) + (1))) + (κ3 (95) (j)))) else (9))) else (0))))) (f_X5_letFire κ (nI (j)) (0) (((f_X5_fi κ (nI (j)) (0)) - (1))))) else ((fun κ2 : Kp => lp_X5_minuteOn_115  n (j + 1) (((v1) + (κ2 (95) (j)))) κ2) (f_X5_letFire κ (nI (j)) (1) ((if (0) < ((if (((((f_X5_fi κ (nI (j)) (1)) + (1))) + (κ (95) (j)))) < (9) then (((((f_X5_fi κ (nI (j)) (1)) + (1))) + (κ (95) (j)))) else (9))) then ((if (((((f_X5_fi κ (nI (j)) (1)) + (1))) + (κ (95) (j)))) < (9) then (((((f_X5_fi κ (nI (j)) (1)) + (1))) + (κ (95) (j)))) else (9))) else (0)))))))
set_option maxRecDepth 100000 in
set_option maxHeartbeats 4000000 in
theorem ml_X5_minuteOn_115 {p : Program} {e : Env} {s : State} {m : MethodId} {below : List Frame} {meth : Method} {c : Code} {Q : State → Prop} (l : Launch) (g : Gt)   (hM : Mc g p s m ([.ref (g.2.2 (91))] : List Value).toArray meth c cX5_minuteOn 4 yX5_minuteOn.cls) : ∀ (n j : Nat), j + n = 3 → ∀ (v1 : Int32) (κ : Kp), MI κ → ∀ (H : Heap) (locs : List Loc) (ls : Array Slot), lv_has ls 4 [(2, .int (nI (j))), (0, .ref (g.2.2 (91))), (1, .int (v1))] → Ws g s κ H locs → (∀ (u1 : Int32) (κz : Kp) (H : Heap) (locs : List Loc) (ls : Array Slot), lp_X5_minuteOn_115  n j v1 κ = (u1, κz) → lv_has ls 4 [(0, .ref (g.2.2 (91))), (1, .int (u1))] → MI κz → Ws g s κz H locs → W p l e { frames := 3, cells := 0, slots := 0, locals := 90 } s m ([.ref (g.2.2 (91))] : List Value).toArray below meth c H locs 0 0 Q (F0 m 220 ls [])) → W p l e { frames := 3, cells := 0, slots := 0, locals := 90 } s m ([.ref (g.2.2 (91))] : List Value).toArray below meth c H locs 0 0 Q (F0 m 115 ls []) := by
  intro n
  induction n with
  | zero =>
    intro j hj v1 κ hinv H locs ls hl hw hx220
    have hF := Eq.refl (lp_X5_minuteOn_115  0 j v1 κ)
    conv at hF => rhs; rw [lp_X5_minuteOn_115]
    refine lv_iload_n hM.x hM.b dX5_minuteOn_115 rfl (lv_at hl 0 rfl) ?_
    refine lv_aload_n hM.x hM.b dX5_minuteOn_116 rfl (lv_at hl 1 rfl) ?_
    refine k_get5 1 hM hw (by decide) u_fl_X5_35 dX5_minuteOn_117 ?_
    refine lv_icmp_ge (tgt := 220) hM.x hM.b dX5_minuteOn_120 (by decide) (fun _ => ?_) (fun cz => absurd (MI_fe hinv hj) cz)
    exact hx220 (v1) κ H locs ls hF (lv_sub hl [1, 2] rfl) (hinv) hw
  | succ n ih =>
    intro j hj v1 κ hinv H locs ls hl hw hx220
    have hF := Eq.refl (lp_X5_minuteOn_115  (n + 1) j v1 κ)
    conv at hF => rhs; rw [lp_X5_minuteOn_115]
    refine lv_iload_n hM.x hM.b dX5_minuteOn_115 rfl (lv_at hl 0 rfl) ?_
    refine lv_aload_n hM.x hM.b dX5_minuteOn_116 rfl (lv_at hl 1 rfl) ?_
    refine k_get5 1 hM hw (by decide) u_fl_X5_35 dX5_minuteOn_117 ?_
    refine lv_icmp_ge (tgt := 220) hM.x hM.b dX5_minuteOn_120 (by decide) (fun c1 => ?_) (fun c1 => ?_)
    · rw [if_pos c1] at hF
      exact hx220 (v1) κ H locs ls hF (lv_sub hl [1, 2] rfl) (hinv) hw
    · rw [if_neg c1] at hF
      refine lv_aload_n hM.x hM.b dX5_minuteOn_123 rfl (lv_at hl 1 rfl) ?_
      refine lv_iload_n hM.x hM.b dX5_minuteOn_124 rfl (lv_at hl 0 rfl) ?_
      refine lv_iconst (v := 0) hM.x hM.b dX5_minuteOn_125 (by decide) ?_
      refine k_cip hw (k_runV [.int (nI (j)), .int (0)] [] hM hw (m_X5_fi l g κ _ (nI (j)) (0) (vp_in_nI (n := j) (N := 3) (by omega) (by decide)) (vin_lit (by decide) : vp_in 0 2)) (kd_lt kd_91 (by decide)) (sh5 kd_91) rfl (k_gV u_ml_X5_54 u_im_X5_fi u_se_X5_fi u_ini_X5 u_co_X5_fi) (q_X5_fi) rfl rfl rfl ⟨Nat.le_of_ble_eq_true rfl, Nat.le_of_ble_eq_true rfl⟩ hl.1 rfl (Nat.le_of_ble_eq_true rfl) dX5_minuteOn_126 ⟨Nat.le_of_ble_eq_true rfl, Nat.le_of_ble_eq_true rfl⟩) (fun H locs hw => ?_)
      refine lv_if_le (tgt := 136) hM.x hM.b dX5_minuteOn_129 (by decide) (fun c2 => ?_) (fun c2 => ?_)
      · rw [if_pos c2] at hF
        refine lv_iconst (v := 0) hM.x hM.b dX5_minuteOn_136 (by decide) ?_
        refine lv_istore_n (lv' := [(3, .int (0)), (2, .int (nI (j))), (0, .ref (g.2.2 (91))), (1, .int (v1))]) hM.x hM.b dX5_minuteOn_137 rfl hl (by decide) rfl (fun ls hl => ?_)
        refine lv_iload_n hM.x hM.b dX5_minuteOn_138 rfl (lv_at hl 0 rfl) ?_
        refine lv_if_eq (tgt := 167) hM.x hM.b dX5_minuteOn_139 (by decide) (fun _ => ?_) (fun cz => absurd cz (by decide))
        refine lv_aload_n hM.x hM.b dX5_minuteOn_167 rfl (lv_at hl 2 rfl) ?_
        refine lv_iload_n hM.x hM.b dX5_minuteOn_168 rfl (lv_at hl 1 rfl) ?_
        refine lv_iconst (v := 1) hM.x hM.b dX5_minuteOn_169 (by decide) ?_
        refine lv_iconst (v := 0) hM.x hM.b dX5_minuteOn_170 (by decide) ?_
        refine lv_bipush (v := 9) hM.x hM.b dX5_minuteOn_171 (by decide) ?_
        refine lv_aload_n hM.x hM.b dX5_minuteOn_173 rfl (lv_at hl 2 rfl) ?_
        refine lv_iload_n hM.x hM.b dX5_minuteOn_174 rfl (lv_at hl 1 rfl) ?_
        refine lv_iconst (v := 1) hM.x hM.b dX5_minuteOn_175 (by decide) ?_
        refine k_cip hw (k_runV [.int (nI (j)), .int (1)] [.int (9), .int (0), .int (1), .int (nI (j)), .ref (g.2.2 (91))] hM hw (m_X5_fi l g κ _ (nI (j)) (1) (vp_in_nI (n := j) (N := 3) (by omega) (by decide)) (vin_lit (by decide) : vp_in 1 2)) (kd_lt kd_91 (by decide)) (sh5 kd_91) rfl (k_gV u_ml_X5_54 u_im_X5_fi u_se_X5_fi u_ini_X5 u_co_X5_fi) (q_X5_fi) rfl rfl rfl ⟨Nat.le_of_ble_eq_true rfl, Nat.le_of_ble_eq_true rfl⟩ hl.1 rfl (Nat.le_of_ble_eq_true rfl) dX5_minuteOn_176 ⟨Nat.le_of_ble_eq_true rfl, Nat.le_of_ble_eq_true rfl⟩) (fun H locs hw => ?_)
        refine lv_iload_n hM.x hM.b dX5_minuteOn_179 rfl (lv_at hl 0 rfl) ?_
        refine lv_if_eq (tgt := 187) hM.x hM.b dX5_minuteOn_180 (by decide) (fun _ => ?_) (fun cz => absurd cz (by decide))
        refine lv_iconst (v := -1) hM.x hM.b dX5_minuteOn_187 (by decide) ?_
        refine lv_iadd hM.x hM.b dX5_minuteOn_188 ?_
        refine lv_aload_n hM.x hM.b dX5_minuteOn_189 rfl (lv_at hl 2 rfl) ?_
        refine k_get5r 3 hM hw (by decide) u_fl_X5_23 dX5_minuteOn_190 ?_
        refine lv_iload_n hM.x hM.b dX5_minuteOn_193 rfl (lv_at hl 1 rfl) ?_
        refine k_ialdN (i := j) (n := 3) hM hw (kd_lt kd_95 (by decide)) (sh12 kd_95) (by omega) (by decide) dX5_minuteOn_194 ?_
        refine lv_iadd hM.x hM.b dX5_minuteOn_195 ?_
        refine va_mmin hM.x hM.b (hM.ml.trans hl.1.symm) hM.ow (hM.ts _ u_ml_X5_68) (hM.ts _ u_st_JM_min) (hM.ts _ u_ini_JM) (hM.ts _ u_co_JM_min) (Nat.le_of_ble_eq_true rfl) (Nat.le_of_ble_eq_true rfl) (Nat.le_of_ble_eq_true rfl) (Nat.le_of_ble_eq_true rfl) dX5_minuteOn_196 ?_
        refine va_mmax hM.x hM.b (hM.ml.trans hl.1.symm) hM.ow (hM.ts _ u_ml_X5_80) (hM.ts _ u_st_JM_max) (hM.ts _ u_ini_JM) (hM.ts _ u_co_JM_max) (Nat.le_of_ble_eq_true rfl) (Nat.le_of_ble_eq_true rfl) (Nat.le_of_ble_eq_true rfl) (Nat.le_of_ble_eq_true rfl) dX5_minuteOn_199 ?_
        refine k_cvp hw (k_runV [.int (nI (j)), .int (1), .int ((if (0) < ((if (((((f_X5_fi κ (nI (j)) (1)) + ((-1)))) + (κ (95) (j)))) < (9) then (((((f_X5_fi κ (nI (j)) (1)) + ((-1)))) + (κ (95) (j)))) else (9))) then ((if (((((f_X5_fi κ (nI (j)) (1)) + ((-1)))) + (κ (95) (j)))) < (9) then (((((f_X5_fi κ (nI (j)) (1)) + ((-1)))) + (κ (95) (j)))) else (9))) else (0)))] [] hM hw (m_X5_letFire l g κ _ (nI (j)) (1) ((if (0) < ((if (((((f_X5_fi κ (nI (j)) (1)) + ((-1)))) + (κ (95) (j)))) < (9) then (((((f_X5_fi κ (nI (j)) (1)) + ((-1)))) + (κ (95) (j)))) else (9))) then ((if (((((f_X5_fi κ (nI (j)) (1)) + ((-1)))) + (κ (95) (j)))) < (9) then (((((f_X5_fi κ (nI (j)) (1)) + ((-1)))) + (κ (95) (j)))) else (9))) else (0))) (vp_in_nI (n := j) (N := 3) (by omega) (by decide)) (vin_lit (by decide) : vp_in 1 2)) (kd_lt kd_91 (by decide)) (sh5 kd_91) rfl (k_gV u_ml_X5_100 u_im_X5_letFire u_se_X5_letFire u_ini_X5 u_co_X5_letFire) (q_X5_letFire) rfl rfl rfl ⟨Nat.le_of_ble_eq_true rfl, Nat.le_of_ble_eq_true rfl⟩ hl.1 rfl (Nat.le_of_ble_eq_true rfl) dX5_minuteOn_202 ⟨Nat.le_of_ble_eq_true rfl, Nat.le_of_ble_eq_true rfl⟩) (fun κ1 H locs eκ1 hw => ?_)
        rw [eκ1] at hF
        try dsimp only at hF
        refine lv_iload_n hM.x hM.b dX5_minuteOn_205 rfl (lv_at hl 3 rfl) ?_
        refine lv_aload_n hM.x hM.b dX5_minuteOn_206 rfl (lv_at hl 2 rfl) ?_
        refine k_get5r 3 hM hw (by decide) u_fl_X5_23 dX5_minuteOn_207 ?_
        refine lv_iload_n hM.x hM.b dX5_minuteOn_210 rfl (lv_at hl 1 rfl) ?_
        refine k_ialdN (i := j) (n := 3) hM hw (kd_lt kd_95 (by decide)) (sh12 kd_95) (by omega) (by decide) dX5_minuteOn_211 ?_
        refine lv_iadd hM.x hM.b dX5_minuteOn_212 ?_
        refine lv_istore_n (lv' := [(1, .int (((v1) + (κ1 (95) (j))))), (3, .int (0)), (2, .int (nI (j))), (0, .ref (g.2.2 (91)))]) hM.x hM.b dX5_minuteOn_213 rfl hl (by decide) rfl (fun ls hl => ?_)
        refine lv_iinc (v := nI (j + 1)) (lv' := [(2, .int (nI (j + 1))), (1, .int (((v1) + (κ1 (95) (j))))), (3, .int (0)), (0, .ref (g.2.2 (91)))]) hM.x hM.b dX5_minuteOn_214 hl (k := 2) rfl (nI_1 (j)) (by decide) rfl (fun ls hl => ?_)
        refine lv_goto (tgt := 115) hM.x hM.b dX5_minuteOn_217 (by decide) ?_
        exact ih (j + 1) (by omega) (((v1) + (κ1 (95) (j)))) κ1 ((MI_eq eκ1 (MI_letFire hinv (vp_in_nI (n := j) (N := 3) (by omega) (by decide)) (vin_lit (by decide) : vp_in 1 2)))) H locs ls (lv_sub hl [0, 3, 1] rfl) hw (fun u1 κz H locs ls he hl hiz hw => hx220 u1 κz H locs ls (hF.trans he) hl hiz hw)
      · rw [if_neg c2] at hF
        refine lv_iconst (v := 1) hM.x hM.b dX5_minuteOn_132 (by decide) ?_
        refine lv_goto (tgt := 137) hM.x hM.b dX5_minuteOn_133 (by decide) ?_
        refine lv_istore_n (lv' := [(3, .int (1)), (2, .int (nI (j))), (0, .ref (g.2.2 (91))), (1, .int (v1))]) hM.x hM.b dX5_minuteOn_137 rfl hl (by decide) rfl (fun ls hl => ?_)
        refine lv_iload_n hM.x hM.b dX5_minuteOn_138 rfl (lv_at hl 0 rfl) ?_
        refine lv_if_eq (tgt := 167) hM.x hM.b dX5_minuteOn_139 (by decide) (fun cz => absurd cz (by decide)) (fun _ => ?_)
        refine lv_aload_n hM.x hM.b dX5_minuteOn_142 rfl (lv_at hl 2 rfl) ?_
        refine k_get5r 4 hM hw (by decide) u_fl_X5_26 dX5_minuteOn_143 ?_
        refine lv_iconst (v := 0) hM.x hM.b dX5_minuteOn_146 (by decide) ?_
        refine k_ialdN (i := 0) (n := 165) hM hw (kd_lt kd_96 (by decide)) (sh13 kd_96) (by decide) (by decide) dX5_minuteOn_147 ?_
        refine lv_iconst (v := 5) hM.x hM.b dX5_minuteOn_148 (by decide) ?_
        refine lv_irem hM.x hM.b dX5_minuteOn_149 (by decide) ?_
        refine lv_if_ne (tgt := 167) hM.x hM.b dX5_minuteOn_150 (by decide) (fun c3 => ?_) (fun c3 => ?_)
        · rw [if_neg c3] at hF
          refine lv_aload_n hM.x hM.b dX5_minuteOn_167 rfl (lv_at hl 2 rfl) ?_
          refine lv_iload_n hM.x hM.b dX5_minuteOn_168 rfl (lv_at hl 1 rfl) ?_
          refine lv_iconst (v := 1) hM.x hM.b dX5_minuteOn_169 (by decide) ?_
          refine lv_iconst (v := 0) hM.x hM.b dX5_minuteOn_170 (by decide) ?_
          refine lv_bipush (v := 9) hM.x hM.b dX5_minuteOn_171 (by decide) ?_
          refine lv_aload_n hM.x hM.b dX5_minuteOn_173 rfl (lv_at hl 2 rfl) ?_
          refine lv_iload_n hM.x hM.b dX5_minuteOn_174 rfl (lv_at hl 1 rfl) ?_
          refine lv_iconst (v := 1) hM.x hM.b dX5_minuteOn_175 (by decide) ?_
          refine k_cip hw (k_runV [.int (nI (j)), .int (1)] [.int (9), .int (0), .int (1), .int (nI (j)), .ref (g.2.2 (91))] hM hw (m_X5_fi l g κ _ (nI (j)) (1) (vp_in_nI (n := j) (N := 3) (by omega) (by decide)) (vin_lit (by decide) : vp_in 1 2)) (kd_lt kd_91 (by decide)) (sh5 kd_91) rfl (k_gV u_ml_X5_54 u_im_X5_fi u_se_X5_fi u_ini_X5 u_co_X5_fi) (q_X5_fi) rfl rfl rfl ⟨Nat.le_of_ble_eq_true rfl, Nat.le_of_ble_eq_true rfl⟩ hl.1 rfl (Nat.le_of_ble_eq_true rfl) dX5_minuteOn_176 ⟨Nat.le_of_ble_eq_true rfl, Nat.le_of_ble_eq_true rfl⟩) (fun H locs hw => ?_)
          refine lv_iload_n hM.x hM.b dX5_minuteOn_179 rfl (lv_at hl 0 rfl) ?_
          refine lv_if_eq (tgt := 187) hM.x hM.b dX5_minuteOn_180 (by decide) (fun cz => absurd cz (by decide)) (fun _ => ?_)
          refine lv_iconst (v := 1) hM.x hM.b dX5_minuteOn_183 (by decide) ?_
          refine lv_goto (tgt := 188) hM.x hM.b dX5_minuteOn_184 (by decide) ?_
          refine lv_iadd hM.x hM.b dX5_minuteOn_188 ?_
          refine lv_aload_n hM.x hM.b dX5_minuteOn_189 rfl (lv_at hl 2 rfl) ?_
          refine k_get5r 3 hM hw (by decide) u_fl_X5_23 dX5_minuteOn_190 ?_
          refine lv_iload_n hM.x hM.b dX5_minuteOn_193 rfl (lv_at hl 1 rfl) ?_
          refine k_ialdN (i := j) (n := 3) hM hw (kd_lt kd_95 (by decide)) (sh12 kd_95) (by omega) (by decide) dX5_minuteOn_194 ?_
          refine lv_iadd hM.x hM.b dX5_minuteOn_195 ?_
          refine va_mmin hM.x hM.b (hM.ml.trans hl.1.symm) hM.ow (hM.ts _ u_ml_X5_68) (hM.ts _ u_st_JM_min) (hM.ts _ u_ini_JM) (hM.ts _ u_co_JM_min) (Nat.le_of_ble_eq_true rfl) (Nat.le_of_ble_eq_true rfl) (Nat.le_of_ble_eq_true rfl) (Nat.le_of_ble_eq_true rfl) dX5_minuteOn_196 ?_
          refine va_mmax hM.x hM.b (hM.ml.trans hl.1.symm) hM.ow (hM.ts _ u_ml_X5_80) (hM.ts _ u_st_JM_max) (hM.ts _ u_ini_JM) (hM.ts _ u_co_JM_max) (Nat.le_of_ble_eq_true rfl) (Nat.le_of_ble_eq_true rfl) (Nat.le_of_ble_eq_true rfl) (Nat.le_of_ble_eq_true rfl) dX5_minuteOn_199 ?_
          refine k_cvp hw (k_runV [.int (nI (j)), .int (1), .int ((if (0) < ((if (((((f_X5_fi κ (nI (j)) (1)) + (1))) + (κ (95) (j)))) < (9) then (((((f_X5_fi κ (nI (j)) (1)) + (1))) + (κ (95) (j)))) else (9))) then ((if (((((f_X5_fi κ (nI (j)) (1)) + (1))) + (κ (95) (j)))) < (9) then (((((f_X5_fi κ (nI (j)) (1)) + (1))) + (κ (95) (j)))) else (9))) else (0)))] [] hM hw (m_X5_letFire l g κ _ (nI (j)) (1) ((if (0) < ((if (((((f_X5_fi κ (nI (j)) (1)) + (1))) + (κ (95) (j)))) < (9) then (((((f_X5_fi κ (nI (j)) (1)) + (1))) + (κ (95) (j)))) else (9))) then ((if (((((f_X5_fi κ (nI (j)) (1)) + (1))) + (κ (95) (j)))) < (9) then (((((f_X5_fi κ (nI (j)) (1)) + (1))) + (κ (95) (j)))) else (9))) else (0))) (vp_in_nI (n := j) (N := 3) (by omega) (by decide)) (vin_lit (by decide) : vp_in 1 2)) (kd_lt kd_91 (by decide)) (sh5 kd_91) rfl (k_gV u_ml_X5_100 u_im_X5_letFire u_se_X5_letFire u_ini_X5 u_co_X5_letFire) (q_X5_letFire) rfl rfl rfl ⟨Nat.le_of_ble_eq_true rfl, Nat.le_of_ble_eq_true rfl⟩ hl.1 rfl (Nat.le_of_ble_eq_true rfl) dX5_minuteOn_202 ⟨Nat.le_of_ble_eq_true rfl, Nat.le_of_ble_eq_true rfl⟩) (fun κ2 H locs eκ2 hw => ?_)
          rw [eκ2] at hF
          try dsimp only at hF
          refine lv_iload_n hM.x hM.b dX5_minuteOn_205 rfl (lv_at hl 3 rfl) ?_
          refine lv_aload_n hM.x hM.b dX5_minuteOn_206 rfl (lv_at hl 2 rfl) ?_
          refine k_get5r 3 hM hw (by decide) u_fl_X5_23 dX5_minuteOn_207 ?_
          refine lv_iload_n hM.x hM.b dX5_minuteOn_210 rfl (lv_at hl 1 rfl) ?_
          refine k_ialdN (i := j) (n := 3) hM hw (kd_lt kd_95 (by decide)) (sh12 kd_95) (by omega) (by decide) dX5_minuteOn_211 ?_
          refine lv_iadd hM.x hM.b dX5_minuteOn_212 ?_
          refine lv_istore_n (lv' := [(1, .int (((v1) + (κ2 (95) (j))))), (3, .int (1)), (2, .int (nI (j))), (0, .ref (g.2.2 (91)))]) hM.x hM.b dX5_minuteOn_213 rfl hl (by decide) rfl (fun ls hl => ?_)
          refine lv_iinc (v := nI (j + 1)) (lv' := [(2, .int (nI (j + 1))), (1, .int (((v1) + (κ2 (95) (j))))), (3, .int (1)), (0, .ref (g.2.2 (91)))]) hM.x hM.b dX5_minuteOn_214 hl (k := 2) rfl (nI_1 (j)) (by decide) rfl (fun ls hl => ?_)
          refine lv_goto (tgt := 115) hM.x hM.b dX5_minuteOn_217 (by decide) ?_
          exact ih (j + 1) (by omega) (((v1) + (κ2 (95) (j)))) κ2 ((MI_eq eκ2 (MI_letFire hinv (vp_in_nI (n := j) (N := 3) (by omega) (by decide)) (vin_lit (by decide) : vp_in 1 2)))) H locs ls (lv_sub hl [0, 3, 1] rfl) hw (fun u1 κz H locs ls he hl hiz hw => hx220 u1 κz H locs ls (hF.trans he) hl hiz hw)
        · rw [if_pos c3] at hF
          refine lv_aload_n hM.x hM.b dX5_minuteOn_153 rfl (lv_at hl 2 rfl) ?_
          refine lv_iload_n hM.x hM.b dX5_minuteOn_154 rfl (lv_at hl 1 rfl) ?_
          refine lv_iconst (v := 0) hM.x hM.b dX5_minuteOn_155 (by decide) ?_
          refine lv_aload_n hM.x hM.b dX5_minuteOn_156 rfl (lv_at hl 2 rfl) ?_
          refine lv_iload_n hM.x hM.b dX5_minuteOn_157 rfl (lv_at hl 1 rfl) ?_
          refine lv_iconst (v := 0) hM.x hM.b dX5_minuteOn_158 (by decide) ?_
          refine k_cip hw (k_runV [.int (nI (j)), .int (0)] [.int (0), .int (nI (j)), .ref (g.2.2 (91))] hM hw (m_X5_fi l g κ _ (nI (j)) (0) (vp_in_nI (n := j) (N := 3) (by omega) (by decide)) (vin_lit (by decide) : vp_in 0 2)) (kd_lt kd_91 (by decide)) (sh5 kd_91) rfl (k_gV u_ml_X5_54 u_im_X5_fi u_se_X5_fi u_ini_X5 u_co_X5_fi) (q_X5_fi) rfl rfl rfl ⟨Nat.le_of_ble_eq_true rfl, Nat.le_of_ble_eq_true rfl⟩ hl.1 rfl (Nat.le_of_ble_eq_true rfl) dX5_minuteOn_159 ⟨Nat.le_of_ble_eq_true rfl, Nat.le_of_ble_eq_true rfl⟩) (fun H locs hw => ?_)
          refine lv_iconst (v := 1) hM.x hM.b dX5_minuteOn_162 (by decide) ?_
          refine lv_isub hM.x hM.b dX5_minuteOn_163 ?_
          refine k_cvp hw (k_runV [.int (nI (j)), .int (0), .int (((f_X5_fi κ (nI (j)) (0)) - (1)))] [] hM hw (m_X5_letFire l g κ _ (nI (j)) (0) (((f_X5_fi κ (nI (j)) (0)) - (1))) (vp_in_nI (n := j) (N := 3) (by omega) (by decide)) (vin_lit (by decide) : vp_in 0 2)) (kd_lt kd_91 (by decide)) (sh5 kd_91) rfl (k_gV u_ml_X5_100 u_im_X5_letFire u_se_X5_letFire u_ini_X5 u_co_X5_letFire) (q_X5_letFire) rfl rfl rfl ⟨Nat.le_of_ble_eq_true rfl, Nat.le_of_ble_eq_true rfl⟩ hl.1 rfl (Nat.le_of_ble_eq_true rfl) dX5_minuteOn_164 ⟨Nat.le_of_ble_eq_true rfl, Nat.le_of_ble_eq_true rfl⟩) (fun κ3 H locs eκ3 hw => ?_)
          rw [eκ3] at hF
          try dsimp only at hF
          refine lv_aload_n hM.x hM.b dX5_minuteOn_167 rfl (lv_at hl 2 rfl) ?_
          refine lv_iload_n hM.x hM.b dX5_minuteOn_168 rfl (lv_at hl 1 rfl) ?_
          refine lv_iconst (v := 1) hM.x hM.b dX5_minuteOn_169 (by decide) ?_
          refine lv_iconst (v := 0) hM.x hM.b dX5_minuteOn_170 (by decide) ?_
          refine lv_bipush (v := 9) hM.x hM.b dX5_minuteOn_171 (by decide) ?_
          refine lv_aload_n hM.x hM.b dX5_minuteOn_173 rfl (lv_at hl 2 rfl) ?_
          refine lv_iload_n hM.x hM.b dX5_minuteOn_174 rfl (lv_at hl 1 rfl) ?_
          refine lv_iconst (v := 1) hM.x hM.b dX5_minuteOn_175 (by decide) ?_
          refine k_cip hw (k_runV [.int (nI (j)), .int (1)] [.int (9), .int (0), .int (1), .int (nI (j)), .ref (g.2.2 (91))] hM hw (m_X5_fi l g κ3 _ (nI (j)) (1) (vp_in_nI (n := j) (N := 3) (by omega) (by decide)) (vin_lit (by decide) : vp_in 1 2)) (kd_lt kd_91 (by decide)) (sh5 kd_91) rfl (k_gV u_ml_X5_54 u_im_X5_fi u_se_X5_fi u_ini_X5 u_co_X5_fi) (q_X5_fi) rfl rfl rfl ⟨Nat.le_of_ble_eq_true rfl, Nat.le_of_ble_eq_true rfl⟩ hl.1 rfl (Nat.le_of_ble_eq_true rfl) dX5_minuteOn_176 ⟨Nat.le_of_ble_eq_true rfl, Nat.le_of_ble_eq_true rfl⟩) (fun H locs hw => ?_)
          refine lv_iload_n hM.x hM.b dX5_minuteOn_179 rfl (lv_at hl 0 rfl) ?_
          refine lv_if_eq (tgt := 187) hM.x hM.b dX5_minuteOn_180 (by decide) (fun cz => absurd cz (by decide)) (fun _ => ?_)
          refine lv_iconst (v := 1) hM.x hM.b dX5_minuteOn_183 (by decide) ?_
          refine lv_goto (tgt := 188) hM.x hM.b dX5_minuteOn_184 (by decide) ?_
          refine lv_iadd hM.x hM.b dX5_minuteOn_188 ?_
          refine lv_aload_n hM.x hM.b dX5_minuteOn_189 rfl (lv_at hl 2 rfl) ?_
          refine k_get5r 3 hM hw (by decide) u_fl_X5_23 dX5_minuteOn_190 ?_
          refine lv_iload_n hM.x hM.b dX5_minuteOn_193 rfl (lv_at hl 1 rfl) ?_
          refine k_ialdN (i := j) (n := 3) hM hw (kd_lt kd_95 (by decide)) (sh12 kd_95) (by omega) (by decide) dX5_minuteOn_194 ?_
          refine lv_iadd hM.x hM.b dX5_minuteOn_195 ?_
          refine va_mmin hM.x hM.b (hM.ml.trans hl.1.symm) hM.ow (hM.ts _ u_ml_X5_68) (hM.ts _ u_st_JM_min) (hM.ts _ u_ini_JM) (hM.ts _ u_co_JM_min) (Nat.le_of_ble_eq_true rfl) (Nat.le_of_ble_eq_true rfl) (Nat.le_of_ble_eq_true rfl) (Nat.le_of_ble_eq_true rfl) dX5_minuteOn_196 ?_
          refine va_mmax hM.x hM.b (hM.ml.trans hl.1.symm) hM.ow (hM.ts _ u_ml_X5_80) (hM.ts _ u_st_JM_max) (hM.ts _ u_ini_JM) (hM.ts _ u_co_JM_max) (Nat.le_of_ble_eq_true rfl) (Nat.le_of_ble_eq_true rfl) (Nat.le_of_ble_eq_true rfl) (Nat.le_of_ble_eq_true rfl) dX5_minuteOn_199 ?_
          refine k_cvp hw (k_runV [.int (nI (j)), .int (1), .int ((if (0) < ((if (((((f_X5_fi κ3 (nI (j)) (1)) + (1))) + (κ3 (95) (j)))) < (9) then (((((f_X5_fi κ3 (nI (j)) (1)) + (1))) + (κ3 (95) (j)))) else (9))) then ((if (((((f_X5_fi κ3 (nI (j)) (1)) + (1))) + (κ3 (95) (j)))) < (9) then (((((f_X5_fi κ3 (nI (j)) (1)) + (1))) + (κ3 (95) (j)))) else (9))) else (0)))] [] hM hw (m_X5_letFire l g κ3 _ (nI (j)) (1) ((if (0) < ((if (((((f_X5_fi κ3 (nI (j)) (1)) + (1))) + (κ3 (95) (j)))) < (9) then (((((f_X5_fi κ3 (nI (j)) (1)) + (1))) + (κ3 (95) (j)))) else (9))) then ((if (((((f_X5_fi κ3 (nI (j)) (1)) + (1))) + (κ3 (95) (j)))) < (9) then (((((f_X5_fi κ3 (nI (j)) (1)) + (1))) + (κ3 (95) (j)))) else (9))) else (0))) (vp_in_nI (n := j) (N := 3) (by omega) (by decide)) (vin_lit (by decide) : vp_in 1 2)) (kd_lt kd_91 (by decide)) (sh5 kd_91) rfl (k_gV u_ml_X5_100 u_im_X5_letFire u_se_X5_letFire u_ini_X5 u_co_X5_letFire) (q_X5_letFire) rfl rfl rfl ⟨Nat.le_of_ble_eq_true rfl, Nat.le_of_ble_eq_true rfl⟩ hl.1 rfl (Nat.le_of_ble_eq_true rfl) dX5_minuteOn_202 ⟨Nat.le_of_ble_eq_true rfl, Nat.le_of_ble_eq_true rfl⟩) (fun κ4 H locs eκ4 hw => ?_)
          rw [eκ4] at hF
          try dsimp only at hF
          refine lv_iload_n hM.x hM.b dX5_minuteOn_205 rfl (lv_at hl 3 rfl) ?_
          refine lv_aload_n hM.x hM.b dX5_minuteOn_206 rfl (lv_at hl 2 rfl) ?_
          refine k_get5r 3 hM hw (by decide) u_fl_X5_23 dX5_minuteOn_207 ?_
          refine lv_iload_n hM.x hM.b dX5_minuteOn_210 rfl (lv_at hl 1 rfl) ?_
          refine k_ialdN (i := j) (n := 3) hM hw (kd_lt kd_95 (by decide)) (sh12 kd_95) (by omega) (by decide) dX5_minuteOn_211 ?_
          refine lv_iadd hM.x hM.b dX5_minuteOn_212 ?_
          refine lv_istore_n (lv' := [(1, .int (((v1) + (κ4 (95) (j))))), (3, .int (1)), (2, .int (nI (j))), (0, .ref (g.2.2 (91)))]) hM.x hM.b dX5_minuteOn_213 rfl hl (by decide) rfl (fun ls hl => ?_)
          refine lv_iinc (v := nI (j + 1)) (lv' := [(2, .int (nI (j + 1))), (1, .int (((v1) + (κ4 (95) (j))))), (3, .int (1)), (0, .ref (g.2.2 (91)))]) hM.x hM.b dX5_minuteOn_214 hl (k := 2) rfl (nI_1 (j)) (by decide) rfl (fun ls hl => ?_)
          refine lv_goto (tgt := 115) hM.x hM.b dX5_minuteOn_217 (by decide) ?_
          exact ih (j + 1) (by omega) (((v1) + (κ4 (95) (j)))) κ4 ((MI_eq eκ4 (MI_letFire (MI_eq eκ3 (MI_letFire hinv (vp_in_nI (n := j) (N := 3) (by omega) (by decide)) (vin_lit (by decide) : vp_in 0 2))) (vp_in_nI (n := j) (N := 3) (by omega) (by decide)) (vin_lit (by decide) : vp_in 1 2)))) H locs ls (lv_sub hl [0, 3, 1] rfl) hw (fun u1 κz H locs ls he hl hiz hw => hx220 u1 κz H locs ls (hF.trans he) hl hiz hw)
def f_X5_minuteOn (κ : Kp) : Int32 × Kp := (fun κ1 : Kp => (fun κ2 : Kp => match lp_X5_minuteOn_115  3 0 (0) κ2 with | (uz1, κ3) => ((fun κ4 : Kp => (uz1, κ4)) (up2 κ3 (96) (0) (((κ3 (96) (0)) + (1)))))) (lp_X5_minuteOn_27  6 0 κ1)) (lp_X5_minuteOn_4  3 0 κ)
set_option maxRecDepth 100000 in
set_option maxHeartbeats 4000000 in
theorem m_X5_minuteOn (l : Launch) (g : Gt) (κ : Kp) (sz : Nat) (hMI : MI κ) : Met l yX5_minuteOn (.code yX5_minuteOn cX5_minuteOn 4 (some .int) :: uW) { frames := 3, cells := 0, slots := 0, locals := 90 } (PRE g κ sz [.ref (g.2.2 (91))]) (va_Qi (fun r κ' => f_X5_minuteOn κ  = (r, κ')) (Wp g) (fr g sz)) 0 0 (fr g sz) := by
  refine k_enter (by decide +kernel) (Nat.le_of_ble_eq_true rfl) ?_
  intro p e s m below meth c ls hM hr hl hw hsz
  subst hsz
  have hl : lv_has ls 4 [(0, .ref (g.2.2 (91)))] := hl
  have hF := f_X5_minuteOn.eq_1 κ 
  refine lv_iconst (v := 0) hM.x hM.b dX5_minuteOn_0 (by decide) ?_
  refine lv_istore_n (lv' := [(1, .int (0)), (0, .ref (g.2.2 (91)))]) hM.x hM.b dX5_minuteOn_1 rfl hl (by decide) rfl (fun ls hl => ?_)
  refine lv_iconst (v := nI 0) hM.x hM.b dX5_minuteOn_2 (by decide) ?_
  refine lv_istore_n (lv' := [(2, .int (nI (0))), (1, .int (0)), (0, .ref (g.2.2 (91)))]) hM.x hM.b dX5_minuteOn_3 rfl hl (by decide) rfl (fun ls hl => ?_)
  refine ml_X5_minuteOn_4 l g   (0) hM (3) (0) (by omega) κ (hMI) _ _ _ (lv_sub hl [0, 2, 1] rfl) hw (fun κ1 H locs ls he hl hiκ1 hw => ?_)
  rw [he] at hF
  try dsimp only at hF
  refine lv_iconst (v := nI 0) hM.x hM.b dX5_minuteOn_25 (by decide) ?_
  refine lv_istore_n (lv' := [(2, .int (nI (0))), (0, .ref (g.2.2 (91))), (1, .int (0))]) hM.x hM.b dX5_minuteOn_26 rfl hl (by decide) rfl (fun ls hl => ?_)
  refine ml_X5_minuteOn_27 l g   (0) hM (6) (0) (by omega) κ1 (hiκ1) _ _ _ (lv_sub hl [0, 1, 2] rfl) hw (fun κ2 H locs ls he hl hiκ2 hw => ?_)
  rw [he] at hF
  try dsimp only at hF
  refine lv_iconst (v := nI 0) hM.x hM.b dX5_minuteOn_113 (by decide) ?_
  refine lv_istore_n (lv' := [(2, .int (nI (0))), (0, .ref (g.2.2 (91))), (1, .int (0))]) hM.x hM.b dX5_minuteOn_114 rfl hl (by decide) rfl (fun ls hl => ?_)
  refine ml_X5_minuteOn_115 l g   hM (3) (0) (by omega) (0) κ2 (hiκ2) _ _ _ (lv_sub hl [0, 1, 2] rfl) hw (fun uz1 κ3 H locs ls he hl hiκ3 hw => ?_)
  rw [he] at hF
  try dsimp only at hF
  refine lv_aload_n hM.x hM.b dX5_minuteOn_220 rfl (lv_at hl 0 rfl) ?_
  refine k_get5r 4 hM hw (by decide) u_fl_X5_26 dX5_minuteOn_221 ?_
  refine lv_iconst (v := 0) hM.x hM.b dX5_minuteOn_224 (by decide) ?_
  refine lv_dup2_11 hM.x hM.b dX5_minuteOn_225 rfl rfl ?_
  refine k_ialdN (i := 0) (n := 165) hM hw (kd_lt kd_96 (by decide)) (sh13 kd_96) (by decide) (by decide) dX5_minuteOn_226 ?_
  refine lv_iconst (v := 1) hM.x hM.b dX5_minuteOn_227 (by decide) ?_
  refine lv_iadd hM.x hM.b dX5_minuteOn_228 ?_
  refine k_iastN (i := 0) (n := 165) hM hw (kd_lt kd_96 (by decide)) (fun r => sh13 kd_96) (by decide) (by decide) dX5_minuteOn_229 (fun H locs hw => ?_)
  obtain ⟨κ4, eκ4⟩ : ∃ z : Kp, up2 κ3 (96) (0) (((κ3 (96) (0)) + (1))) = z := ⟨_, rfl⟩
  rw [eκ4] at hw
  rw [eκ4] at hF
  try dsimp only at hF
  refine lv_iload_n hM.x hM.b dX5_minuteOn_230 rfl (lv_at hl 1 rfl) ?_
  exact k_iret hM hr hw (Nat.le_of_ble_eq_true rfl) (Nat.le_of_ble_eq_true rfl) hF dX5_minuteOn_231
